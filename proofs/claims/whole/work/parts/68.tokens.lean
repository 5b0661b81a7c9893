/-! ===== one token, class and model ===== -/
theorem tw_class {K : Mm} {N q : Nat} (J : Nat → Nat → Int64) (hN : N ≤ 900) (hq : q ≤ N) (h4 : K 2 4 = nI N) (h5 : K 2 5 = nI q) (h7 : K 2 7 = nI q) : m_X6_takeWord K J = st2 (st2 K 2 5 (nI (rn (fun i => cL (K 1 i)) (N - q) q))) 2 6 (if 1 ≤ rn (fun i => cL (K 1 i)) (N - q) q - q ∧ rn (fun i => cL (K 1 i)) (N - q) q - q ≤ 8 then 1 else 4) ∧ j_X6_takeWord K J = stJ J 2 8 (lN (pk32 (fun i => ld (K 1 (q + i))) (rn (fun i => cL (K 1 i)) (N - q) q - q))) ∧ ok_X6_takeWord K J := by
  have k := ck_letters hN h4 J q (N - q) q (mu_up (K 2 4) (K 2 5) + 1) (Nat.le_refl _) (by omega) (by rw [h4, h5, mu_up_nI (by omega) hq]; omega)
  rw [Nat.sub_self, pk32, ← h5, st2_same, show lN 0 = 0 from rfl] at k
  have r := rn_le (fun i => cL (K 1 i)) (N - q) q
  rw [m_X6_takeWord, j_X6_takeWord, ok_X6_takeWord, opv_eq, opv_eq, opv_eq, u0_X6_takeWord, opv_eq, k.1]
  refine ⟨?_, rfl, k.2⟩
  generalize rn (fun i => cL (K 1 i)) (N - q) q = e at r ⊢
  show st2 (st2 K 2 5 (nI e)) 2 6 (if st2 K 2 5 (nI e) 2 5 - st2 K 2 5 (nI e) 2 7 < 1 then 4 else (if 8 < st2 K 2 5 (nI e) 2 5 - st2 K 2 5 (nI e) 2 7 then 4 else 1)) = _
  rw [st2_s, st2_o _ _ _ (by omega), h7, pk_sub r.1]
  congr 1
  by_cases z1 : 1 ≤ e - q
  · rw [if_neg (show ¬ nI (e - q) < (1 : Int32) from nI_nlt (b := 1) z1 (by omega))]
    by_cases z2 : e - q ≤ 8
    · rw [if_neg (show ¬ (8 : Int32) < nI (e - q) from nI_nlt (a := 8) z2 (by omega)), if_pos ⟨z1, z2⟩]
    · rw [if_pos (show (8 : Int32) < nI (e - q) from nI_lt (a := 8) (by omega) (by omega)), if_neg (by omega)]
  · rw [if_pos (show nI (e - q) < (1 : Int32) from nI_lt (b := 1) (by omega) (by omega)), if_neg (by omega)]
theorem th_class {K : Mm} {N q : Nat} (hN : N ≤ 900) (hq : q ≤ N) (h4 : K 2 4 = nI N) (h5 : K 2 5 = nI q) (h7 : K 2 7 = nI q) : m_X6_takeWhole K = st2 (st2 (st2 K 2 9 (dv (K 1) (rn (fun i => cD (K 1 i)) (N - q) q - q) q 0)) 2 5 (nI (rn (fun i => cD (K 1 i)) (N - q) q))) 2 6 (if 3 < rn (fun i => cD (K 1 i)) (N - q) q - q then 4 else 2) ∧ ok_X6_takeWhole K := by
  have e9 : st2 (st2 K 2 9 0) 2 5 (nI q) = st2 K 2 9 0 := by
    have := st2_same (st2 K 2 9 0) 2 5
    rw [st2_o _ _ _ (by omega), h5] at this
    exact this
  have k := ck_digits hN h4 (N - q) q (mu_up ((st2 K 2 9 0) 2 4) ((st2 K 2 9 0) 2 5) + 1) 0 (by omega) (by rw [st2_o _ _ _ (by omega), st2_o _ _ _ (by omega), h4, h5, mu_up_nI (by omega) hq]; omega)
  rw [e9] at k
  have r := rn_le (fun i => cD (K 1 i)) (N - q) q
  rw [m_X6_takeWhole, ok_X6_takeWhole, opv_eq, opv_eq, u0_X6_takeWhole, opv_eq, k.1]
  refine ⟨?_, k.2⟩
  generalize rn (fun i => cD (K 1 i)) (N - q) q = e at r ⊢
  rw [st2_s, st2_o _ _ _ (by omega), st2_o _ _ _ (by omega), h7, pk_sub r.1]
  congr 1
  by_cases z : 3 < e - q
  · rw [if_pos (show (3 : Int32) < nI (e - q) from nI_lt (a := 3) z (by omega)), if_pos z]
  · rw [if_neg (show ¬ (3 : Int32) < nI (e - q) from nI_nlt (a := 3) (by omega) (by omega)), if_neg z]
/-- what the class's token is, found at q -/
def CT (I I' : Mm) (J J' : Nat → Nat → Int64) (N q : Nat) : Prop := I' 2 7 = nI q ∧ (∀ a j, ¬ (a = 2 ∧ (j = 5 ∨ j = 6 ∨ j = 7 ∨ j = 9)) → I' a j = I a j) ∧ (∀ a j, ¬ (a = 2 ∧ j = 8) → J' a j = J a j) ∧ ((q = N ∧ I' 2 6 = 0 ∧ I' 2 5 = nI q) ∨ (q < N ∧ I 1 q = 59 ∧ I' 2 6 = 3 ∧ I' 2 5 = nI (q + 1)) ∨ (q < N ∧ I 1 q ≠ 59 ∧ cD (I 1 q) = true ∧ ∃ e, e = rn (fun i => cD (I 1 i)) (N - q) q ∧ I' 2 5 = nI e ∧ I' 2 6 = (if 3 < e - q then 4 else 2) ∧ I' 2 9 = dv (I 1) (e - q) q 0) ∨ (q < N ∧ I 1 q ≠ 59 ∧ cD (I 1 q) = false ∧ ∃ e, e = rn (fun i => cL (I 1 i)) (N - q) q ∧ I' 2 5 = nI e ∧ I' 2 6 = (if 1 ≤ e - q ∧ e - q ≤ 8 then 1 else 4) ∧ J' 2 8 = lN (pk32 (fun i => ld (I 1 (q + i))) (e - q))))
theorem ct_class {I : Mm} {N p : Nat} (J : Nat → Nat → Int64) (hN : N ≤ 900) (hp : p ≤ N) (h4 : I 2 4 = nI N) (h5 : I 2 5 = nI p) : CT I (m_X6_nextToken I J) J (j_X6_nextToken I J) N (rn (fun i => cS (I 1 i)) (N - p) p) ∧ ok_X6_nextToken I J := by
  have k := ck_spaces J hN h4 (N - p) p (mu_up (I 2 4) (I 2 5) + 1) (by omega) (by rw [h4, h5, mu_up_nI (by omega) hp]; omega)
  rw [← h5, st2_same] at k
  have r := rn_le (fun i => cS (I 1 i)) (N - p) p
  rw [m_X6_nextToken, j_X6_nextToken, ok_X6_nextToken, opv_eq, opv_eq, opv_eq, u5_X6_nextToken, u6_X6_nextToken, opv_eq, opv_eq, u0_X6_nextToken, u1_X6_nextToken, u2_X6_nextToken, u3_X6_nextToken, u4_X6_nextToken, opv_eq, opv_eq, opv_eq]
  rw [k.1]
  have k2 := k.2
  clear k
  generalize rn (fun i => cS (I 1 i)) (N - p) p = q at r ⊢
  have hq : q ≤ N := by omega
  rw [st2_s, show st2 I 2 5 (nI q) 2 4 = nI N by rw [st2_o _ _ _ (by omega), h4]]
  generalize hK : st2 (st2 I 2 5 (nI q)) 2 7 (nI q) = K
  have K4 : K 2 4 = nI N := by rw [← hK, st2_o _ _ _ (by omega), st2_o _ _ _ (by omega), h4]
  have K5 : K 2 5 = nI q := by rw [← hK, st2_o _ _ _ (by omega), st2_s]
  have K7 : K 2 7 = nI q := by rw [← hK, st2_s]
  have Ko : ∀ a j, ¬ (a = 2 ∧ (j = 5 ∨ j = 6 ∨ j = 7 ∨ j = 9)) → K a j = I a j := by
    intro a j h
    rw [← hK]
    by_cases a2 : a = 2
    · subst a2
      rw [st2_o _ _ _ (fun z => h ⟨rfl, by omega⟩), st2_o _ _ _ (fun z => h ⟨rfl, by omega⟩)]
    · rw [st2_a _ _ a2, st2_a _ _ a2]
  have So : ∀ (L : Mm) (x : Nat) (v : Int32) a j, (x = 5 ∨ x = 6 ∨ x = 7 ∨ x = 9) → ¬ (a = 2 ∧ (j = 5 ∨ j = 6 ∨ j = 7 ∨ j = 9)) → st2 L 2 x v a j = L a j := by
    intro L x v a j hx h
    by_cases a2 : a = 2
    · subst a2
      exact st2_o _ _ _ (fun z => h ⟨rfl, by omega⟩)
    · exact st2_a _ _ a2
  have K1 : K 1 = I 1 := funext fun j => Ko 1 j (by omega)
  rw [nI_clamp (by omega), K1]
  by_cases z : q < N
  · have z1 : nI q < nI N := nI_lt z (by omega)
    have v : vp_in (nI q) (sz 1) := vp_in_nI (by rw [sz_1]; omega) (by rw [sz_1]; omega)
    simp only [if_pos z1]
    by_cases z2 : I 1 q = 59
    · simp only [if_pos z2]
      refine ⟨⟨?_, fun a j h => ?_, fun a j h => rfl, Or.inr (Or.inl ⟨z, z2, ?_, ?_⟩)⟩, k2, v, trivial⟩
      · rw [st2_o _ _ _ (by omega), st2_o _ _ _ (by omega), K7]
      · rw [So _ 5 _ a j (by omega) h, So _ 6 _ a j (by omega) h, Ko a j h]
      · rw [st2_o _ _ _ (by omega), st2_s]
      · rw [st2_s, nI_1]
    · simp only [if_neg z2]
      have tw := tw_class J hN hq K4 K5 K7
      have th := th_class hN hq K4 K5 K7
      rw [K1] at tw th
      have wd : cD (I 1 q) = false → CT I (m_X6_takeWord K J) J (j_X6_takeWord K J) N q := by
        intro d
        rw [tw.1, tw.2.1]
        refine ⟨?_, fun a j h => ?_, fun a j h => ?_, Or.inr (Or.inr (Or.inr ⟨z, z2, d, _, rfl, ?_, ?_, ?_⟩))⟩
        · rw [st2_o _ _ _ (by omega), st2_o _ _ _ (by omega), K7]
        · rw [So _ 6 _ a j (by omega) h, So _ 5 _ a j (by omega) h, Ko a j h]
        · by_cases a2 : a = 2
          · subst a2; exact st2_oJ _ _ _ (fun z => h ⟨rfl, z⟩)
          · exact st2_aJ _ _ a2
        · rw [st2_o _ _ _ (by omega), st2_s]
        · rw [st2_s]
        · rw [st2_sJ]
      by_cases z3 : I 1 q < 48
      · simp only [if_pos z3]
        exact ⟨wd (by rw [cD, if_pos z3]), k2, v, v, tw.2.2⟩
      · simp only [if_neg z3]
        by_cases z4 : 57 < I 1 q
        · simp only [if_pos z4]
          exact ⟨wd (by rw [cD, if_neg z3, if_pos z4]), k2, v, v, v, tw.2.2⟩
        · simp only [if_neg z4]
          refine ⟨?_, k2, v, v, v, th.2⟩
          rw [th.1]
          refine ⟨?_, fun a j h => ?_, fun a j h => rfl, Or.inr (Or.inr (Or.inl ⟨z, z2, by rw [cD, if_neg z3, if_neg z4], _, rfl, ?_, ?_, ?_⟩))⟩
          · rw [st2_o _ _ _ (by omega), st2_o _ _ _ (by omega), st2_o _ _ _ (by omega), K7]
          · rw [So _ 6 _ a j (by omega) h, So _ 5 _ a j (by omega) h, So _ 9 _ a j (by omega) h, Ko a j h]
          · rw [st2_o _ _ _ (by omega), st2_s]
          · rw [st2_s]
          · rw [st2_o _ _ _ (by omega), st2_o _ _ _ (by omega), st2_s]
  · have z1 : ¬ nI q < nI N := nI_nlt (by omega) (by omega)
    simp only [if_neg z1]
    refine ⟨⟨?_, fun a j h => ?_, fun a j h => rfl, Or.inl ⟨by omega, ?_, ?_⟩⟩, k2, trivial⟩
    · rw [st2_o _ _ _ (by omega), K7]
    · rw [So _ 6 _ a j (by omega) h, Ko a j h]
    · rw [st2_s]
    · rw [st2_o _ _ _ (by omega), K5]
