/-- what the model's token is, found at q -/
def MT (M M' : Mm) (N q : Nat) : Prop := M' 65 4 = nI q ∧ (∀ a j, ¬ (a = 67 ∨ (a = 65 ∧ 4 ≤ j ∧ j ≤ 8)) → M' a j = M a j) ∧ ((q = N ∧ M' 65 6 = 0 ∧ M' 65 5 = nI q) ∨ (q < N ∧ cL (M 66 q) = true ∧ ∃ e, e = rn (fun i => cL (M 66 i)) (N - q) q ∧ M' 65 5 = nI e ∧ M' 65 6 = (if e - q ≤ 8 then 2 else 1) ∧ M' 65 8 = nI (e - q) ∧ ∀ i, i < e - q → i < 8 → M' 67 i = M 66 (q + i)) ∨ (q < N ∧ cL (M 66 q) = false ∧ cD (M 66 q) = true ∧ ∃ e, e = rn (fun i => cD (M 66 i)) (N - q) q ∧ M' 65 5 = nI e ∧ M' 65 6 = (if e - q ≤ 3 then 3 else 1) ∧ M' 65 7 = dm (M 66) (e - q) q 0 0) ∨ (q < N ∧ cL (M 66 q) = false ∧ cD (M 66 q) = false ∧ M' 65 5 = nI (q + 1) ∧ M' 65 6 = (if M 66 q = 59 then 59 else 1)))
theorem mt_model {M : Mm} {N p : Nat} (hN : N ≤ 900) (hp : p ≤ N) (h3 : M 65 3 = nI N) (h5 : M 65 5 = nI p) (hb : ∀ i, i < N → M 66 i ≠ -1) : MT M (m_X11_next M) N (rn (fun i => cS (M 66 i)) (N - p) p) ∧ ok_X11_next M := by
  have k := mk_spaces hN h3 (N - p) p (mu_up (M 65 3) (M 65 5) + 1) (by omega) (by rw [h3, h5, mu_up_nI (by omega) hp]; omega)
  rw [← h5] at k
  have r := rn_le (fun i => cS (M 66 i)) (N - p) p
  rw [m_X11_next, ok_X11_next, opv_eq, opv_eq, u6_X11_next, opv_eq, u4_X11_next, u2_X11_next, u0_X11_next, opv_eq, opv_eq, opv_eq]
  rw [k.1]
  have k2 := k.2
  clear k
  generalize rn (fun i => cS (M 66 i)) (N - p) p = q at r ⊢
  have hq : q ≤ N := by omega
  generalize hK : st2 (st2 (st2 M 65 4 (nI q)) 65 8 0) 65 7 0 = K
  have K3 : K 65 3 = nI N := by rw [← hK, st2_o _ _ _ (by omega), st2_o _ _ _ (by omega), st2_o _ _ _ (by omega), h3]
  have K4 : K 65 4 = nI q := by rw [← hK, st2_o _ _ _ (by omega), st2_o _ _ _ (by omega), st2_s]
  have K7 : K 65 7 = 0 := by rw [← hK, st2_s]
  have K8 : K 65 8 = nI 0 := by rw [← hK, st2_o _ _ _ (by omega), st2_s]; rfl
  have So : ∀ (L : Mm) (x : Nat) (v : Int32) a j, 4 ≤ x → x ≤ 8 → ¬ (a = 67 ∨ (a = 65 ∧ 4 ≤ j ∧ j ≤ 8)) → st2 L 65 x v a j = L a j := by
    intro L x v a j hx hy h
    by_cases a2 : a = 65
    · subst a2
      exact st2_o _ _ _ (fun z => h (by omega))
    · exact st2_a _ _ a2
  have Ko : ∀ a j, ¬ (a = 67 ∨ (a = 65 ∧ 4 ≤ j ∧ j ≤ 8)) → K a j = M a j := by
    intro a j h
    rw [← hK, So _ 7 _ a j (by omega) (by omega) h, So _ 8 _ a j (by omega) (by omega) h, So _ 4 _ a j (by omega) (by omega) h]
  have K66 : K 66 = M 66 := funext fun j => Ko 66 j (by omega)
  have e3 : st2 M 65 4 (nI q) 65 3 = nI N := by rw [st2_o _ _ _ (by omega), h3]
  by_cases z : q < N
  · have s := see_in hN e3 z
    rw [st2_orow _ _ _ (by omega)] at s
    rw [s.1, f_small, f_digit]
    have n1 := hb q z
    simp only [if_neg n1]
    by_cases zl : cL (M 66 q) = true
    · simp only [if_pos zl]
      have kl := mk_letters hN (M 66 q) (N - q) q (mu_up (K 65 3) (nI q) + 1) 0 K K3 K8 (by omega) (by omega) (by rw [K3, mu_up_nI (by omega) hq]; omega)
      rw [kl.1, K66]
      dsimp only
      have r2 := rn_le (fun i => cL (M 66 i)) (N - q) q
      refine ⟨⟨?_, fun a j h => ?_, Or.inr (Or.inl ⟨z, zl, _, rfl, ?_, ?_, ?_, ?_⟩)⟩, k2, s.2, kl.2⟩ <;> generalize rn (fun i => cL (M 66 i)) (N - q) q = e at r2 ⊢
      · rw [st2_o _ _ _ (by omega), st2_o _ _ _ (by omega), lt67, st2_o _ _ _ (by omega), vu_o _ _ (by omega), K4]
      · rw [So _ 6 _ a j (by omega) (by omega) h, So _ 5 _ a j (by omega) (by omega) h, lt67, So _ 8 _ a j (by omega) (by omega) h, vu_o _ _ (by omega), Ko a j h]
      · rw [st2_o _ _ _ (by omega), st2_s]
      · rw [st2_s]
        have e8 : lt67 K 0 q (e - q) 65 8 = nI (e - q) := by rw [lt67, st2_s, Nat.zero_add]
        by_cases z8 : e - q ≤ 8
        · rw [if_pos (show lt67 K 0 q (e - q) 65 8 ≤ (8 : Int32) by rw [e8]; exact nI_le (b := 8) z8 (by omega)), if_pos z8]
        · rw [if_neg (show ¬ lt67 K 0 q (e - q) 65 8 ≤ (8 : Int32) by rw [e8]; exact nI_ge (a := 8) (by omega) (by omega)), if_neg z8]
      · rw [st2_o _ _ _ (by omega), st2_o _ _ _ (by omega), lt67, st2_s, Nat.zero_add]
      · intro i hi h8
        rw [st2_a _ _ (by omega), st2_a _ _ (by omega), lt67, st2_a _ _ (by omega), vu_s, if_pos (by omega), K66, Nat.sub_zero]
    · simp only [if_neg zl]
      by_cases zd : cD (M 66 q) = true
      · simp only [if_pos zd]
        have kl := mk_digits hN (M 66 q) (N - q) q (mu_up (K 65 3) (nI q) + 1) 0 K K3 (by omega) (by omega) (by rw [K3, mu_up_nI (by omega) hq]; omega)
        rw [show nI 0 = (0 : Int32) from rfl] at kl
        rw [kl.1, K66, K7]
        dsimp only
        have r2 := rn_le (fun i => cD (M 66 i)) (N - q) q
        refine ⟨⟨?_, fun a j h => ?_, Or.inr (Or.inr (Or.inl ⟨z, by simpa using zl, zd, _, rfl, ?_, ?_, ?_⟩))⟩, k2, s.2, kl.2⟩ <;> generalize rn (fun i => cD (M 66 i)) (N - q) q = e at r2 ⊢
        · rw [st2_o _ _ _ (by omega), st2_o _ _ _ (by omega), st2_o _ _ _ (by omega), K4]
        · rw [So _ 6 _ a j (by omega) (by omega) h, So _ 5 _ a j (by omega) (by omega) h, So _ 7 _ a j (by omega) (by omega) h, Ko a j h]
        · rw [st2_o _ _ _ (by omega), st2_s]
        · rw [st2_s, Nat.zero_add]
          by_cases z8 : e - q ≤ 3
          · rw [if_pos (show nI (e - q) ≤ (3 : Int32) from nI_le (b := 3) z8 (by omega)), if_pos z8]
          · rw [if_neg (show ¬ nI (e - q) ≤ (3 : Int32) from nI_ge (a := 3) (by omega) (by omega)), if_neg z8]
        · rw [st2_o _ _ _ (by omega), st2_o _ _ _ (by omega), st2_s]
      · simp only [if_neg zd]
        refine ⟨⟨?_, fun a j h => ?_, Or.inr (Or.inr (Or.inr ⟨z, by simpa using zl, by simpa using zd, ?_, ?_⟩))⟩, k2, s.2, trivial⟩
        · rw [st2_o _ _ _ (by omega), st2_o _ _ _ (by omega), K4]
        · rw [So _ 6 _ a j (by omega) (by omega) h, So _ 5 _ a j (by omega) (by omega) h, Ko a j h]
        · rw [st2_o _ _ _ (by omega), st2_s, nI_1]
        · rw [st2_s]
          by_cases z9 : M 66 q = 59
          · rw [if_pos z9, if_pos z9, z9]
          · rw [if_neg z9, if_neg z9]
  · have e : q = N := by omega
    subst e
    have s := see_end hN e3
    rw [s.1]
    simp only [if_true]
    refine ⟨⟨?_, fun a j h => ?_, Or.inl ⟨rfl, ?_, ?_⟩⟩, k2, s.2, trivial⟩
    · rw [st2_o _ _ _ (by omega), st2_o _ _ _ (by omega), K4]
    · rw [So _ 5 _ a j (by omega) (by omega) h, So _ 6 _ a j (by omega) (by omega) h, Ko a j h]
    · rw [st2_o _ _ _ (by omega), st2_s]
    · rw [st2_s]
/-- a WORD, as both hold it -/
def Wr (J : Nat → Nat → Int64) (M : Mm) : Prop := ∃ c, 1 ≤ c ∧ c ≤ 8 ∧ M 65 8 = nI c ∧ (∀ i, i < c → cL (M 67 i) = true) ∧ J 2 8 = lN (pk32 (fun i => ld (M 67 i)) c)
/-- the same token -/
def Tk (I : Mm) (J : Nat → Nat → Int64) (M : Mm) : Prop := I 2 7 = M 65 4 ∧ ((I 2 6 = 0 ∧ M 65 6 = 0 ∧ I 2 5 = M 65 5) ∨ (I 2 6 = 1 ∧ M 65 6 = 2 ∧ I 2 5 = M 65 5 ∧ Wr J M) ∨ (I 2 6 = 2 ∧ M 65 6 = 3 ∧ I 2 5 = M 65 5 ∧ I 2 9 = M 65 7) ∨ (I 2 6 = 3 ∧ M 65 6 = 59 ∧ I 2 5 = M 65 5) ∨ (I 2 6 = 4 ∧ M 65 6 = 1))
theorem rn_step {P : Nat → Bool} {c p : Nat} (h : P p = true) (hc : 0 < c) : p < rn P c p := by
  obtain ⟨c, rfl⟩ : ∃ g, c = g + 1 := ⟨c - 1, by omega⟩
  rw [rn, if_pos h]
  have := rn_le P c (p + 1)
  omega
theorem rn_none {P : Nat → Bool} {c p : Nat} (h : P p = false) : rn P c p = p := by
  cases c with
  | zero => rfl
  | succ c => rw [rn, if_neg (by rw [h]; decide)]
theorem pk32_congr {d d' : Nat → Nat} : ∀ n, (∀ i, i < n → d i = d' i) → pk32 d n = pk32 d' n := by
  intro n
  induction n with
  | zero => intro _; rfl
  | succ n ih => intro h; rw [pk32, pk32, ih (fun i hi => h i (by omega)), h n (by omega)]
/-- class and model at one place p: the next token is the same -/
theorem tk_next {I M : Mm} {N p : Nat} (J : Nat → Nat → Int64) (ht : Tx I M N) (hp : p ≤ N) (h5 : I 2 5 = nI p) (m5 : M 65 5 = nI p) : Tk (m_X6_nextToken I J) (j_X6_nextToken I J) (m_X11_next M) ∧ ok_X11_next M := by
  obtain ⟨hN, h4, m3, hb⟩ := ht
  have c := (ct_class J hN hp h4 h5).1
  have m := mt_model hN hp m3 m5 (fun i hi => by rw [(hb i hi).2]; exact (byte_all (hb i hi).1).2.2.2.2.1)
  refine ⟨?_, m.2⟩
  have m := m.1
  have er : rn (fun i => cS (M 66 i)) (N - p) p = rn (fun i => cS (I 1 i)) (N - p) p := rn_congr _ _ (fun j h1 h2 => by rw [(hb j (by omega)).2]; exact (byte_all (hb j (by omega)).1).2.2.1)
  rw [er] at m
  generalize rn (fun i => cS (I 1 i)) (N - p) p = q at c m
  generalize m_X6_nextToken I J = I' at c ⊢
  generalize j_X6_nextToken I J = J' at c ⊢
  generalize m_X11_next M = M' at m ⊢
  obtain ⟨c7, cf, cj, cc⟩ := c
  obtain ⟨n4, mf, mc⟩ := m
  refine ⟨by rw [c7, n4], ?_⟩
  by_cases z : q < N
  · have b := hb q z
    obtain ⟨bl, bd, bs, b59, bn, bx⟩ := byte_all b.1
    rw [← b.2] at bl bd bs b59 bn bx
    have ed : rn (fun i => cD (M 66 i)) (N - q) q = rn (fun i => cD (I 1 i)) (N - q) q := rn_congr _ _ (fun j h1 h2 => by rw [(hb j (by omega)).2]; exact (byte_all (hb j (by omega)).1).2.1)
    have el : rn (fun i => cL (M 66 i)) (N - q) q = rn (fun i => cL (I 1 i)) (N - q) q := rn_congr _ _ (fun j h1 h2 => by rw [(hb j (by omega)).2]; exact (byte_all (hb j (by omega)).1).1)
    rcases cc with ⟨cq, _⟩ | ⟨_, c59, c6, c5⟩ | ⟨_, c59, cd, e, he, c5, c6, c9⟩ | ⟨_, c59, cd, e, he, c5, c6, c8⟩
    · omega
    · have x : M 66 q = 59 := b59.mpr c59
      rcases mc with ⟨mq, _⟩ | ⟨_, ml, _⟩ | ⟨_, ml, md, _⟩ | ⟨_, ml, md, n5, n6⟩
      · omega
      · rw [x] at ml; exact absurd ml (by decide)
      · rw [x] at md; exact absurd md (by decide)
      · rw [if_pos x] at n6
        exact Or.inr (Or.inr (Or.inr (Or.inl ⟨c6, n6, by rw [c5, n5]⟩)))
    · rw [← bd] at cd
      rcases mc with ⟨mq, _⟩ | ⟨_, ml, _⟩ | ⟨_, ml, md, e', he', n5, n6, n7⟩ | ⟨_, ml, md, n5, n6⟩
      · omega
      · exfalso
        obtain ⟨l1, l2, l3⟩ := cL_dg ml
        unfold cD at cd
        have : ¬ (57 : Int32) < M 66 q := fun h => by rw [if_pos h] at cd; split at cd <;> cases cd
        rw [l1] at this
        exact this (nI_lt (a := 57) (by omega) (by omega))
      · rw [ed, ← he] at he'
        rw [he'] at n5 n6 n7
        by_cases z3 : e - q ≤ 3
        · rw [if_neg (by omega)] at c6
          rw [if_pos z3] at n6
          refine Or.inr (Or.inr (Or.inl ⟨c6, n6, by rw [c5, n5], ?_⟩))
          rw [c9, n7]
          have rl := rn_le (fun i => cD (I 1 i)) (N - q) q
          refine dv_dm _ _ _ _ (by omega) (fun j h1 h2 => ?_)
          have hj : j < N := by omega
          have pj := rn_in (fun i => cD (I 1 i)) (N - q) q j h1 (by omega)
          rw [(hb j hj).2]
          exact ((byte_all (hb j hj).1).2.2.2.2.2 (by simp only [pj, Bool.or_true])).symm
        · rw [if_pos (by omega)] at c6
          rw [if_neg z3] at n6
          exact Or.inr (Or.inr (Or.inr (Or.inr ⟨c6, n6⟩)))
      · rw [md] at cd; cases cd
    · rw [← bd] at cd
      rcases mc with ⟨mq, _⟩ | ⟨_, ml, e', he', n5, n6, n8, n67⟩ | ⟨_, ml, md, _⟩ | ⟨_, ml, md, n5, n6⟩
      · omega
      · rw [el, ← he] at he'
        rw [he'] at n5 n6 n8 n67
        rw [bl] at ml
        have st := rn_step (P := fun i => cL (I 1 i)) (c := N - q) ml (by omega)
        by_cases z8 : e - q ≤ 8
        · rw [if_pos ⟨by omega, z8⟩] at c6
          rw [if_pos z8] at n6
          have rl := rn_le (fun i => cL (I 1 i)) (N - q) q
          have lt : ∀ i, i < e - q → M' 67 i = I 1 (q + i) ∧ cL (I 1 (q + i)) = true := by
            intro i hi
            have hj : q + i < N := by omega
            have pj := rn_in (fun i => cL (I 1 i)) (N - q) q (q + i) (by omega) (by omega)
            refine ⟨?_, pj⟩
            rw [n67 i hi (by omega), (hb _ hj).2]
            exact (byte_all (hb _ hj).1).2.2.2.2.2 (by simp only [pj, Bool.true_or])
          refine Or.inr (Or.inl ⟨c6, n6, by rw [c5, n5], e - q, by omega, z8, n8, fun i hi => ?_, ?_⟩)
          · rw [(lt i hi).1]; exact (lt i hi).2
          · rw [c8]
            congr 1
            exact pk32_congr _ (fun i hi => by rw [(lt i hi).1])
        · rw [if_neg (by omega)] at c6
          rw [if_neg z8] at n6
          exact Or.inr (Or.inr (Or.inr (Or.inr ⟨c6, n6⟩)))
      · rw [md] at cd; cases cd
      · rw [bl] at ml
        have e0 := rn_none (P := fun i => cL (I 1 i)) (c := N - q) ml
        rw [if_neg (by omega)] at c6
        rw [if_neg (fun h => c59 (b59.mp h))] at n6
        exact Or.inr (Or.inr (Or.inr (Or.inr ⟨c6, n6⟩)))
  · have cc' : I' 2 6 = 0 ∧ I' 2 5 = nI q := by
      rcases cc with ⟨_, h⟩ | ⟨h, _⟩ | ⟨h, _⟩ | ⟨h, _⟩
      · exact h
      · exact absurd h z
      · exact absurd h z
      · exact absurd h z
    have mc' : M' 65 6 = 0 ∧ M' 65 5 = nI q := by
      rcases mc with ⟨_, h⟩ | ⟨h, _⟩ | ⟨h, _⟩ | ⟨h, _⟩
      · exact h
      · exact absurd h z
      · exact absurd h z
      · exact absurd h z
    exact Or.inl ⟨cc'.1, mc'.1, by rw [cc'.2, mc'.2]⟩
/-- where the class stands behind a token -/
theorem ct_pos {I I' : Mm} {J J' : Nat → Nat → Int64} {N p : Nat} (hp : p ≤ N) (h : CT I I' J J' N (rn (fun i => cS (I 1 i)) (N - p) p)) : ∃ p', I' 2 5 = nI p' ∧ p ≤ p' ∧ p' ≤ N ∧ (I' 2 6 = 3 → p < p') := by
  have r := rn_le (fun i => cS (I 1 i)) (N - p) p
  generalize rn (fun i => cS (I 1 i)) (N - p) p = q at h r
  obtain ⟨_, _, _, h⟩ := h
  rcases h with ⟨hq, h6, h5⟩ | ⟨hq, _, h6, h5⟩ | ⟨hq, _, cd, e, he, h5, h6, _⟩ | ⟨hq, _, _, e, he, h5, h6, _⟩
  · exact ⟨q, h5, by omega, by omega, fun z => by rw [h6] at z; exact absurd z (by decide)⟩
  · exact ⟨q + 1, h5, by omega, by omega, fun _ => by omega⟩
  · have r2 := rn_le (fun i => cD (I 1 i)) (N - q) q
    refine ⟨e, h5, by omega, by omega, fun z => ?_⟩
    rw [h6] at z
    split at z <;> exact absurd z (by decide)
  · have r2 := rn_le (fun i => cL (I 1 i)) (N - q) q
    refine ⟨e, h5, by omega, by omega, fun z => ?_⟩
    rw [h6] at z
    split at z <;> exact absurd z (by decide)
