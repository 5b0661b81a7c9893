/-! ===== the model's loops over the text ===== -/
theorem see_in {M : Mm} {N p : Nat} (hN : N ≤ 900) (hn : M 65 3 = nI N) (hp : p < N) : f_X11_see M (nI p) = M 66 p ∧ ok_X11_see M (nI p) := by
  have z : ¬ nI N ≤ nI p := nI_ge (by omega) (by omega)
  rw [f_X11_see, ok_X11_see, opv_eq, opv_eq, hn, if_neg z, if_neg z, nI_clamp (by omega), sz_66]
  exact ⟨rfl, vp_in_nI (by omega) (by omega)⟩
theorem see_end {M : Mm} {N : Nat} (hN : N ≤ 900) (hn : M 65 3 = nI N) : f_X11_see M (nI N) = -1 ∧ ok_X11_see M (nI N) := by
  have z : nI N ≤ nI N := nI_le (by omega) (by omega)
  rw [f_X11_see, ok_X11_see, opv_eq, opv_eq, hn, if_pos z, if_pos z]
  exact ⟨rfl, trivial⟩
theorem mk_spaces {M : Mm} {N : Nat} (hN : N ≤ 900) (hn : M 65 3 = nI N) : ∀ (c p f : Nat), p + c = N → c < f → lp_X11_next_5 M f (nI p) = nI (rn (fun i => cS (M 66 i)) c p) ∧ oklp_X11_next_5 M f (nI p) := by
  intro c
  induction c with
  | zero =>
    intro p f hp hf
    obtain ⟨f, rfl⟩ : ∃ g, f = g + 1 := ⟨f - 1, by omega⟩
    have e : p = N := by omega
    subst e
    have s := see_end hN hn
    rw [lp_X11_next_5, oklp_X11_next_5, s.1, if_neg (by decide), if_neg (by decide), rn]
    exact ⟨rfl, s.2, trivial⟩
  | succ c ih =>
    intro p f hp hf
    obtain ⟨f, rfl⟩ : ∃ g, f = g + 1 := ⟨f - 1, by omega⟩
    have s := see_in hN hn (p := p) (by omega)
    have k := ih (p + 1) f (by omega) (by omega)
    rw [lp_X11_next_5, oklp_X11_next_5, s.1, nI_1, rn]
    by_cases q : M 66 p = 32
    · rw [if_pos q, if_pos q, if_pos (show cS (M 66 p) = true by rw [cS, if_pos q])]
      exact ⟨k.1, s.2, k.2⟩
    · rw [if_neg q, if_neg q, if_neg (show ¬ cS (M 66 p) = true by rw [cS, if_neg q]; decide)]
      exact ⟨rfl, s.2, trivial⟩
/-- behind k letters from p on, n of them taken before -/
def lt67 (M : Mm) (n p k : Nat) : Mm := st2 (va_up M 67 (fun j => if n ≤ j ∧ j < n + k ∧ j < 8 then M 66 (p + (j - n)) else M 67 j)) 65 8 (nI (n + k))
theorem lt67_0 {M : Mm} {n p : Nat} (h : M 65 8 = nI n) : lt67 M n p 0 = M := by
  unfold lt67
  have : (fun j => if n ≤ j ∧ j < n + 0 ∧ j < 8 then M 66 (p + (j - n)) else M 67 j) = M 67 := funext fun j => if_neg (by omega)
  rw [this, vu_same, Nat.add_zero, ← h, st2_same]
theorem lt67_1 (M : Mm) (n p k : Nat) (hn : n < 2 ^ 30) (h8 : M 65 8 = nI n) (x : Int32) (hx : f_X11_see M (nI p) = x) (h66 : x = M 66 p) : lt67 (st2 (u3_X11_next (nI p) M) 65 8 ((u3_X11_next (nI p) M) 65 8 + 1)) (n + 1) (p + 1) k = lt67 M n p (k + 1) := by
  have eu : u3_X11_next (nI p) M = va_up M 67 (fun j => if j = n ∧ n < 8 then M 66 p else M 67 j) := by
    rw [u3_X11_next, opv_eq, h8, hx, h66]
    by_cases z : 8 ≤ n
    · rw [if_pos (show (8 : Int32) ≤ nI n from nI_le (a := 8) z (by omega))]
      have : (fun j => if j = n ∧ n < 8 then M 66 p else M 67 j) = M 67 := funext fun j => if_neg (by omega)
      rw [this, vu_same]
    · rw [if_neg (show ¬ (8 : Int32) ≤ nI n from nI_ge (b := 8) (by omega) (by omega)), nI_clamp (by omega)]
      congr 1
      funext j
      by_cases q : j = n
      · subst q; rw [pk_us, if_pos (by omega)]
      · rw [pk_un q, if_neg (by omega)]
  rw [eu, vu_o _ _ (by omega), h8, nI_1]
  unfold lt67
  funext a j
  by_cases a5 : a = 65
  · subst a5
    by_cases j8 : j = 8
    · subst j8; rw [st2_s, st2_s]; congr 1; omega
    · rw [st2_o _ _ _ j8, st2_o _ _ _ j8, vu_o _ _ (by omega), st2_o _ _ _ j8, vu_o _ _ (by omega), vu_o _ _ (by omega)]
  · rw [st2_a _ _ a5, st2_a _ _ a5]
    by_cases a7 : a = 67
    · subst a7
      rw [vu_s, vu_s, st2_orow _ _ _ (by omega), st2_orow _ _ _ (by omega), vu_o _ _ (by omega), vu_s]
      by_cases q : n + 1 ≤ j ∧ j < n + 1 + k ∧ j < 8
      · rw [if_pos q, if_pos (by omega)]; congr 1; omega
      · rw [if_neg q]
        by_cases q2 : j = n ∧ n < 8
        · rw [if_pos q2, if_pos (by omega)]; congr 1; omega
        · rw [if_neg q2, if_neg (by omega)]
    · rw [vu_o _ _ a7, vu_o _ _ a7, st2_orow _ _ _ a5, vu_o _ _ a7]
theorem mk_letters {N : Nat} (hN : N ≤ 900) (l2 : Int32) : ∀ (c p f n : Nat) (M : Mm), M 65 3 = nI N → M 65 8 = nI n → n ≤ p → p + c = N → c < f → lp_X11_next_67 l2 f (nI p) M = (nI (rn (fun i => cL (M 66 i)) c p), lt67 M n p (rn (fun i => cL (M 66 i)) c p - p)) ∧ oklp_X11_next_67 l2 f (nI p) M := by
  intro c
  induction c with
  | zero =>
    intro p f n M hn h8 hnp hp hf
    obtain ⟨f, rfl⟩ : ∃ g, f = g + 1 := ⟨f - 1, by omega⟩
    have e : p = N := by omega
    subst e
    have s := see_end hN hn
    rw [lp_X11_next_67, oklp_X11_next_67, s.1, f_small, if_neg (by decide), if_neg (by decide), rn, Nat.sub_self, lt67_0 h8]
    exact ⟨rfl, s.2, trivial⟩
  | succ c ih =>
    intro p f n M hn h8 hnp hp hf
    obtain ⟨f, rfl⟩ : ∃ g, f = g + 1 := ⟨f - 1, by omega⟩
    have s := see_in hN hn (p := p) (by omega)
    rw [lp_X11_next_67, oklp_X11_next_67, s.1, f_small, nI_1, rn]
    by_cases q : cL (M 66 p) = true
    · rw [if_pos q, if_pos q, if_pos q]
      have one := lt67_1 M n p 0 (by omega) h8 _ s.1 rfl
      have ek : ∀ k, lt67 (st2 (u3_X11_next (nI p) M) 65 8 ((u3_X11_next (nI p) M) 65 8 + 1)) (n + 1) (p + 1) k = lt67 M n p (k + 1) := fun k => lt67_1 M n p k (by omega) h8 _ s.1 rfl
      have e8 : (st2 (u3_X11_next (nI p) M) 65 8 ((u3_X11_next (nI p) M) 65 8 + 1)) 65 8 = nI (n + 1) := by
        rw [st2_s]
        have : u3_X11_next (nI p) M 65 8 = nI n := by
          rw [u3_X11_next, opv_eq]
          split
          · exact h8
          · rw [vu_o _ _ (by omega)]; exact h8
        rw [this, nI_1]
      have eo : ∀ a, a ≠ 67 → u3_X11_next (nI p) M a = M a := by
        intro a ha
        rw [u3_X11_next, opv_eq]
        split
        · rfl
        · rw [vu_o _ _ ha]
      have e3 : (st2 (u3_X11_next (nI p) M) 65 8 ((u3_X11_next (nI p) M) 65 8 + 1)) 65 3 = nI N := by rw [st2_o _ _ _ (by omega), eo 65 (by omega)]; exact hn
      have e66 : (st2 (u3_X11_next (nI p) M) 65 8 ((u3_X11_next (nI p) M) 65 8 + 1)) 66 = M 66 := by rw [st2_orow _ _ _ (by omega), eo 66 (by omega)]
      have k := ih (p + 1) f (n + 1) _ e3 e8 (by omega) (by omega) (by omega)
      rw [e66, ek] at k
      have r := rn_le (fun i => cL (M 66 i)) c (p + 1)
      rw [show rn (fun i => cL (M 66 i)) c (p + 1) - (p + 1) + 1 = rn (fun i => cL (M 66 i)) c (p + 1) - p by omega] at k
      refine ⟨k.1, s.2, ?_, k.2⟩
      rw [h8]
      by_cases z : 8 ≤ n
      · rw [if_pos (show (8 : Int32) ≤ nI n from nI_le (a := 8) z (by omega))]; trivial
      · rw [if_neg (show ¬ (8 : Int32) ≤ nI n from nI_ge (b := 8) (by omega) (by omega))]
        exact ⟨s.2, vp_in_nI (by rw [show sz 67 = 8 from by decide +kernel]; omega) (by rw [show sz 67 = 8 from by decide +kernel]; omega)⟩
    · rw [if_neg q, if_neg q, if_neg q, Nat.sub_self, lt67_0 h8]
      exact ⟨rfl, s.2, trivial⟩
def dm (T : Vc) : Nat → Nat → Nat → Int32 → Int32
  | 0, _, _, v => v
  | c + 1, p, n, v => dm T c (p + 1) (n + 1) (if 3 ≤ n then v else ((10 * v) + T p) - 48)
theorem mk_digits {N : Nat} (hN : N ≤ 900) (l2 : Int32) : ∀ (c p f n : Nat) (M : Mm), M 65 3 = nI N → n ≤ p → p + c = N → c < f → lp_X11_next_152 l2 f (nI p) (nI n) M = (nI (rn (fun i => cD (M 66 i)) c p), nI (n + (rn (fun i => cD (M 66 i)) c p - p)), st2 M 65 7 (dm (M 66) (rn (fun i => cD (M 66 i)) c p - p) p n (M 65 7))) ∧ oklp_X11_next_152 l2 f (nI p) (nI n) M := by
  intro c
  induction c with
  | zero =>
    intro p f n M hn hnp hp hf
    obtain ⟨f, rfl⟩ : ∃ g, f = g + 1 := ⟨f - 1, by omega⟩
    have e : p = N := by omega
    subst e
    have s := see_end hN hn
    rw [lp_X11_next_152, oklp_X11_next_152, s.1, f_digit, if_neg (by decide), if_neg (by decide), rn, Nat.sub_self, dm, st2_same]
    exact ⟨rfl, s.2, trivial⟩
  | succ c ih =>
    intro p f n M hn hnp hp hf
    obtain ⟨f, rfl⟩ : ∃ g, f = g + 1 := ⟨f - 1, by omega⟩
    have s := see_in hN hn (p := p) (by omega)
    have eu : u1_X11_next (nI p) (nI n) M = st2 M 65 7 (if 3 ≤ n then M 65 7 else ((10 * M 65 7) + M 66 p) - 48) := by
      rw [u1_X11_next, opv_eq, s.1]
      by_cases z : 3 ≤ n
      · rw [if_pos (show (3 : Int32) ≤ nI n from nI_le (a := 3) z (by omega)), if_pos z, st2_same]
      · rw [if_neg (show ¬ (3 : Int32) ≤ nI n from nI_ge (b := 3) (by omega) (by omega)), if_neg z]
    rw [lp_X11_next_152, oklp_X11_next_152, s.1, f_digit, nI_1, nI_1, rn]
    by_cases q : cD (M 66 p) = true
    · rw [if_pos q, if_pos q, if_pos q, eu]
      have k := ih (p + 1) f (n + 1) (st2 M 65 7 (if 3 ≤ n then M 65 7 else ((10 * M 65 7) + M 66 p) - 48)) (by rw [st2_o _ _ _ (by omega)]; exact hn) (by omega) (by omega) (by omega)
      rw [st2_orow _ _ _ (by omega), st2_st2, st2_s] at k
      have r := rn_le (fun i => cD (M 66 i)) c (p + 1)
      have e1 : rn (fun i => cD (M 66 i)) c (p + 1) - p = rn (fun i => cD (M 66 i)) c (p + 1) - (p + 1) + 1 := by omega
      rw [e1, dm]
      refine ⟨?_, s.2, ?_, k.2⟩
      · rw [k.1]
        rw [show n + 1 + (rn (fun i => cD (M 66 i)) c (p + 1) - (p + 1)) = n + (rn (fun i => cD (M 66 i)) c (p + 1) - (p + 1) + 1) by omega]
      · split
        · trivial
        · exact s.2
    · rw [if_neg q, if_neg q, if_neg q, Nat.sub_self, dm, st2_same]
      exact ⟨rfl, s.2, trivial⟩
theorem dv_dm {T U : Vc} : ∀ (c p n : Nat) (v : Int32), n + c ≤ 3 → (∀ j, p ≤ j → j < p + c → T j = U j) → dv T c p v = dm U c p n v := by
  intro c
  induction c with
  | zero => intro p n v _ _; rfl
  | succ c ih =>
    intro p n v h he
    have e : v * 10 + (T p - 48) = ((10 * v) + U p) - 48 := by
      rw [he p (by omega) (by omega), Int32.mul_comm v 10, Int32.sub_eq_add_neg, Int32.sub_eq_add_neg, Int32.add_assoc]
    rw [dv, dm, if_neg (by omega), e]
    exact ih (p + 1) (n + 1) _ (by omega) (fun j h1 h2 => he j (by omega) (by omega))
