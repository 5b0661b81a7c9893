/-! ===== the reader: tokens ===== -/
/-- from p on while P, at most c steps -/
def rn (P : Nat → Bool) : Nat → Nat → Nat
  | 0, p => p
  | c + 1, p => if P p = true then rn P c (p + 1) else p
theorem rn_le (P : Nat → Bool) : ∀ (c p : Nat), p ≤ rn P c p ∧ rn P c p ≤ p + c := by
  intro c
  induction c with
  | zero => intro p; exact ⟨Nat.le_refl _, Nat.le_refl _⟩
  | succ c ih =>
    intro p
    rw [rn]
    have := ih (p + 1)
    split <;> omega
theorem rn_in (P : Nat → Bool) : ∀ (c p j : Nat), p ≤ j → j < rn P c p → P j = true := by
  intro c
  induction c with
  | zero => intro p j h1 h2; rw [rn] at h2; omega
  | succ c ih =>
    intro p j h1 h2
    rw [rn] at h2
    by_cases q : P p = true
    · rw [if_pos q] at h2
      by_cases e : j = p
      · rw [e]; exact q
      · exact ih (p + 1) j (by omega) h2
    · rw [if_neg q] at h2; omega
theorem rn_congr {P Q : Nat → Bool} : ∀ (c p : Nat), (∀ j, p ≤ j → j < p + c → P j = Q j) → rn P c p = rn Q c p := by
  intro c
  induction c with
  | zero => intro p _; rfl
  | succ c ih =>
    intro p h
    rw [rn, rn, h p (by omega) (by omega), ih (p + 1) (fun j h1 h2 => h j (by omega) (by omega))]
/-- letters and digits, as the class asks -/
def cL (x : Int32) : Bool := if x < 97 then false else if 122 < x then false else true
def cD (x : Int32) : Bool := if x < 48 then false else if 57 < x then false else true
def cS (x : Int32) : Bool := if x = 32 then true else false
theorem f_small (I : Mm) (x : Int32) : f_X11_isSmall I x = cL x := by rw [f_X11_isSmall, opv_eq, u0_X11_isSmall, opv_eq]; rfl
theorem f_digit (I : Mm) (x : Int32) : f_X11_isDigit I x = cD x := by rw [f_X11_isDigit, opv_eq, u0_X11_isDigit, opv_eq]; rfl
theorem byte_tab : ∀ b : Fin 256, let x := (Int32.ofNat b.val).toInt8.toInt32; (cL (x &&& 255) == cL x) && (cD (x &&& 255) == cD x) && (cS (x &&& 255) == cS x) && ((x &&& 255 == 59) == (x == 59)) && !(x &&& 255 == -1) = true := by decide +kernel
theorem byte_tab2 : ∀ b : Fin 256, let x := (Int32.ofNat b.val).toInt8.toInt32; ((cL x || cD x) && !(x &&& 255 == x)) = false := by decide +kernel
theorem byte_all {x : Int32} (h : x.toInt8.toInt32 = x) : cL (x &&& 255) = cL x ∧ cD (x &&& 255) = cD x ∧ cS (x &&& 255) = cS x ∧ (x &&& 255 = 59 ↔ x = 59) ∧ x &&& 255 ≠ -1 ∧ ((cL x || cD x) = true → x &&& 255 = x) := by
  have e : (Int32.ofNat (x.toBitVec.toNat % 256)).toInt8.toInt32 = x := by
    have : (x &&& 255) = nI (x.toBitVec.toNat % 2 ^ 8) := pk_and x 8 (by decide)
    have h2 : Int32.ofNat (x.toBitVec.toNat % 256) = x &&& 255 := this.symm
    rw [h2, fa_byte_low, h]
  have k := byte_tab ⟨x.toBitVec.toNat % 256, Nat.mod_lt _ (by omega)⟩
  have k6 := byte_tab2 ⟨x.toBitVec.toNat % 256, Nat.mod_lt _ (by omega)⟩
  simp only [e] at k k6
  simp only [Bool.and_eq_true, beq_iff_eq, Bool.not_eq_true'] at k
  obtain ⟨⟨⟨⟨k1, k2⟩, k3⟩, k4⟩, k5⟩ := k
  refine ⟨k1, k2, k3, ?_, ?_, ?_⟩
  · by_cases z : x = 59
    · subst z; exact ⟨fun _ => rfl, fun _ => by decide⟩
    · refine ⟨fun q => ?_, fun q => absurd q z⟩
      rw [q] at k4
      simp at k4
      exact k4
  · intro q; rw [q] at k5; simp at k5
  · intro q
    rw [q, Bool.true_and] at k6
    simpa using k6
/-- the text, as both hold it -/
def Tx (I M : Mm) (N : Nat) : Prop := N ≤ 900 ∧ I 2 4 = nI N ∧ M 65 3 = nI N ∧ ∀ i, i < N → (I 1 i).toInt8.toInt32 = I 1 i ∧ M 66 i = I 1 i &&& 255
/-! the class's loops -/
theorem ck_spaces (J : Nat → Nat → Int64) {I : Mm} {N : Nat} (hN : N ≤ 900) (hn : I 2 4 = nI N) : ∀ (c p f : Nat), p + c = N → c < f → lp_X6_nextToken_0 J f (st2 I 2 5 (nI p)) = st2 I 2 5 (nI (rn (fun i => cS (I 1 i)) c p)) ∧ oklp_X6_nextToken_0 J f (st2 I 2 5 (nI p)) := by
  intro c
  induction c with
  | zero =>
    intro p f hp hf
    obtain ⟨f, rfl⟩ : ∃ g, f = g + 1 := ⟨f - 1, by omega⟩
    have z : nI N ≤ nI p := nI_le (by omega) (by omega)
    rw [lp_X6_nextToken_0, oklp_X6_nextToken_0, st2_s, st2_o _ _ _ (by omega), hn, if_pos z, if_pos z]
    exact ⟨rfl, trivial⟩
  | succ c ih =>
    intro p f hp hf
    obtain ⟨f, rfl⟩ : ∃ g, f = g + 1 := ⟨f - 1, by omega⟩
    have z : ¬ nI N ≤ nI p := nI_ge (by omega) (by omega)
    rw [lp_X6_nextToken_0, oklp_X6_nextToken_0, st2_s, st2_o _ _ _ (by omega), hn, if_neg z, if_neg z, st2_a _ _ (by omega), nI_clamp (by omega), st2_st2, nI_1, rn]
    have k := ih (p + 1) f (by omega) (by omega)
    have v : vp_in (nI p) (sz 1) := vp_in_nI (by rw [sz_1]; omega) (by rw [sz_1]; omega)
    by_cases q : I 1 p = 32
    · rw [if_pos q, if_pos q, if_pos (show cS (I 1 p) = true by rw [cS, if_pos q])]
      exact ⟨k.1, v, k.2⟩
    · rw [if_neg q, if_neg q, if_neg (show ¬ cS (I 1 p) = true by rw [cS, if_neg q]; decide)]
      exact ⟨rfl, v, trivial⟩
def dv (T : Vc) : Nat → Nat → Int32 → Int32
  | 0, _, v => v
  | c + 1, p, v => dv T c (p + 1) (v * 10 + (T p - 48))
theorem ck_digits {I : Mm} {N : Nat} (hN : N ≤ 900) (hn : I 2 4 = nI N) : ∀ (c p f : Nat) (v : Int32), p + c = N → c < f → lp_X6_takeWhole_5 f (st2 (st2 I 2 9 v) 2 5 (nI p)) = st2 (st2 I 2 9 (dv (I 1) (rn (fun i => cD (I 1 i)) c p - p) p v)) 2 5 (nI (rn (fun i => cD (I 1 i)) c p)) ∧ oklp_X6_takeWhole_5 f (st2 (st2 I 2 9 v) 2 5 (nI p)) := by
  intro c
  induction c with
  | zero =>
    intro p f v hp hf
    obtain ⟨f, rfl⟩ : ∃ g, f = g + 1 := ⟨f - 1, by omega⟩
    have z : nI N ≤ nI p := nI_le (by omega) (by omega)
    rw [lp_X6_takeWhole_5, oklp_X6_takeWhole_5, st2_s, st2_o _ _ _ (by omega), st2_o _ _ _ (by omega), hn, if_pos z, if_pos z, rn, Nat.sub_self, dv]
    exact ⟨rfl, trivial⟩
  | succ c ih =>
    intro p f v hp hf
    obtain ⟨f, rfl⟩ : ∃ g, f = g + 1 := ⟨f - 1, by omega⟩
    have z : ¬ nI N ≤ nI p := nI_ge (by omega) (by omega)
    have ei : st2 (st2 (st2 (st2 I 2 9 v) 2 5 (nI p)) 2 9 (v * 10 + (I 1 p - 48))) 2 5 (nI (p + 1)) = st2 (st2 I 2 9 (v * 10 + (I 1 p - 48))) 2 5 (nI (p + 1)) := by
      funext a j
      by_cases a2 : a = 2
      · subst a2
        by_cases j5 : j = 5
        · subst j5; rw [st2_s, st2_s]
        · rw [st2_o _ _ _ j5, st2_o _ _ _ j5]
          by_cases j9 : j = 9
          · subst j9; rw [st2_s, st2_s]
          · rw [st2_o _ _ _ j9, st2_o _ _ _ j9, st2_o _ _ _ j5, st2_o _ _ _ j9]
      · rw [st2_a _ _ a2, st2_a _ _ a2, st2_a _ _ a2, st2_a _ _ a2, st2_a _ _ a2, st2_a _ _ a2]
    rw [lp_X6_takeWhole_5, oklp_X6_takeWhole_5, st2_s, st2_o _ _ _ (by omega), st2_o _ _ _ (by omega), hn, if_neg z, if_neg z, nI_clamp (by omega), nI_1]
    have e1 : st2 (st2 I 2 9 v) 2 5 (nI p) 1 p = I 1 p := by rw [st2_a _ _ (by omega), st2_a _ _ (by omega)]
    have e9 : st2 (st2 I 2 9 v) 2 5 (nI p) 2 9 = v := by rw [st2_o _ _ _ (by omega), st2_s]
    rw [e1, e9, ei]
    have k := ih (p + 1) f (v * 10 + (I 1 p - 48)) (by omega) (by omega)
    have vp : vp_in (nI p) (sz 1) := vp_in_nI (by rw [sz_1]; omega) (by rw [sz_1]; omega)
    have r := rn_le (fun i => cD (I 1 i)) c (p + 1)
    rw [rn]
    by_cases q : cD (I 1 p) = true
    · rw [if_pos q]
      unfold cD at q
      have q1 : ¬ I 1 p < 48 := fun h => by rw [if_pos h] at q; cases q
      rw [if_neg q1] at q
      have q2 : ¬ 57 < I 1 p := fun h => by rw [if_pos h] at q; cases q
      rw [if_neg q1, if_neg q2, if_neg q1, if_neg q2, k.1]
      have : rn (fun i => cD (I 1 i)) c (p + 1) - p = (rn (fun i => cD (I 1 i)) c (p + 1) - (p + 1)) + 1 := by omega
      rw [this, dv]
      exact ⟨rfl, vp, vp, vp, k.2⟩
    · rw [if_neg q, Nat.sub_self, dv]
      unfold cD at q
      by_cases q1 : I 1 p < 48
      · rw [if_pos q1, if_pos q1]; exact ⟨rfl, vp, trivial⟩
      · rw [if_neg q1] at q
        by_cases q2 : 57 < I 1 p
        · rw [if_neg q1, if_pos q2, if_neg q1, if_pos q2]; exact ⟨rfl, vp, vp, trivial⟩
        · rw [if_neg q2] at q; exact absurd rfl q
/-- letters as digits to the base of 32 -/
def ld (x : Int32) : Nat := x.toNatClampNeg - 96
def pk32 (d : Nat → Nat) : Nat → Nat
  | 0 => 0
  | n + 1 => pk32 d n * 32 + d n
theorem cL_dg {x : Int32} (h : cL x = true) : x = nI x.toNatClampNeg ∧ 97 ≤ x.toNatClampNeg ∧ x.toNatClampNeg ≤ 122 := by
  unfold cL at h
  have q1 : ¬ x < 97 := fun q => by rw [if_pos q] at h; cases h
  rw [if_neg q1] at h
  have q2 : ¬ 122 < x := fun q => by rw [if_pos q] at h; cases h
  rw [fa_lt] at q1 q2
  have e1 : (97 : Int32).toInt = 97 := by decide
  have e2 : (122 : Int32).toInt = 122 := by decide
  have h0 : 0 ≤ x.toInt := by omega
  have := clampI h0
  exact ⟨clampN h0, by omega, by omega⟩
theorem cL_pk {x : Int32} (h : cL x = true) (n : Nat) : lN n * 32 + ((x - 97) + 1).toInt64 = lN (n * 32 + ld x) := by
  obtain ⟨e, h1, h2⟩ := cL_dg h
  have a : (x - 97) + 1 = nI (ld x) := by
    rw [show x - 97 = nI x.toNatClampNeg - nI 97 by rw [← e]; rfl, pk_sub h1, nI_1, ld]
    congr 1; omega
  rw [a, nI_l (by unfold ld; omega), show (32 : Int64) = lN 32 from rfl, lN_mul, lN_add]
theorem ck_letters {I : Mm} {N : Nat} (hN : N ≤ 900) (hn : I 2 4 = nI N) (J : Nat → Nat → Int64) (s : Nat) : ∀ (c p f : Nat), s ≤ p → p + c = N → c < f → lp_X6_takeWord_5 f (st2 I 2 5 (nI p)) (stJ J 2 8 (lN (pk32 (fun i => ld (I 1 (s + i))) (p - s)))) = (st2 I 2 5 (nI (rn (fun i => cL (I 1 i)) c p)), stJ J 2 8 (lN (pk32 (fun i => ld (I 1 (s + i))) (rn (fun i => cL (I 1 i)) c p - s)))) ∧ oklp_X6_takeWord_5 f (st2 I 2 5 (nI p)) (stJ J 2 8 (lN (pk32 (fun i => ld (I 1 (s + i))) (p - s)))) := by
  intro c
  induction c with
  | zero =>
    intro p f hs hp hf
    obtain ⟨f, rfl⟩ : ∃ g, f = g + 1 := ⟨f - 1, by omega⟩
    have z : nI N ≤ nI p := nI_le (by omega) (by omega)
    rw [lp_X6_takeWord_5, oklp_X6_takeWord_5, st2_s, st2_o _ _ _ (by omega), hn, if_pos z, if_pos z, rn]
    exact ⟨rfl, trivial⟩
  | succ c ih =>
    intro p f hs hp hf
    obtain ⟨f, rfl⟩ : ∃ g, f = g + 1 := ⟨f - 1, by omega⟩
    have z : ¬ nI N ≤ nI p := nI_ge (by omega) (by omega)
    have e1 : st2 I 2 5 (nI p) 1 p = I 1 p := by rw [st2_a _ _ (by omega)]
    have ej : ∀ (x y : Int64), stJ (stJ J 2 8 x) 2 8 y = stJ J 2 8 y := by
      intro x y
      funext a j
      by_cases a2 : a = 2
      · subst a2
        by_cases j8 : j = 8
        · subst j8; rw [st2_sJ, st2_sJ]
        · rw [st2_oJ _ _ _ j8, st2_oJ _ _ _ j8, st2_oJ _ _ _ j8]
      · rw [st2_aJ _ _ a2, st2_aJ _ _ a2, st2_aJ _ _ a2]
    rw [lp_X6_takeWord_5, oklp_X6_takeWord_5, st2_s, st2_o _ _ _ (by omega), hn, if_neg z, if_neg z, nI_clamp (by omega), nI_1, e1, st2_st2, ej, st2_sJ]
    have vp : vp_in (nI p) (sz 1) := vp_in_nI (by rw [sz_1]; omega) (by rw [sz_1]; omega)
    rw [rn]
    by_cases q : cL (I 1 p) = true
    · rw [if_pos q]
      have k := ih (p + 1) f (by omega) (by omega) (by omega)
      have ep : pk32 (fun i => ld (I 1 (s + i))) (p + 1 - s) = pk32 (fun i => ld (I 1 (s + i))) (p - s) * 32 + ld (I 1 p) := by
        rw [show p + 1 - s = (p - s) + 1 by omega, pk32, show s + (p - s) = p by omega]
      rw [ep] at k
      rw [cL_pk q]
      unfold cL at q
      have q1 : ¬ I 1 p < 97 := fun h => by rw [if_pos h] at q; cases q
      rw [if_neg q1] at q
      have q2 : ¬ 122 < I 1 p := fun h => by rw [if_pos h] at q; cases q
      rw [if_neg q1, if_neg q2, if_neg q1, if_neg q2]
      exact ⟨k.1, vp, vp, vp, k.2⟩
    · rw [if_neg q]
      unfold cL at q
      by_cases q1 : I 1 p < 97
      · rw [if_pos q1, if_pos q1]; exact ⟨rfl, vp, trivial⟩
      · rw [if_neg q1] at q
        by_cases q2 : 122 < I 1 p
        · rw [if_neg q1, if_pos q2, if_neg q1, if_pos q2]; exact ⟨rfl, vp, vp, trivial⟩
        · rw [if_neg q2] at q; exact absurd rfl q
