abbrev Vc : Type := Nat → Int32
abbrev Mm : Type := Nat → Nat → Int32
theorem b_1 : ∀ i, i < 32 → bt 1 i = decide (i = 0) := by decide +kernel
theorem bit_val (x : Int32) {k : Nat} (hk : k < 32) : (x >>> (nI k &&& 31)) &&& 1 = if bt x k = true then 1 else 0 := by
  apply b_ext
  intro i hi
  rw [b_and, b_sshr k hk x hi, b_1 i hi]
  by_cases h : i = 0
  · subst h
    simp only [Nat.add_zero, if_pos hk]
    cases h2 : bt x k <;> simp [b_0, b_1 0 (by omega)]
  · simp only [h, decide_false, Bool.and_false]
    cases h2 : bt x k <;> simp [b_0, b_1 i hi, h]
theorem bit_at (x : Int32) {k : Nat} (hk : k < 32) : (x >>> (nI k &&& 31)) &&& 1 = 1 ↔ bt x k = true := by
  rw [bit_val x hk]
  cases bt x k <;> simp
theorem b_one {d k : Nat} (hd : d < 32) (hk : k < 32) : bt ((1 : Int32) <<< (nI d &&& 31)) k = decide (d = k) := by
  rw [b_shl d hd 1 hk]
  by_cases h : d ≤ k
  · rw [b_1 (k - d) (by omega)]
    by_cases h2 : d = k
    · subst h2; simp
    · have : ¬ (k - d = 0) := by omega
      simp [h2, this]
  · have : ¬ d = k := by omega
    simp [h, this]
theorem imax_toInt (x y : Int32) : (imax x y).toInt = max x.toInt y.toInt := by
  unfold imax
  split <;> rename_i h <;> rw [fa_lt] at h <;> omega
theorem imin_toInt (x y : Int32) : (imin x y).toInt = min x.toInt y.toInt := by
  unfold imin
  split <;> rename_i h <;> rw [fa_lt] at h <;> omega
theorem mu_up_nI {n j : Nat} (hn : n < 2 ^ 31) (hj : j ≤ n) : mu_up (nI n) (nI j) = n - j := by
  unfold mu_up
  rw [opq_eq, nI_toInt hn, nI_toInt (by omega)]
  omega
theorem mu_le_nI {n j : Nat} (hn : n < 2 ^ 31) (hj : j ≤ n) : mu_le (nI n) (nI j) = n + 1 - j := by
  unfold mu_le
  rw [opq_eq, nI_toInt hn, nI_toInt (by omega)]
  omega
theorem mu_dn_nI {j : Nat} (hn : j < 2 ^ 31) : mu_dn (nI j) = j + 1 := by
  unfold mu_dn
  rw [opq_eq, nI_toInt hn]
  omega
theorem clampN {x : Int32} (h : 0 ≤ x.toInt) : x = nI x.toNatClampNeg := by
  obtain ⟨j, hj, rfl⟩ := nI_of (x := x) (fun q => by rw [fa_lt] at q; have e : (0 : Int32).toInt = 0 := by decide
                                                     omega)
  rw [nI_clamp hj]
theorem clampI {x : Int32} (h : 0 ≤ x.toInt) : (x.toNatClampNeg : Int) = x.toInt := by
  have e := clampN h
  have h2 := fb_rng x
  rw [e, nI_toInt (by
    have : x.toInt = ((nI x.toNatClampNeg).toInt) := by rw [← e]
    obtain ⟨j, hj, q⟩ := nI_of (x := x) (fun q => by rw [fa_lt] at q; have e : (0 : Int32).toInt = 0 := by decide
                                                     omega)
    rw [q, nI_clamp hj]
    exact hj)]
  rw [nI_clamp]
  obtain ⟨j, hj, q⟩ := nI_of (x := x) (fun q => by rw [fa_lt] at q; have e : (0 : Int32).toInt = 0 := by decide
                                                   omega)
  rw [q, nI_clamp hj]
  exact hj
/-- between two numbers -/
def bw (x : Int32) (lo hi : Int) : Prop := lo ≤ x.toInt ∧ x.toInt ≤ hi
theorem bw_nI {x : Int32} {hi : Nat} (h : bw x 0 hi) : x = nI x.toNatClampNeg ∧ x.toNatClampNeg ≤ hi := by
  refine ⟨clampN h.1, ?_⟩
  have := clampI h.1
  have := h.2
  omega
theorem bw_of {n lo hi : Nat} (h1 : lo ≤ n) (h2 : n ≤ hi) (h : hi < 2 ^ 31) : bw (nI n) lo hi := by
  unfold bw
  rw [nI_toInt (by omega)]
  omega
theorem ti0 : (0 : Int32).toInt = 0 := by decide
theorem ti1 : (1 : Int32).toInt = 1 := by decide
theorem ti2 : (2 : Int32).toInt = 2 := by decide
theorem ti3 : (3 : Int32).toInt = 3 := by decide
theorem ti9 : (9 : Int32).toInt = 9 := by decide
theorem tim9 : (-9 : Int32).toInt = -9 := by decide
theorem tim1 : (-1 : Int32).toInt = -1 := by decide
theorem tim2 : (-2 : Int32).toInt = -2 := by decide
theorem ti10 : (10 : Int32).toInt = 10 := by decide
theorem ti20 : (20 : Int32).toInt = 20 := by decide
theorem ti50 : (50 : Int32).toInt = 50 := by decide
theorem ti100 : (100 : Int32).toInt = 100 := by decide
theorem divI_pos {x d : Int32} (h : 0 ≤ x.toInt) (hd : 0 < d.toInt) : (x / d).toInt = x.toInt / d.toInt := by
  rw [Int32.toInt_div, Int.tdiv_eq_ediv_of_nonneg h]
  have h1 := fb_rng x
  have h2 : 0 ≤ x.toInt / d.toInt := Int.ediv_nonneg h (by omega)
  have h3 : x.toInt / d.toInt ≤ x.toInt := Int.ediv_le_self _ h
  exact fb_bmod (by omega) (by omega)
theorem divI_neg {x d : Int32} (h : x.toInt ≤ 0) (hd : 1 < d.toInt) : (x / d).toInt = -((-x.toInt) / d.toInt) := by
  have e : x.toInt.tdiv d.toInt = -((-x.toInt) / d.toInt) := by
    have q := Int.neg_tdiv (-x.toInt) d.toInt
    rw [Int.neg_neg] at q
    rw [q, Int.tdiv_eq_ediv_of_nonneg (by omega)]
  rw [Int32.toInt_div, e]
  have h1 := fb_rng x
  have h2 : 0 ≤ (-x.toInt) / d.toInt := Int.ediv_nonneg (by omega) (by omega)
  have h3 : (-x.toInt) / d.toInt ≤ -x.toInt := Int.ediv_le_self _ (by omega)
  exact fb_bmod (by omega) (by omega)
/-- which slots the two states are told by -/
def kp (a j : Nat) : Bool := if a = 65 then (j == 2 || j == 9 || j == 10 || j == 11 || j == 14 || j == 20 || j == 21 || j == 34) else if a = 58 then (j == 0 || j == 4) else if a = 51 then (j == 0) else (decide (a < 2) || (decide (3 ≤ a) && decide (a ≤ 11)) || (decide (14 ≤ a) && decide (a ≤ 45)) || a == 59 || a == 66 || a == 68 || a == 70 || a == 71 || a == 72)
def Fr (I I' : Mm) : Prop := ∀ a j, kp a j = true → I' a j = I a j
theorem Fr.refl (I : Mm) : Fr I I := fun _ _ _ => rfl
theorem Fr.trans {I I1 I2 : Mm} (h1 : Fr I I1) (h2 : Fr I1 I2) : Fr I I2 := fun a j h => (h2 a j h).trans (h1 a j h)
theorem Fr.st {I I1 : Mm} {a j : Nat} {v : Int32} (h : Fr I I1) (hk : kp a j = false) : Fr I (st2 I1 a j v) := by
  intro b i hb
  by_cases e : b = a
  · subst e
    by_cases e2 : i = j
    · subst e2; rw [hk] at hb; cases hb
    · rw [st2_o I1 b v e2]; exact h b i hb
  · rw [st2_a I1 v e]; exact h b i hb
theorem Fr.up {I I1 : Mm} {a : Nat} {f : Vc} (h : Fr I I1) (hk : ∀ j, kp a j = false) : Fr I (va_up I1 a f) := by
  intro b i hb
  by_cases e : b = a
  · subst e; rw [hk i] at hb; cases hb
  · rw [vu_a I1 f e]; exact h b i hb
theorem Fr.row {I I' : Mm} (h : Fr I I') {a : Nat} (hk : ∀ j, kp a j = true) : I' a = I a := funext fun j => h a j (hk j)
theorem st2_same (I : Mm) (a j : Nat) : st2 I a j (I a j) = I := by
  funext b i
  by_cases e : b = a
  · subst e
    by_cases e2 : i = j
    · subst e2; rw [st2_s]
    · rw [st2_o I b _ e2]
  · rw [st2_a I _ e]
theorem st2_st2 (I : Mm) (a j : Nat) (x y : Int32) : st2 (st2 I a j x) a j y = st2 I a j y := by
  funext b i
  by_cases e : b = a
  · subst e
    by_cases e2 : i = j
    · subst e2; rw [st2_s, st2_s]
    · rw [st2_o _ b _ e2, st2_o _ b _ e2, st2_o _ b _ e2]
  · rw [st2_a _ _ e, st2_a _ _ e, st2_a _ _ e]
theorem vu_s {α : Type} (I : Nat → Nat → α) (a : Nat) (f : Nat → α) : va_up I a f a = f := by simp [va_up]
theorem vu_o {α : Type} (I : Nat → Nat → α) {a b : Nat} (f : Nat → α) (h : b ≠ a) : va_up I a f b = I b := by simp [va_up, h]
theorem vu_vu {α : Type} (I : Nat → Nat → α) (a : Nat) (f g : Nat → α) : va_up (va_up I a f) a g = va_up I a g := by
  funext b
  by_cases e : b = a
  · subst e; rw [vu_s, vu_s]
  · rw [vu_o _ _ e, vu_o _ _ e, vu_o _ _ e]
theorem vu_same {α : Type} (I : Nat → Nat → α) (a : Nat) : va_up I a (I a) = I := by
  funext b
  by_cases e : b = a
  · subst e; rw [vu_s]
  · rw [vu_o _ _ e]
theorem st2_up (I : Mm) (a j : Nat) (x : Int32) : st2 I a j x = va_up I a (upd (I a) j x) := by
  funext b i
  by_cases e : b = a
  · subst e
    by_cases e2 : i = j
    · subst e2; rw [st2_s, vu_s, pk_us]
    · rw [st2_o _ b _ e2, vu_s, pk_un e2]
  · rw [st2_a _ _ e, vu_o _ _ e]
theorem st2_row (I : Mm) (a j : Nat) (x : Int32) : st2 I a j x a = upd (I a) j x := by rw [st2_up, vu_s]
theorem st2_orow (I : Mm) {a b : Nat} (j : Nat) (x : Int32) (h : b ≠ a) : st2 I a j x b = I b := by rw [st2_up, vu_o _ _ h]
