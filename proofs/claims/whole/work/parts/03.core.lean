abbrev KT : Type := Launch × Nat × va_G × (ClassId × ClassId × ClassId × ClassId) × (Nat → Nat) × (Nat → Nat) × (Nat × Nat × (Nat → Int32))
abbrev MM : Type := Nat × Bool × (Nat → Nat → Int32) × (Nat → Nat → Int64) × (Nat → Nat → Option Nat)
def kL (k : KT) : Launch := k.1
def kB (k : KT) : Nat := k.2.1
def kD (k : KT) : va_G := k.2.2.1
def kcB (k : KT) : ClassId := k.2.2.2.1.1
def kcI (k : KT) : ClassId := k.2.2.2.1.2.1
def kcJ (k : KT) : ClassId := k.2.2.2.1.2.2.1
def kcR (k : KT) : ClassId := k.2.2.2.1.2.2.2
def adK (k : KT) : Nat → Nat := k.2.2.2.2.1
def adV (k : KT) : Nat → Nat := k.2.2.2.2.2.1
def kS (k : KT) : Nat × Nat × (Nat → Int32) := k.2.2.2.2.2.2
def kdL : List Nat := [9, 11, 5, 7, 6, 12, 6, 12, 6, 12, 6, 12, 13, 12, 7, 6, 12, 6, 12, 6, 12, 6, 12, 0, 4, 14, 14, 0, 0, 0, 0, 0, 0, 0, 0, 0, 0, 0, 0, 0, 0, 0, 0, 0, 0, 0, 1, 0, 12, 8, 12, 12, 14, 0, 0, 0, 0, 0, 3, 12, 0, 12, 12, 2, 0, 10, 12, 12, 12, 12, 12, 12, 12, 12, 12, 12, 12, 12, 12, 13, 13]
def kd (a : Nat) : Nat := kdL.getD a 99
def ftL : List (List Nat) := [[0, 0, 0, 0, 0, 0, 0, 0, 0], [2, 2], [1, 1, 0, 2], [0, 0, 0, 2, 0, 2, 2, 2], [0, 0, 0, 2, 2], [0, 0, 2, 2, 0, 0, 0, 0, 1, 0, 0, 0, 2, 2, 0, 3], [0, 0, 2, 0], [0, 0, 0, 0, 0, 0, 0, 2, 2, 2, 2], [0, 0, 2, 2, 2], [2, 2, 2, 2, 0, 0, 0, 0, 2, 2, 2, 2], [0, 2, 0, 0, 0, 0, 0, 0, 0, 0, 0, 0, 2, 0, 0, 2, 2, 2, 2, 2, 0, 0, 2, 2, 0, 0, 2, 2, 0, 0, 0, 0, 2, 2, 0, 0, 2, 1, 1, 0]]
def ft (c j : Nat) : Nat := (ftL.getD c []).getD j 9
def alL : List Nat := [0, 900, 0, 0, 0, 12, 0, 18, 0, 10, 0, 27, 16, 16, 0, 0, 12, 0, 18, 0, 10, 0, 27, 0, 0, 16, 3, 0, 0, 0, 0, 0, 0, 0, 0, 0, 0, 0, 0, 0, 0, 0, 0, 0, 0, 0, 0, 0, 1919, 0, 4, 5, 5, 0, 0, 0, 0, 0, 0, 40, 0, 21, 84, 0, 0, 0, 900, 8, 224, 224, 7, 112, 21, 7, 1919, 21, 84, 35, 7, 4, 1]
def nf (c : Nat) : Nat := match classes[c]? with | some q => q.2.2 | none => 0
def sz (a : Nat) : Nat := if kd a ≤ 10 then nf (kd a) else alL.getD a 0
def rfL : List (List Nat) := [[58, 63, 2, 14, 0, 0, 0, 0, 23, 24, 46, 49], [], [0, 0, 3, 1, 0, 0, 0, 0, 0, 0, 0, 0, 12, 13], [0, 0, 0, 0, 0, 0, 0, 4, 6, 8, 10], [0, 0, 5], [], [0, 0, 7], [], [0, 0, 9], [], [0, 0, 11], [], [], [], [0, 0, 0, 0, 0, 0, 0, 15, 17, 19, 21], [0, 0, 16], [], [0, 0, 18], [], [0, 0, 20], [], [0, 0, 22], [], [], [0, 0, 0, 25, 26], [27, 28, 29, 30, 31, 32, 33, 34, 35, 36, 37, 38, 39, 40, 41, 42], [43, 44, 45], [], [], [], [], [], [], [], [], [], [], [], [], [], [], [], [], [], [], [], [47, 48], [], [], [0, 0, 50, 51, 52], [], [], [53, 54, 55, 56, 57], [], [], [], [], [], [0, 0, 0, 59, 0, 60, 61, 62], [], [], [], [], [0, 0, 0, 64], [], [0, 66, 0, 0, 0, 0, 0, 0, 0, 0, 0, 0, 67, 0, 0, 68, 69, 70, 71, 72, 0, 0, 73, 74, 0, 0, 75, 76, 0, 0, 0, 0, 77, 78, 0, 0, 79], [], [], [], [], [], [], [], [], [], [], [], [], [], [], []]
/-- where a reference leads: all are set once, but told and draft, which change places -/
def rf (w : Bool) (a j : Nat) : Nat := if a = 0 ∧ j = 3 then (if w then 3 else 14) else if a = 2 ∧ j = 2 then (if w then 14 else 3) else (rfL.getD a []).getD j 0
def Pw (w : Bool) : Nat → Nat → Option Nat := fun a j => some (rf w a j)
/-- where a cell lies: the tape (1) is made behind the draft -/
def sg (a : Nat) : Nat := if a = 1 then 11 else if 2 ≤ a ∧ a ≤ 11 then a - 1 else a
def gs (p : Nat) : Nat := if p = 11 then 1 else if 1 ≤ p ∧ p ≤ 10 then p + 1 else p
theorem gs_sg (a : Nat) : gs (sg a) = a := by
  by_cases h1 : a = 1
  · subst h1; rfl
  · by_cases h2 : 2 ≤ a ∧ a ≤ 11
    · have e : sg a = a - 1 := by unfold sg; rw [if_neg h1, if_pos h2]
      rw [e]
      unfold gs
      rw [if_neg (by omega), if_pos (by omega)]
      omega
    · have e : sg a = a := by unfold sg; rw [if_neg h1, if_neg h2]
      rw [e]
      unfold gs
      rw [if_neg (by omega), if_neg (by omega)]
theorem sg_gs (p : Nat) : sg (gs p) = p := by
  by_cases h1 : p = 11
  · subst h1; rfl
  · by_cases h2 : 1 ≤ p ∧ p ≤ 10
    · have e : gs p = p + 1 := by unfold gs; rw [if_neg h1, if_pos h2]
      rw [e]
      unfold sg
      rw [if_neg (by omega), if_pos (by omega)]
      omega
    · have e : gs p = p := by unfold gs; rw [if_neg h1, if_neg h2]
      rw [e]
      unfold sg
      rw [if_neg (by omega), if_neg (by omega)]
theorem gs_lt {p : Nat} (h : p < 81) : gs p < 81 := by
  unfold gs
  split
  · omega
  · split <;> omega
theorem sg_of {a : Nat} (h : sg a < 81) : a < 81 := by
  have := gs_lt h
  rw [gs_sg] at this
  exact this
theorem sg_lt {a : Nat} (h : a < 81) : sg a < 81 := by
  unfold sg
  split
  · omega
  · split <;> omega
def ka (k : KT) (a : Nat) : Nat := kB k + sg a
def sv (k : KT) (M : MM) (a j : Nat) : Value := if ft (kd a) j = 0 then .int (M.2.2.1 a j) else if ft (kd a) j = 1 then .long (M.2.2.2.1 a j) else if ft (kd a) j = 3 then .int (M.2.2.1 0 1) else va_rf ((M.2.2.2.2 a j).map (ka k))
def enc (k : KT) (M : MM) (a : Nat) : va_E :=
  if kd a = 11 then .inl (kcB k, sz a, .inl (M.2.2.1 a))
  else if kd a = 12 then .inl (kcI k, sz a, .inl (M.2.2.1 a))
  else if kd a = 13 then .inl (kcJ k, sz a, .inr (.inl (M.2.2.2.1 a)))
  else if kd a = 14 then .inl (kcR k, sz a, .inr (.inr (.inr (.inr (fun j => (M.2.2.2.2 a j).map (ka k))))))
  else .inr (kd a, (List.range (sz a)).map (sv k M a))
def wl (k : KT) (M : MM) : va_W := (List.range M.1).map (fun p => (kB k + p, enc k M (gs p)))
def AA (k : KT) : Nat → Prop := fun q => kB k ≤ q
def tys (k : KT) : List (ClassId × FieldType) := [(kcB k, .byte), (kcI k, .int), (kcJ k, .long), (kcR k, .object RX0)]
def Rel (k : KT) (M : MM) (H : Heap) : Prop := va_P (kD k) classes (wl k M) H ∧ kB k + M.1 ≤ H.size
theorem wl_p (k : KT) (M : MM) {p : Nat} (h : p < M.1) : (wl k M)[p]? = some (kB k + p, enc k M (gs p)) := by
  simp [wl, h]
theorem wl_at (k : KT) (M : MM) {a : Nat} (h : sg a < M.1) : (wl k M)[sg a]? = some (ka k a, enc k M a) := by
  rw [wl_p k M h, gs_sg]
  rfl
theorem wl_D (k : KT) (M : MM) : va_D (AA k) (wl k M) := by
  have key : ∀ (i : Nat) (p : Nat × va_E), (wl k M)[i]? = some p → p.1 = kB k + i := by
    intro i p h
    have hi : i < M.1 := by
      have := (List.getElem?_eq_some_iff.mp h).1
      simpa [wl] using this
    rw [wl_p k M hi] at h
    cases h
    rfl
  refine ⟨fun i j p q h1 h2 h3 => ?_, fun i q h => ?_⟩
  · rw [key i p h1, key j q h2] at h3
    omega
  · show kB k ≤ q.1
    rw [key i q h]
    omega
theorem wl_set (k : KT) {M M' : MM} {a : Nat} {e : va_E} (hN : M'.1 = M.1) (ha : sg a < M.1) (he : enc k M' a = e) (ho : ∀ b, b ≠ a → enc k M' b = enc k M b) : (wl k M).set (sg a) (ka k a, e) = wl k M' := by
  apply List.ext_getElem?
  intro i
  by_cases hi : i < M.1
  · rw [wl_p k M' (by rw [hN]; exact hi)]
    by_cases h : sg a = i
    · subst h
      rw [List.getElem?_set_self (by simp [wl]; exact ha), gs_sg, he]
      rfl
    · rw [List.getElem?_set_ne h, wl_p k M hi, ho (gs i) (fun q => h (by rw [← q, sg_gs]))]
  · rw [List.getElem?_eq_none (by simp [wl]; omega), List.getElem?_eq_none (by simp [wl]; omega)]
theorem enc_obj (k : KT) (M : MM) {a c : Nat} (h : kd a = c) (hc : c ≤ 10) : enc k M a = .inr (c, (List.range (sz a)).map (sv k M a)) := by
  unfold enc
  rw [if_neg (by omega), if_neg (by omega), if_neg (by omega), if_neg (by omega), h]
theorem enc_b (k : KT) (M : MM) {a : Nat} (h : kd a = 11) : enc k M a = .inl (kcB k, sz a, .inl (M.2.2.1 a)) := by
  unfold enc; rw [if_pos h]
theorem enc_i (k : KT) (M : MM) {a : Nat} (h : kd a = 12) : enc k M a = .inl (kcI k, sz a, .inl (M.2.2.1 a)) := by
  unfold enc; rw [if_neg (by omega), if_pos h]
theorem enc_j (k : KT) (M : MM) {a : Nat} (h : kd a = 13) : enc k M a = .inl (kcJ k, sz a, .inr (.inl (M.2.2.2.1 a))) := by
  unfold enc; rw [if_neg (by omega), if_neg (by omega), if_pos h]
theorem enc_r (k : KT) (M : MM) {a : Nat} (h : kd a = 14) : enc k M a = .inl (kcR k, sz a, .inr (.inr (.inr (.inr (fun j => (M.2.2.2.2 a j).map (ka k)))))) := by
  unfold enc; rw [if_neg (by omega), if_neg (by omega), if_neg (by omega), if_pos h]
theorem cl_le {ci : Nat} {q : vw_C} (h : classes[ci]? = some q) : ci ≤ 10 := by
  have := (List.getElem?_eq_some_iff.mp h).1
  simp [classes] at this
  omega
theorem sz_obj {a ci : Nat} {C : String} {T : u_T} {N : Nat} (h : kd a = ci) (hc : classes[ci]? = some (C, T, N)) : sz a = N := by
  unfold sz
  rw [h, if_pos (cl_le hc), nf, hc]
theorem kd_lt {a c : Nat} (h : kd a = c) (hc : c ≤ 14) : a < 81 := by
  by_cases q : a < 81
  · exact q
  · exfalso
    have : kd a = 99 := by
      unfold kd
      rw [List.getD_eq_getElem?_getD, List.getElem?_eq_none (by show kdL.length ≤ a; have : kdL.length = 81 := rfl; omega)]
      rfl
    omega
theorem kd_sg {a c : Nat} (h : kd a = c) (hc : c ≤ 14) : sg a < 81 := sg_lt (kd_lt h hc)
theorem ft3_all : (List.range 81).all (fun b => b == 2 || (ftL.getD (kd b) []).all (fun x => x != 3)) = true := by decide +kernel
theorem ft_out {j : Nat} : ft 99 j = 9 := by
  unfold ft
  rw [show ftL.getD 99 [] = [] from rfl]
  simp
/-- the one field that is told elsewhere: Reader's tapeBytes -/
theorem ft3 {b j : Nat} (h : ft (kd b) j = 3) : b = 2 := by
  by_cases q : b < 81
  · have h1 := List.all_eq_true.mp ft3_all b (List.mem_range.mpr q)
    rw [Bool.or_eq_true] at h1
    rcases h1 with h1 | h1
    · exact beq_iff_eq.mp h1
    · exfalso
      unfold ft at h
      generalize ftL.getD (kd b) [] = l at h h1
      rw [List.getD_eq_getElem?_getD] at h
      cases hq : l[j]? with
      | none => rw [hq] at h; exact absurd h (by decide)
      | some x =>
        rw [hq] at h
        have hx : x = 3 := h
        have := List.all_eq_true.mp h1 x (List.mem_of_getElem? hq)
        rw [hx] at this
        exact absurd this (by decide)
  · exfalso
    have e : kd b = 99 := by
      unfold kd
      rw [List.getD_eq_getElem?_getD, List.getElem?_eq_none (by show kdL.length ≤ b; have : kdL.length = 81 := rfl; omega)]
      rfl
    rw [e, ft_out] at h
    exact absurd h (by decide)
theorem enc_other (k : KT) {M M' : MM} {b : Nat} (h1 : ∀ j, ¬ (b = 0 ∧ j = 1) → M'.2.2.1 b j = M.2.2.1 b j) (h0 : b = 2 → M'.2.2.1 0 1 = M.2.2.1 0 1) (h2 : ∀ j, M'.2.2.2.1 b j = M.2.2.2.1 b j) (h3 : ∀ j, M'.2.2.2.2 b j = M.2.2.2.2 b j) : enc k M' b = enc k M b := by
  have e4 : sv k M' b = sv k M b := by
    funext j
    unfold sv
    rw [h2 j, h3 j]
    by_cases q0 : ft (kd b) j = 0
    · rw [if_pos q0, if_pos q0, h1 j (fun z => by obtain ⟨z1, z2⟩ := z; subst z1; subst z2; exact absurd q0 (by decide))]
    · rw [if_neg q0, if_neg q0]
      by_cases q3 : ft (kd b) j = 3
      · rw [h0 (ft3 q3)]
      · rw [if_neg q3, if_neg q3]
  by_cases hb : b = 0
  · subst hb
    rw [enc_obj k M' (a := 0) (c := 9) rfl (by decide), enc_obj k M (a := 0) (c := 9) rfl (by decide), e4]
  · have e1 : M'.2.2.1 b = M.2.2.1 b := funext fun j => h1 j (fun z => hb z.1)
    have e2 : M'.2.2.2.1 b = M.2.2.2.1 b := funext h2
    have e3 : M'.2.2.2.2 b = M.2.2.2.2 b := funext h3
    simp only [enc, e1, e2, e3, e4]
def st2 (I : Nat → Nat → Int32) (a j : Nat) (v : Int32) : Nat → Nat → Int32 := va_up I a (va_up (I a) j v)
def stJ (J : Nat → Nat → Int64) (a j : Nat) (v : Int64) : Nat → Nat → Int64 := va_up J a (va_up (J a) j v)
def stP (P : Nat → Nat → Option Nat) (a j : Nat) (v : Option Nat) : Nat → Nat → Option Nat := va_up P a (va_up (P a) j v)
def strTab : List (String × Nat × String × Nat) := [("ChaletRule$Reader", 80, "chalet", 0), ("ChaletRule$Reader", 89, "weather", 1), ("ChaletRule$Reader", 94, "vent", 2), ("ChaletRule$Reader", 108, "plan", 3), ("ChaletRule$Reader", 116, "saw", 4), ("ChaletRule$Reader", 124, "field", 5), ("ChaletRule$Reader", 242, "ditch", 6), ("ChaletRule$Reader", 138, "damp", 7), ("ChaletRule$Reader", 152, "wood", 8), ("ChaletRule$Reader", 156, "oil", 9), ("ChaletRule$Reader", 160, "gust", 10), ("ChaletRule$Reader", 164, "wet", 11), ("ChaletRule$Reader", 168, "fine", 12), ("ChaletRule$Reader", 183, "costs", 13), ("ChaletRule$Reader", 189, "on", 14), ("ChaletRule$Reader", 191, "worth", 15), ("ChaletRule$Reader", 193, "day", 16), ("ChaletRule$Reader", 226, "none", 17), ("ChaletRule$Reader", 228, "he", 18), ("ChaletRule$Reader", 230, "she", 19), ("ChaletRule$Reader", 232, "both", 20), ("ChaletRule$Reader", 214, "carries", 21), ("ChaletRule", 312, "no such plan was kept", 22), ("ChaletRuleModel", 129, "chalet", 0), ("ChaletRuleModel", 219, "damp", 7), ("ChaletRuleModel", 225, "wood", 8), ("ChaletRuleModel", 227, "oil", 9), ("ChaletRuleModel", 229, "gust", 10), ("ChaletRuleModel", 131, "weather", 1), ("ChaletRuleModel", 164, "wet", 11), ("ChaletRuleModel", 166, "fine", 12), ("ChaletRuleModel", 133, "vent", 2), ("ChaletRuleModel", 135, "plan", 3), ("ChaletRuleModel", 137, "saw", 4), ("ChaletRuleModel", 139, "field", 5), ("ChaletRuleModel", 141, "ditch", 6), ("ChaletRuleModel", 237, "costs", 13), ("ChaletRuleModel", 239, "on", 14), ("ChaletRuleModel", 241, "worth", 15), ("ChaletRuleModel", 243, "day", 16), ("ChaletRuleModel", 245, "none", 17), ("ChaletRuleModel", 247, "he", 18), ("ChaletRuleModel", 249, "she", 19), ("ChaletRuleModel", 251, "both", 20), ("ChaletRuleModel", 256, "carries", 21)]
def nStr : Nat := 23
def lenS : List Nat := [6, 7, 4, 4, 3, 5, 5, 4, 4, 3, 4, 3, 4, 5, 2, 5, 3, 4, 2, 3, 4, 7, 21]
def bytS : List (List Int32) := [[99, 104, 97, 108, 101, 116], [119, 101, 97, 116, 104, 101, 114], [118, 101, 110, 116], [112, 108, 97, 110], [115, 97, 119], [102, 105, 101, 108, 100], [100, 105, 116, 99, 104], [100, 97, 109, 112], [119, 111, 111, 100], [111, 105, 108], [103, 117, 115, 116], [119, 101, 116], [102, 105, 110, 101], [99, 111, 115, 116, 115], [111, 110], [119, 111, 114, 116, 104], [100, 97, 121], [110, 111, 110, 101], [104, 101], [115, 104, 101], [98, 111, 116, 104], [99, 97, 114, 114, 105, 101, 115], [110, 111, 32, 115, 117, 99, 104, 32, 112, 108, 97, 110, 32, 119, 97, 115, 32, 107, 101, 112, 116]]
/-- where a static field lies, its class's statics cell in H -/
def vx_L (C n d : String) (A : Nat → Prop) (U : State) (H : Heap) : Prop := ∃ (c : ClassId) (k : Class) (i : Nat) (f : Field) (a : Nat) (cell : Cell), U.vm.findClass C = some c ∧ U.fieldFound? C n d = some (c, k, i, f) ∧ f.isStatic = true ∧ k.statics = some a ∧ H[a]? = some cell ∧ cell.vm.isStatics = true ∧ cell.cls = c ∧ f.slot < cell.slots.size ∧ k.staticTypes[f.slot]? = some f.type ∧ ¬ A a
theorem vx_L.moved {C n d : String} {A : Nat → Prop} {u U : State} {H : Heap} (hvm : u.vm.Alike U.vm) (h : vx_L C n d A u H) : vx_L C n d A U H := by
  obtain ⟨c, k, i, f, a, cell, h1, h2, h3, h4, h5, h6, h7, h8, h9, h10⟩ := h
  obtain ⟨k', hi', he⟩ := State.fieldFound?_setVm hvm h2
  exact ⟨c, k', i, f, a, cell, by rw [hvm.findClass]; exact h1, hi', h3, by rw [he]; exact h4, h5, h6, h7, h8, by rw [he]; exact h9, h10⟩
theorem vx_L.kept {C n d : String} {A : Nat → Prop} {U : State} {H H1 : Heap} (h : vx_L C n d A U H) (hq : ∀ a : Nat, a < H.size → ¬ A a → H1[a]? = H[a]?) : vx_L C n d A U H1 := by
  obtain ⟨c, k, i, f, a, cell, h1, h2, h3, h4, h5, h6, h7, h8, h9, h10⟩ := h
  exact ⟨c, k, i, f, a, cell, h1, h2, h3, h4, by rw [hq a (Array.getElem?_eq_some_iff.mp h5).1 h10]; exact h5, h6, h7, h8, h9, h10⟩
theorem vx_L.narrow {C n d : String} {A B : Nat → Prop} {U : State} {H : Heap} (h : vx_L C n d A U H) (hAB : ∀ q, B q → A q) : vx_L C n d B U H := by
  obtain ⟨c, k, i, f, a, cell, h1, h2, h3, h4, h5, h6, h7, h8, h9, h10⟩ := h
  exact ⟨c, k, i, f, a, cell, h1, h2, h3, h4, h5, h6, h7, h8, h9, fun z => h10 (hAB _ z)⟩
theorem vx_L.word {C n d : String} {A : Nat → Prop} {s : State} {args : Array Value} (h : vx_L C n d A s s.heap) : (Cond.laysStatic C n d).before args s = true := by
  obtain ⟨c, k, i, f, a, cell, h1, h2, h3, h4, h5, h6, h7, h8, h9, -⟩ := h
  show (Cond.laysStatic C n d).holds args s none s [] = true
  exact Cond.laysStatic_of h1 h2 h3 h4 h5 h6 h7 h8 h9
/-- .. and what it holds: null or some reference -/
def vx_Zq (C n d : String) (A : Nat → Prop) (U : State) (H : Heap) : Prop := va_Zq C n d A U H ∧ vx_L C n d A U H
theorem vx_Zq.moved {C n d : String} {A : Nat → Prop} {u U : State} {H : Heap} (hvm : u.vm.Alike U.vm) (h : vx_Zq C n d A u H) : vx_Zq C n d A U H := ⟨va_Zq.moved hvm h.1, vx_L.moved hvm h.2⟩
theorem vx_Zq.kept {C n d : String} {A : Nat → Prop} {U : State} {H H1 : Heap} (h : vx_Zq C n d A U H) (hq : ∀ a : Nat, a < H.size → ¬ A a → H1[a]? = H[a]?) : vx_Zq C n d A U H1 := ⟨va_Zq.kept h.1 hq, vx_L.kept h.2 hq⟩
theorem vx_Zq.narrow {C n d : String} {A B : Nat → Prop} {U : State} {H : Heap} (h : vx_Zq C n d A U H) (hAB : ∀ q, B q → A q) : vx_Zq C n d B U H := ⟨va_Zq.narrow h.1 hAB, vx_L.narrow h.2 hAB⟩
theorem vx_Zqof {args : Array Value} {s : State} {C n d : String} {A : Nat → Prop} (hl : (Cond.laysStatic C n d).before args s = true) (hini : (Cond.initialized C).before args s = true) (h : (Cond.isRef (.static C n d)).before args s = true) (hA : ∀ a : Nat, a < s.heap.size → ¬ A a) : vx_Zq C n d A s s.heap := by
  refine ⟨va_Zqof hl hini h hA, ?_⟩
  obtain ⟨c, k, i, f, a, cell, h1, h2, h3, h4, h5, h6, h7, h8, h9⟩ := Cond.laysStatic_spec hl
  exact ⟨c, k, i, f, a, cell, h1, h2, h3, h4, h5, h6, h7, h8, h9, hA a (Array.getElem?_eq_some_iff.mp h5).1⟩
def EnvAt (k : KT) (U : State) (H : Heap) : Prop := va_K (kD k) classes (tys k) U ∧ vk_S nStr lenS bytS (adK k) (adV k) (AA k) U H ∧ (∀ q ∈ strTab, vk_R q.1 q.2.1 q.2.2.1 (adK k q.2.2.2) U) ∧ va_Z "java/lang/String" "COMPACT_STRINGS" "Z" (.int 1) (AA k) U H ∧ va_X (kS k).1 (kS k).2.1 (kS k).2.2 U H ∧ (kS k).1 < kB k ∧ kB k ≤ H.size ∧ va_Nw (.methodLinkNest RX6 219 mX10_within.1 "ChaletRule") U ∧ (va_Nw (.methodLinkNest RX9 81 mX10_within.1 "ChaletRule") U ∧ va_Nw (.methodLinkNest RX5 31 mX10_within.1 "ChaletRule") U) ∧ va_Zq "jdk/internal/util/Preconditions" "SIOOBE_FORMATTER" "Ljava/util/function/BiFunction;" (AA k) U H ∧ va_AO RX0 U ∧ vx_Zq Bundle.tN "UNASSIGNED_STACK" Bundle.steD (AA k) U H ∧ vx_Zq Bundle.tN "SUPPRESSED_SENTINEL" Bundle.listD (AA k) U H ∧ va_Nw (.declares ⟨"java/lang/RuntimeException", "<init>", "(Ljava/lang/String;)V"⟩) U ∧ va_Nw (.declares ⟨"java/lang/Exception", "<init>", "(Ljava/lang/String;)V"⟩) U ∧ va_Nw (.declares ⟨"java/lang/Throwable", "<init>", "(Ljava/lang/String;)V"⟩) U ∧ va_Nw (.castable "java/util/NoSuchElementException" "java/util/NoSuchElementException") U
theorem EnvAt.kept {k : KT} {U : State} {H H1 : Heap} (h : EnvAt k U H) (hz : H.size ≤ H1.size) (hq : ∀ a : Nat, a < H.size → ¬ AA k a → H1[a]? = H[a]?) : EnvAt k U H1 := by
  obtain ⟨h1, h2, h3, h4, h5, h6, h7, h8, h9, h10, h11, h12, h13, h14, h15, h16, h17⟩ := h
  refine ⟨h1, h2.kept hq, h3, h4.kept hq, h5.kept (hq _ (by omega) (fun q => ?_)), h6, by omega, h8, h9, h10.kept hq, h11, h12.kept hq, h13.kept hq, h14, h15, h16, h17⟩
  unfold AA at q
  omega
theorem EnvAt.warm {k : KT} {s U : State} {H : Heap} (hW : s.WarmedH U.vm) (h : EnvAt k s H) : EnvAt k U H := by
  obtain ⟨h1, h2, h3, h4, h5, h6, h7, h8, h9, h10, h11, h12, h13, h14, h15, h16, h17⟩ := h
  exact ⟨va_K.moved hW.alike h1, h2.moved hW.alike, fun q hq => (h3 q hq).warm hW, h4.moved hW.alike, h5.moved hW.alike, h6, h7, va_Nw.warmM hW h8, ⟨va_Nw.warmM hW h9.1, va_Nw.warmM hW h9.2⟩, h10.moved hW.alike, h11.moved hW.alike, h12.moved hW.alike, h13.moved hW.alike, va_Nw.warmD hW h14, va_Nw.warmD hW h15, va_Nw.warmD hW h16, va_Nw.warmC hW h17⟩
theorem EnvAt.same {k : KT} {s U : State} {H : Heap} (hv : U.vm = s.vm) (h : EnvAt k s H) : EnvAt k U H := by
  obtain ⟨h1, h2, h3, h4, h5, h6, h7, h8, h9, h10, h11, h12, h13, h14, h15, h16, h17⟩ := h
  have ha : s.vm.Alike U.vm := by rw [hv]; exact Vm.Alike.refl s.vm
  exact ⟨va_K.moved ha h1, h2.moved ha, fun q hq => (h3 q hq).same hv, h4.moved ha, h5.moved ha, h6, h7, va_Nw.same rfl hv.symm h8, ⟨va_Nw.same rfl hv.symm h9.1, va_Nw.same rfl hv.symm h9.2⟩, h10.moved ha, h11.moved ha, h12.moved ha, h13.moved ha, va_Nw.same rfl hv.symm h14, va_Nw.same rfl hv.symm h15, va_Nw.same rfl hv.symm h16, va_Nw.same rfl hv.symm h17⟩
def Fix (k : KT) (mi : MI) (p : Program) (s : State) (m : MethodId) (args : Array Value) (meth : Method) (c : Code) : Prop := p.tables.exec = Jvm.exec ∧ c.code = cd mi ∧ c.maxLocals = mxl mi ∧ s.vm.findClass mi.1.cls = some m.cls ∧ (∀ w ∈ BIG, w.before args s = true) ∧ meth.sig.returnType = rty mi ∧ meth.locks = false ∧ meth.name = mi.1.name ∧ EnvAt k s s.heap
abbrev FinT : Type := State → Array Value → List Frame → State → Prop
def tol : Nat → List (Option Value) → List (Nat × Value)
  | _, [] => []
  | i, some v :: r => (i, v) :: tol (i + 1) r
  | i, none :: r => tol (i + 1) r
def lvh (ls : Array Slot) (n : Nat) (vs : List (Option Value)) : Prop := lv_has ls n (tol 0 vs) ∧ vs.length = n
def G (k : KT) (mi : MI) (R : Room) (F : FinT) (nc ns pc : Nat) (vs : List (Option Value)) (st : List Value) (M : MM) : Prop :=
  ∀ (p : Program) (e : Env) (s : State) (m : MethodId) (args : Array Value) (below : List Frame) (meth : Method) (c : Code) (H : Heap) (locs : List Loc) (ls : Array Slot), Fix k mi p s m args meth c → va_S (AA k) s.heap H locs → Rel k M H → (M.2.1 = true → s.heap.size + nc = kB k + M.1) → lvh ls (mxl mi) vs → W p (kL k) e R s m args below meth c H locs nc ns (F s args below) (F0 m pc ls st)
def Pcc (k : KT) (as : List Value) (M : MM) : Array Value → State → Prop := fun a U => a = as.toArray ∧ EnvAt k U U.heap ∧ Rel k M U.heap ∧ (M.2.1 = true → U.heap.size = kB k + M.1)
def Qcc (k : KT) (Q : Option Value → MM → Prop) : Array Value → State → Outcome → State → Prop := fun _ st oc t => ∃ (v : Option Value) (M' : MM), oc = .returned v ∧ Q v M' ∧ Rel k M' t.heap ∧ (M'.2.1 = true → t.heap.size = kB k + M'.1) ∧ va_F (AA k) st t
def roomOf (d mc ms : Nat) : Room := { frames := d, cells := mc, slots := ms, locals := 48 * d }
def Ct (k : KT) (mi : MI) (d mc ms : Nat) (as : List Value) (M : MM) (Q : Option Value → MM → Prop) : Prop := Met (kL k) mi.1 (wsOf mi) (roomOf d mc ms) (Pcc k as M) (Qcc k Q) mc ms (AA k)
def FinM (k : KT) (Q : Option Value → MM → Prop) (mc ms : Nat) : FinT := fun s args below => MQ below (Qcc k Q) args s mc ms (AA k)
theorem tol_mem {q : Nat × Value} : ∀ {vs : List (Option Value)} {i : Nat}, q ∈ tol i vs ↔ ∃ j, vs[j]? = some (some q.2) ∧ q.1 = i + j
  | [], i => by simp [tol]
  | some v :: r, i => by
    simp only [tol, List.mem_cons, tol_mem (vs := r) (i := i + 1)]
    constructor
    · rintro (h | ⟨j, h1, h2⟩)
      · subst h; exact ⟨0, rfl, rfl⟩
      · exact ⟨j + 1, h1, by omega⟩
    · rintro ⟨j, h1, h2⟩
      cases j with
      | zero =>
        left
        simp at h1
        rw [h1]
        exact Prod.ext h2 rfl
      | succ j => exact Or.inr ⟨j, h1, by omega⟩
  | none :: r, i => by
    simp only [tol, tol_mem (vs := r) (i := i + 1)]
    constructor
    · rintro ⟨j, h1, h2⟩
      exact ⟨j + 1, h1, by omega⟩
    · rintro ⟨j, h1, h2⟩
      cases j with
      | zero => simp at h1
      | succ j => exact ⟨j, h1, by omega⟩
theorem lv_mono {ls : Array Slot} {n : Nat} {l l' : List (Nat × Value)} (h : lv_has ls n l) (hs : ∀ q ∈ l', q ∈ l) : lv_has ls n l' := ⟨h.1, h.2.1, fun q hq => h.2.2 q (hs q hq)⟩
theorem lvh_get {ls : Array Slot} {n i : Nat} {vs : List (Option Value)} {v : Value} (h : lvh ls n vs) (hv : vs[i]? = some (some v)) : ls[i]? = some (.val v) := h.1.2.2 (i, v) (tol_mem.mpr ⟨i, hv, by omega⟩)
def okp (vs : List (Option Value)) (i : Nat) : Prop := ∀ v, i ≠ 0 → vs[i - 1]? = some (some v) → v.category = 1
theorem lvh_set1 {ls : Array Slot} {n i : Nat} {vs : List (Option Value)} {v : Value} (hl : vs.length = n) (hp : okp vs i) (h : lv_has ls n ((i, v) :: (tol 0 vs).filter (fun q => !(q.1 == i) && !(q.1 + 1 == i && q.2.category == 2)))) : lvh ls n (vs.set i (some v)) := by
  refine ⟨lv_mono h fun q hq => ?_, by simp [hl]⟩
  obtain ⟨j, h1, h2⟩ := tol_mem.mp hq
  by_cases hj : i = j
  · subst hj
    rw [List.getElem?_set] at h1
    simp at h1
    have e : q = (i, v) := Prod.ext (by omega) h1.2.symm
    rw [e]
    exact List.mem_cons_self
  · rw [List.getElem?_set_ne hj] at h1
    refine List.mem_cons_of_mem _ (List.mem_filter.mpr ⟨tol_mem.mpr ⟨j, h1, h2⟩, ?_⟩)
    have e1 : (q.1 == i) = false := by simp; omega
    have e2 : (q.1 + 1 == i && q.2.category == 2) = false := by
      by_cases hq : q.1 + 1 = i
      · have := hp q.2 (by omega) (by rw [show i - 1 = j by omega]; exact h1)
        simp [this]
      · simp [hq]
    simp [e1, e2]
theorem lvh_set2 {ls : Array Slot} {n i : Nat} {vs : List (Option Value)} {v : Value} (hl : vs.length = n) (hp : okp vs i) (h : lv_has ls n ((i, v) :: (tol 0 vs).filter (fun q => !(q.1 == i) && (!(q.1 == i + 1) && !(q.1 + 1 == i && q.2.category == 2))))) : lvh ls n ((vs.set i (some v)).set (i + 1) none) := by
  refine ⟨lv_mono h fun q hq => ?_, by simp [hl]⟩
  obtain ⟨j, h1, h2⟩ := tol_mem.mp hq
  by_cases hj1 : i + 1 = j
  · subst hj1
    rw [List.getElem?_set] at h1
    simp at h1
  · rw [List.getElem?_set_ne hj1] at h1
    by_cases hj : i = j
    · subst hj
      rw [List.getElem?_set] at h1
      simp at h1
      have e : q = (i, v) := Prod.ext (by omega) h1.2.symm
      rw [e]
      exact List.mem_cons_self
    · rw [List.getElem?_set_ne hj] at h1
      refine List.mem_cons_of_mem _ (List.mem_filter.mpr ⟨tol_mem.mpr ⟨j, h1, h2⟩, ?_⟩)
      have e1 : (q.1 == i) = false := by simp; omega
      have e3 : (q.1 == i + 1) = false := by simp; omega
      have e2 : (q.1 + 1 == i && q.2.category == 2) = false := by
        by_cases hq : q.1 + 1 = i
        · have := hp q.2 (by omega) (by rw [show i - 1 = j by omega]; exact h1)
          simp [this]
        · simp [hq]
      simp [e1, e2, e3]
theorem Rel.congr {k : KT} {M M' : MM} {H : Heap} (hN : M'.1 = M.1) (he : ∀ a, sg a < M.1 → enc k M' a = enc k M a) (h : Rel k M H) : Rel k M' H := by
  have e : wl k M' = wl k M := by
    unfold wl
    rw [hN]
    exact List.map_congr_left fun p hp => by rw [he (gs p) (by rw [sg_gs]; exact List.mem_range.mp hp)]
  unfold Rel
  rw [e, hN]
  exact h
