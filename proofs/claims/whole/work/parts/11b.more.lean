def Wk : List (Option Value) → List (Option Value) → Prop
  | [], [] => True
  | none :: r', _ :: r => Wk r' r
  | some v :: r', o :: r => o = some v ∧ Wk r' r
  | _, _ => False
theorem wk0 : Wk [] [] := trivial
theorem wkn {o : Option Value} {r' r : List (Option Value)} (h : Wk r' r) : Wk (none :: r') (o :: r) := h
theorem wks {v : Value} {r' r : List (Option Value)} (h : Wk r' r) : Wk (some v :: r') (some v :: r) := ⟨rfl, h⟩
theorem wk_len : ∀ {r' r : List (Option Value)}, Wk r' r → r'.length = r.length
  | [], [], _ => rfl
  | none :: r', _ :: r, h => by simp only [Wk] at h; simp [wk_len h]
  | some v :: r', o :: r, h => by simp only [Wk] at h; simp [wk_len h.2]
  | [], _ :: _, h => by simp [Wk] at h
  | none :: _, [], h => by simp [Wk] at h
  | some _ :: _, [], h => by simp [Wk] at h
theorem wk_at : ∀ {r' r : List (Option Value)} {i : Nat} {v : Value}, Wk r' r → r'[i]? = some (some v) → r[i]? = some (some v)
  | [], [], _, _, _, h => by simp at h
  | none :: r', _ :: r, i, v, h, h2 => by
    simp only [Wk] at h
    cases i with
    | zero => simp at h2
    | succ i => simp at h2 ⊢; exact wk_at h h2
  | some u :: r', o :: r, i, v, h, h2 => by
    simp only [Wk] at h
    cases i with
    | zero => simp at h2 ⊢; rw [h.1, h2]
    | succ i => simp at h2 ⊢; exact wk_at h.2 h2
  | [], _ :: _, _, _, h, _ => by simp [Wk] at h
  | none :: _, [], _, _, h, _ => by simp [Wk] at h
  | some _ :: _, [], _, _, h, _ => by simp [Wk] at h
theorem G.weak {k : KT} {mi : MI} {R : Room} {F : FinT} {nc ns pc : Nat} {vs vs' : List (Option Value)} {st : List Value} {M : MM} (hw : Wk vs' vs) (h : G k mi R F nc ns pc vs' st M) : G k mi R F nc ns pc vs st M := by
  intro p e s m args below meth c H locs ls hF hS hR hX hl
  refine h p e s m args below meth c H locs ls hF hS hR hX ⟨lv_mono hl.1 fun q hq => ?_, by rw [wk_len hw]; exact hl.2⟩
  obtain ⟨j, h1, h2⟩ := tol_mem.mp hq
  exact tol_mem.mpr ⟨j, wk_at hw h1, h2⟩
/-- how far a counter is below its end -/
noncomputable def opv {α : Type} (x : α) : α := Classical.choose (⟨x, rfl⟩ : ∃ y, y = x)
theorem opv_eq {α : Type} (x : α) : opv x = x := Classical.choose_spec (⟨x, rfl⟩ : ∃ y, y = x)
noncomputable def opq (n : Nat) : Nat := Classical.choose (⟨n, rfl⟩ : ∃ m, m = n)
theorem opq_eq (n : Nat) : opq n = n := Classical.choose_spec (⟨n, rfl⟩ : ∃ m, m = n)
noncomputable def mu_up (E i : Int32) : Nat := opq (E.toInt - i.toInt).toNat
noncomputable def mu_le (E i : Int32) : Nat := opq (E.toInt + 1 - i.toInt).toNat
theorem i32_succ {i E : Int32} (h : i.toInt < E.toInt) : (i + 1).toInt = i.toInt + 1 := by
  have h1 := Int32.toInt_lt E
  have h2 := Int32.le_toInt i
  rw [Int32.toInt_add]
  have e : (1 : Int32).toInt = 1 := by decide
  rw [e]
  unfold Int.bmod
  simp
  omega
theorem mu_up_lt {E i : Int32} (h : ¬ E ≤ i) : mu_up E (i + 1) < mu_up E i := by
  have h1 : i.toInt < E.toInt := by
    have : ¬ E.toInt ≤ i.toInt := fun q => h (Int32.le_iff_toInt_le.mpr q)
    omega
  unfold mu_up
  rw [opq_eq, opq_eq, i32_succ h1]
  omega
theorem i32_succ' {i : Int32} (h : i.toInt < 2147483647) : (i + 1).toInt = i.toInt + 1 := by
  have h2 := Int32.le_toInt i
  rw [Int32.toInt_add]
  have e : (1 : Int32).toInt = 1 := by decide
  rw [e]
  unfold Int.bmod
  simp
  omega
theorem mu_le_lt {E i : Int32} (hE : E.toInt < 2147483647) (h : ¬ E < i) : mu_le E (i + 1) < mu_le E i := by
  have h1 : i.toInt ≤ E.toInt := by
    have : ¬ E.toInt < i.toInt := fun q => h (Int32.lt_iff_toInt_lt.mpr q)
    omega
  unfold mu_le
  rw [opq_eq, opq_eq, i32_succ' (by omega)]
  omega
noncomputable def mu_dn (i : Int32) : Nat := opq (i.toInt + 1).toNat
theorem mu_dn_lt {i : Int32} (h : ¬ i < 0) : mu_dn (i + (-1)) < mu_dn i := by
  have h1 : 0 ≤ i.toInt := by
    have : ¬ i.toInt < (0 : Int32).toInt := fun q => h (Int32.lt_iff_toInt_lt.mpr q)
    have e : (0 : Int32).toInt = 0 := by decide
    omega
  have h2 := Int32.toInt_lt i
  have e : (i + (-1)).toInt = i.toInt - 1 := by
    rw [Int32.toInt_add]
    have e : (-1 : Int32).toInt = -1 := by decide
    rw [e]
    unfold Int.bmod
    simp
    omega
  unfold mu_dn
  rw [opq_eq, opq_eq, e]
  omega
theorem mu_dn_lt8 {i : Int32} (h : ¬ i < 0) : mu_dn (i + (-8)) < mu_dn i := by
  have h1 : 0 ≤ i.toInt := by
    have : ¬ i.toInt < (0 : Int32).toInt := fun q => h (Int32.lt_iff_toInt_lt.mpr q)
    have e : (0 : Int32).toInt = 0 := by decide
    omega
  have h2 := Int32.toInt_lt i
  have e : (i + (-8)).toInt = i.toInt - 8 := by
    rw [Int32.toInt_add]
    have e : (-8 : Int32).toInt = -8 := by decide
    rw [e]
    unfold Int.bmod
    simp
    omega
  unfold mu_dn
  rw [opq_eq, opq_eq, e]
  omega
theorem G.toI {k : KT} {mi : MI} {R : Room} {F : FinT} {nc ns pc : Nat} {vs : List (Option Value)} {st : List Value} {N : Nat} {ex : Bool} {I I' : Nat → Nat → Int32} {J : Nat → Nat → Int64} {P : Nat → Nat → Option Nat} (e : I' = I) (h : G k mi R F nc ns pc vs st (N, ex, I', J, P)) : G k mi R F nc ns pc vs st (N, ex, I, J, P) := e ▸ h
theorem G.toJ {k : KT} {mi : MI} {R : Room} {F : FinT} {nc ns pc : Nat} {vs : List (Option Value)} {st : List Value} {N : Nat} {ex : Bool} {I : Nat → Nat → Int32} {J J' : Nat → Nat → Int64} {P : Nat → Nat → Option Nat} (e : J' = J) (h : G k mi R F nc ns pc vs st (N, ex, I, J', P)) : G k mi R F nc ns pc vs st (N, ex, I, J, P) := e ▸ h
theorem G.toP {k : KT} {mi : MI} {R : Room} {F : FinT} {nc ns pc : Nat} {vs : List (Option Value)} {st : List Value} {N : Nat} {ex : Bool} {I : Nat → Nat → Int32} {J : Nat → Nat → Int64} {P P' : Nat → Nat → Option Nat} (e : P' = P) (h : G k mi R F nc ns pc vs st (N, ex, I, J, P')) : G k mi R F nc ns pc vs st (N, ex, I, J, P) := e ▸ h
theorem pw_swap (w : Bool) : Pw (!w) = stP (stP (Pw w) 0 3 (some (dr w))) 2 2 (some (td w)) := by
  funext a j
  by_cases h0 : a = 0
  · subst h0
    by_cases hj : j = 3
    · subst hj
      cases w <;> simp [Pw, rf, stP, va_up, dr, td]
    · simp [Pw, rf, stP, va_up, hj]
  · by_cases h2 : a = 2
    · subst h2
      by_cases hj : j = 2
      · subst hj
        cases w <;> simp [Pw, rf, stP, va_up, dr, td]
      · simp [Pw, rf, stP, va_up, hj]
    · simp [Pw, rf, stP, va_up, h0, h2]
theorem g_tcase {k : KT} {mi : MI} {R : Room} {F : FinT} {nc ns pc : Nat} {vs : List (Option Value)} {st : List Value} {M : MM} {dflt lo hi : Int} {offs : Array Int} {len : Nat} {x : Int32} {off : Int} (v : Int32) (tgt : Nat) (hd : decode (cd mi) pc = .ok (.tableswitch dflt lo hi offs, len)) (h1 : ¬ v.toInt < lo) (h2 : ¬ hi < v.toInt) (ho : offs[(v.toInt - lo).toNat]? = some off) (ht : (pc : Int) + off = (tgt : Int)) (he : x = v → G k mi R F nc ns tgt vs st M) (hn : ¬ x = v → G k mi R F nc ns pc vs (.int x :: st) M) : G k mi R F nc ns pc vs (.int x :: st) M := by
  by_cases h : x = v
  · subst h
    exact g_tableIn tgt hd h1 h2 ho ht (he rfl)
  · exact hn h
theorem sw_out {n : Nat} (hn : n < 2147483647) {x : Int32} (h : ∀ j, j ≤ n → ¬ x = nI j) : x.toInt < 0 ∨ (n : Int) < x.toInt := by
  rcases pk_ix x (n := n + 1) (by omega) with q | q | ⟨j, hj, rfl⟩
  · left
    have := Int32.lt_iff_toInt_lt.mp q
    simpa using this
  · right
    have := Int32.le_iff_toInt_le.mp q
    rw [nI_toInt (by omega)] at this
    omega
  · exact absurd rfl (h j (by omega))
theorem g_ialdv {k : KT} {mi : MI} {R : Room} {F : FinT} {nc ns pc : Nat} {vs : List (Option Value)} {st : List Value} {N : Nat} {ex : Bool} {I : Nat → Nat → Int32} {J : Nat → Nat → Int64} {P : Nat → Nat → Option Nat} {a : Nat} {i : Int32} (x : Int32) (hx : I a i.toNatClampNeg = x) (hd : decode (cd mi) pc = .ok (.iaload, 1)) (ha : kd a = 12) (hN : sg a < N) (hi : vp_in i (sz a)) (h : G k mi R F nc ns (pc + 1) vs (.int x :: st) (N, ex, I, J, P)) : G k mi R F nc ns pc vs (.int i :: .ref (ka k a) :: st) (N, ex, I, J, P) := by
  subst hx
  exact g_iald hd ha hN hi h
theorem g_iasts {k : KT} {mi : MI} {R : Room} {F : FinT} {nc ns pc : Nat} {vs : List (Option Value)} {st : List Value} {N : Nat} {ex : Bool} {I : Nat → Nat → Int32} {J : Nat → Nat → Int64} {P : Nat → Nat → Option Nat} {a : Nat} {i : Int32} {x : Int32} {n : Nat} (hn : i.toNatClampNeg = n) (hd : decode (cd mi) pc = .ok (.iastore, 1)) (ha : kd a = 12) (hN : sg a < N) (hi : vp_in i (sz a)) (h : G k mi R F nc ns (pc + 1) vs st (N, ex, st2 I a n x, J, P)) : G k mi R F nc ns pc vs (.int x :: .int i :: .ref (ka k a) :: st) (N, ex, I, J, P) := by
  subst hn
  exact g_iast hd ha hN hi h
theorem vp_c {x : Int32} {N : Nat} (h : decide (0 ≤ x.toInt ∧ x.toInt < (N : Int)) = true) : vp_in x N := vp_in_iff.mpr (of_decide_eq_true h)
theorem shl1_all : ∀ j, j < 32 → ((1 : Int32) <<< (nI j)).toInt ≤ 1073741824 := by decide +kernel
theorem shl1_le (x : Int32) : ((1 : Int32) <<< (x &&& 31)).toInt ≤ 1073741824 := by
  obtain ⟨j, hj, e⟩ := pk_andE x (m := 31) 5 (by decide)
  rw [e]
  exact shl1_all j hj
theorem mu_up_lt2 {E i : Int32} (hE : E.toInt ≤ 1073741824) (h : ¬ E ≤ i) : mu_up E (i + 2) < mu_up E i := by
  have h1 : i.toInt < E.toInt := by
    have : ¬ E.toInt ≤ i.toInt := fun q => h (Int32.le_iff_toInt_le.mpr q)
    omega
  have h2 := Int32.le_toInt i
  have e : (i + 2).toInt = i.toInt + 2 := by
    rw [Int32.toInt_add]
    have e : (2 : Int32).toInt = 2 := by decide
    rw [e]
    unfold Int.bmod
    simp
    omega
  unfold mu_up
  rw [opq_eq, opq_eq, e]
  omega
theorem st2_s (I : Nat → Nat → Int32) (a j : Nat) (v : Int32) : st2 I a j v a j = v := by simp [st2, va_up]
theorem st2_o (I : Nat → Nat → Int32) (a : Nat) {i j : Nat} (v : Int32) (h : j ≠ i) : st2 I a i v a j = I a j := by simp [st2, va_up, h]
theorem st2_a (I : Nat → Nat → Int32) {a b : Nat} {i j : Nat} (v : Int32) (h : b ≠ a) : st2 I a i v b j = I b j := by simp [st2, va_up, h]
theorem st2_sJ (I : Nat → Nat → Int64) (a j : Nat) (v : Int64) : stJ I a j v a j = v := by simp [stJ, va_up]
theorem st2_oJ (I : Nat → Nat → Int64) (a : Nat) {i j : Nat} (v : Int64) (h : j ≠ i) : stJ I a i v a j = I a j := by simp [stJ, va_up, h]
theorem st2_aJ (I : Nat → Nat → Int64) {a b : Nat} {i j : Nat} (v : Int64) (h : b ≠ a) : stJ I a i v b j = I b j := by simp [stJ, va_up, h]
theorem vu_a {α : Type} (I : Nat → Nat → α) {a b : Nat} (f : Nat → α) (h : b ≠ a) (j : Nat) : va_up I a f b j = I b j := by simp [va_up, h]
theorem ne_kd {a b c d : Nat} (ha : kd a = c) (hb : kd b = d) (h : c ≠ d) : a ≠ b := fun e => h (by rw [← ha, ← hb, e])
theorem g_getIv {k : KT} {mi : MI} {R : Room} {F : FinT} {nc ns pc : Nat} {vs : List (Option Value)} {st : List Value} {N : Nat} {ex : Bool} {I : Nat → Nat → Int32} {J : Nat → Nat → Int64} {P : Nat → Nat → Option Nat} {a : Nat} {idx ci j : Nat} {fin : Bool} {ty : FieldType} (x : Int32) (hx : I a j = x) (hf : FL mi.1.cls idx ci j fin ty) (hd : decode (cd mi) pc = .ok (.getfield idx, 3)) (ha : kd a = ci) (hN : sg a < N) (ht : ft ci j = 0) (h : G k mi R F nc ns (pc + 3) vs (.int x :: st) (N, ex, I, J, P)) : G k mi R F nc ns pc vs (.ref (ka k a) :: st) (N, ex, I, J, P) := by
  subst hx
  exact g_getI hf hd ha hN ht h
theorem g_getTv {k : KT} {mi : MI} {R : Room} {F : FinT} {nc ns pc : Nat} {vs : List (Option Value)} {st : List Value} {N : Nat} {ex : Bool} {I : Nat → Nat → Int32} {J : Nat → Nat → Int64} {P : Nat → Nat → Option Nat} {a : Nat} {idx ci j : Nat} {fin : Bool} {ty : FieldType} (x : Int32) (hx : I 0 1 = x) (hf : FL mi.1.cls idx ci j fin ty) (hd : decode (cd mi) pc = .ok (.getfield idx, 3)) (ha : kd a = ci) (hN : sg a < N) (ht : ft ci j = 3) (h : G k mi R F nc ns (pc + 3) vs (.int x :: st) (N, ex, I, J, P)) : G k mi R F nc ns pc vs (.ref (ka k a) :: st) (N, ex, I, J, P) := by
  subst hx
  exact g_getT hf hd ha hN ht h
theorem g_getJv {k : KT} {mi : MI} {R : Room} {F : FinT} {nc ns pc : Nat} {vs : List (Option Value)} {st : List Value} {N : Nat} {ex : Bool} {I : Nat → Nat → Int32} {J : Nat → Nat → Int64} {P : Nat → Nat → Option Nat} {a : Nat} {idx ci j : Nat} {fin : Bool} {ty : FieldType} (x : Int64) (hx : J a j = x) (hf : FL mi.1.cls idx ci j fin ty) (hd : decode (cd mi) pc = .ok (.getfield idx, 3)) (ha : kd a = ci) (hN : sg a < N) (ht : ft ci j = 1) (h : G k mi R F nc ns (pc + 3) vs (.long x :: st) (N, ex, I, J, P)) : G k mi R F nc ns pc vs (.ref (ka k a) :: st) (N, ex, I, J, P) := by
  subst hx
  exact g_getJ hf hd ha hN ht h
theorem kt14_all : (List.range 81).all (fun a => kd a != 14 || (List.range (sz a)).all (fun j => kd (rt a j) == 0)) = true := by decide +kernel
theorem kt14 {a : Nat} {i : Int32} (h : kd a = 14) (hi : vp_in i (sz a)) : kd (rt a i.toNatClampNeg) = 0 := by
  have h1 := List.all_eq_true.mp kt14_all a (List.mem_range.mpr (kd_lt h (by decide)))
  simp only [h, bne_self_eq_false, Bool.false_or] at h1
  have h2 := List.all_eq_true.mp h1 i.toNatClampNeg (List.mem_range.mpr (Nat.not_le.mp fun q => hi (Or.inr q)))
  simpa using h2
