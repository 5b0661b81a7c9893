/-! ===== led: the plans kept, one after the other ===== -/
def ledS (q : Nat → Bool) (x : Int32) : Nat → Nat → Nat → Option Nat
  | 0, _, _ => none
  | r + 1, j, c => if q j = true then (if nI c = x then some j else ledS q x r (j + 1) (c + 1)) else ledS q x r (j + 1) c
theorem ledS_congr {q q' : Nat → Bool} {x : Int32} {P : Nat} (h : ∀ j, j < P → q j = q' j) : ∀ r j c, j + r = P → ledS q x r j c = ledS q' x r j c := by
  intro r
  induction r with
  | zero => intro j c _; rfl
  | succ r ih =>
    intro j c hj
    rw [ledS, ledS, h j (by omega), ih (j + 1) (c + 1) (by omega), ih (j + 1) c (by omega)]
def ledA : Option Nat → Int32
  | none => 0
  | some y => nI y
def ledT : Option Nat → Int32
  | none => 1
  | some _ => 0
theorem m_led_lp {K : Mm} {r v b : Vc} {wood x : Int32} (h14 : ¬ K 65 14 = 0) (h68 : K 68 = r) (h70 : K 70 = v) (hb : RB r) (hB : BR r wood 999 b v) : ∀ (n j c f : Nat), j + n = (r 6).toNatClampNeg → n < f → lp_X11_led_4 x f (nI c) (nI j) K = (ledA (ledS (kb r b) x n j c), st2 K 65 0 (ledT (ledS (kb r b) x n j c))) ∧ oklp_X11_led_4 x f (nI c) (nI j) K := by
  have hP := hb.nP
  have e4 : b 6 = v 4 := hB.days.1
  intro n
  induction n with
  | zero =>
    intro j c f hj hf
    obtain ⟨f, rfl⟩ : ∃ g, f = g + 1 := ⟨f - 1, by omega⟩
    have z : r 6 ≤ nI j := by rw [hP.1]; exact nI_le (by omega) (by omega)
    rw [lp_X11_led_4, oklp_X11_led_4, h68, if_neg h14, if_neg h14, if_pos z, if_pos z]
    exact ⟨rfl, True.intro⟩
  | succ n ih =>
    intro j c f hj hf
    obtain ⟨f, rfl⟩ : ∃ g, f = g + 1 := ⟨f - 1, by omega⟩
    have z : ¬ r 6 ≤ nI j := by rw [hP.1]; exact nI_ge (by omega) (by omega)
    have vv : vp_in (25 + 3 * nI j) (sz 68) := by rw [i25, show sz 68 = 224 from by decide +kernel]; exact vp_in_nI (by omega) (by omega)
    have kj := kept_bit hB (k := j) (by omega)
    rw [lp_X11_led_4, oklp_X11_led_4, h68, h70, if_neg h14, if_neg h14, if_neg z, if_neg z, i25, nI_clamp (by omega), nI_1, nI_1, hb_eq K (v 6) (k := j) (by omega), kj, ledS]
    rw [i25] at vv
    by_cases d : v 4 ≤ r (25 + 3 * j)
    · have kf : ¬ kb r b j = true := by
        intro h
        simp only [kb, Bool.and_eq_true, decide_eq_true_eq] at h
        have h1 := h.1
        rw [e4] at h1
        have h2 := Int32.le_iff_toInt_le.mp d
        omega
      rw [if_pos d, if_pos d, if_neg kf]
      have kk := ih (j + 1) c f (by omega) (by omega)
      exact ⟨kk.1, vv, kk.2⟩
    · rw [if_neg d, if_neg d]
      by_cases q : kb r b j = true
      · simp only [if_pos q]
        by_cases e : nI c = x
        · simp only [if_pos e]
          exact ⟨rfl, vv, True.intro⟩
        · simp only [if_neg e]
          have kk := ih (j + 1) (c + 1) f (by omega) (by omega)
          exact ⟨kk.1, vv, kk.2⟩
      · simp only [if_neg q]
        have kk := ih (j + 1) c f (by omega) (by omega)
        exact ⟨kk.1, vv, kk.2⟩
theorem led_model {I : Mm} {w : Bool} (h : Core I w) (x : Int32) : f_X11_led I x = ledA (ledS (kb (I 68) (I 23)) x (I 68 6).toNatClampNeg 0 0) ∧ m_X11_led I x = st2 I 65 0 (ledT (ledS (kb (I 68) (I 23)) x (I 68 6).toNatClampNeg 0 0)) ∧ ok_X11_led I x := by
  have hb := h.1
  have hB := h.2.2.2.2.2.2.1
  have hP := hb.nP
  rw [f_X11_led, m_X11_led, ok_X11_led, opv_eq, opv_eq, opv_eq]
  by_cases c0 : I 65 14 = 0
  · have z6 : I 68 6 = 0 := (h.2.2.2.2.2.2.2.2.2.1 (h.2.2.2.1.1.trans c0)).1 6 (by omega)
    have e : (I 68 6).toNatClampNeg = 0 := by rw [z6]; rfl
    rw [e, lp_X11_led_4, oklp_X11_led_4, if_pos c0, if_pos c0]
    exact ⟨rfl, rfl, True.intro⟩
  · have k := m_led_lp (x := x) c0 rfl rfl hb hB (I 68 6).toNatClampNeg 0 0 (mu_up (I 68 6) 0 + 1) (by omega) (by
      have e : mu_up (I 68 6) 0 = (I 68 6).toNatClampNeg := by
        have := mu_up_nI (n := (I 68 6).toNatClampNeg) (j := 0) (by omega) (by omega)
        rw [← hP.1] at this
        exact this
      omega)
    rw [nI_0] at k
    rw [k.1]
    exact ⟨rfl, rfl, k.2⟩
theorem led_class {I : Mm} {w : Bool} (h : Core I w) (x : Int32) : ledS (fun j => f_X8_isKept I (td w) (nI j) 23) x (I 68 6).toNatClampNeg 0 0 = ledS (kb (I 68) (I 23)) x (I 68 6).toNatClampNeg 0 0 :=
  ledS_congr (P := (I 68 6).toNatClampNeg) (fun j hj => isKept_eq h.2.1 h.1 hj) _ 0 0 (by omega)
theorem i_sub0 (x y : Int32) : x - y = 0 ↔ y = x := by
  constructor
  · intro h
    have e : x - y + y = 0 + y := by rw [h]
    rw [Int32.sub_add_cancel, Int32.zero_add] at e
    exact e.symm
  · intro h
    rw [h, Int32.sub_self]
theorem i_dec (x : Int32) (c : Nat) : x - nI c + Int32.ofInt (-1) = x - nI (c + 1) := by
  rw [← nI_1, show Int32.ofInt (-1) = -1 from rfl]
  grind
