def mbeg (r : Vc) (oil : Int32) : Vc := fun j => if j = 1 then r 10 else if j = 2 then oil else 0
def mrun (r : Vc) (wood : Int32) : Nat → Vc → Vc
  | 0, v => v
  | n + 1, v => mrun r wood n (mday r wood v)
def crun (r : Vc) : Nat → Vc → Vc
  | 0, b => b
  | n + 1, b => crun r n (cday r b)
theorem mrun_succ (r : Vc) (wood : Int32) : ∀ (n : Nat) (v : Vc), mrun r wood (n + 1) v = mday r wood (mrun r wood n v) := by
  intro n
  induction n with
  | zero => intro v; rfl
  | succ n ih => intro v; rw [mrun, ih (mday r wood v), mrun]
theorem crun_succ (r : Vc) : ∀ (n : Nat) (v : Vc), crun r (n + 1) v = cday r (crun r n v) := by
  intro n
  induction n with
  | zero => intro v; rfl
  | succ n ih => intro v; rw [crun, ih (cday r v), crun]
theorem run_rel {r : Vc} {wood : Int32} (hb : RB r) : ∀ (n D : Nat) (b v : Vc), D + n < 1000000 → BR r wood D b v → BR r wood (D + n) (crun r n b) (mrun r wood n v) := by
  intro n
  induction n with
  | zero => intro D b v hD h; exact h
  | succ n ih =>
    intro D b v hD h
    have := ih (D + 1) _ _ (by omega) (day_rel hb (by omega) h)
    rw [show D + (n + 1) = D + 1 + n by omega]
    exact this
def mout (r : Vc) (mk d : Nat) : Int32 := pwho (mrun r (nI (mk / 4)) (d + 1) (mbeg r (nI (mk % 4))))
def mgood (r : Vc) (mk : Nat) : Bool := (List.range (r 7).toNatClampNeg).all (fun k => decide (mout r mk (r (43 + 2 * k)).toNatClampNeg = r (43 + 2 * k + 1)))
def mlist (r : Vc) : List Nat := (List.range 40).filter (mgood r)
def MK (I : Mm) (r : Vc) : Prop := I 58 4 = 0 ∨ (I 58 4 = 1 ∧ I 58 0 = nI (mlist r).length ∧ ∀ i, i < (mlist r).length → I 59 i = nI ((mlist r).getD i 0))
def DR (I : Mm) (t : Nat) : Prop := I (t + 1) 0 = nI 4 ∧ I (t + 1) 1 = nI 3 ∧ I (t + 3) 0 = nI 6 ∧ I (t + 3) 1 = nI 3 ∧ I (t + 5) 0 = nI 5 ∧ I (t + 5) 1 = nI 2 ∧ I (t + 7) 0 = nI 9 ∧ I (t + 7) 1 = nI 3
def PR (I : Mm) (r : Vc) : Prop := I 24 0 = I 65 20 ∧ bw (I 24 0) 0 16 ∧ bw (I 24 2) 0 15 ∧ ∀ d, d < (I 24 0).toNatClampNeg → BR r (r 0) 999 (I (27 + ((I 24 2).toNatClampNeg + 15 - d) % 16)) (fun j => I 71 (7 * ((I 24 0).toNatClampNeg - 1 - d) + j))
def IR (I : Mm) (r : Vc) : Prop := I 24 1 = I 65 21 ∧ bw (I 24 1) 0 3 ∧ ∀ k, k < (I 24 1).toNatClampNeg → BR r (r 0) 999 (I (43 + k)) (fun j => I 72 (7 * k + j))
def TP (I : Mm) : Prop := I 0 1 = I 65 2 ∧ bw (I 0 1) 0 900 ∧ ∀ i, i < (I 0 1).toNatClampNeg → (I 1 i).toInt8.toInt32 = I 1 i ∧ I 66 i = I 1 i &&& 255
/-- both states, but for the refusal and its place -/
def Core (I : Mm) (w : Bool) : Prop := RB (I 68) ∧ TR I (I 68) (td w) ∧ DR I (dr w) ∧ (I 0 4 = I 65 14 ∧ (I 0 4 = 0 ∨ I 0 4 = 1)) ∧ TP I ∧ I 0 5 = I 65 9 ∧ BR (I 68) (I 68 0) 999 (I 23) (I 70) ∧ PR I (I 68) ∧ IR I (I 68) ∧ (I 0 4 = 0 → (∀ j, j < 10 → I 68 j = 0) ∧ I 70 4 = 0 ∧ I 65 20 = 0 ∧ I 65 21 = 0) ∧ MK I (I 68) ∧ I 65 34 = -1 ∧ I 51 0 = 0
def Sim : RelT := fun I _ w => Core I w ∧ I 0 7 = I 65 11 ∧ (I 0 7 = 4 → I 0 6 = I 65 10)
def kq (a j : Nat) : Bool := kp a j && !(a == 0 && j == 7) && !(a == 65 && j == 11)
theorem Core.congr {I I' : Mm} {w : Bool} (h : Core I w) (he : ∀ a j, kq a j = true → I' a j = I a j) : Core I' w := by
  have row : ∀ a, (∀ j, kq a j = true) → I' a = I a := fun a ha => funext fun j => he a j (ha j)
  have e68 := row 68 (fun _ => rfl)
  have e1 := row 1 (fun _ => rfl)
  have e66 := row 66 (fun _ => rfl)
  have e23 := row 23 (fun _ => rfl)
  have e24 := row 24 (fun _ => rfl)
  have e70 := row 70 (fun _ => rfl)
  have e71 := row 71 (fun _ => rfl)
  have e72 := row 72 (fun _ => rfl)
  have e59 := row 59 (fun _ => rfl)
  have told : ∀ a, 3 ≤ a → a ≤ 22 → a ≠ 12 → a ≠ 13 → I' a = I a := by
    intro a h1 h2 h3 h4
    refine row a fun j => ?_
    have e := kp_told h1 h2 h3 h4 j
    have n0 : (a == 0) = false := by simp; omega
    have n65 : (a == 65) = false := by simp; omega
    simp [kq, e, n0, n65]
  have bms : ∀ a, 27 ≤ a → a ≤ 45 → I' a = I a := by
    intro a h1 h2
    refine row a fun j => ?_
    have n0 : (a == 0) = false := by simp; omega
    have n65 : (a == 65) = false := by simp; omega
    have e : kp a j = true := by
      unfold kp
      rw [if_neg (by omega), if_neg (by omega), if_neg (by omega)]
      have : 14 ≤ a := by omega
      simp [this, h2]
    simp [kq, e, n0, n65]
  have a1 : I' 0 1 = I 0 1 := he 0 1 rfl
  have a4 : I' 0 4 = I 0 4 := he 0 4 rfl
  have a5 : I' 0 5 = I 0 5 := he 0 5 rfl
  have m2 : I' 65 2 = I 65 2 := he 65 2 rfl
  have m9 : I' 65 9 = I 65 9 := he 65 9 rfl
  have m14 : I' 65 14 = I 65 14 := he 65 14 rfl
  have m20 : I' 65 20 = I 65 20 := he 65 20 rfl
  have m21 : I' 65 21 = I 65 21 := he 65 21 rfl
  have k0 : I' 58 0 = I 58 0 := he 58 0 rfl
  have k4 : I' 58 4 = I 58 4 := he 58 4 rfl
  have m34 : I' 65 34 = I 65 34 := he 65 34 rfl
  have m51 : I' 51 0 = I 51 0 := he 51 0 rfl
  obtain ⟨h1, h2, h3, h4, h5, h6, h7, h8, h9, h10, h11, h12⟩ := h
  refine ⟨by rw [e68]; exact h1, by rw [e68]; exact h2.congr told, ?_, by rw [a4, m14]; exact h4, by unfold TP; rw [a1, m2, e1, e66]; exact h5, by rw [a5, m9]; exact h6, by rw [e68, e23, e70]; exact h7, ?_, ?_, by rw [a4, e68, e70, m20, m21]; exact h10, by unfold MK; rw [e68, k0, k4, e59]; exact h11, by rw [m34, m51]; exact h12⟩
  · unfold DR
    rcases dr_or w with q | q
    · rw [q] at h3 ⊢
      rw [told (3 + 1) (by omega) (by omega) (by omega) (by omega), told (3 + 3) (by omega) (by omega) (by omega) (by omega), told (3 + 5) (by omega) (by omega) (by omega) (by omega), told (3 + 7) (by omega) (by omega) (by omega) (by omega)]
      exact h3
    · rw [q] at h3 ⊢
      rw [told (14 + 1) (by omega) (by omega) (by omega) (by omega), told (14 + 3) (by omega) (by omega) (by omega) (by omega), told (14 + 5) (by omega) (by omega) (by omega) (by omega), told (14 + 7) (by omega) (by omega) (by omega) (by omega)]
      exact h3
  · unfold PR
    rw [e24, m20, e68, e71]
    refine ⟨h8.1, h8.2.1, h8.2.2.1, fun d hd => ?_⟩
    rw [bms _ (by omega) (by omega)]
    exact h8.2.2.2 d hd
  · unfold IR
    rw [e24, m21, e68, e72]
    refine ⟨h9.1, h9.2.1, fun k hk => ?_⟩
    have := (bw_nI (hi := 3) h9.2.1).2
    rw [bms _ (by omega) (by omega)]
    exact h9.2.2 k hk
theorem kq_kp {a j : Nat} (h : kq a j = true) : kp a j = true := by
  unfold kq at h
  simp only [Bool.and_eq_true] at h
  exact h.1.1
theorem Core.fr {I I' : Mm} {w : Bool} (h : Core I w) (hf : Fr I I') : Core I' w := h.congr fun a j hk => hf a j (kq_kp hk)
theorem Core.ref {I : Mm} {w : Bool} {x : Int32} (h : Core I w) : Core (st2 I 0 7 x) w := h.congr fun a j hk => by
  by_cases e : a = 0
  · subst e
    by_cases e2 : j = 7
    · subst e2; exact absurd hk (by decide)
    · exact st2_o _ _ _ e2
  · exact st2_a _ _ e
theorem Core.trb {I : Mm} {w : Bool} {x : Int32} (h : Core I w) : Core (st2 I 65 11 x) w := h.congr fun a j hk => by
  by_cases e : a = 65
  · subst e
    by_cases e2 : j = 11
    · subst e2; exact absurd hk (by decide)
    · exact st2_o _ _ _ e2
  · exact st2_a _ _ e
/-- a call that changes nothing but what is free, and the refusal -/
theorem Sim.done {I I1 I2 : Mm} {J J' : Nat → Nat → Int64} {w : Bool} {v : Int32} (h : Sim I J w) (h1 : Fr (st2 I 0 7 v) I1) (h2 : Fr (st2 I1 65 11 v) I2) (hv : v ≠ 4) : Sim I2 J' w := by
  refine ⟨(((h.1.ref (x := v)).fr h1).trb (x := v)).fr h2, ?_, fun q => absurd ?_ hv⟩
  · rw [h2 0 7 rfl, h2 65 11 rfl, st2_s, st2_a _ _ (by omega), h1 0 7 rfl, st2_s]
  · rw [h2 0 7 rfl, st2_a _ _ (by omega), h1 0 7 rfl, st2_s] at q
    exact q
/-- a call that changes nothing but what is free -/
theorem Sim.stay {I I1 I2 : Mm} {J J' : Nat → Nat → Int64} {w : Bool} (h : Sim I J w) (h1 : Fr I I1) (h2 : Fr I1 I2) : Sim I2 J' w := by
  have e := h1.trans h2
  refine ⟨h.1.fr e, ?_, ?_⟩
  · rw [e 0 7 rfl, e 65 11 rfl]; exact h.2.1
  · rw [e 0 7 rfl, e 0 6 rfl, e 65 10 rfl]; exact h.2.2
def inb (x lo hi : Int32) : Bool := if x < lo then false else (if hi < x then false else true)
theorem f_within (I : Mm) (x y z : Int32) : f_X10_within I x y z = inb x y z := by rw [f_X10_within, opv_eq, u0_X10_within, opv_eq]; rfl
theorem f_in (I : Mm) (x y z : Int32) : f_X11_in I x y z = inb x y z := by rw [f_X11_in, opv_eq, u0_X11_in, opv_eq]; rfl
def gv (h : Int32) (b : Bool) : Int32 := if h = 0 then 1 else (if b = true then 0 else 2)
theorem gv_4 (h : Int32) (b : Bool) : gv h b ≠ 4 := by
  unfold gv
  split
  · decide
  · split <;> decide
theorem m_refused (I : Mm) (b : Bool) : m_X10_refused I b = st2 I 0 7 (gv (I 0 4) b) := by
  rw [m_X10_refused, opv_eq, u0_X10_refused, opv_eq, gv]
  split <;> rfl
theorem f_refused (I : Mm) (b : Bool) : f_X10_refused I b = !(gv (I 0 4) b == 0) := by
  rw [f_X10_refused, opv_eq]
  have e : u0_X10_refused I b = st2 I 0 7 (gv (I 0 4) b) := by
    have := m_refused I b
    rw [m_X10_refused, opv_eq] at this
    exact this
  rw [e, st2_s]
  by_cases q : gv (I 0 4) b = 0
  · rw [if_pos q, q]; rfl
  · rw [if_neg q]
    have : (gv (I 0 4) b == 0) = false := by simp [q]
    rw [this]; rfl
theorem f_why (I : Mm) (x y z : Int32) : f_X11_why I x y z = gv (I 65 14) (inb x y z) := by
  rw [f_X11_why, opv_eq, u0_X11_why, opv_eq, f_in, gv]
def lv (h : Int32) (b : Bool) : Int32 := if h = 0 then 1 else (if b = true then 0 else 1)
theorem lv_4 (h : Int32) (b : Bool) : lv h b ≠ 4 := by
  unfold lv
  split
  · decide
  · split <;> decide
theorem m_lacks (I : Mm) (b : Bool) : m_X10_lacks I b = st2 I 0 7 (lv (I 0 4) b) := by
  rw [m_X10_lacks, opv_eq, u0_X10_lacks, opv_eq, lv]
  split
  · rfl
  · cases b <;> rfl
theorem f_lacks (I : Mm) (b : Bool) : f_X10_lacks I b = !(lv (I 0 4) b == 0) := by
  rw [f_X10_lacks, opv_eq, u0_X10_lacks, opv_eq, lv]
  split
  · rfl
  · cases b <;> rfl
theorem m_good (I : Mm) : m_X11_good I = st2 (st2 I 65 0 0) 65 11 0 := by rw [m_X11_good, opv_eq]
theorem good_row (I : Mm) {a : Nat} (h : a ≠ 65) : m_X11_good I a = I a := by rw [m_good, st2_orow _ _ _ h, st2_orow _ _ _ h]
theorem good_14 (I : Mm) : m_X11_good I 65 14 = I 65 14 := by rw [m_good, st2_o _ _ _ (by omega), st2_o _ _ _ (by omega)]
theorem good_2 (I : Mm) : m_X11_good I 65 2 = I 65 2 := by rw [m_good, st2_o _ _ _ (by omega), st2_o _ _ _ (by omega)]
theorem Fr.swap {I : Mm} {x y : Int32} : Fr (st2 I 65 11 y) (st2 (st2 I 65 0 x) 65 11 y) := by
  intro a j hk
  by_cases e : a = 65
  · subst e
    by_cases e2 : j = 11
    · subst e2; rw [st2_s, st2_s]
    · rw [st2_o _ _ _ e2, st2_o _ _ _ e2]
      by_cases e3 : j = 0
      · subst e3; exact absurd hk (by decide)
      · rw [st2_o _ _ _ e3]
  · rw [st2_a _ _ e, st2_a _ _ e, st2_a _ _ e]
theorem fr_good (I : Mm) : Fr (st2 I 65 11 0) (m_X11_good I) := by rw [m_good]; exact Fr.swap
theorem fr_no (I : Mm) (v : Int32) : Fr (st2 I 65 11 v) (m_X11_no (m_X11_good I) v) := by
  rw [m_X11_no, opv_eq, m_good, st2_st2]
  exact Fr.swap
theorem fr_isNot (I : Mm) (v : Int32) : Fr (st2 I 65 11 v) (m_X11_isNot (m_X11_good I) v) := by
  rw [m_X11_isNot, opv_eq, m_good, st2_st2]
  exact Fr.swap
theorem f_no (I : Mm) (v : Int32) : f_X11_no I v = -1 := by rw [f_X11_no, opv_eq]
theorem fr_0 (I : Mm) : Fr I (st2 I 65 0 0) := (Fr.refl I).st rfl
theorem st_fault : St_fault Sim := by
  intro I J w h
  refine ⟨trivial, trivial, ?_, ?_⟩
  · rw [f_X10_fault, f_X11_fault, opv_eq, opv_eq]
    exact h.1.2.2.2.2.2.1
  · rw [m_X11_fault, opv_eq]
    exact h.stay (Fr.refl I) (fr_0 I)
theorem st_where : St_where Sim := by
  intro I J w h
  refine ⟨trivial, trivial, ?_, ?_⟩
  · rw [f_X10_where, f_X11_where, opv_eq, opv_eq]
    have h1 := h.2.1
    by_cases q : I 0 7 = 4
    · rw [if_pos q, if_pos (by rw [← h1]; exact q)]
      exact h.2.2 q
    · rw [if_neg q, if_neg (by rw [← h1]; exact q)]
  · rw [m_X11_where, opv_eq]
    exact h.stay (Fr.refl I) (fr_0 I)
theorem st_trouble : St_trouble Sim := by
  intro I J w h
  refine ⟨trivial, trivial, ?_, ?_⟩
  · rw [f_X10_trouble, f_X11_trouble, opv_eq, opv_eq]
    exact h.2.1
  · rw [m_X11_trouble, opv_eq]
    exact h.stay (Fr.refl I) (fr_0 I)
