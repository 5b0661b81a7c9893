/-! ===== copies of rows, days on copies ===== -/
def cpy (o n : Vc) : Vc := fun j => if j < 9 then n j else o j
def mpy (o n : Vc) : Vc := fun j => if j < 7 then n j else o j
theorem cpy_0 (o n : Vc) : cpy o n 0 = n 0 := rfl
theorem cpy_1 (o n : Vc) : cpy o n 1 = n 1 := rfl
theorem cpy_2 (o n : Vc) : cpy o n 2 = n 2 := rfl
theorem cpy_3 (o n : Vc) : cpy o n 3 = n 3 := rfl
theorem cpy_4 (o n : Vc) : cpy o n 4 = n 4 := rfl
theorem cpy_5 (o n : Vc) : cpy o n 5 = n 5 := rfl
theorem cpy_6 (o n : Vc) : cpy o n 6 = n 6 := rfl
theorem cpy_7 (o n : Vc) : cpy o n 7 = n 7 := rfl
theorem cpy_8 (o n : Vc) : cpy o n 8 = n 8 := rfl
theorem mpy_0 (o n : Vc) : mpy o n 0 = n 0 := rfl
theorem mpy_1 (o n : Vc) : mpy o n 1 = n 1 := rfl
theorem mpy_2 (o n : Vc) : mpy o n 2 = n 2 := rfl
theorem mpy_3 (o n : Vc) : mpy o n 3 = n 3 := rfl
theorem mpy_4 (o n : Vc) : mpy o n 4 = n 4 := rfl
theorem mpy_5 (o n : Vc) : mpy o n 5 = n 5 := rfl
theorem mpy_6 (o n : Vc) : mpy o n 6 = n 6 := rfl
theorem br_cpy {r : Vc} {wood : Int32} {D : Nat} {b v : Vc} (o p : Vc) (h : BR r wood D b v) : BR r wood D (cpy o b) (mpy p v) := by
  unfold BR KR kb at *
  simp only [cpy_0, cpy_1, cpy_2, cpy_3, cpy_4, cpy_5, cpy_6, cpy_7, cpy_8, mpy_0, mpy_1, mpy_2, mpy_3, mpy_4, mpy_5, mpy_6]
  exact h
theorem m_copy (I : Mm) (a b : Nat) : m_X0_copy I a b = va_up I a (cpy (I a) (I b)) := by
  rw [m_X0_copy, opv_eq]
  funext x j
  by_cases hx : x = a
  · subst hx
    rw [vu_s]
    match j with
    | 0 => simp [st2, va_up, cpy]
    | 1 => simp [st2, va_up, cpy]
    | 2 => simp [st2, va_up, cpy]
    | 3 => simp [st2, va_up, cpy]
    | 4 => simp [st2, va_up, cpy]
    | 5 => simp [st2, va_up, cpy]
    | 6 => simp [st2, va_up, cpy]
    | 7 => simp [st2, va_up, cpy]
    | 8 => simp [st2, va_up, cpy]
    | n + 9 => simp [st2, va_up, cpy]; intro h; omega
  · rw [st2_a _ _ hx, st2_a _ _ hx, st2_a _ _ hx, st2_a _ _ hx, st2_a _ _ hx, st2_a _ _ hx, st2_a _ _ hx, st2_a _ _ hx, st2_a _ _ hx, vu_o _ _ hx]
theorem c_behind {r : Vc} {t x2 : Nat} (hb : RB r) {n : Nat} (hn : n < 1000) : ∀ (c j : Nat) (I : Mm), TR I r t → j + c = n → (lp_X2_behind_11 t x2 (nI n) (c + 1) (nI j) I).2 = va_up I 47 (crun r c (I 47)) := by
  intro c
  induction c with
  | zero =>
    intro j I hT hj
    rw [lp_X2_behind_11, if_pos (nI_le (by omega) (by omega)), crun, vu_same]
  | succ c ih =>
    intro j I hT hj
    rw [lp_X2_behind_11, if_neg (nI_ge (by omega) (by omega)), nI_1, c_passDay hT hb (by omega), ih (j + 1) _ (hT.up (by omega)) (by omega), vu_vu, vu_s, crun]
theorem m_behind {I : Mm} {r : Vc} {t n : Nat} (hT : TR I r t) (hb : RB r) (hn : n < 1000) : m_X2_behind I t 23 (nI n) = va_up I 47 (crun r n (cpy (I 47) (I 23))) := by
  rw [m_X2_behind, opv_eq, m_copy, show (0 : Int32) = nI 0 from rfl, mu_up_nI (by omega) (by omega), Nat.sub_zero, c_behind hb hn n 0 _ (hT.up (by omega)) (by omega), vu_vu, vu_s]
theorem behind_ok (I : Mm) (t : Nat) (x : Int32) : ok_X2_behind I t 23 x := by
  rw [ok_X2_behind, opv_eq]
  omega
theorem mcopy_lp {a b s d n : Nat} (hab : a ≠ b) (h : s + n < 2 ^ 31) (h2 : d + n < 2 ^ 31) : ∀ (c i : Nat) (I : Mm), i + c = n → (lp_X11_copy_3 a (nI s) b (nI d) (nI n) (c + 1) (nI i) I).2 = va_up I b (fun j => if d + i ≤ j ∧ j < d + n then I a (s + (j - d)) else I b j) := by
  intro c
  induction c with
  | zero =>
    intro i I hi
    rw [lp_X11_copy_3, if_pos (nI_le (by omega) (by omega))]
    have : (fun j => if d + i ≤ j ∧ j < d + n then I a (s + (j - d)) else I b j) = I b := funext fun j => if_neg (by omega)
    rw [this, vu_same]
  | succ c ih =>
    intro i I hi
    rw [lp_X11_copy_3, if_neg (nI_ge (by omega) (by omega)), nI_1, nI_add, nI_add, nI_clamp (by omega), nI_clamp (by omega), ih (i + 1) _ (by omega), vu_vu, vu_s, vu_o _ _ hab]
    congr 1
    funext j
    by_cases h1 : j = d + i
    · subst h1
      rw [if_neg (by omega), if_pos (by omega), pk_us]
      congr 1
      omega
    · rw [pk_un h1]
      by_cases h3 : d + (i + 1) ≤ j ∧ j < d + n
      · rw [if_pos h3, if_pos (by omega)]
      · rw [if_neg h3, if_neg (by omega)]
theorem mcopy_oklp {a b s d n : Nat} (h : s + n ≤ sz a) (h2 : d + n ≤ sz b) (ha : sz a < 2 ^ 31) (hb : sz b < 2 ^ 31) : ∀ (c i : Nat) (I : Mm), i + c = n → oklp_X11_copy_3 a (nI s) b (nI d) (nI n) (c + 1) (nI i) I := by
  intro c
  induction c with
  | zero =>
    intro i I hi
    rw [oklp_X11_copy_3, if_pos (nI_le (by omega) (by omega))]
    trivial
  | succ c ih =>
    intro i I hi
    rw [oklp_X11_copy_3, if_neg (nI_ge (by omega) (by omega)), nI_1, nI_add, nI_add]
    exact ⟨vp_in_nI (by omega) (by omega), vp_in_nI (by omega) (by omega), ih (i + 1) _ (by omega)⟩
theorem m_cp {a b s d n : Nat} (I : Mm) (hab : a ≠ b) (h : s + n < 2 ^ 31) (h2 : d + n < 2 ^ 31) : m_X11_copy I a (nI s) b (nI d) (nI n) = va_up I b (fun j => if d ≤ j ∧ j < d + n then I a (s + (j - d)) else I b j) := by
  rw [m_X11_copy, opv_eq, show (0 : Int32) = nI 0 from rfl, mu_up_nI (by omega) (by omega), Nat.sub_zero, mcopy_lp hab h h2 n 0 I (by omega)]
  rfl
theorem cp_ok {a b s d n : Nat} (I : Mm) (h : s + n ≤ sz a) (h2 : d + n ≤ sz b) (ha : sz a < 2 ^ 31) (hb : sz b < 2 ^ 31) : ok_X11_copy I a (nI s) b (nI d) (nI n) := by
  rw [ok_X11_copy, opv_eq, show (0 : Int32) = nI 0 from rfl, mu_up_nI (by omega) (by omega), Nat.sub_zero]
  exact mcopy_oklp h h2 ha hb n 0 I (by omega)
theorem m_begin (I : Mm) : m_X11_begin I = va_up I 73 (mpy (I 73) (I 70)) := by
  rw [m_X11_begin, opv_eq]
  refine (m_cp (s := 0) (d := 0) (n := 7) I (by omega) (by omega) (by omega)).trans ?_
  congr 1
  funext j
  by_cases h : j < 7
  · rw [if_pos (by omega), mpy, if_pos h]
    congr 1
    omega
  · rw [if_neg (by omega), mpy, if_neg h]
theorem begin_ok (I : Mm) : ok_X11_begin I := by
  rw [ok_X11_begin, opv_eq]
  exact cp_ok (s := 0) (d := 0) (n := 7) I (by rw [sz_70]; omega) (by rw [sz_73]; omega) (by rw [sz_70]; omega) (by rw [sz_73]; omega)
theorem m_dayOf {I : Mm} {r : Vc} {a : Nat} (hr : I 68 = r) (ha : a ≠ 68) (hb : RB r) : m_X11_dayOf I a = va_up I a (mday r (r 0) (I a)) := by
  rw [m_X11_dayOf, opv_eq, m_dayBy hr ha hb, hr]
theorem dayOf_ok {I : Mm} {r : Vc} {a : Nat} (hr : I 68 = r) (ha : a ≠ 68) (hs : sz a = 7) (hb : RB r) : ok_X11_dayOf I a := by
  rw [ok_X11_dayOf, opv_eq]
  exact m_dayBy_ok hr ha (by omega) (by omega) hb _
theorem goOver_lp {r : Vc} (hb : RB r) {n : Nat} (hn : n < 1000) : ∀ (c j : Nat) (I : Mm), I 68 = r → j + c = n → (lp_X11_goOver_6 (nI n) (c + 1) (nI j) I).2 = va_up I 73 (mrun r (r 0) c (I 73)) ∧ oklp_X11_goOver_6 (nI n) (c + 1) (nI j) I := by
  intro c
  induction c with
  | zero =>
    intro j I hr hj
    rw [lp_X11_goOver_6, oklp_X11_goOver_6, if_pos (nI_le (by omega) (by omega)), if_pos (nI_le (by omega) (by omega)), mrun, vu_same]
    exact ⟨rfl, trivial⟩
  | succ c ih =>
    intro j I hr hj
    have q : ¬ nI n ≤ nI j := nI_ge (by omega) (by omega)
    have k := ih (j + 1) (va_up I 73 (mday r (r 0) (I 73))) (by rw [vu_o _ _ (by omega)]; exact hr) (by omega)
    rw [lp_X11_goOver_6, oklp_X11_goOver_6, if_neg q, if_neg q, nI_1, m_dayOf hr (by omega) hb, k.1, vu_vu, vu_s, mrun]
    exact ⟨rfl, dayOf_ok hr (by omega) sz_73 hb, k.2⟩
theorem m_goOver {I : Mm} {r : Vc} {n : Nat} (hr : I 68 = r) (hb : RB r) (hn : n < 1000) : m_X11_goOver I (nI n) = va_up I 73 (mrun r (r 0) n (mpy (I 73) (I 70))) ∧ ok_X11_goOver I (nI n) := by
  have k := goOver_lp hb hn n 0 (va_up I 73 (mpy (I 73) (I 70))) (by rw [vu_o _ _ (by omega)]; exact hr) (by omega)
  rw [m_X11_goOver, ok_X11_goOver, opv_eq, opv_eq, m_begin, show (0 : Int32) = nI 0 from rfl, mu_up_nI (by omega) (by omega), Nat.sub_zero, k.1, vu_vu, vu_s]
  exact ⟨rfl, begin_ok I, k.2⟩
theorem Sim.walk {I : Mm} {J : Nat → Nat → Int64} {w : Bool} (h : Sim I J w) (o p : Vc) {n : Nat} (hn : n < 900000) : BR (I 68) (I 68 0) (999 + n) (crun (I 68) n (cpy o (I 23))) (mrun (I 68) (I 68 0) n (mpy p (I 70))) := run_rel h.1.1 n 999 _ _ (by omega) (br_cpy o p h.1.2.2.2.2.2.2.1)
theorem crun_6 (r : Vc) : ∀ (n : Nat) (b : Vc), crun r n b 6 = b 6 + nI n := by
  intro n
  induction n with
  | zero => intro b; rw [crun, nI_0, Int32.add_zero]
  | succ n ih =>
    intro b
    rw [crun, ih, cday_6, Int32.add_assoc, show (1 : Int32) = nI 1 from rfl, nI_add, Nat.add_comm 1 n]
/-- the gate's bad end -/
theorem Sim.bad {I : Mm} {J J' : Nat → Nat → Int64} {w : Bool} (h : Sim I J w) {v : Int32} (hv : v ≠ 4) : Sim (m_X11_no (m_X11_good (st2 I 0 7 v)) v) J' w := h.done (Fr.refl _) (fr_no _ _) hv
theorem Sim.g14 {I : Mm} {J : Nat → Nat → Int64} {w : Bool} (h : Sim I J w) (v : Int32) : m_X11_good (st2 I 0 7 v) 65 14 = I 0 4 := by rw [good_14, st7_row _ _ (by omega), h.hc]
/-- the gate's good end: what a call with n days ahead finds -/
theorem Sim.ahead {I : Mm} {J : Nat → Nat → Int64} {w : Bool} (h : Sim I J w) (v : Int32) {n : Nat} (hn : n ≤ 900) : ∃ X Y K, m_X2_behind (st2 I 0 7 v) (td w) 23 (nI n) = K ∧ K = va_up (st2 I 0 7 v) 47 X ∧ m_X11_goOver (m_X11_good K) (nI n) = va_up (m_X11_good K) 73 Y ∧ ok_X11_goOver (m_X11_good K) (nI n) ∧ BR (I 68) (I 68 0) (999 + n) X Y ∧ X 6 = I 23 6 + nI n ∧ m_X11_good K 65 14 = I 0 4 ∧ m_X11_good K 68 = I 68 ∧ m_X11_good K 70 = I 70 ∧ K 23 = I 23 := by
  have hT : TR (st2 I 0 7 v) (I 68) (td w) := h.1.2.1.st (by omega)
  have e1 := m_behind hT h.1.1 (n := n) (by omega)
  rw [st7_row _ _ (by omega), st7_row _ _ (by omega)] at e1
  generalize hK : va_up (st2 I 0 7 v) 47 (crun (I 68) n (cpy (I 47) (I 23))) = K at e1
  have k68 : m_X11_good K 68 = I 68 := by rw [good_row _ (by omega), ← hK, vu_o _ _ (by omega), st7_row _ _ (by omega)]
  have k70 : m_X11_good K 70 = I 70 := by rw [good_row _ (by omega), ← hK, vu_o _ _ (by omega), st7_row _ _ (by omega)]
  have k73 : m_X11_good K 73 = I 73 := by rw [good_row _ (by omega), ← hK, vu_o _ _ (by omega), st7_row _ _ (by omega)]
  have k14 : m_X11_good K 65 14 = I 0 4 := by rw [good_14, ← hK, vu_o _ _ (by omega), st7_row _ _ (by omega), h.hc]
  have k23 : K 23 = I 23 := by rw [← hK, vu_o _ _ (by omega), st7_row _ _ (by omega)]
  have e2 := m_goOver k68 h.1.1 (n := n) (by omega)
  rw [k70, k73] at e2
  exact ⟨_, _, K, e1, hK.symm, e2.1, e2.2, h.walk (I 47) (I 73) (by omega), by rw [crun_6, cpy_6], k14, k68, k70, k23⟩
theorem Sim.good47 {I : Mm} {J J' : Nat → Nat → Int64} {w : Bool} (h : Sim I J w) (X Y : Vc) : Sim (va_up (m_X11_good (va_up (st2 I 0 7 0) 47 X)) 73 Y) J' w := h.done (v := 0) ((Fr.refl _).up (fun _ => rfl)) ((fr_good _).up (fun _ => rfl)) (by decide)
theorem st_angleIn : St_angleIn Sim := by
  intro I J w x1 h
  simp only [ok_X10_angleIn, m_X10_angleIn, f_X10_angleIn, u0_X10_angleIn, u1_X10_angleIn, ok_X11_angleIn, m_X11_angleIn, f_X11_angleIn, opv_eq, cr, f_within, m_refused, f_why, f_no]
  by_cases q : gv (I 0 4) (inb x1 0 60) = 0
  · obtain ⟨n, -, hn, rfl⟩ := inb_nI (lo := 0) (hi := 60) (by omega) (gv_t q).2 (by omega)
    obtain ⟨X, Y, K, e1, rfl, e2, e3, hB, h6, k14, -⟩ := h.ahead 0 (n := n) (by omega)
    simp only [q, if_true, e1, k14, e2, vu_s]
    exact ⟨behind_ok _ _ _, e3, by rw [hB.1], h.good47 X Y⟩
  · simp only [if_neg q, h.g14]
    exact ⟨trivial, trivial, trivial, h.bad (gv_4 _ _)⟩
theorem st_dampIn : St_dampIn Sim := by
  intro I J w x1 h
  simp only [ok_X10_dampIn, m_X10_dampIn, f_X10_dampIn, u0_X10_dampIn, u1_X10_dampIn, ok_X11_dampIn, m_X11_dampIn, f_X11_dampIn, opv_eq, cr, f_within, m_refused, f_why, f_no]
  by_cases q : gv (I 0 4) (inb x1 0 60) = 0
  · obtain ⟨n, -, hn, rfl⟩ := inb_nI (lo := 0) (hi := 60) (by omega) (gv_t q).2 (by omega)
    obtain ⟨X, Y, K, e1, rfl, e2, e3, hB, h6, k14, -⟩ := h.ahead 0 (n := n) (by omega)
    simp only [q, if_true, e1, k14, e2, vu_s]
    exact ⟨behind_ok _ _ _, e3, hB.2.1, h.good47 X Y⟩
  · simp only [if_neg q, h.g14]
    exact ⟨trivial, trivial, trivial, h.bad (gv_4 _ _)⟩
theorem st_whoIn : St_whoIn Sim := by
  intro I J w x1 h
  simp only [ok_X10_whoIn, m_X10_whoIn, f_X10_whoIn, u0_X10_whoIn, u1_X10_whoIn, ok_X11_whoIn, m_X11_whoIn, f_X11_whoIn, opv_eq, cr, f_within, m_refused, f_why, f_no, f_whoIs, f_whoOf]
  by_cases q : gv (I 0 4) (inb x1 0 60) = 0
  · obtain ⟨n, -, hn, rfl⟩ := inb_nI (lo := 0) (hi := 60) (by omega) (gv_t q).2 (by omega)
    obtain ⟨X, Y, K, e1, rfl, e2, e3, hB, h6, k14, -⟩ := h.ahead 0 (n := n) (by omega)
    simp only [q, if_true, e1, k14, e2, vu_s]
    exact ⟨behind_ok _ _ _, ⟨e3, who_ok _ sz_73⟩, hB.who, h.good47 X Y⟩
  · simp only [if_neg q, h.g14]
    exact ⟨trivial, trivial, trivial, h.bad (gv_4 _ _)⟩
