/-! ===== makes ===== -/
theorem mpy_ge (o n : Vc) (j : Nat) : mpy o n (j + 7) = o (j + 7) := by
  unfold mpy
  rw [if_neg (by omega)]
theorem pwho_mpy (o v : Vc) : pwho (mpy o v) = pwho v := by
  unfold pwho
  rw [mpy_0, mpy_2]
theorem mday_mpy (r : Vc) (wood : Int32) (o v : Vc) : mday r wood (mpy o v) = mpy o (mday r wood v) := by
  funext j
  match j with
  | 0 => simp only [mday_0, mpy_0, mang, pwho_mpy, mpy_1, mpy_2, mpy_3]
  | 1 => simp only [mday_1, mpy_1, pwho_mpy]
  | 2 => simp only [mday_2, mpy_2]
  | 3 => simp only [mday_3, mpy_3]
  | 4 => simp only [mday_4, mpy_4]
  | 5 => simp only [mday_5, mpy_5, pwho_mpy]
  | 6 => simp only [mday_6, mpy_6, pwho_mpy, mpy_4]
  | n + 7 =>
    rw [mpy_ge]
    simp [mday, mpy]
    intro h
    omega
theorem mrun_mpy (r : Vc) (wood : Int32) (o : Vc) : ∀ (n : Nat) (v : Vc), mrun r wood n (mpy o v) = mpy o (mrun r wood n v) := by
  intro n
  induction n with
  | zero => intro v; rfl
  | succ n ih => intro v; rw [mrun, mday_mpy, ih, mrun]
def wout (r : Vc) (wood oil : Int32) (d : Nat) : Int32 := pwho (mrun r wood (d + 1) (mbeg r oil))
def cbeg (o : Vc) (d wood oil : Int32) : Vc := fun j => if j = 1 then d else if j = 2 then wood else if j = 3 then oil else if j < 9 then 0 else o j
theorem m_cbegin (I : Mm) (a : Nat) (d wood oil : Int32) : m_X0_begin I a d wood oil = va_up I a (cbeg (I a) d wood oil) := by
  rw [m_X0_begin, opv_eq]
  funext x j
  by_cases hx : x = a
  · subst hx
    rw [vu_s]
    match j with
    | 0 => simp [st2, va_up, cbeg]
    | 1 => simp [st2, va_up, cbeg]
    | 2 => simp [st2, va_up, cbeg]
    | 3 => simp [st2, va_up, cbeg]
    | 4 => simp [st2, va_up, cbeg]
    | 5 => simp [st2, va_up, cbeg]
    | 6 => simp [st2, va_up, cbeg]
    | 7 => simp [st2, va_up, cbeg]
    | 8 => simp [st2, va_up, cbeg]
    | n + 9 => simp [st2, va_up, cbeg]; try omega
  · rw [st2_a _ _ hx, st2_a _ _ hx, st2_a _ _ hx, st2_a _ _ hx, st2_a _ _ hx, st2_a _ _ hx, st2_a _ _ hx, st2_a _ _ hx, st2_a _ _ hx, vu_o _ _ hx]
theorem beg_rel {r : Vc} (hb : RB r) (o : Vc) {wood oil : Int32} (ho : bw oil 0 3) : BR r wood 0 (cbeg o (r 10) wood oil) (mbeg r oil) := by
  have c0 : cbeg o (r 10) wood oil 0 = 0 := rfl
  have c1 : cbeg o (r 10) wood oil 1 = r 10 := rfl
  have c2 : cbeg o (r 10) wood oil 2 = wood := rfl
  have c3 : cbeg o (r 10) wood oil 3 = oil := rfl
  have c4 : cbeg o (r 10) wood oil 4 = 0 := rfl
  have c5 : cbeg o (r 10) wood oil 5 = 0 := rfl
  have c6 : cbeg o (r 10) wood oil 6 = 0 := rfl
  have c7 : cbeg o (r 10) wood oil 7 = 0 := rfl
  have c8 : cbeg o (r 10) wood oil 8 = 0 := rfl
  have m0 : mbeg r oil 0 = 0 := rfl
  have m1 : mbeg r oil 1 = r 10 := rfl
  have m2 : mbeg r oil 2 = oil := rfl
  have m3 : mbeg r oil 3 = 0 := rfl
  have m4 : mbeg r oil 4 = 0 := rfl
  have m5 : mbeg r oil 5 = 0 := rfl
  have m6 : mbeg r oil 6 = 0 := rfl
  unfold BR KR kb
  rw [c0, c1, c2, c3, c4, c5, c6, c7, c8, m0, m1, m2, m3, m4, m5, m6]
  refine ⟨rfl, rfl, rfl, rfl, rfl, rfl, rfl, by unfold bw; decide, hb.2.2.2.2.2.2.2.2.2.2.1, ho, by unfold bw; rw [ti0]; omega, by unfold bw; decide, fun k hk => ?_, fun d _ _ => ⟨b_0 d, b_0 d⟩⟩
  have := (hb.plan hk).1.1
  rw [b_0, decide_eq_false (by rw [ti0]; omega), Bool.false_and]
theorem sz_61 : sz 61 = 21 := by decide +kernel
theorem sz_75 : sz 75 = 21 := by decide +kernel
theorem sz_59 : sz 59 = 40 := by decide +kernel
theorem sz_62 : sz 62 = 84 := by decide +kernel
theorem sz_76 : sz 76 = 84 := by decide +kernel
/-- behind j days of watching -/
theorem watch_lp {r : Vc} {t : Nat} (hb : RB r) (x2 x3 : Int32) : ∀ (c j : Nat) (I : Mm), TR I r t → j + c = 21 → ∃ X A, (lp_X4_watch_16 t x2 x3 (c + 1) (nI j) I).2 = va_up (va_up I 60 X) 61 A ∧ oklp_X4_watch_16 t x2 x3 (c + 1) (nI j) I ∧ (∀ d, d < j → A d = I 61 d) ∧ ∀ d, d < c → A (j + d) = cwho (crun r (d + 1) (I 60)) := by
  intro c
  induction c with
  | zero =>
    intro j I hT hj
    rw [lp_X4_watch_16, oklp_X4_watch_16, sz_61, if_pos (show Int32.ofNat 21 ≤ nI j from nI_le (a := 21) (by omega) (by omega)), if_pos (show Int32.ofNat 21 ≤ nI j from nI_le (a := 21) (by omega) (by omega))]
    refine ⟨I 60, I 61, ?_, trivial, fun _ _ => rfl, fun d hd => by omega⟩
    rw [vu_same, vu_same]
  | succ c ih =>
    intro j I hT hj
    have q : ¬ Int32.ofNat 21 ≤ nI j := nI_ge (b := 21) (by omega) (by omega)
    rw [lp_X4_watch_16, oklp_X4_watch_16, sz_61, if_neg q, if_neg q, nI_1, nI_clamp (by omega), c_passDay hT hb (by omega), f_whoIs, vu_s, vu_o _ _ (show (61 : Nat) ≠ 60 by omega)]
    obtain ⟨X, A, a1, a2, a3, a4⟩ := ih (j + 1) (va_up (va_up I 60 (cday r (I 60))) 61 (upd (I 61) j (cwho (cday r (I 60))))) ((hT.up (by omega)).up (by omega)) (by omega)
    refine ⟨X, A, ?_, ⟨vp_in_nI (by omega) (by omega), a2⟩, fun d hd => ?_, fun d hd => ?_⟩
    · rw [a1]
      funext x
      by_cases h1 : x = 61
      · subst h1; rw [vu_s, vu_s]
      · rw [vu_o _ _ h1, vu_o _ _ h1]
        by_cases h2 : x = 60
        · subst h2; rw [vu_s, vu_s]
        · rw [vu_o _ _ h2, vu_o _ _ h1, vu_o _ _ h2, vu_o _ _ h2]
    · rw [a3 d (by omega), vu_s, pk_un (by omega)]
    · by_cases z : d = 0
      · subst z
        rw [Nat.add_zero, a3 j (by omega), vu_s, pk_us]
        rfl
      · have := a4 (d - 1) (by omega)
        rw [show j + 1 + (d - 1) = j + d by omega, vu_o _ _ (by omega), vu_s, show d - 1 + 1 = d by omega] at this
        rw [this, crun]
theorem c_watch {I : Mm} {r : Vc} {t : Nat} (hT : TR I r t) (hb : RB r) (wood : Int32) {oil : Int32} (ho : bw oil 0 3) : ∃ X A, m_X4_watch I t wood oil = va_up (va_up I 60 X) 61 A ∧ ok_X4_watch I t wood oil ∧ ∀ d, d < 21 → A d = wout r wood oil d := by
  obtain ⟨X, A, a1, a2, -, a4⟩ := watch_lp hb wood oil 21 0 (va_up I 60 (cbeg (I 60) (r 10) wood oil)) (hT.up (by omega)) (by omega)
  have e : I t 0 = r 10 := hT.2.1
  refine ⟨X, A, ?_, ?_, fun d hd => ?_⟩
  · rw [m_X4_watch, opv_eq, m_cbegin, e, sz_61, show (0 : Int32) = nI 0 from rfl, show Int32.ofNat 21 = nI 21 from rfl, mu_up_nI (by omega) (by omega)]
    rw [vu_vu] at a1
    exact a1
  · rw [ok_X4_watch, opv_eq, m_cbegin, e, sz_61, show (0 : Int32) = nI 0 from rfl, show Int32.ofNat 21 = nI 21 from rfl, mu_up_nI (by omega) (by omega)]
    exact a2
  · have := a4 d hd
    rw [Nat.zero_add, vu_s] at this
    rw [this, wout]
    exact (run_rel hb (d + 1) 0 _ _ (by omega) (beg_rel hb (I 60) ho)).who
theorem begins_lp {a : Nat} (hs : 7 ≤ sz a) (hs2 : sz a < 1000) (x2 : Int32) : ∀ (c i : Nat) (I : Mm), i + c = 7 → (lp_X11_begins_2 a x2 (c + 1) (nI i) I).2 = va_up I a (fun k => if i ≤ k ∧ k < 7 then 0 else I a k) ∧ oklp_X11_begins_2 a x2 (c + 1) (nI i) I := by
  intro c
  induction c with
  | zero =>
    intro i I hi
    have q : (7 : Int32) ≤ nI i := nI_le (a := 7) (by omega) (by omega)
    rw [lp_X11_begins_2, oklp_X11_begins_2, if_pos q, if_pos q]
    have : (fun k => if i ≤ k ∧ k < 7 then 0 else I a k) = I a := funext fun k => if_neg (by omega)
    rw [this, vu_same]
    exact ⟨rfl, trivial⟩
  | succ c ih =>
    intro i I hi
    have q : ¬ (7 : Int32) ≤ nI i := nI_ge (b := 7) (by omega) (by omega)
    rw [lp_X11_begins_2, oklp_X11_begins_2, if_neg q, if_neg q, nI_1, nI_clamp (by omega)]
    have k := ih (i + 1) (va_up I a (upd (I a) i 0)) (by omega)
    refine ⟨?_, vp_in_nI (by omega) (by omega), k.2⟩
    rw [k.1, vu_vu, vu_s]
    congr 1
    funext x
    by_cases h1 : x = i
    · subst h1
      rw [if_neg (by omega), if_pos (by omega), pk_us]
    · rw [pk_un h1]
      by_cases h3 : i + 1 ≤ x ∧ x < 7
      · rw [if_pos h3, if_pos (by omega)]
      · rw [if_neg h3, if_neg (by omega)]
theorem m_begins {I : Mm} {r : Vc} {a : Nat} (hr : I 68 = r) (ha : a ≠ 68) (hs : 7 ≤ sz a) (hs2 : sz a < 1000) (oil : Int32) : m_X11_begins I a oil = va_up I a (mpy (I a) (mbeg r oil)) ∧ ok_X11_begins I a oil := by
  have k := begins_lp hs hs2 oil 7 0 I (by omega)
  rw [nI_0] at k
  have mu : mu_up 7 0 + 1 = 7 + 1 := by
    rw [show mu_up 7 0 = mu_up (nI 7) (nI 0) from rfl, mu_up_nI (by omega) (by omega)]
  rw [m_X11_begins, ok_X11_begins, opv_eq, opv_eq, mu, k.1, vu_o _ _ (Ne.symm ha), hr]
  refine ⟨?_, k.2, vp_in_nI (n := 1) (by omega) (by omega), vp_in_nI (n := 2) (by omega) (by omega)⟩
  funext x j
  by_cases hx : x = a
  · subst hx
    rw [vu_s]
    match j with
    | 0 => simp [st2, va_up, mpy, mbeg]
    | 1 => simp [st2, va_up, mpy, mbeg]
    | 2 => simp [st2, va_up, mpy, mbeg]
    | 3 => simp [st2, va_up, mpy, mbeg]
    | 4 => simp [st2, va_up, mpy, mbeg]
    | 5 => simp [st2, va_up, mpy, mbeg]
    | 6 => simp [st2, va_up, mpy, mbeg]
    | n + 7 => simp [st2, va_up, mpy, mbeg]; try omega
  · rw [st2_a _ _ hx, st2_a _ _ hx, vu_o _ _ hx, vu_o _ _ hx]
theorem lay_lp {r : Vc} (hb : RB r) (x1 : Int32) : ∀ (c j : Nat) (I : Mm), I 68 = r → j + c = 21 → ∃ X A, (lp_X11_layOuts_13 x1 (c + 1) (nI j) I).2 = va_up (va_up I 73 X) 75 A ∧ oklp_X11_layOuts_13 x1 (c + 1) (nI j) I ∧ (∀ d, d < j → A d = I 75 d) ∧ ∀ d, d < c → A (j + d) = pwho (mrun r (x1 / 4) (d + 1) (I 73)) := by
  intro c
  induction c with
  | zero =>
    intro j I hr hj
    have q : (21 : Int32) ≤ nI j := nI_le (a := 21) (by omega) (by omega)
    rw [lp_X11_layOuts_13, oklp_X11_layOuts_13, if_pos q, if_pos q]
    refine ⟨I 73, I 75, ?_, trivial, fun _ _ => rfl, fun d hd => by omega⟩
    rw [vu_same, vu_same]
  | succ c ih =>
    intro j I hr hj
    have q : ¬ (21 : Int32) ≤ nI j := nI_ge (b := 21) (by omega) (by omega)
    rw [lp_X11_layOuts_13, oklp_X11_layOuts_13, sz_75, if_neg q, if_neg q, nI_1, nI_clamp (by omega), m_dayBy hr (by omega) hb, f_whoOf, vu_s, vu_o _ _ (show (75 : Nat) ≠ 73 by omega)]
    obtain ⟨X, A, a1, a2, a3, a4⟩ := ih (j + 1) (va_up (va_up I 73 (mday r (x1 / 4) (I 73))) 75 (upd (I 75) j (pwho (mday r (x1 / 4) (I 73))))) (by rw [vu_o _ _ (by omega), vu_o _ _ (by omega)]; exact hr) (by omega)
    refine ⟨X, A, ?_, ⟨m_dayBy_ok hr (by omega) (by rw [sz_73]; omega) (by rw [sz_73]; omega) hb _, who_ok _ sz_73, vp_in_nI (by omega) (by omega), a2⟩, fun d hd => ?_, fun d hd => ?_⟩
    · rw [a1]
      funext x
      by_cases h1 : x = 75
      · subst h1; rw [vu_s, vu_s]
      · rw [vu_o _ _ h1, vu_o _ _ h1]
        by_cases h2 : x = 73
        · subst h2; rw [vu_s, vu_s]
        · rw [vu_o _ _ h2, vu_o _ _ h1, vu_o _ _ h2, vu_o _ _ h2]
    · rw [a3 d (by omega), vu_s, pk_un (by omega)]
    · by_cases z : d = 0
      · subst z
        rw [Nat.add_zero, a3 j (by omega), vu_s, pk_us]
        rfl
      · have := a4 (d - 1) (by omega)
        rw [show j + 1 + (d - 1) = j + d by omega, vu_o _ _ (by omega), vu_s, show d - 1 + 1 = d by omega] at this
        rw [this, mrun]
theorem m_layOuts {I : Mm} {r : Vc} (hr : I 68 = r) (hb : RB r) {mk wd oil : Int32} (hw : mk / 4 = wd) (ho : mk - mk / 4 * 4 = oil) : ∃ X A, m_X11_layOuts I mk = va_up (va_up I 73 X) 75 A ∧ ok_X11_layOuts I mk ∧ ∀ d, d < 21 → A d = wout r wd oil d := by
  have bg := m_begins (a := 73) hr (by omega) (by rw [sz_73]; omega) (by rw [sz_73]; omega) (mk - mk / 4 * 4)
  obtain ⟨X, A, a1, a2, -, a4⟩ := lay_lp hb mk 21 0 (va_up I 73 (mpy (I 73) (mbeg r (mk - mk / 4 * 4)))) (by rw [vu_o _ _ (by omega)]; exact hr) (by omega)
  rw [nI_0] at a1 a2
  have mu : mu_up 21 0 + 1 = 21 + 1 := by
    rw [show mu_up 21 0 = mu_up (nI 21) (nI 0) from rfl, mu_up_nI (by omega) (by omega)]
  refine ⟨X, A, ?_, ?_, fun d hd => ?_⟩
  · rw [m_X11_layOuts, opv_eq, bg.1, mu, a1, vu_vu]
  · rw [ok_X11_layOuts, opv_eq, bg.1, mu]
    exact ⟨bg.2, a2⟩
  · have := a4 d hd
    rw [Nat.zero_add, vu_s, mrun_mpy, pwho_mpy, ho, hw] at this
    rw [this, wout]
/-! what was seen -/
def wsL (r A : Vc) : Nat → Nat → Int32
  | 0, _ => -2
  | c + 1, j => if A (r (43 + 2 * j)).toNatClampNeg = r (43 + 2 * j + 1) then wsL r A c (j + 1) else nI j
def sawD (r : Vc) (k : Nat) : Nat := (r (43 + 2 * k)).toNatClampNeg
theorem RB.sawn {r : Vc} (hb : RB r) {k : Nat} (hk : k < (r 7).toNatClampNeg) : r (43 + 2 * k) = nI (sawD r k) ∧ sawD r k ≤ 20 := bw_nI (hi := 20) (hb.saw hk).1
theorem wsL_congr {r A B : Vc} (hb : RB r) (h : ∀ d, d < 21 → A d = B d) : ∀ (c j : Nat), j + c = (r 7).toNatClampNeg → wsL r A c j = wsL r B c j := by
  intro c
  induction c with
  | zero => intro j hj; rfl
  | succ c ih =>
    intro j hj
    have d := hb.sawn (k := j) (by omega)
    unfold sawD at d
    rw [wsL, wsL, h _ (by omega), ih (j + 1) (by omega)]
theorem saw_cell {I : Mm} {r : Vc} {t : Nat} (hT : TR I r t) (hb : RB r) {k c : Nat} (hk : k < (r 7).toNatClampNeg) (hc : c < 2) : f_X7_cell I (rt t 9) (nI k) (nI c) = r (43 + 2 * k + c) := by
  have hs := hT.2.2.2.2.2.2.2.2.2.2.1
  rw [rt_9 hT.1, cell_in hs (by omega) hk hc]
  congr 1
  omega
theorem unlike_lp {I : Mm} {r : Vc} {t : Nat} (hT : TR I r t) (hb : RB r) : ∀ (c j : Nat), j + c = (r 7).toNatClampNeg → lp_X4_unlikeSeen_2 I t (c + 1) (nI j) = wsL r (I 61) c j ∧ oklp_X4_unlikeSeen_2 I t (c + 1) (nI j) := by
  have hn := hb.nS
  have hc := (hT.cnt hb).2.2.1
  intro c
  induction c with
  | zero =>
    intro j hj
    rw [lp_X4_unlikeSeen_2, oklp_X4_unlikeSeen_2, hc, if_pos (nI_le (by omega) (by omega)), if_pos (nI_le (by omega) (by omega))]
    exact ⟨rfl, trivial⟩
  | succ c ih =>
    intro j hj
    have q : ¬ nI (r 7).toNatClampNeg ≤ nI j := nI_ge (by omega) (by omega)
    have c0 := saw_cell hT hb (k := j) (c := 0) (by omega) (by omega)
    have c1 := saw_cell hT hb (k := j) (c := 1) (by omega) (by omega)
    have d := hb.sawn (k := j) (by omega)
    rw [Nat.add_zero, d.1] at c0
    have k := ih (j + 1) (by omega)
    have n2 : ¬ Int32.ofNat 21 ≤ nI (sawD r j) := nI_ge (b := 21) (by omega) (by omega)
    rw [lp_X4_unlikeSeen_2, oklp_X4_unlikeSeen_2, hc, if_neg q, if_neg q, show f_X7_cell I (rt t 9) (nI j) 0 = f_X7_cell I (rt t 9) (nI j) (nI 0) from rfl, show f_X7_cell I (rt t 9) (nI j) 1 = f_X7_cell I (rt t 9) (nI j) (nI 1) from rfl, c0, c1, sz_61, if_neg (nI_pos (by omega)), if_neg (nI_pos (by omega)), if_neg n2, if_neg n2, nI_clamp (by omega), nI_1, k.1, wsL]
    refine ⟨rfl, vp_in_nI (by omega) (by omega), ?_⟩
    split
    · exact k.2
    · trivial
theorem c_unlike {I : Mm} {r : Vc} {t : Nat} (hT : TR I r t) (hb : RB r) : f_X4_unlikeSeen I t = wsL r (I 61) (r 7).toNatClampNeg 0 ∧ ok_X4_unlikeSeen I t := by
  have hn := hb.nS
  rw [f_X4_unlikeSeen, ok_X4_unlikeSeen, opv_eq, opv_eq, (hT.cnt hb).2.2.1, show (0 : Int32) = nI 0 from rfl, mu_up_nI (by omega) (by omega), Nat.sub_zero]
  exact unlike_lp hT hb _ 0 (by omega)
theorem ix43 {k : Nat} (h : k < 1000) : ((43 : Int32) + 2 * nI k) = nI (43 + 2 * k) := by
  show (nI 43 + nI 2 * nI k) = _
  rw [pk_mul, nI_add]
theorem wrong_lp {I : Mm} {r : Vc} (hr : I 68 = r) (hb : RB r) : ∀ (c j : Nat), j + c = (r 7).toNatClampNeg → lp_X11_wrongSeen_2 I (c + 1) (nI j) = wsL r (I 75) c j ∧ oklp_X11_wrongSeen_2 I (c + 1) (nI j) := by
  have hn := hb.nS
  intro c
  induction c with
  | zero =>
    intro j hj
    rw [lp_X11_wrongSeen_2, oklp_X11_wrongSeen_2, hr, hn.1, if_pos (nI_le (by omega) (by omega)), if_pos (nI_le (by omega) (by omega))]
    exact ⟨rfl, trivial⟩
  | succ c ih =>
    intro j hj
    have q : ¬ nI (r 7).toNatClampNeg ≤ nI j := nI_ge (by omega) (by omega)
    have d := hb.sawn (k := j) (by omega)
    have k := ih (j + 1) (by omega)
    rw [lp_X11_wrongSeen_2, oklp_X11_wrongSeen_2, hr, hn.1, if_neg q, if_neg q, ix43 (by omega), show nI (43 + 2 * j) + 1 = nI (43 + 2 * j + 1) from nI_1 _, nI_clamp (by omega), nI_clamp (by omega), nI_1, k.1, wsL, sz_68, sz_75]
    refine ⟨rfl, vp_in_nI (by omega) (by omega), by rw [d.1]; exact vp_in_nI (by omega) (by omega), vp_in_nI (by omega) (by omega), ?_⟩
    split
    · exact k.2
    · trivial
theorem m_wrong {I : Mm} {r : Vc} (hr : I 68 = r) (hb : RB r) : f_X11_wrongSeen I = wsL r (I 75) (r 7).toNatClampNeg 0 ∧ ok_X11_wrongSeen I := by
  have hn := hb.nS
  rw [f_X11_wrongSeen, ok_X11_wrongSeen, opv_eq, opv_eq, hr, hn.1, show (0 : Int32) = nI 0 from rfl, mu_up_nI (by omega) (by omega), Nat.sub_zero, nI_clamp (by omega)]
  exact wrong_lp hr hb _ 0 (by omega)
theorem st_judge : St_judge Sim := by
  intro I J w h
  have hb := h.1.1
  have hT : TR (st2 I 0 7 0) (I 68) (td w) := h.1.2.1.st (by omega)
  simp only [ok_X10_judge, m_X10_judge, f_X10_judge, u0_X10_judge, u1_X10_judge, f_X4_firstUnlike, m_X4_firstUnlike, ok_X4_firstUnlike, ok_X11_judge, m_X11_judge, f_X11_judge, u0_X11_judge, opv_eq, cr, m_refused, f_no]
  by_cases q : gv (I 0 4) true = 0
  · have qc := (gv_t q).1
    simp only [q, if_true]
    obtain ⟨X, A, a1, a2, a3⟩ := c_watch hT hb ((st2 I 0 7 0) (td w) 1) (oil := (st2 I 0 7 0) (td w) 2) (by rw [hT.2.2.2.1]; exact hb.2.1)
    rw [hT.2.2.1, hT.2.2.2.1] at a1 a2 a3 ⊢
    have g68 : m_X11_good (va_up (va_up (st2 I 0 7 0) 60 X) 61 A) 68 = I 68 := by rw [good_row _ (by omega), vu_o _ _ (by omega), vu_o _ _ (by omega), st7_row _ _ (by omega)]
    have g14 : m_X11_good (va_up (va_up (st2 I 0 7 0) 60 X) 61 A) 65 14 = I 0 4 := by rw [good_14, vu_o _ _ (by omega), vu_o _ _ (by omega), st7_row _ _ (by omega), h.hc]
    have w0 := bw_nI (hi := 9) hb.1
    have o0 := bw_nI (hi := 3) hb.2.1
    have e4 : 4 * I 68 0 + I 68 1 = nI (4 * (I 68 0).toNatClampNeg + (I 68 1).toNatClampNeg) := by
      rw [w0.1, o0.1, nI_clamp (by omega), nI_clamp (by omega)]
      show nI 4 * _ + _ = _
      rw [pk_mul, nI_add]
    have e5 : (4 * I 68 0 + I 68 1) / 4 = I 68 0 := by
      rw [e4]
      show _ / nI 4 = _
      rw [pk_div (by omega) (by omega) (by omega), show (4 * (I 68 0).toNatClampNeg + (I 68 1).toNatClampNeg) / 4 = (I 68 0).toNatClampNeg by omega]
      exact w0.1.symm
    have e6 : (4 * I 68 0 + I 68 1) - (4 * I 68 0 + I 68 1) / 4 * 4 = I 68 1 := by
      rw [e4]
      show _ - _ / nI 4 * nI 4 = _
      rw [pk_rem (by omega) (by omega) (by omega), show (4 * (I 68 0).toNatClampNeg + (I 68 1).toNatClampNeg) % 4 = (I 68 1).toNatClampNeg by omega]
      exact o0.1.symm
    rw [a1, g14, if_neg qc, if_neg qc, if_neg qc, g68]
    obtain ⟨Y, B, b1, b2, b3⟩ := m_layOuts g68 hb e5 e6
    rw [b1]
    have u := c_unlike (I := va_up (va_up (st2 I 0 7 0) 60 X) 61 A) ((hT.up (by omega)).up (by omega)) hb
    have v := m_wrong (I := va_up (va_up (m_X11_good (va_up (va_up (st2 I 0 7 0) 60 X) 61 A)) 73 Y) 75 B) (r := I 68) (by rw [vu_o _ _ (by omega), vu_o _ _ (by omega)]; exact g68) hb
    refine ⟨⟨a2, u.2⟩, ⟨b2, v.2⟩, ?_, ?_⟩
    · rw [u.1, v.1, vu_s, vu_s]
      exact wsL_congr hb (fun d hd => by rw [a3 d hd, b3 d hd]) _ 0 (by omega)
    · exact h.done (v := 0) (((Fr.refl _).up (fun _ => rfl)).up (fun _ => rfl)) (((fr_good _).up (fun _ => rfl)).up (fun _ => rfl)) (by decide)
  · obtain ⟨qc, g1⟩ := gvn q
    simp only [if_neg q, h.g14, if_pos qc]
    rw [g1]
    exact ⟨trivial, trivial, trivial, h.bad (by decide)⟩
