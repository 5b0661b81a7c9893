/-! ===== rows of vents: the runs ===== -/
def dg (x n k : Nat) : Nat := x / 10 ^ (n - 1 - k) % 10
def opn (v : Vc) (d : Nat) : Vc := if d = 0 then v else upd v 3 (v 3 ||| ((1 : Int32) <<< (nI (d - 1) &&& 31)))
def copn (b : Vc) (d : Nat) : Vc := if d = 0 then b else upd b 4 (b 4 ||| ((1 : Int32) <<< (nI (d - 1) &&& 31)))
def stp (r : Vc) (d : Nat) (s : Vc × Int32) : Vc × Int32 := (mday r (r 0) (opn s.1 d), if d = 0 then s.2 else s.2 + r (13 + 3 * (d - 1) + 2))
def runD (r : Vc) (d : Nat → Nat) (v : Vc) : Nat → Vc × Int32
  | 0 => (v, 0)
  | k + 1 => stp r (d k) (runD r d v k)
theorem runD_congr {r : Vc} {d d' : Nat → Nat} {v : Vc} : ∀ (k : Nat), (∀ j, j < k → d j = d' j) → runD r d v k = runD r d' v k := by
  intro k
  induction k with
  | zero => intro _; rfl
  | succ k ih =>
    intro h
    rw [runD, runD, ih (fun j hj => h j (by omega)), h k (by omega)]
theorem upd_mpy3 (o v : Vc) (x : Int32) : upd (mpy o v) 3 x = mpy o (upd v 3 x) := by
  funext j
  by_cases h : j = 3
  · subst h; rfl
  · rw [pk_un h]
    unfold mpy
    rw [pk_un h]
theorem opn_mpy (o v : Vc) (d : Nat) : opn (mpy o v) d = mpy o (opn v d) := by
  unfold opn
  by_cases h : d = 0
  · rw [if_pos h, if_pos h]
  · rw [if_neg h, if_neg h, mpy_3, upd_mpy3]
theorem runD_mpy (r : Vc) (d : Nat → Nat) (o v : Vc) : ∀ k, runD r d (mpy o v) k = (mpy o (runD r d v k).1, (runD r d v k).2) := by
  intro k
  induction k with
  | zero => rfl
  | succ k ih =>
    rw [runD, ih, runD]
    unfold stp
    rw [opn_mpy, mday_mpy]
theorem br_opn {r : Vc} {wood : Int32} {D : Nat} {b v : Vc} (h : BR r wood D b v) (d : Nat) : BR r wood D (copn b d) (opn v d) := by
  unfold copn opn
  by_cases q : d = 0
  · rw [if_pos q, if_pos q]; exact h
  · rw [if_neg q, if_neg q, h.2.2.2.2.1]; exact br_open h _
theorem br_runD {r : Vc} (hb : RB r) (d : Nat → Nat) {b v : Vc} {D : Nat} (h : BR r (r 0) D b v) : ∀ k, D + k < 100000 → ∃ b', BR r (r 0) (D + k) b' (runD r d v k).1 := by
  intro k
  induction k with
  | zero => intro _; exact ⟨b, h⟩
  | succ k ih =>
    intro hk
    obtain ⟨b', h'⟩ := ih (by omega)
    exact ⟨cday r (copn b' (d k)), day_rel hb (D := D + k) (by omega) (br_opn h' (d k))⟩
theorem p10 {m : Nat} (h : m < 5) : 10 ^ m ≤ 10000 ∧ 1 ≤ 10 ^ m := by
  have := (by decide +kernel : ∀ m, m < 5 → 10 ^ m ≤ 10000 ∧ 1 ≤ 10 ^ m)
  exact this m h
theorem p10s {m : Nat} (h : m < 5) : 10 ^ (m + 1) / 10 = 10 ^ m := by
  rw [Nat.pow_succ, Nat.mul_div_cancel _ (by omega)]
theorem unit_lp (I : Mm) (x1 : Int32) {n : Nat} (hn : n ≤ 4) : ∀ (c i a : Nat), i + c = n → (lp_X11_goBy_14 I x1 (nI n) (c + 1) (nI a) (nI i)).1 = nI (a * 10 ^ c) := by
  intro c
  induction c with
  | zero =>
    intro i a hi
    rw [lp_X11_goBy_14, if_pos (nI_le (by omega) (by omega)), Nat.pow_zero, Nat.mul_one]
  | succ c ih =>
    intro i a hi
    rw [lp_X11_goBy_14, if_neg (nI_ge (by omega) (by omega)), nI_1, show nI a * 10 = nI (a * 10) from pk_mul a 10, ih (i + 1) (a * 10) (by omega), Nat.pow_succ, Nat.mul_assoc, Nat.mul_comm 10]
def kgb (a j : Nat) : Bool := !(a == 73) && !(a == 65 && j == 24)
theorem goBy_lp {r : Vc} (hb : RB r) {x n : Nat} (hn : n ≤ 4) (hx : x < 2 ^ 31) {v0 : Vc} : ∀ (c k : Nat) (l3 : Int32) (I : Mm), I 68 = r → k + c = n → (c ≠ 0 → l3 = nI (10 ^ (n - 1 - k))) → I 73 = (runD r (dg x n) v0 k).1 → I 65 24 = (runD r (dg x n) v0 k).2 → Fk kgb I (lp_X11_goBy_34 (nI x) (nI n) (c + 1) l3 (nI k) I).2.2 ∧ (lp_X11_goBy_34 (nI x) (nI n) (c + 1) l3 (nI k) I).2.2 73 = (runD r (dg x n) v0 n).1 ∧ (lp_X11_goBy_34 (nI x) (nI n) (c + 1) l3 (nI k) I).2.2 65 24 = (runD r (dg x n) v0 n).2 ∧ oklp_X11_goBy_34 (nI x) (nI n) (c + 1) l3 (nI k) I := by
  intro c
  induction c with
  | zero =>
    intro k l3 I hr hk hl h73 h24
    have e : k = n := by omega
    subst e
    have q : nI k ≤ nI k := nI_le (by omega) (by omega)
    rw [lp_X11_goBy_34, oklp_X11_goBy_34, if_pos q, if_pos q]
    exact ⟨Fk.refl _ _, h73, h24, trivial⟩
  | succ c ih =>
    intro k l3 I hr hk hl h73 h24
    have q : ¬ nI n ≤ nI k := nI_ge (by omega) (by omega)
    have pu := p10 (m := n - 1 - k) (by omega)
    have hl3 := hl (by omega)
    subst hl3
    have nl : ¬ nI (10 ^ (n - 1 - k)) = 0 := nI_ne0 (by omega) (by omega)
    have ed : nI x / nI (10 ^ (n - 1 - k)) - nI x / nI (10 ^ (n - 1 - k)) / 10 * 10 = nI (dg x n k) := by
      rw [pk_div hx (by omega) (by omega)]
      exact pk_rem (d := 10) (Nat.lt_of_le_of_lt (Nat.div_le_self _ _) hx) (by omega) (by omega)
    have d10 : dg x n k < 10 := Nat.mod_lt _ (by omega)
    have eu : u0_X11_goBy (nI x) (nI (10 ^ (n - 1 - k))) I = if dg x n k = 0 then I else st2 (st2 I 73 3 (I 73 3 ||| ((1 : Int32) <<< (nI (dg x n k - 1) &&& 31)))) 65 24 (I 65 24 + r (13 + 3 * (dg x n k - 1) + 2)) := by
      rw [u0_X11_goBy, opv_eq, ed]
      by_cases z : dg x n k = 0
      · rw [if_pos z, z, if_pos (by decide)]
      · have e1 : nI (dg x n k) - 1 = nI (dg x n k - 1) := pk_sub (b := 1) (by omega)
        rw [if_neg z, if_neg (nI_nle (by omega) (by omega)), e1, st2_orow _ _ _ (by omega), hr, show ((13 : Int32) + 3 * nI (dg x n k - 1) + 2) = ((13 : Int32) + 3 * nI (dg x n k - 1) + nI 2) from rfl, ix13a (by omega) (by omega)]
    have e68 : (u0_X11_goBy (nI x) (nI (10 ^ (n - 1 - k))) I) 68 = r := by
      rw [eu]
      split
      · exact hr
      · rw [st2_orow _ _ _ (by omega), st2_orow _ _ _ (by omega)]; exact hr
    have e73 : (u0_X11_goBy (nI x) (nI (10 ^ (n - 1 - k))) I) 73 = opn (I 73) (dg x n k) := by
      rw [eu]
      unfold opn
      split
      · rfl
      · rw [st2_orow _ _ _ (by omega), st2_row]
    have e24 : (u0_X11_goBy (nI x) (nI (10 ^ (n - 1 - k))) I) 65 24 = (runD r (dg x n) v0 (k + 1)).2 := by
      rw [eu, runD, stp, ← h24]
      split
      · rfl
      · rw [st2_s]
    have fu : Fk kgb I (u0_X11_goBy (nI x) (nI (10 ^ (n - 1 - k))) I) := by
      rw [eu]
      split
      · exact Fk.refl _ _
      · exact ((Fk.refl _ _).st rfl).st rfl
    have fd : Fk kgb I (va_up (u0_X11_goBy (nI x) (nI (10 ^ (n - 1 - k))) I) 73 (mday r (r 0) (opn (I 73) (dg x n k)))) := fu.up (fun _ => rfl)
    have kk := ih (k + 1) (nI (10 ^ (n - 1 - k)) / 10) (va_up (u0_X11_goBy (nI x) (nI (10 ^ (n - 1 - k))) I) 73 (mday r (r 0) (opn (I 73) (dg x n k)))) (by rw [vu_o _ _ (by omega)]; exact e68) (by omega) (fun hc => by
      have : n - 1 - k = n - 1 - (k + 1) + 1 := by omega
      show _ / nI 10 = _
      rw [pk_div (by omega) (by omega) (by omega), this, p10s (by omega)]) (by rw [vu_s, runD, stp, h73]) (by rw [vu_o _ _ (by omega)]; exact e24)
    rw [lp_X11_goBy_34, oklp_X11_goBy_34, if_neg q, if_neg q, nI_1, m_dayOf e68 (by omega) hb, e73, ed]
    refine ⟨fd.trans kk.1, kk.2.1, kk.2.2.1, nl, ?_, dayOf_ok e68 (by omega) sz_73 hb, kk.2.2.2⟩
    split
    · trivial
    · rename_i z
      have z0 : dg x n k ≠ 0 := fun y => z (by rw [y]; decide)
      rw [show nI (dg x n k) - 1 = nI (dg x n k - 1) from pk_sub (b := 1) (by omega)]
      exact in13 (c := 2) (by omega) (by omega)
theorem m_goBy {I : Mm} {r : Vc} {x n : Nat} (hr : I 68 = r) (hb : RB r) (hn : n ≤ 4) (h1 : 1 ≤ n) (hx : x < 2 ^ 31) : Fk kgb I (m_X11_goBy I (nI x) (nI n)) ∧ m_X11_goBy I (nI x) (nI n) 73 = mpy (I 73) (runD r (dg x n) (I 70) n).1 ∧ m_X11_goBy I (nI x) (nI n) 65 24 = (runD r (dg x n) (I 70) n).2 ∧ ok_X11_goBy I (nI x) (nI n) := by
  have mu1 : mu_up (nI n) 1 + 1 = n - 1 + 1 := by rw [show mu_up (nI n) 1 = mu_up (nI n) (nI 1) from rfl, mu_up_nI (by omega) (by omega)]
  have mu0 : mu_up (nI n) 0 + 1 = n + 1 := by rw [show mu_up (nI n) 0 = mu_up (nI n) (nI 0) from rfl, mu_up_nI (by omega) (by omega), Nat.sub_zero]
  have u := unit_lp (st2 (m_X11_begin I) 65 24 0) (nI x) hn (n - 1) 1 1 (by omega)
  rw [Nat.one_mul, show nI 1 = 1 from rfl] at u
  have k := goBy_lp hb hn hx (v0 := mpy (I 73) (I 70)) n 0 (nI (10 ^ (n - 1))) (st2 (va_up I 73 (mpy (I 73) (I 70))) 65 24 0) (by rw [st2_orow _ _ _ (by omega), vu_o _ _ (by omega)]; exact hr) (by omega) (fun _ => rfl) (by rw [st2_orow _ _ _ (by omega), vu_s]; rfl) (by rw [st2_s]; rfl)
  rw [nI_0, runD_mpy] at k
  rw [m_X11_goBy, ok_X11_goBy, opv_eq, opv_eq, mu1, mu0, u, m_begin]
  exact ⟨(((Fk.refl _ _).up (fun _ => rfl)).st rfl).trans k.1, k.2.1, k.2.2.1, begin_ok _, k.2.2.2⟩
/-! worths over the model's row -/
def wrV (r v : Vc) (fr : Int32) : Nat → Nat → Int32 → Int32
  | 0, _, acc => acc
  | c + 1, j, acc => wrV r v fr c (j + 1) (acc + (if r (25 + 3 * j) < fr then 0 else (if bt (v 6) j = true then r (25 + 3 * j + 2) else 0)))
def wth (r v : Vc) (fr : Int32) : Int32 := wrV r v fr (r 6).toNatClampNeg 0 0
theorem wrS_V {r : Vc} {wood : Int32} {D : Nat} {b v : Vc} (hB : BR r wood D b v) (fr : Int32) : ∀ (c j : Nat) (acc : Int32), j + c = (r 6).toNatClampNeg → wrS r b fr c j acc = wrV r v fr c j acc := by
  intro c
  induction c with
  | zero => intro j acc _; rfl
  | succ c ih =>
    intro j acc hj
    rw [wrS, wrV, kept_bit hB (k := j) (by omega), ih (j + 1) _ (by omega)]
theorem wrV_bw {r : Vc} (hb : RB r) (v : Vc) (fr : Int32) : ∀ (c j : Nat) (acc : Int32) (m : Nat), j + c = (r 6).toNatClampNeg → m + 99 * c < 2000 → bw acc 0 m → bw (wrV r v fr c j acc) 0 ((m + 99 * c : Nat) : Int) := by
  have hn := hb.nP.2
  intro c
  induction c with
  | zero => intro j acc m _ _ h; exact h
  | succ c ih =>
    intro j acc m hj hm h
    have hp := (hb.plan (k := j) (by omega)).2.2
    have h1 := h.1; have h2 := h.2; have p1 := hp.1; have p2 := hp.2
    have key : ∀ y : Int32, bw y 0 99 → bw (acc + y) 0 ((m + 99 : Nat) : Int) := by
      intro y hy
      have y1 := hy.1; have y2 := hy.2
      rw [bw, fb_addI (by omega) (by omega)]
      omega
    rw [wrV]
    have z0 : bw (0 : Int32) 0 99 := by unfold bw; decide
    have k := ih (j + 1) (acc + (if r (25 + 3 * j) < fr then 0 else (if bt (v 6) j = true then r (25 + 3 * j + 2) else 0))) (m + 99) (by omega) (by omega) (by
      split
      · exact key 0 z0
      · split
        · exact key _ hp
        · exact key 0 z0)
    rw [show m + 99 * (c + 1) = m + 99 + 99 * c by omega]
    exact k
theorem wth_bw {r : Vc} (hb : RB r) (v : Vc) (fr : Int32) : bw (wth r v fr) 0 600 := by
  have hn := hb.nP.2
  have k := wrV_bw hb v fr (r 6).toNatClampNeg 0 0 0 (by omega) (by omega) (by unfold bw; decide)
  refine ⟨k.1, ?_⟩
  have := k.2
  unfold wth
  omega
theorem coin_bw {r : Vc} (hb : RB r) {d : Nat → Nat} {v : Vc} : ∀ (n : Nat), n ≤ 4 → (∀ k, k < n → d k ≤ (r 5).toNatClampNeg) → bw (runD r d v n).2 0 ((99 * n : Nat) : Int) := by
  intro n
  induction n with
  | zero => intro _ _; exact ⟨by show (0 : Int) ≤ (0 : Int32).toInt; decide, by show (0 : Int32).toInt ≤ _; rw [ti0]; omega⟩
  | succ n ih =>
    intro hn hd
    have k := ih (by omega) (fun k hk => hd k (by omega))
    rw [runD, stp]
    have k1 := k.1; have k2 := k.2
    by_cases z : d n = 0
    · show bw (if d n = 0 then _ else _) _ _
      rw [if_pos z]
      exact ⟨k1, by omega⟩
    · show bw (if d n = 0 then _ else _) _ _
      have hv := (hb.vent (k := d n - 1) (by have := hd n (by omega); omega)).2.2
      have v1 := hv.1; have v2 := hv.2
      rw [if_neg z, bw, fb_addI (by omega) (by omega)]
      omega
def akV (r v : Vc) (fr : Int32) : Nat → Nat → Bool
  | 0, _ => true
  | c + 1, j => if r (25 + 3 * j) < fr then akV r v fr c (j + 1) else (if v 4 ≤ r (25 + 3 * j) then akV r v fr c (j + 1) else (if bt (v 6) j = true then akV r v fr c (j + 1) else false))
theorem c_keptAll {I : Mm} {r : Vc} {t a D : Nat} {wood : Int32} {v : Vc} (hT : TR I r t) (hb : RB r) (hB : BR r wood D (I a) v) (fr : Int32) : ∀ (c j : Nat), j + c = (r 6).toNatClampNeg → lp_X8_keptAll_2 I t a fr (c + 1) (nI j) = akV r v fr c j := by
  have hn := hb.nP
  have hc := (hT.cnt hb).2.1
  intro c
  induction c with
  | zero =>
    intro j hj
    rw [lp_X8_keptAll_2, hc, if_pos (nI_le (by omega) (by omega))]
    rfl
  | succ c ih =>
    intro j hj
    have c0 := plan_cell hT hb (k := j) (c := 0) (by omega) (by omega)
    rw [Nat.add_zero] at c0
    rw [lp_X8_keptAll_2, hc, if_neg (nI_ge (by omega) (by omega)), show f_X7_cell I (rt t 8) (nI j) 0 = f_X7_cell I (rt t 8) (nI j) (nI 0) from rfl, c0, isKept_eq hT hb (by omega), ← kept_bit hB (k := j) (by omega), hB.days.1, nI_1, ih (j + 1) (by omega), akV]
theorem m_allKept {I : Mm} {r : Vc} (hr : I 68 = r) (hb : RB r) (fr : Int32) (h4 : bw (I 73 4) 0 100000) : ∀ (c j : Nat) (acc : Bool), j + c = (r 6).toNatClampNeg → (lp_X11_areAllKept_5 I fr (I 73 4) (c + 1) acc (nI j)).1 = (acc && akV r (I 73) fr c j) ∧ oklp_X11_areAllKept_5 I fr (I 73 4) (c + 1) acc (nI j) := by
  have hn := hb.nP
  intro c
  induction c with
  | zero =>
    intro j acc hj
    have e6 : I 68 6 = nI (r 6).toNatClampNeg := by rw [hr]; exact hn.1
    rw [lp_X11_areAllKept_5, oklp_X11_areAllKept_5, e6, if_pos (nI_le (by omega) (by omega)), if_pos (nI_le (by omega) (by omega)), akV, Bool.and_true]
    exact ⟨rfl, trivial⟩
  | succ c ih =>
    intro j acc hj
    have e6 : I 68 6 = nI (r 6).toNatClampNeg := by rw [hr]; exact hn.1
    have q : ¬ nI (r 6).toNatClampNeg ≤ nI j := nI_ge (by omega) (by omega)
    have h41 := h4.1; have h42 := h4.2
    have e1 : (I 73 4 - 1).toInt = (I 73 4).toInt - 1 := by rw [fb_subI (by rw [ti1]; omega) (by rw [ti1]; omega), ti1]
    have eu : (u0_X11_areAllKept I fr (I 73 4) acc (nI j) && akV r (I 73) fr c (j + 1)) = (acc && akV r (I 73) fr (c + 1) j) := by
      rw [u0_X11_areAllKept, opv_eq, hr, ix25 (by omega), f_in, hb_eq _ _ (by omega), akV]
      unfold inb
      cases acc
      · rfl
      · simp only [if_true, Bool.true_and]
        by_cases y1 : r (25 + 3 * j) < fr
        · rw [if_pos y1, if_pos y1]; simp
        · rw [if_neg y1, if_neg y1]
          by_cases y2 : I 73 4 ≤ r (25 + 3 * j)
          · rw [if_pos y2, if_pos (show I 73 4 - 1 < r (25 + 3 * j) by rw [fa_le] at y2; rw [fa_lt, e1]; omega)]; simp
          · rw [if_neg y2, if_neg (show ¬ I 73 4 - 1 < r (25 + 3 * j) by rw [fa_le] at y2; rw [fa_lt, e1]; omega)]
            simp only [if_true]
            cases bt (I 73 6) j <;> simp
    have k := ih (j + 1) (u0_X11_areAllKept I fr (I 73 4) acc (nI j)) (by omega)
    rw [lp_X11_areAllKept_5, oklp_X11_areAllKept_5, e6, if_neg q, if_neg q, nI_1]
    refine ⟨by rw [k.1, eu], ?_, k.2⟩
    split
    · exact in25' (by omega)
    · trivial
