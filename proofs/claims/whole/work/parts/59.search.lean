/-! ===== rows of vents: the class's search ===== -/
theorem rt_52 : ∀ j, j < 5 → rt 52 j = 53 + j := by decide +kernel
theorem sz_50 : sz 50 = 4 := by decide +kernel
theorem sz_51 : sz 51 = 5 := by decide +kernel
theorem sz_52 : sz 52 = 5 := by decide +kernel
theorem c_passTurn {I : Mm} {r v : Vc} {t k d D : Nat} (hT : TR I r t) (hb : RB r) (hk : k < 4) (hd : d ≤ 9) (hD : D < 50000) (hB : BR r (r 0) D (I (53 + k)) v) : (∃ X, m_X9_passTurn I t (nI k) (nI d) = va_up I (54 + k) X ∧ BR r (r 0) (D + 1) X (mday r (r 0) (opn v d))) ∧ ok_X9_passTurn I t (nI k) (nI d) := by
  have hi : inb (nI k) 0 3 = true := by
    unfold inb
    rw [if_neg (nI_pos (by omega)), if_neg (show ¬ (3 : Int32) < nI k from nI_nlt (a := 3) (by omega) (by omega))]
  have e1 : (nI k + 1).toNatClampNeg = k + 1 := by rw [nI_1, nI_clamp (by omega)]
  have e2 : rt 52 (k + 1) = 54 + k := by rw [rt_52 _ (by omega)]; omega
  have hT2 : ∀ f, TR (va_up I (54 + k) f) r t := fun f => hT.up (by omega)
  have eu : u1_X9_passTurn I (nI k) (nI d) = va_up I (54 + k) (copn (cpy (I (54 + k)) (I (53 + k))) d) := by
    rw [u1_X9_passTurn, opv_eq, u0_X9_passTurn, opv_eq, e1, e2, nI_clamp (by omega), rt_52 k (by omega), m_copy]
    unfold copn
    by_cases z : d = 0
    · rw [if_pos z, z, if_pos (by decide)]
    · rw [if_neg z, if_neg (nI_nle (by omega) (by omega)), m_X0_openVent, opv_eq, st2_up, vu_s, vu_vu, show nI d - 1 = nI (d - 1) from pk_sub (b := 1) (by omega)]
  refine ⟨⟨cday r (copn (cpy (I (54 + k)) (I (53 + k))) d), ?_, ?_⟩, ?_⟩
  · rw [m_X9_passTurn, opv_eq, f_within, if_pos hi, u2_X9_passTurn, opv_eq, eu, e1, e2, c_passDay (hT2 _) hb (by omega), vu_s, vu_vu]
  · exact day_rel hb (by omega) (br_opn (br_congr hB (fun j hj => if_pos hj) (fun _ _ => rfl)) d)
  · rw [ok_X9_passTurn, opv_eq, f_within, if_pos hi, e1, e2, nI_clamp (by omega), rt_52 k (by omega), sz_52, nI_1]
    exact ⟨vp_in_nI (by omega) (by omega), vp_in_nI (by omega) (by omega), by omega⟩
def PK (I : Mm) (d : Nat → Nat) (n V : Nat) : Prop := ∀ k, k < n → I 50 k = nI (d k) ∧ d k ≤ V
def RK (r : Vc) (I : Mm) (d : Nat → Nat) (v : Vc) (m : Nat) : Prop := ∀ k, k ≤ m → BR r (r 0) (999 + k) (I (53 + k)) (runD r d v k).1 ∧ I 51 k = (runD r d v k).2
def kfo (a j : Nat) : Bool := if 54 ≤ a ∧ a ≤ 57 then false else !(a == 51 && !(j == 0))
theorem kfo_low : ∀ a, 3 ≤ a → a ≤ 22 → ∀ j, kfo a j = true := by
  intro a h1 h2 j
  unfold kfo
  rw [if_neg (by omega)]
  have n1 : (a == 51) = false := by simp; omega
  simp [n1]
theorem vent_coin {I : Mm} {r : Vc} {t d : Nat} (hT : TR I r t) (hb : RB r) (hd : d ≤ (r 5).toNatClampNeg) : f_X7_cell I (rt t 7) (nI d - 1) 2 = if d = 0 then 0 else r (13 + 3 * (d - 1) + 2) := by
  by_cases z : d = 0
  · rw [if_pos z, z, cell_neg (by decide)]
  · have hv := hT.2.2.2.2.2.2.2.2.1
    have hn := hb.nV.2
    rw [if_neg z, show nI d - 1 = nI (d - 1) from pk_sub (b := 1) (by omega), rt_7 hT.1, show (2 : Int32) = nI 2 from rfl, cell_in hv (by omega) (by omega) (by omega)]
    congr 1
    omega
theorem follow_lp {r v : Vc} {t n : Nat} {d : Nat → Nat} (hb : RB r) (hn : n ≤ 4) (x2 : Int32) : ∀ (c k : Nat) (I : Mm), TR I r t → PK I d n (r 5).toNatClampNeg → RK r I d v k → k + c = n → Fk kfo I (lp_X9_follow_3 t x2 (nI n) (c + 1) (nI k) I).2 ∧ RK r (lp_X9_follow_3 t x2 (nI n) (c + 1) (nI k) I).2 d v n ∧ oklp_X9_follow_3 t x2 (nI n) (c + 1) (nI k) I := by
  have hV := hb.nV.2
  intro c
  induction c with
  | zero =>
    intro k I hT hP hR hk
    have e : k = n := by omega
    subst e
    have q : nI k ≤ nI k := nI_le (by omega) (by omega)
    rw [lp_X9_follow_3, oklp_X9_follow_3, if_pos q, if_pos q]
    exact ⟨Fk.refl _ _, hR, trivial⟩
  | succ c ih =>
    intro k I hT hP hR hk
    have q : ¬ nI n ≤ nI k := nI_ge (by omega) (by omega)
    have q4 : ¬ (4 : Int32) ≤ nI k := nI_ge (b := 4) (by omega) (by omega)
    have pk := hP k (by omega)
    have rk := hR k (by omega)
    have ec : I 51 k + f_X7_cell I (rt t 7) (nI (d k) - 1) 2 = (runD r d v (k + 1)).2 := by
      rw [vent_coin hT hb pk.2, rk.2, runD, stp]
      show _ = if d k = 0 then _ else _
      by_cases z : d k = 0
      · rw [if_pos z, if_pos z, Int32.add_zero]
      · rw [if_neg z, if_neg z]
    generalize hG : va_up I 51 (upd (I 51) (k + 1) (runD r d v (k + 1)).2) = G
    have hTG : TR G r t := by rw [← hG]; exact hT.up (by omega)
    have G53 : ∀ j, G (53 + j) = I (53 + j) := fun j => by rw [← hG, vu_o _ _ (by omega)]
    have G50 : G 50 = I 50 := by rw [← hG, vu_o _ _ (by omega)]
    obtain ⟨⟨X, p1, p2⟩, p3⟩ := c_passTurn (v := (runD r d v k).1) (D := 999 + k) hTG hb (k := k) (d := d k) (by omega) (by omega) (by omega) (by rw [G53]; exact rk.1)
    have eu : u0_X9_follow t (nI k) I = va_up G (54 + k) X := by
      rw [u0_X9_follow, opv_eq, nI_clamp (by omega), nI_1, nI_clamp (by omega), pk.1, ec, hG, G50, pk.1, p1]
    have f1 : Fk kfo I (va_up G (54 + k) X) := by
      rw [← hG]
      refine Fk.up (fun a j hk2 => ?_) (fun j => by unfold kfo; rw [if_pos (by omega)])
      by_cases a1 : a = 51
      · subst a1
        rw [vu_s]
        by_cases j1 : j = k + 1
        · subst j1
          have z : kfo 51 (k + 1) = false := by
            unfold kfo
            rw [if_neg (by omega)]
            simp
          rw [z] at hk2
          cases hk2
        · rw [pk_un j1]
      · rw [vu_o _ _ a1]
    have hP2 : PK (va_up G (54 + k) X) d n (r 5).toNatClampNeg := fun j hj => by
      rw [vu_o _ _ (by omega), G50]
      exact hP j hj
    have hR2 : RK r (va_up G (54 + k) X) d v (k + 1) := fun j hj => by
      by_cases z : j = k + 1
      · subst z
        rw [show 53 + (k + 1) = 54 + k by omega, vu_s, vu_o _ _ (by omega), ← hG, vu_s, pk_us]
        exact ⟨p2, rfl⟩
      · have := hR j (by omega)
        rw [vu_o _ _ (show 53 + j ≠ 54 + k by omega), G53, vu_o _ _ (by omega), ← hG, vu_s, pk_un z]
        exact this
    have kk := ih (k + 1) _ (hT.fk f1 kfo_low) hP2 hR2 (by omega)
    rw [lp_X9_follow_3, oklp_X9_follow_3, if_neg q, if_neg q, if_neg q4, if_neg q4, eu, nI_1, nI_clamp (by omega), nI_clamp (by omega), pk.1, ec, hG, G50, pk.1, sz_50, sz_51]
    exact ⟨f1.trans kk.1, kk.2.1, vp_in_nI (by omega) (by omega), vp_in_nI (by omega) (by omega), vp_in_nI (by omega) (by omega), vp_in_nI (by omega) (by omega), p3, kk.2.2⟩
theorem c_follow {I : Mm} {r v : Vc} {t n k : Nat} {d : Nat → Nat} (hT : TR I r t) (hb : RB r) (hn : n ≤ 4) (hk : k ≤ n) (hP : PK I d n (r 5).toNatClampNeg) (hR : RK r I d v k) : Fk kfo I (m_X9_follow I t (nI k) (nI n)) ∧ RK r (m_X9_follow I t (nI k) (nI n)) d v n ∧ ok_X9_follow I t (nI k) (nI n) := by
  rw [m_X9_follow, ok_X9_follow, opv_eq, opv_eq, mu_up_nI (by omega) hk]
  exact follow_lp hb hn (nI k) (n - k) k I hT hP hR (by omega)
/-! numbers of a row -/
def opc (d : Nat → Nat) : Nat → Nat
  | 0 => 0
  | k + 1 => opc d k + (if d k = 0 then 0 else 1)
def num (d : Nat → Nat) : Nat → Nat
  | 0 => 0
  | k + 1 => 10 * num d k + d k
theorem opc_le (d : Nat → Nat) : ∀ n, opc d n ≤ n := by
  intro n
  induction n with
  | zero => exact Nat.le_refl _
  | succ n ih => rw [opc]; split <;> omega
theorem num_le {d : Nat → Nat} : ∀ n, (∀ k, k < n → d k ≤ 9) → num d n < 10 ^ n := by
  intro n
  induction n with
  | zero => intro _; exact Nat.one_pos
  | succ n ih =>
    intro h
    have := ih (fun k hk => h k (by omega))
    have := h n (by omega)
    rw [num, Nat.pow_succ]
    omega
theorem opened_lp {I : Mm} {d : Nat → Nat} {n V : Nat} (hn : n ≤ 4) (hV : V ≤ 9) (hP : PK I d n V) : ∀ (c i : Nat), i + c = n → (lp_X9_opened_4 I (nI n) (c + 1) (nI (opc d i)) (nI i)).1 = nI (opc d n) ∧ oklp_X9_opened_4 I (nI n) (c + 1) (nI (opc d i)) (nI i) := by
  intro c
  induction c with
  | zero =>
    intro i hi
    have e : i = n := by omega
    subst e
    have q : nI i ≤ nI i := nI_le (by omega) (by omega)
    rw [lp_X9_opened_4, oklp_X9_opened_4, if_pos q, if_pos q]
    exact ⟨rfl, trivial⟩
  | succ c ih =>
    intro i hi
    have q : ¬ nI n ≤ nI i := nI_ge (by omega) (by omega)
    have q4 : ¬ Int32.ofNat (sz 50) ≤ nI i := by rw [sz_50]; exact nI_ge (b := 4) (by omega) (by omega)
    have p := hP i (by omega)
    have e : nI (opc d i) + b2i (if I 50 i ≤ 0 then false else true) = nI (opc d (i + 1)) := by
      rw [p.1, opc]
      by_cases z : d i = 0
      · rw [z, if_pos (show nI 0 ≤ 0 from by decide), if_pos rfl, show b2i false = 0 from rfl, Int32.add_zero, Nat.add_zero]
      · rw [if_neg (nI_nle (by omega) (by omega)), if_neg z, show b2i true = 1 from rfl, nI_1]
    have k := ih (i + 1) (by omega)
    rw [lp_X9_opened_4, oklp_X9_opened_4, if_neg q, if_neg q, if_neg q4, if_neg q4, nI_clamp (by omega), e, nI_1]
    exact ⟨k.1, by rw [sz_50]; exact vp_in_nI (by omega) (by omega), k.2⟩
theorem c_opened {I : Mm} {d : Nat → Nat} {n V : Nat} (hn : n ≤ 4) (hV : V ≤ 9) (hP : PK I d n V) : f_X9_opened I (nI n) = nI (opc d n) ∧ ok_X9_opened I (nI n) := by
  rw [f_X9_opened, ok_X9_opened, opv_eq, opv_eq, show (0 : Int32) = nI 0 from rfl, mu_up_nI (by omega) (by omega), Nat.sub_zero]
  exact opened_lp hn hV hP n 0 (by omega)
theorem digits_lp {I : Mm} {d : Nat → Nat} {n V : Nat} (hn : n ≤ 4) (hP : PK I d n V) : ∀ (c i : Nat), i + c = n → (lp_X9_digits_4 I (nI n) (c + 1) (nI (num d i)) (nI i)).1 = nI (num d n) ∧ oklp_X9_digits_4 I (nI n) (c + 1) (nI (num d i)) (nI i) := by
  intro c
  induction c with
  | zero =>
    intro i hi
    have e : i = n := by omega
    subst e
    have q : nI i ≤ nI i := nI_le (by omega) (by omega)
    rw [lp_X9_digits_4, oklp_X9_digits_4, if_pos q, if_pos q]
    exact ⟨rfl, trivial⟩
  | succ c ih =>
    intro i hi
    have q : ¬ nI n ≤ nI i := nI_ge (by omega) (by omega)
    have q4 : ¬ Int32.ofNat (sz 50) ≤ nI i := by rw [sz_50]; exact nI_ge (b := 4) (by omega) (by omega)
    have p := hP i (by omega)
    have e : (10 : Int32) * nI (num d i) + I 50 i = nI (num d (i + 1)) := by
      rw [p.1, num, show (10 : Int32) * nI (num d i) = nI (10 * num d i) from pk_mul 10 _, nI_add]
    have k := ih (i + 1) (by omega)
    rw [lp_X9_digits_4, oklp_X9_digits_4, if_neg q, if_neg q, if_neg q4, if_neg q4, nI_clamp (by omega), e, nI_1]
    exact ⟨k.1, by rw [sz_50]; exact vp_in_nI (by omega) (by omega), k.2⟩
theorem c_digits {I : Mm} {d : Nat → Nat} {n V : Nat} (hn : n ≤ 4) (hP : PK I d n V) : f_X9_digits I (nI n) = nI (num d n) ∧ ok_X9_digits I (nI n) := by
  rw [f_X9_digits, ok_X9_digits, opv_eq, opv_eq, show (0 : Int32) = nI 0 from rfl, mu_up_nI (by omega) (by omega), Nat.sub_zero]
  exact digits_lp hn hP n 0 (by omega)
theorem rws_lp (I : Mm) {n V : Nat} (hn : n ≤ 4) : ∀ (c i a : Nat), i + c = n → (lp_X9_rowsOf_4 I (nI n) (nI V) (c + 1) (nI a) (nI i)).1 = nI (a * (V + 1) ^ c) := by
  intro c
  induction c with
  | zero =>
    intro i a hi
    rw [lp_X9_rowsOf_4, if_pos (nI_le (by omega) (by omega)), Nat.pow_zero, Nat.mul_one]
  | succ c ih =>
    intro i a hi
    rw [lp_X9_rowsOf_4, if_neg (nI_ge (by omega) (by omega)), nI_1, nI_1, pk_mul, ih (i + 1) (a * (V + 1)) (by omega), Nat.pow_succ, Nat.mul_assoc, Nat.mul_comm (V + 1)]
theorem c_rowsOf (I : Mm) {n V : Nat} (hn : n ≤ 4) : f_X9_rowsOf I (nI n) (nI V) = nI ((V + 1) ^ n) := by
  have k := rws_lp I (V := V) hn n 0 1 (by omega)
  rw [Nat.one_mul] at k
  rw [f_X9_rowsOf, opv_eq, show (0 : Int32) = nI 0 from rfl, mu_up_nI (by omega) (by omega), Nat.sub_zero]
  exact k
/-- what a row is worth to a search -/
def scr (r v0 : Vc) (fr : Int32) (n : Nat) (aim : Int32) (d : Nat → Nat) : Int32 :=
  if aim = 4 then wth r (runD r d v0 n).1 fr - (runD r d v0 n).2 else (if aim = 5 then (if akV r (runD r d v0 n).1 fr (r 6).toNatClampNeg 0 = true then -(runD r d v0 n).2 else (-2147483648)) else (if pwho (runD r d v0 n).1 = aim then -(nI (opc d n)) else (-2147483648)))
theorem c_score {I : Mm} {r v : Vc} {t n : Nat} {d : Nat → Nat} (hT : TR I r t) (hb : RB r) (hn : n ≤ 4) (hP : PK I d n (r 5).toNatClampNeg) (hR : RK r I d v n) (aim : Int32) : f_X9_scoreOf I t 23 (nI n) aim = scr r v (I 23 6) n aim d ∧ ok_X9_scoreOf I t 23 (nI n) aim := by
  have hi : inb (nI n) 0 4 = true := by
    unfold inb
    rw [if_neg (nI_pos (by omega)), if_neg (show ¬ (4 : Int32) < nI n from nI_nlt (a := 4) (by omega) (by omega))]
  have hV := hb.nV.2
  have rk := hR n (Nat.le_refl _)
  have op := c_opened (I := I) hn (V := (r 5).toNatClampNeg) (by omega) hP
  have hp := hb.nP.2
  have eA : f_X8_keptAll I t (53 + n) (I 23 6) = akV r (runD r d v n).1 (I 23 6) (r 6).toNatClampNeg 0 := by
    rw [f_X8_keptAll, opv_eq, (hT.cnt hb).2.1, show (0 : Int32) = nI 0 from rfl, mu_up_nI (by omega) (by omega), Nat.sub_zero]
    exact c_keptAll hT hb rk.1 _ _ 0 (by omega)
  have eW : f_X8_worthKept I t (53 + n) (I 23 6) = wth r (runD r d v n).1 (I 23 6) := by
    rw [c_worthKept hT hb, wth]
    exact wrS_V rk.1 _ _ 0 0 (by omega)
  rw [f_X9_scoreOf, ok_X9_scoreOf, opv_eq, opv_eq, f_within, if_pos hi, if_pos hi, nI_clamp (by omega), rt_52 n (by omega), u0_X9_scoreOf, opv_eq, u1_X9_scoreOf, opv_eq, nI_clamp (by omega), rt_52 n (by omega), eA, eW, rk.2, f_whoIs, rk.1.who, op.1, sz_52, sz_51]
  refine ⟨rfl, vp_in_nI (by omega) (by omega), ?_⟩
  split
  · exact vp_in_nI (by omega) (by omega)
  · split
    · split
      · exact vp_in_nI (by omega) (by omega)
      · trivial
    · split
      · exact op.2
      · trivial
theorem next_lp {n V : Nat} (hn : n ≤ 4) (hV : V ≤ 9) : ∀ (k f : Nat) (I : Mm), k ≤ n → k < f → (∃ ch A, ch ≤ n ∧ (lp_X9_nextRow_4 (nI n) (nI V) f (nI k - 1) I).1 = nI ch ∧ (lp_X9_nextRow_4 (nI n) (nI V) f (nI k - 1) I).2 = va_up I 50 A) ∧ oklp_X9_nextRow_4 (nI n) (nI V) f (nI k - 1) I ∧ ∀ c0 p, c0 < k → I 50 c0 = nI p → p < V → (∀ j, c0 < j → j < k → I 50 j = nI V) → (lp_X9_nextRow_4 (nI n) (nI V) f (nI k - 1) I).1 = nI c0 ∧ (lp_X9_nextRow_4 (nI n) (nI V) f (nI k - 1) I).2 = va_up I 50 (fun j => if j = c0 then nI (p + 1) else if c0 < j ∧ j < k then 0 else I 50 j) := by
  intro k
  induction k with
  | zero =>
    intro f I hk hf
    obtain ⟨f, rfl⟩ : ∃ g, f = g + 1 := ⟨f - 1, by omega⟩
    have q : nI 0 - 1 < 0 := by decide
    rw [lp_X9_nextRow_4, oklp_X9_nextRow_4, if_pos q, if_pos q]
    exact ⟨⟨0, I 50, by omega, rfl, (vu_same _ _).symm⟩, trivial, fun c0 p h => by omega⟩
  | succ k ih =>
    intro f I hk hf
    obtain ⟨f, rfl⟩ : ∃ g, f = g + 1 := ⟨f - 1, by omega⟩
    have q : ¬ nI k < 0 := nI_pos (by omega)
    have q4 : ¬ Int32.ofNat (sz 50) ≤ nI k := by rw [sz_50]; exact nI_ge (b := 4) (by omega) (by omega)
    have vin : vp_in (nI k) (sz 50) := by rw [sz_50]; exact vp_in_nI (by omega) (by omega)
    rw [nI_pred, lp_X9_nextRow_4, oklp_X9_nextRow_4, if_neg q, if_neg q, if_neg q4, if_neg q4, nI_clamp (by omega)]
    by_cases z : nI V ≤ I 50 k
    · rw [if_pos z, if_pos z]
      obtain ⟨⟨ch, A, a1, a2, a3⟩, b, sp⟩ := ih f (va_up I 50 (upd (I 50) k 0)) (by omega) (by omega)
      rw [show nI k + -1 = nI k - 1 from (Int32.sub_eq_add_neg (nI k) 1).symm]
      refine ⟨⟨ch, A, a1, a2, by rw [a3, vu_vu]⟩, ⟨vin, vin, b⟩, fun c0 p h1 h2 h3 h4 => ?_⟩
      by_cases y : c0 = k
      · subst y
        rw [h2] at z
        exact absurd z (nI_ge (by omega) (by omega))
      · have s := sp c0 p (by omega) (by rw [vu_s, pk_un y]; exact h2) h3 (fun j j1 j2 => by rw [vu_s, pk_un (by omega)]; exact h4 j j1 (by omega))
        refine ⟨s.1, ?_⟩
        rw [s.2, vu_vu, vu_s]
        congr 1
        funext j
        by_cases j1 : j = c0
        · rw [if_pos j1, if_pos j1]
        · rw [if_neg j1, if_neg j1]
          by_cases j2 : c0 < j ∧ j < k
          · rw [if_pos j2, if_pos (by omega)]
          · rw [if_neg j2]
            by_cases j3 : j = k
            · rw [if_pos (by omega), j3, pk_us]
            · rw [if_neg (by omega), pk_un j3]
    · rw [if_neg z, if_neg z]
      refine ⟨⟨k, _, by omega, rfl, rfl⟩, ⟨vin, vin, vin⟩, fun c0 p h1 h2 h3 h4 => ?_⟩
      by_cases y : c0 = k
      · subst y
        refine ⟨rfl, ?_⟩
        show va_up I 50 _ = _
        congr 1
        funext j
        by_cases j1 : j = c0
        · rw [if_pos j1, j1, pk_us, h2, nI_1]
        · rw [if_neg j1, pk_un j1, if_neg (by omega)]
      · have := h4 k (by omega) (by omega)
        rw [this] at z
        exact absurd (nI_le (Nat.le_refl _) (by omega)) z
