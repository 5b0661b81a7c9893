noncomputable def lp_X9_take_8 (x1 : Int32) (x2 : Int32) (x3 : Int32) : Nat → Int32 → Int32 → (Nat → Nat → Int32) → Bool × (Nat → Nat → Int32)
  | 0, l4, l5, I1 => (false, I1)
  | n + 1, l4, l5, I1 => (if l5 < 0 then ((if l4 = 0 then true else false), I1) else (if (Int32.ofNat (sz 50)) ≤ l5 then ((if l4 = 0 then true else false), I1) else (if ((va_up I1 50 (upd (I1 50) l5.toNatClampNeg (l4 - l4 / 10 * 10))) 50 l5.toNatClampNeg) < 0 then (false, (va_up I1 50 (upd (I1 50) l5.toNatClampNeg (l4 - l4 / 10 * 10)))) else (if ((va_up I1 50 (upd (I1 50) l5.toNatClampNeg (l4 - l4 / 10 * 10))) 50 l5.toNatClampNeg) ≤ x3 then (lp_X9_take_8 x1 x2 x3 n (l4 / 10) (l5 + (-1)) (va_up I1 50 (upd (I1 50) l5.toNatClampNeg (l4 - l4 / 10 * 10)))) else (false, (va_up I1 50 (upd (I1 50) l5.toNatClampNeg (l4 - l4 / 10 * 10))))))))
def oklp_X9_take_8 (x1 : Int32) (x2 : Int32) (x3 : Int32) : Nat → Int32 → Int32 → (Nat → Nat → Int32) → Prop
  | 0, l4, l5, I1 => True
  | n + 1, l4, l5, I1 => (if l5 < 0 then True else (if (Int32.ofNat (sz 50)) ≤ l5 then True else (vp_in l5 (sz 50) ∧ (vp_in l5 (sz 50) ∧ (if ((va_up I1 50 (upd (I1 50) l5.toNatClampNeg (l4 - l4 / 10 * 10))) 50 l5.toNatClampNeg) < 0 then True else (vp_in l5 (sz 50) ∧ (if ((va_up I1 50 (upd (I1 50) l5.toNatClampNeg (l4 - l4 / 10 * 10))) 50 l5.toNatClampNeg) ≤ x3 then oklp_X9_take_8 x1 x2 x3 n (l4 / 10) (l5 + (-1)) (va_up I1 50 (upd (I1 50) l5.toNatClampNeg (l4 - l4 / 10 * 10))) else True)))))))
set_option maxHeartbeats 800000 in
set_option maxRecDepth 4000 in
theorem k_lp_X9_take_8 {k : KT} {ex : Bool} {J : Nat → Nat → Int64} {w : Bool} (x1 : Int32) (x2 : Int32) (x3 : Int32) {Q : Option Value → MM → Prop} : ∀ (n : Nat) (l4 : Int32) (l5 : Int32) (I1 : (Nat → Nat → Int32)), mu_dn l5 < n → oklp_X9_take_8 x1 x2 x3 n l4 l5 I1 → Q (some (.int (b2i (lp_X9_take_8 x1 x2 x3 n l4 l5 I1).1))) (81, ex, (lp_X9_take_8 x1 x2 x3 n l4 l5 I1).2, J, Pw w) → G k mX9_take (roomOf 1 0 0) (FinM k Q 0 0) 0 0 8 [some (.ref (ka k 49)), some (.int x1), some (.int x2), some (.int x3), some (.int l4), some (.int l5)] [] (81, ex, I1, J, Pw w) := by
  intro n
  induction n with
  | zero => intro l4 l5 I1 hmu hok hq; exact absurd hmu (Nat.not_lt_zero _)
  | succ n ih =>
    intro l4 l5 I1 hmu hok hq
    rw [oklp_X9_take_8] at hok
    refine g_iload (i := 5) rfl d_X9_take_8 ?_
    refine g_if_lt 71 d_X9_take_10 (by decide) (fun h1 => ?_) (fun h1 => ?_)
    · skip
      refine g_iload (i := 4) rfl d_X9_take_71 ?_
      refine g_cut (pc' := 81) (vs' := [some (.ref (ka k 49)), some (.int x1), some (.int x2), some (.int x3), some (.int l4), some (.int l5)]) (st' := [.int (b2i (if l4 = 0 then true else false))]) (M' := (81, ex, I1, J, Pw w)) (fun hj => ?_) ?_
      · skip
        refine g_if_ne 80 d_X9_take_73 (by decide) (fun h2 => ?_) (fun h2 => ?_)
        · skip
          refine g_iconst 0 d_X9_take_80 (by decide) ?_
          (try simp only [if_neg h2, opv_eq, if_true, if_false, Bool.false_eq_true, reduceCtorEq, b2i_t, b2i_f] at hj); exact hj
        · skip
          refine g_iconst 1 d_X9_take_76 (by decide) ?_
          refine g_goto 81 d_X9_take_77 (by decide) ?_
          (try simp only [if_pos h2, opv_eq, if_true, if_false, Bool.false_eq_true, reduceCtorEq, b2i_t, b2i_f] at hj); exact hj
      · skip
        exact g_zret rfl (nar_b _) d_X9_take_81 (by (try simp only [lp_X9_take_8, if_pos h1, opv_eq, if_true, if_false, Bool.false_eq_true, reduceCtorEq, b2i_t, b2i_f] at hq); exact hq) (Nat.le_refl _) (Nat.le_refl _)
    · skip
      rw [if_neg h1] at hok
      refine g_iload (i := 5) rfl d_X9_take_13 ?_
      refine g_aload_n0 rfl d_X9_take_15 ?_
      refine g_getP (b := 50) f_X9_11 d_X9_take_16 rfl (Nat.le_of_ble_eq_true rfl) rfl rfl ?_
      refine g_alen12 d_X9_take_19 rfl (Nat.le_of_ble_eq_true rfl) ?_
      refine g_icmp_ge 71 d_X9_take_20 (by decide) (fun h3 => ?_) (fun h3 => ?_)
      · skip
        refine g_iload (i := 4) rfl d_X9_take_71 ?_
        refine g_cut (pc' := 81) (vs' := [some (.ref (ka k 49)), some (.int x1), some (.int x2), some (.int x3), some (.int l4), some (.int l5)]) (st' := [.int (b2i (if l4 = 0 then true else false))]) (M' := (81, ex, I1, J, Pw w)) (fun hj => ?_) ?_
        · skip
          refine g_if_ne 80 d_X9_take_73 (by decide) (fun h4 => ?_) (fun h4 => ?_)
          · skip
            refine g_iconst 0 d_X9_take_80 (by decide) ?_
            (try simp only [if_neg h4, opv_eq, if_true, if_false, Bool.false_eq_true, reduceCtorEq, b2i_t, b2i_f] at hj); exact hj
          · skip
            refine g_iconst 1 d_X9_take_76 (by decide) ?_
            refine g_goto 81 d_X9_take_77 (by decide) ?_
            (try simp only [if_pos h4, opv_eq, if_true, if_false, Bool.false_eq_true, reduceCtorEq, b2i_t, b2i_f] at hj); exact hj
        · skip
          exact g_zret rfl (nar_b _) d_X9_take_81 (by (try simp only [lp_X9_take_8, if_neg h1, if_pos h3, opv_eq, if_true, if_false, Bool.false_eq_true, reduceCtorEq, b2i_t, b2i_f] at hq); exact hq) (Nat.le_refl _) (Nat.le_refl _)
      · skip
        rw [if_neg h3] at hok
        refine g_aload_n0 rfl d_X9_take_23 ?_
        refine g_getP (b := 50) f_X9_11 d_X9_take_24 rfl (Nat.le_of_ble_eq_true rfl) rfl rfl ?_
        refine g_iload (i := 5) rfl d_X9_take_27 ?_
        refine g_iload (i := 4) rfl d_X9_take_29 ?_
        refine g_bipush 10 d_X9_take_31 (by decide) ?_
        refine g_irem (by decide) d_X9_take_33 ?_
        obtain ⟨ho1, hok⟩ := hok
        refine g_iast d_X9_take_34 rfl (Nat.le_of_ble_eq_true rfl) ho1 ?_
        refine g_aload_n0 rfl d_X9_take_35 ?_
        refine g_getP (b := 50) f_X9_11 d_X9_take_36 rfl (Nat.le_of_ble_eq_true rfl) rfl rfl ?_
        refine g_iload (i := 5) rfl d_X9_take_39 ?_
        obtain ⟨ho2, hok⟩ := hok
        refine g_iald d_X9_take_41 rfl (Nat.le_of_ble_eq_true rfl) ho2 ?_
        refine g_if_lt 56 d_X9_take_42 (by decide) (fun h5 => ?_) (fun h5 => ?_)
        · skip
          refine g_iconst 0 d_X9_take_56 (by decide) ?_
          exact g_zret rfl (by decide) d_X9_take_57 (by (try simp only [lp_X9_take_8, if_neg h1, if_neg h3, if_pos h5, opv_eq, if_true, if_false, Bool.false_eq_true, reduceCtorEq, b2i_t, b2i_f] at hq); exact hq) (Nat.le_refl _) (Nat.le_refl _)
        · skip
          rw [if_neg h5] at hok
          refine g_aload_n0 rfl d_X9_take_45 ?_
          refine g_getP (b := 50) f_X9_11 d_X9_take_46 rfl (Nat.le_of_ble_eq_true rfl) rfl rfl ?_
          refine g_iload (i := 5) rfl d_X9_take_49 ?_
          obtain ⟨ho3, hok⟩ := hok
          refine g_iald d_X9_take_51 rfl (Nat.le_of_ble_eq_true rfl) ho3 ?_
          refine g_iload_n3 rfl d_X9_take_52 ?_
          refine g_icmp_le 58 d_X9_take_53 (by decide) (fun h6 => ?_) (fun h6 => ?_)
          · skip
            rw [if_pos h6] at hok
            refine g_iload (i := 4) rfl d_X9_take_58 ?_
            refine g_bipush 10 d_X9_take_60 (by decide) ?_
            refine g_idiv (by decide) d_X9_take_62 ?_
            refine g_is4 rfl d_X9_take_63 ?_
            refine g_ic5 (l5 + (-1)) (congrArg (HAdd.hAdd l5) (by decide)) rfl d_X9_take_65 ?_
            refine g_goto 8 d_X9_take_68 (by decide) ?_
            exact ih (l4 / 10) (l5 + (-1)) (va_up I1 50 (upd (I1 50) l5.toNatClampNeg (l4 - l4 / 10 * 10))) (Nat.lt_of_lt_of_le (mu_dn_lt h1) (Nat.le_of_lt_succ hmu)) (by (try simp only [if_neg h1, if_neg h3, if_neg h5, if_pos h6, opv_eq, if_true, if_false, Bool.false_eq_true, reduceCtorEq, b2i_t, b2i_f] at hok); exact hok) (by (try simp only [lp_X9_take_8, if_neg h1, if_neg h3, if_neg h5, if_pos h6, opv_eq, if_true, if_false, Bool.false_eq_true, reduceCtorEq, b2i_t, b2i_f] at hq); exact hq)
          · skip
            refine g_iconst 0 d_X9_take_56 (by decide) ?_
            exact g_zret rfl (by decide) d_X9_take_57 (by (try simp only [lp_X9_take_8, if_neg h1, if_neg h3, if_neg h5, if_neg h6, opv_eq, if_true, if_false, Bool.false_eq_true, reduceCtorEq, b2i_t, b2i_f] at hq); exact hq) (Nat.le_refl _) (Nat.le_refl _)
noncomputable def f_X9_take (I : Nat → Nat → Int32) (x1 : Int32) (x2 : Int32) (x3 : Int32) : Bool := opv ((lp_X9_take_8 x1 x2 x3 (mu_dn (x2 - 1) + 1) x1 (x2 - 1) I).1)
noncomputable def m_X9_take (I : Nat → Nat → Int32) (x1 : Int32) (x2 : Int32) (x3 : Int32) : Nat → Nat → Int32 := opv ((lp_X9_take_8 x1 x2 x3 (mu_dn (x2 - 1) + 1) x1 (x2 - 1) I).2)
noncomputable def ok_X9_take (I : Nat → Nat → Int32) (x1 : Int32) (x2 : Int32) (x3 : Int32) : Prop := opv (oklp_X9_take_8 x1 x2 x3 (mu_dn (x2 - 1) + 1) x1 (x2 - 1) I)
set_option maxHeartbeats 800000 in
set_option maxRecDepth 4000 in
theorem c_X9_take {k : KT} {ex : Bool} {J : Nat → Nat → Int64} {w : Bool} (I : Nat → Nat → Int32) (x1 : Int32) (x2 : Int32) (x3 : Int32)  (hok : ok_X9_take I x1 x2 x3) : Cx k mX9_take 1 [.ref (ka k 49), .int x1, .int x2, .int x3] (81, ex, I, J, Pw w) (some (.int (b2i (f_X9_take I x1 x2 x3)))) (81, ex, m_X9_take I x1 x2 x3, J, Pw w) := by
  refine Ct.of rfl [some (.ref (ka k 49)), some (.int x1), some (.int x2), some (.int x3), none, none] rfl rfl (Nat.le_of_ble_eq_true rfl) ?_
  rw [ok_X9_take, opv_eq] at hok
  refine g_iload_n1 rfl d_X9_take_0 ?_
  refine g_is4 rfl d_X9_take_1 ?_
  refine g_iload_n2 rfl d_X9_take_3 ?_
  refine g_iconst 1 d_X9_take_4 (by decide) ?_
  refine g_isub d_X9_take_5 ?_
  refine g_is5 rfl d_X9_take_6 ?_
  exact k_lp_X9_take_8 x1 x2 x3 _ x1 (x2 - 1) I (Nat.lt_succ_self _) hok ⟨by simp only [f_X9_take, m_X9_take, opv_eq, if_true, if_false, Bool.false_eq_true, reduceCtorEq, b2i_t, b2i_f], by simp only [f_X9_take, m_X9_take, opv_eq, if_true, if_false, Bool.false_eq_true, reduceCtorEq, b2i_t, b2i_f]⟩
noncomputable def u0_X9_passTurn (I : Nat → Nat → Int32) (x2 : Int32) (x3 : Int32) : Nat → Nat → Int32 := opv (m_X0_openVent (m_X0_copy I (rt 52 (x2 + 1).toNatClampNeg) (rt 52 x2.toNatClampNeg)) (rt 52 (x2 + 1).toNatClampNeg) (x3 - 1))
noncomputable def u1_X9_passTurn (I : Nat → Nat → Int32) (x2 : Int32) (x3 : Int32) : Nat → Nat → Int32 := opv (if x3 ≤ 0 then (m_X0_copy I (rt 52 (x2 + 1).toNatClampNeg) (rt 52 x2.toNatClampNeg)) else (u0_X9_passTurn I x2 x3))
noncomputable def u2_X9_passTurn (I : Nat → Nat → Int32) (x1 : Nat) (x2 : Int32) (x3 : Int32) : Nat → Nat → Int32 := opv (m_X0_passDay (u1_X9_passTurn I x2 x3) (rt 52 (x2 + 1).toNatClampNeg) x1)
noncomputable def m_X9_passTurn (I : Nat → Nat → Int32) (x1 : Nat) (x2 : Int32) (x3 : Int32) : Nat → Nat → Int32 := opv (if (f_X10_within I x2 0 3) = true then (u2_X9_passTurn I x1 x2 x3) else I)
noncomputable def ok_X9_passTurn (I : Nat → Nat → Int32) (x1 : Nat) (x2 : Int32) (x3 : Int32) : Prop := opv (if (f_X10_within I x2 0 3) = true then (vp_in (x2 + 1) (sz 52) ∧ (vp_in x2 (sz 52) ∧ (rt 52 x2.toNatClampNeg) ≠ (rt 52 (x2 + 1).toNatClampNeg))) else True)
set_option maxHeartbeats 800000 in
set_option maxRecDepth 4000 in
theorem c_X9_passTurn {k : KT} {ex : Bool} {J : Nat → Nat → Int64} {w : Bool} (I : Nat → Nat → Int32) (x1 : Nat) (hx1 : kd x1 = 7) (x2 : Int32) (x3 : Int32)  (hok : ok_X9_passTurn I x1 x2 x3) : Cx k mX9_passTurn 5 [.ref (ka k 49), .ref (ka k x1), .int x2, .int x3] (81, ex, I, J, Pw w) none (81, ex, m_X9_passTurn I x1 x2 x3, J, Pw w) := by
  refine Ct.of rfl [some (.ref (ka k 49)), some (.ref (ka k x1)), some (.int x2), some (.int x3), none] rfl rfl (Nat.le_of_ble_eq_true rfl) ?_
  rw [ok_X9_passTurn, opv_eq] at hok
  refine g_iload_n2 rfl d_X9_passTurn_0 ?_
  refine g_iconst 0 d_X9_passTurn_1 (by decide) ?_
  refine g_iconst 3 d_X9_passTurn_2 (by decide) ?_
  refine g_callN1 (c_X10_within I x2 0 3) w_X10_within nest9 d_X9_passTurn_3 rfl rfl (Nat.le_of_ble_eq_true rfl) ⟨Nat.le_of_ble_eq_true rfl, Nat.le_of_ble_eq_true rfl⟩ ⟨Nat.zero_le _, Nat.zero_le _⟩ ⟨rfl, rfl⟩ ?_
  refine g_ifnz 10 d_X9_passTurn_6 (by decide) (fun h1 => ?_) (fun h1 => ?_)
  · skip
    rw [if_pos h1] at hok
    refine g_aload_n0 rfl d_X9_passTurn_10 ?_
    refine g_getP (b := 52) f_X9_22 d_X9_passTurn_11 rfl (Nat.le_of_ble_eq_true rfl) rfl rfl ?_
    refine g_iload_n2 rfl d_X9_passTurn_14 ?_
    refine g_iconst 1 d_X9_passTurn_15 (by decide) ?_
    refine g_iadd d_X9_passTurn_16 ?_
    obtain ⟨ho1, hok⟩ := hok
    refine g_aald (b := rt 52 (x2 + 1).toNatClampNeg) d_X9_passTurn_17 rfl (Nat.le_of_ble_eq_true rfl) ho1 (pw_rt rfl (by decide) (by decide)) ?_
    refine g_as4 rfl d_X9_passTurn_18 ?_
    refine g_aload (i := 4) rfl d_X9_passTurn_20 ?_
    refine g_aload_n0 rfl d_X9_passTurn_22 ?_
    refine g_getP (b := 52) f_X9_22 d_X9_passTurn_23 rfl (Nat.le_of_ble_eq_true rfl) rfl rfl ?_
    refine g_iload_n2 rfl d_X9_passTurn_26 ?_
    obtain ⟨ho2, hok⟩ := hok
    refine g_aald (b := rt 52 x2.toNatClampNeg) d_X9_passTurn_27 rfl (Nat.le_of_ble_eq_true rfl) ho2 (pw_rt rfl (by decide) (by decide)) ?_
    have ho3 := hok
    refine g_callV0 (c_X0_copy I (rt 52 (x2 + 1).toNatClampNeg) (kt14 rfl ho1) (rt 52 x2.toNatClampNeg) (kt14 rfl ho2) ho3) w_X0_copy l_X9_27 d_X9_passTurn_28 (kt14 rfl ho1) (kd_sg (kt14 rfl ho1) (by decide)) rfl rfl (Nat.le_of_ble_eq_true rfl) ⟨Nat.le_of_ble_eq_true rfl, Nat.le_of_ble_eq_true rfl⟩ ⟨Nat.zero_le _, Nat.zero_le _⟩ ⟨rfl, rfl⟩ ?_
    refine g_iload_n3 rfl d_X9_passTurn_31 ?_
    refine g_cut (pc' := 43) (vs' := [some (.ref (ka k 49)), some (.ref (ka k x1)), some (.int x2), some (.int x3), some (.ref (ka k (rt 52 (x2 + 1).toNatClampNeg)))]) (st' := []) (M' := (81, ex, (u1_X9_passTurn I x2 x3), J, Pw w)) (fun hj => ?_) ?_
    · skip
      refine g_if_le 43 d_X9_passTurn_32 (by decide) (fun h2 => ?_) (fun h2 => ?_)
      · skip
        (try simp only [if_pos h2, opv_eq, if_true, if_false, Bool.false_eq_true, reduceCtorEq, b2i_t, b2i_f, u1_X9_passTurn] at hj); exact hj
      · skip
        refine g_aload (i := 4) rfl d_X9_passTurn_35 ?_
        refine g_iload_n3 rfl d_X9_passTurn_37 ?_
        refine g_iconst 1 d_X9_passTurn_38 (by decide) ?_
        refine g_isub d_X9_passTurn_39 ?_
        refine g_callV0 (c_X0_openVent (m_X0_copy I (rt 52 (x2 + 1).toNatClampNeg) (rt 52 x2.toNatClampNeg)) (rt 52 (x2 + 1).toNatClampNeg) (kt14 rfl ho1) (x3 - 1)) w_X0_openVent l_X9_85 d_X9_passTurn_40 (kt14 rfl ho1) (kd_sg (kt14 rfl ho1) (by decide)) rfl rfl (Nat.le_of_ble_eq_true rfl) ⟨Nat.le_of_ble_eq_true rfl, Nat.le_of_ble_eq_true rfl⟩ ⟨Nat.zero_le _, Nat.zero_le _⟩ ⟨rfl, rfl⟩ ?_
        refine G.toI (I' := (u0_X9_passTurn I x2 x3)) (by rw [u0_X9_passTurn, opv_eq]) ?_
        (try simp only [if_neg h2, opv_eq, if_true, if_false, Bool.false_eq_true, reduceCtorEq, b2i_t, b2i_f, u1_X9_passTurn] at hj); exact hj
    · skip
      refine g_aload (i := 4) rfl d_X9_passTurn_43 ?_
      refine g_aload_n1 rfl d_X9_passTurn_45 ?_
      refine g_callV0 (c_X0_passDay (u1_X9_passTurn I x2 x3) (rt 52 (x2 + 1).toNatClampNeg) (kt14 rfl ho1) x1 hx1) w_X0_passDay l_X9_89 d_X9_passTurn_46 (kt14 rfl ho1) (kd_sg (kt14 rfl ho1) (by decide)) rfl rfl (Nat.le_of_ble_eq_true rfl) ⟨Nat.le_of_ble_eq_true rfl, Nat.le_of_ble_eq_true rfl⟩ ⟨Nat.zero_le _, Nat.zero_le _⟩ ⟨rfl, rfl⟩ ?_
      refine G.toI (I' := (u2_X9_passTurn I x1 x2 x3)) (by rw [u2_X9_passTurn, opv_eq]) ?_
      exact g_vret rfl d_X9_passTurn_49 ⟨rfl, by simp only [m_X9_passTurn, if_pos h1, opv_eq, if_true, if_false, Bool.false_eq_true, reduceCtorEq, b2i_t, b2i_f]⟩ (Nat.le_refl _) (Nat.le_refl _)
  · skip
    exact g_vret rfl d_X9_passTurn_9 ⟨rfl, by simp only [m_X9_passTurn, if_neg (nb h1), opv_eq, if_true, if_false, Bool.false_eq_true, reduceCtorEq, b2i_t, b2i_f]⟩ (Nat.le_refl _) (Nat.le_refl _)
noncomputable def u0_X9_follow (x1 : Nat) (l4 : Int32) (I1 : Nat → Nat → Int32) : Nat → Nat → Int32 := opv (m_X9_passTurn (va_up I1 51 (upd (I1 51) (l4 + 1).toNatClampNeg ((I1 51 l4.toNatClampNeg) + (f_X7_cell I1 (rt x1 7) ((I1 50 l4.toNatClampNeg) - 1) 2)))) x1 l4 ((va_up I1 51 (upd (I1 51) (l4 + 1).toNatClampNeg ((I1 51 l4.toNatClampNeg) + (f_X7_cell I1 (rt x1 7) ((I1 50 l4.toNatClampNeg) - 1) 2)))) 50 l4.toNatClampNeg))
noncomputable def lp_X9_follow_3 (x1 : Nat) (x2 : Int32) (x3 : Int32) : Nat → Int32 → (Nat → Nat → Int32) → Int32 × (Nat → Nat → Int32)
  | 0, l4, I1 => (l4, I1)
  | n + 1, l4, I1 => (if x3 ≤ l4 then (l4, I1) else (if 4 ≤ l4 then (l4, I1) else (lp_X9_follow_3 x1 x2 x3 n (l4 + 1) (u0_X9_follow x1 l4 I1))))
def oklp_X9_follow_3 (x1 : Nat) (x2 : Int32) (x3 : Int32) : Nat → Int32 → (Nat → Nat → Int32) → Prop
  | 0, l4, I1 => True
  | n + 1, l4, I1 => (if x3 ≤ l4 then True else (if 4 ≤ l4 then True else (vp_in l4 (sz 51) ∧ (vp_in l4 (sz 50) ∧ (vp_in (l4 + 1) (sz 51) ∧ (vp_in l4 (sz 50) ∧ (ok_X9_passTurn (va_up I1 51 (upd (I1 51) (l4 + 1).toNatClampNeg ((I1 51 l4.toNatClampNeg) + (f_X7_cell I1 (rt x1 7) ((I1 50 l4.toNatClampNeg) - 1) 2)))) x1 l4 ((va_up I1 51 (upd (I1 51) (l4 + 1).toNatClampNeg ((I1 51 l4.toNatClampNeg) + (f_X7_cell I1 (rt x1 7) ((I1 50 l4.toNatClampNeg) - 1) 2)))) 50 l4.toNatClampNeg) ∧ oklp_X9_follow_3 x1 x2 x3 n (l4 + 1) (u0_X9_follow x1 l4 I1))))))))
set_option maxHeartbeats 800000 in
set_option maxRecDepth 4000 in
theorem k_lp_X9_follow_3 {k : KT} {ex : Bool} {J : Nat → Nat → Int64} {w : Bool} (x1 : Nat) (hx1 : kd x1 = 7) (x2 : Int32) (x3 : Int32) {F : FinT} : ∀ (n : Nat) (l4 : Int32) (I1 : (Nat → Nat → Int32)), mu_up x3 l4 < n → oklp_X9_follow_3 x1 x2 x3 n l4 I1 → G k mX9_follow (roomOf 6 0 0) F 0 0 69 [some (.ref (ka k 49)), some (.ref (ka k x1)), some (.int x2), some (.int x3), some (.int ((lp_X9_follow_3 x1 x2 x3 n l4 I1).1))] [] (81, ex, (lp_X9_follow_3 x1 x2 x3 n l4 I1).2, J, Pw w) → G k mX9_follow (roomOf 6 0 0) F 0 0 3 [some (.ref (ka k 49)), some (.ref (ka k x1)), some (.int x2), some (.int x3), some (.int l4)] [] (81, ex, I1, J, Pw w) := by
  intro n
  induction n with
  | zero => intro l4 I1 hmu hok hj; exact absurd hmu (Nat.not_lt_zero _)
  | succ n ih =>
    intro l4 I1 hmu hok hj
    rw [oklp_X9_follow_3] at hok
    refine g_iload (i := 4) rfl d_X9_follow_3 ?_
    refine g_iload_n3 rfl d_X9_follow_5 ?_
    refine g_icmp_ge 69 d_X9_follow_6 (by decide) (fun h1 => ?_) (fun h1 => ?_)
    · skip
      (try simp only [lp_X9_follow_3, if_pos h1, opv_eq, if_true, if_false, Bool.false_eq_true, reduceCtorEq, b2i_t, b2i_f] at hj); exact hj
    · skip
      rw [if_neg h1] at hok
      refine g_iload (i := 4) rfl d_X9_follow_9 ?_
      refine g_iconst 4 d_X9_follow_11 (by decide) ?_
      refine g_icmp_ge 69 d_X9_follow_12 (by decide) (fun h2 => ?_) (fun h2 => ?_)
      · skip
        (try simp only [lp_X9_follow_3, if_neg h1, if_pos h2, opv_eq, if_true, if_false, Bool.false_eq_true, reduceCtorEq, b2i_t, b2i_f] at hj); exact hj
      · skip
        rw [if_neg h2] at hok
        refine g_aload_n0 rfl d_X9_follow_15 ?_
        refine g_getP (b := 51) f_X9_17 d_X9_follow_16 rfl (Nat.le_of_ble_eq_true rfl) rfl rfl ?_
        refine g_iload (i := 4) rfl d_X9_follow_19 ?_
        refine g_iconst 1 d_X9_follow_21 (by decide) ?_
        refine g_iadd d_X9_follow_22 ?_
        refine g_aload_n0 rfl d_X9_follow_23 ?_
        refine g_getP (b := 51) f_X9_17 d_X9_follow_24 rfl (Nat.le_of_ble_eq_true rfl) rfl rfl ?_
        refine g_iload (i := 4) rfl d_X9_follow_27 ?_
        obtain ⟨ho1, hok⟩ := hok
        refine g_iald d_X9_follow_29 rfl (Nat.le_of_ble_eq_true rfl) ho1 ?_
        refine g_aload_n1 rfl d_X9_follow_30 ?_
        refine g_getP (b := rt x1 7) f_X9_53 d_X9_follow_31 hx1 (kd_sg hx1 (by decide)) rfl (pw_rt hx1 (by decide) (by decide)) ?_
        refine g_aload_n0 rfl d_X9_follow_34 ?_
        refine g_getP (b := 50) f_X9_11 d_X9_follow_35 rfl (Nat.le_of_ble_eq_true rfl) rfl rfl ?_
        refine g_iload (i := 4) rfl d_X9_follow_38 ?_
        obtain ⟨ho2, hok⟩ := hok
        refine g_iald d_X9_follow_40 rfl (Nat.le_of_ble_eq_true rfl) ho2 ?_
        refine g_iconst 1 d_X9_follow_41 (by decide) ?_
        refine g_isub d_X9_follow_42 ?_
        refine g_iconst 2 d_X9_follow_43 (by decide) ?_
        refine g_callV1 (c_X7_cell I1 (rt x1 7) (kt7 hx1).1 ((I1 50 l4.toNatClampNeg) - 1) 2 (okt_X7_cell I1 (rt x1 7) (kt7 hx1).1 ((I1 50 l4.toNatClampNeg) - 1) 2)) w_X7_cell l_X9_75 d_X9_follow_44 (kt7 hx1).1 (kd_sg ((kt7 hx1).1) (by decide)) rfl rfl (Nat.le_of_ble_eq_true rfl) ⟨Nat.le_of_ble_eq_true rfl, Nat.le_of_ble_eq_true rfl⟩ ⟨Nat.zero_le _, Nat.zero_le _⟩ ⟨rfl, rfl⟩ ?_
        refine g_iadd d_X9_follow_47 ?_
        obtain ⟨ho3, hok⟩ := hok
        refine g_iast d_X9_follow_48 rfl (Nat.le_of_ble_eq_true rfl) ho3 ?_
        refine g_aload_n0 rfl d_X9_follow_49 ?_
        refine g_aload_n1 rfl d_X9_follow_50 ?_
        refine g_iload (i := 4) rfl d_X9_follow_51 ?_
        refine g_aload_n0 rfl d_X9_follow_53 ?_
        refine g_getP (b := 50) f_X9_11 d_X9_follow_54 rfl (Nat.le_of_ble_eq_true rfl) rfl rfl ?_
        refine g_iload (i := 4) rfl d_X9_follow_57 ?_
        obtain ⟨ho4, hok⟩ := hok
        refine g_iald d_X9_follow_59 rfl (Nat.le_of_ble_eq_true rfl) ho4 ?_
        obtain ⟨ho5, hok⟩ := hok
        refine g_callV0 (c_X9_passTurn (va_up I1 51 (upd (I1 51) (l4 + 1).toNatClampNeg ((I1 51 l4.toNatClampNeg) + (f_X7_cell I1 (rt x1 7) ((I1 50 l4.toNatClampNeg) - 1) 2)))) x1 hx1 l4 ((va_up I1 51 (upd (I1 51) (l4 + 1).toNatClampNeg ((I1 51 l4.toNatClampNeg) + (f_X7_cell I1 (rt x1 7) ((I1 50 l4.toNatClampNeg) - 1) 2)))) 50 l4.toNatClampNeg) ho5) w_X9_passTurn l_X9_78 d_X9_follow_60 rfl (Nat.le_of_ble_eq_true rfl) rfl rfl (Nat.le_of_ble_eq_true rfl) ⟨Nat.le_of_ble_eq_true rfl, Nat.le_of_ble_eq_true rfl⟩ ⟨Nat.zero_le _, Nat.zero_le _⟩ ⟨rfl, rfl⟩ ?_
        refine G.toI (I' := (u0_X9_follow x1 l4 I1)) (by rw [u0_X9_follow, opv_eq]) ?_
        refine g_ic4 (l4 + 1) rfl rfl d_X9_follow_63 ?_
        refine g_goto 3 d_X9_follow_66 (by decide) ?_
        exact ih (l4 + 1) (u0_X9_follow x1 l4 I1) (Nat.lt_of_lt_of_le (mu_up_lt h1) (Nat.le_of_lt_succ hmu)) (by (try simp only [if_neg h1, if_neg h2, opv_eq, if_true, if_false, Bool.false_eq_true, reduceCtorEq, b2i_t, b2i_f] at hok); exact hok) (by (try simp only [lp_X9_follow_3, if_neg h1, if_neg h2, opv_eq, if_true, if_false, Bool.false_eq_true, reduceCtorEq, b2i_t, b2i_f] at hj); exact hj)
noncomputable def m_X9_follow (I : Nat → Nat → Int32) (x1 : Nat) (x2 : Int32) (x3 : Int32) : Nat → Nat → Int32 := opv ((lp_X9_follow_3 x1 x2 x3 (mu_up x3 x2 + 1) x2 I).2)
noncomputable def ok_X9_follow (I : Nat → Nat → Int32) (x1 : Nat) (x2 : Int32) (x3 : Int32) : Prop := opv (oklp_X9_follow_3 x1 x2 x3 (mu_up x3 x2 + 1) x2 I)
set_option maxHeartbeats 800000 in
set_option maxRecDepth 4000 in
theorem c_X9_follow {k : KT} {ex : Bool} {J : Nat → Nat → Int64} {w : Bool} (I : Nat → Nat → Int32) (x1 : Nat) (hx1 : kd x1 = 7) (x2 : Int32) (x3 : Int32)  (hok : ok_X9_follow I x1 x2 x3) : Cx k mX9_follow 6 [.ref (ka k 49), .ref (ka k x1), .int x2, .int x3] (81, ex, I, J, Pw w) none (81, ex, m_X9_follow I x1 x2 x3, J, Pw w) := by
  refine Ct.of rfl [some (.ref (ka k 49)), some (.ref (ka k x1)), some (.int x2), some (.int x3), none] rfl rfl (Nat.le_of_ble_eq_true rfl) ?_
  rw [ok_X9_follow, opv_eq] at hok
  refine g_iload_n2 rfl d_X9_follow_0 ?_
  refine g_is4 rfl d_X9_follow_1 ?_
  refine k_lp_X9_follow_3 x1 hx1 x2 x3 _ x2 I (Nat.lt_succ_self _) hok ?_
  exact g_vret rfl d_X9_follow_69 ⟨rfl, by simp only [m_X9_follow, opv_eq, if_true, if_false, Bool.false_eq_true, reduceCtorEq, b2i_t, b2i_f]⟩ (Nat.le_refl _) (Nat.le_refl _)
noncomputable def lp_X9_opened_4 (I : Nat → Nat → Int32) (x1 : Int32) : Nat → Int32 → Int32 → Int32 × Int32
  | 0, l2, l3 => (l2, l3)
  | n + 1, l2, l3 => (if x1 ≤ l3 then (l2, l3) else (if (Int32.ofNat (sz 50)) ≤ l3 then (l2, l3) else (lp_X9_opened_4 I x1 n (l2 + (b2i (if (I 50 l3.toNatClampNeg) ≤ 0 then false else true))) (l3 + 1))))
def oklp_X9_opened_4 (I : Nat → Nat → Int32) (x1 : Int32) : Nat → Int32 → Int32 → Prop
  | 0, l2, l3 => True
  | n + 1, l2, l3 => (if x1 ≤ l3 then True else (if (Int32.ofNat (sz 50)) ≤ l3 then True else (vp_in l3 (sz 50) ∧ oklp_X9_opened_4 I x1 n (l2 + (b2i (if (I 50 l3.toNatClampNeg) ≤ 0 then false else true))) (l3 + 1))))
set_option maxHeartbeats 800000 in
set_option maxRecDepth 4000 in
theorem k_lp_X9_opened_4 {k : KT} {ex : Bool} {J : Nat → Nat → Int64} {w : Bool} (I : Nat → Nat → Int32) (x1 : Int32) {F : FinT} : ∀ (n : Nat) (l2 : Int32) (l3 : Int32), mu_up x1 l3 < n → oklp_X9_opened_4 I x1 n l2 l3 → G k mX9_opened (roomOf 1 0 0) F 0 0 41 [some (.ref (ka k 49)), some (.int x1), some (.int ((lp_X9_opened_4 I x1 n l2 l3).1)), some (.int ((lp_X9_opened_4 I x1 n l2 l3).2))] [] (81, ex, I, J, Pw w) → G k mX9_opened (roomOf 1 0 0) F 0 0 4 [some (.ref (ka k 49)), some (.int x1), some (.int l2), some (.int l3)] [] (81, ex, I, J, Pw w) := by
  intro n
  induction n with
  | zero => intro l2 l3 hmu hok hj; exact absurd hmu (Nat.not_lt_zero _)
  | succ n ih =>
    intro l2 l3 hmu hok hj
    rw [oklp_X9_opened_4] at hok
    refine g_iload_n3 rfl d_X9_opened_4 ?_
    refine g_iload_n1 rfl d_X9_opened_5 ?_
    refine g_icmp_ge 41 d_X9_opened_6 (by decide) (fun h1 => ?_) (fun h1 => ?_)
    · skip
      (try simp only [lp_X9_opened_4, if_pos h1, opv_eq, if_true, if_false, Bool.false_eq_true, reduceCtorEq, b2i_t, b2i_f] at hj); exact hj
    · skip
      rw [if_neg h1] at hok
      refine g_iload_n3 rfl d_X9_opened_9 ?_
      refine g_aload_n0 rfl d_X9_opened_10 ?_
      refine g_getP (b := 50) f_X9_11 d_X9_opened_11 rfl (Nat.le_of_ble_eq_true rfl) rfl rfl ?_
      refine g_alen12 d_X9_opened_14 rfl (Nat.le_of_ble_eq_true rfl) ?_
      refine g_icmp_ge 41 d_X9_opened_15 (by decide) (fun h2 => ?_) (fun h2 => ?_)
      · skip
        (try simp only [lp_X9_opened_4, if_neg h1, if_pos h2, opv_eq, if_true, if_false, Bool.false_eq_true, reduceCtorEq, b2i_t, b2i_f] at hj); exact hj
      · skip
        rw [if_neg h2] at hok
        refine g_iload_n2 rfl d_X9_opened_18 ?_
        refine g_aload_n0 rfl d_X9_opened_19 ?_
        refine g_getP (b := 50) f_X9_11 d_X9_opened_20 rfl (Nat.le_of_ble_eq_true rfl) rfl rfl ?_
        refine g_iload_n3 rfl d_X9_opened_23 ?_
        obtain ⟨ho1, hok⟩ := hok
        refine g_iald d_X9_opened_24 rfl (Nat.le_of_ble_eq_true rfl) ho1 ?_
        refine g_cut (pc' := 33) (vs' := [some (.ref (ka k 49)), some (.int x1), some (.int l2), some (.int l3)]) (st' := [.int (b2i (if (I 50 l3.toNatClampNeg) ≤ 0 then false else true)), .int l2]) (M' := (81, ex, I, J, Pw w)) (fun hj => ?_) ?_
        · skip
          refine g_if_le 32 d_X9_opened_25 (by decide) (fun h3 => ?_) (fun h3 => ?_)
          · skip
            refine g_iconst 0 d_X9_opened_32 (by decide) ?_
            (try simp only [if_pos h3, opv_eq, if_true, if_false, Bool.false_eq_true, reduceCtorEq, b2i_t, b2i_f] at hj); exact hj
          · skip
            refine g_iconst 1 d_X9_opened_28 (by decide) ?_
            refine g_goto 33 d_X9_opened_29 (by decide) ?_
            (try simp only [if_neg h3, opv_eq, if_true, if_false, Bool.false_eq_true, reduceCtorEq, b2i_t, b2i_f] at hj); exact hj
        · skip
          refine g_iadd d_X9_opened_33 ?_
          refine g_isn2 rfl d_X9_opened_34 ?_
          refine g_ic3 (l3 + 1) rfl rfl d_X9_opened_35 ?_
          refine g_goto 4 d_X9_opened_38 (by decide) ?_
          exact ih (l2 + (b2i (if (I 50 l3.toNatClampNeg) ≤ 0 then false else true))) (l3 + 1) (Nat.lt_of_lt_of_le (mu_up_lt h1) (Nat.le_of_lt_succ hmu)) (by (try simp only [if_neg h1, if_neg h2, opv_eq, if_true, if_false, Bool.false_eq_true, reduceCtorEq, b2i_t, b2i_f] at hok); exact hok) (by (try simp only [lp_X9_opened_4, if_neg h1, if_neg h2, opv_eq, if_true, if_false, Bool.false_eq_true, reduceCtorEq, b2i_t, b2i_f] at hj); exact hj)
noncomputable def f_X9_opened (I : Nat → Nat → Int32) (x1 : Int32) : Int32 := opv ((lp_X9_opened_4 I x1 (mu_up x1 0 + 1) 0 0).1)
noncomputable def ok_X9_opened (I : Nat → Nat → Int32) (x1 : Int32) : Prop := opv (oklp_X9_opened_4 I x1 (mu_up x1 0 + 1) 0 0)
set_option maxHeartbeats 800000 in
set_option maxRecDepth 4000 in
theorem c_X9_opened {k : KT} {ex : Bool} {J : Nat → Nat → Int64} {w : Bool} (I : Nat → Nat → Int32) (x1 : Int32)  (hok : ok_X9_opened I x1) : Cx k mX9_opened 1 [.ref (ka k 49), .int x1] (81, ex, I, J, Pw w) (some (.int (f_X9_opened I x1))) (81, ex, I, J, Pw w) := by
  refine Ct.of rfl [some (.ref (ka k 49)), some (.int x1), none, none] rfl rfl (Nat.le_of_ble_eq_true rfl) ?_
  rw [ok_X9_opened, opv_eq] at hok
  refine g_iconst 0 d_X9_opened_0 (by decide) ?_
  refine g_isn2 rfl d_X9_opened_1 ?_
  refine g_iconst 0 d_X9_opened_2 (by decide) ?_
  refine g_isn3 rfl d_X9_opened_3 ?_
  refine k_lp_X9_opened_4 I x1 _ 0 0 (Nat.lt_succ_self _) hok ?_
  refine g_iload_n2 rfl d_X9_opened_41 ?_
  exact g_iret rfl d_X9_opened_42 ⟨by simp only [f_X9_opened, opv_eq, if_true, if_false, Bool.false_eq_true, reduceCtorEq, b2i_t, b2i_f], rfl⟩ (Nat.le_refl _) (Nat.le_refl _)
noncomputable def lp_X9_digits_4 (I : Nat → Nat → Int32) (x1 : Int32) : Nat → Int32 → Int32 → Int32 × Int32
  | 0, l2, l3 => (l2, l3)
  | n + 1, l2, l3 => (if x1 ≤ l3 then (l2, l3) else (if (Int32.ofNat (sz 50)) ≤ l3 then (l2, l3) else (lp_X9_digits_4 I x1 n ((10 * l2) + (I 50 l3.toNatClampNeg)) (l3 + 1))))
def oklp_X9_digits_4 (I : Nat → Nat → Int32) (x1 : Int32) : Nat → Int32 → Int32 → Prop
  | 0, l2, l3 => True
  | n + 1, l2, l3 => (if x1 ≤ l3 then True else (if (Int32.ofNat (sz 50)) ≤ l3 then True else (vp_in l3 (sz 50) ∧ oklp_X9_digits_4 I x1 n ((10 * l2) + (I 50 l3.toNatClampNeg)) (l3 + 1))))
set_option maxHeartbeats 800000 in
set_option maxRecDepth 4000 in
theorem k_lp_X9_digits_4 {k : KT} {ex : Bool} {J : Nat → Nat → Int64} {w : Bool} (I : Nat → Nat → Int32) (x1 : Int32) {F : FinT} : ∀ (n : Nat) (l2 : Int32) (l3 : Int32), mu_up x1 l3 < n → oklp_X9_digits_4 I x1 n l2 l3 → G k mX9_digits (roomOf 1 0 0) F 0 0 36 [some (.ref (ka k 49)), some (.int x1), some (.int ((lp_X9_digits_4 I x1 n l2 l3).1)), some (.int ((lp_X9_digits_4 I x1 n l2 l3).2))] [] (81, ex, I, J, Pw w) → G k mX9_digits (roomOf 1 0 0) F 0 0 4 [some (.ref (ka k 49)), some (.int x1), some (.int l2), some (.int l3)] [] (81, ex, I, J, Pw w) := by
  intro n
  induction n with
  | zero => intro l2 l3 hmu hok hj; exact absurd hmu (Nat.not_lt_zero _)
  | succ n ih =>
    intro l2 l3 hmu hok hj
    rw [oklp_X9_digits_4] at hok
    refine g_iload_n3 rfl d_X9_digits_4 ?_
    refine g_iload_n1 rfl d_X9_digits_5 ?_
    refine g_icmp_ge 36 d_X9_digits_6 (by decide) (fun h1 => ?_) (fun h1 => ?_)
    · skip
      (try simp only [lp_X9_digits_4, if_pos h1, opv_eq, if_true, if_false, Bool.false_eq_true, reduceCtorEq, b2i_t, b2i_f] at hj); exact hj
    · skip
      rw [if_neg h1] at hok
      refine g_iload_n3 rfl d_X9_digits_9 ?_
      refine g_aload_n0 rfl d_X9_digits_10 ?_
      refine g_getP (b := 50) f_X9_11 d_X9_digits_11 rfl (Nat.le_of_ble_eq_true rfl) rfl rfl ?_
      refine g_alen12 d_X9_digits_14 rfl (Nat.le_of_ble_eq_true rfl) ?_
      refine g_icmp_ge 36 d_X9_digits_15 (by decide) (fun h2 => ?_) (fun h2 => ?_)
      · skip
        (try simp only [lp_X9_digits_4, if_neg h1, if_pos h2, opv_eq, if_true, if_false, Bool.false_eq_true, reduceCtorEq, b2i_t, b2i_f] at hj); exact hj
      · skip
        rw [if_neg h2] at hok
        refine g_bipush 10 d_X9_digits_18 (by decide) ?_
        refine g_iload_n2 rfl d_X9_digits_20 ?_
        refine g_imul d_X9_digits_21 ?_
        refine g_aload_n0 rfl d_X9_digits_22 ?_
        refine g_getP (b := 50) f_X9_11 d_X9_digits_23 rfl (Nat.le_of_ble_eq_true rfl) rfl rfl ?_
        refine g_iload_n3 rfl d_X9_digits_26 ?_
        obtain ⟨ho1, hok⟩ := hok
        refine g_iald d_X9_digits_27 rfl (Nat.le_of_ble_eq_true rfl) ho1 ?_
        refine g_iadd d_X9_digits_28 ?_
        refine g_isn2 rfl d_X9_digits_29 ?_
        refine g_ic3 (l3 + 1) rfl rfl d_X9_digits_30 ?_
        refine g_goto 4 d_X9_digits_33 (by decide) ?_
        exact ih ((10 * l2) + (I 50 l3.toNatClampNeg)) (l3 + 1) (Nat.lt_of_lt_of_le (mu_up_lt h1) (Nat.le_of_lt_succ hmu)) (by (try simp only [if_neg h1, if_neg h2, opv_eq, if_true, if_false, Bool.false_eq_true, reduceCtorEq, b2i_t, b2i_f] at hok); exact hok) (by (try simp only [lp_X9_digits_4, if_neg h1, if_neg h2, opv_eq, if_true, if_false, Bool.false_eq_true, reduceCtorEq, b2i_t, b2i_f] at hj); exact hj)
noncomputable def f_X9_digits (I : Nat → Nat → Int32) (x1 : Int32) : Int32 := opv ((lp_X9_digits_4 I x1 (mu_up x1 0 + 1) 0 0).1)
noncomputable def ok_X9_digits (I : Nat → Nat → Int32) (x1 : Int32) : Prop := opv (oklp_X9_digits_4 I x1 (mu_up x1 0 + 1) 0 0)
set_option maxHeartbeats 800000 in
set_option maxRecDepth 4000 in
theorem c_X9_digits {k : KT} {ex : Bool} {J : Nat → Nat → Int64} {w : Bool} (I : Nat → Nat → Int32) (x1 : Int32)  (hok : ok_X9_digits I x1) : Cx k mX9_digits 1 [.ref (ka k 49), .int x1] (81, ex, I, J, Pw w) (some (.int (f_X9_digits I x1))) (81, ex, I, J, Pw w) := by
  refine Ct.of rfl [some (.ref (ka k 49)), some (.int x1), none, none] rfl rfl (Nat.le_of_ble_eq_true rfl) ?_
  rw [ok_X9_digits, opv_eq] at hok
  refine g_iconst 0 d_X9_digits_0 (by decide) ?_
  refine g_isn2 rfl d_X9_digits_1 ?_
  refine g_iconst 0 d_X9_digits_2 (by decide) ?_
  refine g_isn3 rfl d_X9_digits_3 ?_
  refine k_lp_X9_digits_4 I x1 _ 0 0 (Nat.lt_succ_self _) hok ?_
  refine g_iload_n2 rfl d_X9_digits_36 ?_
  exact g_iret rfl d_X9_digits_37 ⟨by simp only [f_X9_digits, opv_eq, if_true, if_false, Bool.false_eq_true, reduceCtorEq, b2i_t, b2i_f], rfl⟩ (Nat.le_refl _) (Nat.le_refl _)
noncomputable def lp_X9_rowsOf_4 (I : Nat → Nat → Int32) (x1 : Int32) (x2 : Int32) : Nat → Int32 → Int32 → Int32 × Int32
  | 0, l2, l3 => (l2, l3)
  | n + 1, l2, l3 => (if x1 ≤ l3 then (l2, l3) else (lp_X9_rowsOf_4 I x1 x2 n (l2 * (x2 + 1)) (l3 + 1)))
set_option maxHeartbeats 800000 in
set_option maxRecDepth 4000 in
theorem k_lp_X9_rowsOf_4 {k : KT} {ex : Bool} {J : Nat → Nat → Int64} {w : Bool} (I : Nat → Nat → Int32) (x1 : Int32) (x2 : Int32) {F : FinT} : ∀ (n : Nat) (l2 : Int32) (l3 : Int32), mu_up x1 l3 < n → G k mX9_rowsOf (roomOf 1 0 0) F 0 0 21 [some (.int x1), some (.int x2), some (.int ((lp_X9_rowsOf_4 I x1 x2 n l2 l3).1)), some (.int ((lp_X9_rowsOf_4 I x1 x2 n l2 l3).2))] [] (81, ex, I, J, Pw w) → G k mX9_rowsOf (roomOf 1 0 0) F 0 0 4 [some (.int x1), some (.int x2), some (.int l2), some (.int l3)] [] (81, ex, I, J, Pw w) := by
  intro n
  induction n with
  | zero => intro l2 l3 hmu hj; exact absurd hmu (Nat.not_lt_zero _)
  | succ n ih =>
    intro l2 l3 hmu hj
    refine g_iload_n3 rfl d_X9_rowsOf_4 ?_
    refine g_iload_n0 rfl d_X9_rowsOf_5 ?_
    refine g_icmp_ge 21 d_X9_rowsOf_6 (by decide) (fun h1 => ?_) (fun h1 => ?_)
    · skip
      (try simp only [lp_X9_rowsOf_4, if_pos h1, opv_eq, if_true, if_false, Bool.false_eq_true, reduceCtorEq, b2i_t, b2i_f] at hj); exact hj
    · skip
      refine g_iload_n2 rfl d_X9_rowsOf_9 ?_
      refine g_iload_n1 rfl d_X9_rowsOf_10 ?_
      refine g_iconst 1 d_X9_rowsOf_11 (by decide) ?_
      refine g_iadd d_X9_rowsOf_12 ?_
      refine g_imul d_X9_rowsOf_13 ?_
      refine g_isn2 rfl d_X9_rowsOf_14 ?_
      refine g_ic3 (l3 + 1) rfl rfl d_X9_rowsOf_15 ?_
      refine g_goto 4 d_X9_rowsOf_18 (by decide) ?_
      exact ih (l2 * (x2 + 1)) (l3 + 1) (Nat.lt_of_lt_of_le (mu_up_lt h1) (Nat.le_of_lt_succ hmu)) (by (try simp only [lp_X9_rowsOf_4, if_neg h1, opv_eq, if_true, if_false, Bool.false_eq_true, reduceCtorEq, b2i_t, b2i_f] at hj); exact hj)
noncomputable def f_X9_rowsOf (I : Nat → Nat → Int32) (x1 : Int32) (x2 : Int32) : Int32 := opv ((lp_X9_rowsOf_4 I x1 x2 (mu_up x1 0 + 1) 1 0).1)
set_option maxHeartbeats 800000 in
set_option maxRecDepth 4000 in
theorem c_X9_rowsOf {k : KT} {ex : Bool} {J : Nat → Nat → Int64} {w : Bool} (I : Nat → Nat → Int32) (x1 : Int32) (x2 : Int32)  : Cx k mX9_rowsOf 1 [.int x1, .int x2] (81, ex, I, J, Pw w) (some (.int (f_X9_rowsOf I x1 x2))) (81, ex, I, J, Pw w) := by
  refine Ct.of rfl [some (.int x1), some (.int x2), none, none] rfl rfl (Nat.le_of_ble_eq_true rfl) ?_
  refine g_iconst 1 d_X9_rowsOf_0 (by decide) ?_
  refine g_isn2 rfl d_X9_rowsOf_1 ?_
  refine g_iconst 0 d_X9_rowsOf_2 (by decide) ?_
  refine g_isn3 rfl d_X9_rowsOf_3 ?_
  refine k_lp_X9_rowsOf_4 I x1 x2 _ 1 0 (Nat.lt_succ_self _) ?_
  refine g_iload_n2 rfl d_X9_rowsOf_21 ?_
  exact g_iret rfl d_X9_rowsOf_22 ⟨by simp only [f_X9_rowsOf, opv_eq, if_true, if_false, Bool.false_eq_true, reduceCtorEq, b2i_t, b2i_f], rfl⟩ (Nat.le_refl _) (Nat.le_refl _)
noncomputable def lp_X9_nextRow_4 (x1 : Int32) (x2 : Int32) : Nat → Int32 → (Nat → Nat → Int32) → Int32 × (Nat → Nat → Int32)
  | 0, l3, I1 => (0, I1)
  | n + 1, l3, I1 => (if l3 < 0 then (0, I1) else (if (Int32.ofNat (sz 50)) ≤ l3 then (0, I1) else (if x2 ≤ (I1 50 l3.toNatClampNeg) then (lp_X9_nextRow_4 x1 x2 n (l3 + (-1)) (va_up I1 50 (upd (I1 50) l3.toNatClampNeg 0))) else (l3, (va_up I1 50 (upd (I1 50) l3.toNatClampNeg ((I1 50 l3.toNatClampNeg) + 1)))))))
def oklp_X9_nextRow_4 (x1 : Int32) (x2 : Int32) : Nat → Int32 → (Nat → Nat → Int32) → Prop
  | 0, l3, I1 => True
  | n + 1, l3, I1 => (if l3 < 0 then True else (if (Int32.ofNat (sz 50)) ≤ l3 then True else (vp_in l3 (sz 50) ∧ (if x2 ≤ (I1 50 l3.toNatClampNeg) then (vp_in l3 (sz 50) ∧ oklp_X9_nextRow_4 x1 x2 n (l3 + (-1)) (va_up I1 50 (upd (I1 50) l3.toNatClampNeg 0))) else (vp_in l3 (sz 50) ∧ vp_in l3 (sz 50))))))
set_option maxHeartbeats 800000 in
set_option maxRecDepth 4000 in
theorem k_lp_X9_nextRow_4 {k : KT} {ex : Bool} {J : Nat → Nat → Int64} {w : Bool} (x1 : Int32) (x2 : Int32) {Q : Option Value → MM → Prop} : ∀ (n : Nat) (l3 : Int32) (I1 : (Nat → Nat → Int32)), mu_dn l3 < n → oklp_X9_nextRow_4 x1 x2 n l3 I1 → Q (some (.int (lp_X9_nextRow_4 x1 x2 n l3 I1).1)) (81, ex, (lp_X9_nextRow_4 x1 x2 n l3 I1).2, J, Pw w) → G k mX9_nextRow (roomOf 1 0 0) (FinM k Q 0 0) 0 0 4 [some (.ref (ka k 49)), some (.int x1), some (.int x2), some (.int l3)] [] (81, ex, I1, J, Pw w) := by
  intro n
  induction n with
  | zero => intro l3 I1 hmu hok hq; exact absurd hmu (Nat.not_lt_zero _)
  | succ n ih =>
    intro l3 I1 hmu hok hq
    rw [oklp_X9_nextRow_4] at hok
    refine g_iload_n3 rfl d_X9_nextRow_4 ?_
    refine g_if_lt 52 d_X9_nextRow_5 (by decide) (fun h1 => ?_) (fun h1 => ?_)
    · skip
      refine g_iconst 0 d_X9_nextRow_52 (by decide) ?_
      exact g_iret rfl d_X9_nextRow_53 (by (try simp only [lp_X9_nextRow_4, if_pos h1, opv_eq, if_true, if_false, Bool.false_eq_true, reduceCtorEq, b2i_t, b2i_f] at hq); exact hq) (Nat.le_refl _) (Nat.le_refl _)
    · skip
      rw [if_neg h1] at hok
      refine g_iload_n3 rfl d_X9_nextRow_8 ?_
      refine g_aload_n0 rfl d_X9_nextRow_9 ?_
      refine g_getP (b := 50) f_X9_11 d_X9_nextRow_10 rfl (Nat.le_of_ble_eq_true rfl) rfl rfl ?_
      refine g_alen12 d_X9_nextRow_13 rfl (Nat.le_of_ble_eq_true rfl) ?_
      refine g_icmp_ge 52 d_X9_nextRow_14 (by decide) (fun h2 => ?_) (fun h2 => ?_)
      · skip
        refine g_iconst 0 d_X9_nextRow_52 (by decide) ?_
        exact g_iret rfl d_X9_nextRow_53 (by (try simp only [lp_X9_nextRow_4, if_neg h1, if_pos h2, opv_eq, if_true, if_false, Bool.false_eq_true, reduceCtorEq, b2i_t, b2i_f] at hq); exact hq) (Nat.le_refl _) (Nat.le_refl _)
      · skip
        rw [if_neg h2] at hok
        refine g_aload_n0 rfl d_X9_nextRow_17 ?_
        refine g_getP (b := 50) f_X9_11 d_X9_nextRow_18 rfl (Nat.le_of_ble_eq_true rfl) rfl rfl ?_
        refine g_iload_n3 rfl d_X9_nextRow_21 ?_
        obtain ⟨ho1, hok⟩ := hok
        refine g_iald d_X9_nextRow_22 rfl (Nat.le_of_ble_eq_true rfl) ho1 ?_
        refine g_iload_n2 rfl d_X9_nextRow_23 ?_
        refine g_icmp_ge 39 d_X9_nextRow_24 (by decide) (fun h3 => ?_) (fun h3 => ?_)
        · skip
          rw [if_pos h3] at hok
          refine g_aload_n0 rfl d_X9_nextRow_39 ?_
          refine g_getP (b := 50) f_X9_11 d_X9_nextRow_40 rfl (Nat.le_of_ble_eq_true rfl) rfl rfl ?_
          refine g_iload_n3 rfl d_X9_nextRow_43 ?_
          refine g_iconst 0 d_X9_nextRow_44 (by decide) ?_
          obtain ⟨ho2, hok⟩ := hok
          refine g_iast d_X9_nextRow_45 rfl (Nat.le_of_ble_eq_true rfl) ho2 ?_
          refine g_ic3 (l3 + (-1)) (congrArg (HAdd.hAdd l3) (by decide)) rfl d_X9_nextRow_46 ?_
          refine g_goto 4 d_X9_nextRow_49 (by decide) ?_
          exact ih (l3 + (-1)) (va_up I1 50 (upd (I1 50) l3.toNatClampNeg 0)) (Nat.lt_of_lt_of_le (mu_dn_lt h1) (Nat.le_of_lt_succ hmu)) (by (try simp only [if_neg h1, if_neg h2, if_pos h3, opv_eq, if_true, if_false, Bool.false_eq_true, reduceCtorEq, b2i_t, b2i_f] at hok); exact hok) (by (try simp only [lp_X9_nextRow_4, if_neg h1, if_neg h2, if_pos h3, opv_eq, if_true, if_false, Bool.false_eq_true, reduceCtorEq, b2i_t, b2i_f] at hq); exact hq)
        · skip
          rw [if_neg h3] at hok
          refine g_aload_n0 rfl d_X9_nextRow_27 ?_
          refine g_getP (b := 50) f_X9_11 d_X9_nextRow_28 rfl (Nat.le_of_ble_eq_true rfl) rfl rfl ?_
          refine g_iload_n3 rfl d_X9_nextRow_31 ?_
          refine g_dup2 rfl rfl d_X9_nextRow_32 ?_
          obtain ⟨ho3, hok⟩ := hok
          refine g_iald d_X9_nextRow_33 rfl (Nat.le_of_ble_eq_true rfl) ho3 ?_
          refine g_iconst 1 d_X9_nextRow_34 (by decide) ?_
          refine g_iadd d_X9_nextRow_35 ?_
          have ho4 := hok
          refine g_iast d_X9_nextRow_36 rfl (Nat.le_of_ble_eq_true rfl) ho4 ?_
          refine g_iload_n3 rfl d_X9_nextRow_37 ?_
          exact g_iret rfl d_X9_nextRow_38 (by (try simp only [lp_X9_nextRow_4, if_neg h1, if_neg h2, if_neg h3, opv_eq, if_true, if_false, Bool.false_eq_true, reduceCtorEq, b2i_t, b2i_f] at hq); exact hq) (Nat.le_refl _) (Nat.le_refl _)
noncomputable def f_X9_nextRow (I : Nat → Nat → Int32) (x1 : Int32) (x2 : Int32) : Int32 := opv ((lp_X9_nextRow_4 x1 x2 (mu_dn (x1 - 1) + 1) (x1 - 1) I).1)
noncomputable def m_X9_nextRow (I : Nat → Nat → Int32) (x1 : Int32) (x2 : Int32) : Nat → Nat → Int32 := opv ((lp_X9_nextRow_4 x1 x2 (mu_dn (x1 - 1) + 1) (x1 - 1) I).2)
noncomputable def ok_X9_nextRow (I : Nat → Nat → Int32) (x1 : Int32) (x2 : Int32) : Prop := opv (oklp_X9_nextRow_4 x1 x2 (mu_dn (x1 - 1) + 1) (x1 - 1) I)
set_option maxHeartbeats 800000 in
set_option maxRecDepth 4000 in
theorem c_X9_nextRow {k : KT} {ex : Bool} {J : Nat → Nat → Int64} {w : Bool} (I : Nat → Nat → Int32) (x1 : Int32) (x2 : Int32)  (hok : ok_X9_nextRow I x1 x2) : Cx k mX9_nextRow 1 [.ref (ka k 49), .int x1, .int x2] (81, ex, I, J, Pw w) (some (.int (f_X9_nextRow I x1 x2))) (81, ex, m_X9_nextRow I x1 x2, J, Pw w) := by
  refine Ct.of rfl [some (.ref (ka k 49)), some (.int x1), some (.int x2), none] rfl rfl (Nat.le_of_ble_eq_true rfl) ?_
  rw [ok_X9_nextRow, opv_eq] at hok
  refine g_iload_n1 rfl d_X9_nextRow_0 ?_
  refine g_iconst 1 d_X9_nextRow_1 (by decide) ?_
  refine g_isub d_X9_nextRow_2 ?_
  refine g_isn3 rfl d_X9_nextRow_3 ?_
  exact k_lp_X9_nextRow_4 x1 x2 _ (x1 - 1) I (Nat.lt_succ_self _) hok ⟨by simp only [f_X9_nextRow, m_X9_nextRow, opv_eq, if_true, if_false, Bool.false_eq_true, reduceCtorEq, b2i_t, b2i_f], by simp only [f_X9_nextRow, m_X9_nextRow, opv_eq, if_true, if_false, Bool.false_eq_true, reduceCtorEq, b2i_t, b2i_f]⟩
noncomputable def u0_X9_scoreOf (I : Nat → Nat → Int32) (x3 : Int32) (x4 : Int32) : Int32 := opv (if (f_X0_whoIsOut I (rt 52 x3.toNatClampNeg)) = x4 then -(f_X9_opened I x3) else (-2147483648))
noncomputable def u1_X9_scoreOf (I : Nat → Nat → Int32) (x1 : Nat) (x2 : Nat) (x3 : Int32) : Int32 := opv (if (f_X8_keptAll I x1 (rt 52 x3.toNatClampNeg) (I x2 6)) = true then -(I 51 x3.toNatClampNeg) else (-2147483648))
noncomputable def f_X9_scoreOf (I : Nat → Nat → Int32) (x1 : Nat) (x2 : Nat) (x3 : Int32) (x4 : Int32) : Int32 := opv (if (f_X10_within I x3 0 4) = true then (if x4 = 4 then (f_X8_worthKept I x1 (rt 52 x3.toNatClampNeg) (I x2 6)) - (I 51 x3.toNatClampNeg) else (if x4 = 5 then (u1_X9_scoreOf I x1 x2 x3) else (u0_X9_scoreOf I x3 x4))) else (-2147483648))
noncomputable def ok_X9_scoreOf (I : Nat → Nat → Int32) (x1 : Nat) (x2 : Nat) (x3 : Int32) (x4 : Int32) : Prop := opv (if (f_X10_within I x3 0 4) = true then (vp_in x3 (sz 52) ∧ (if x4 = 4 then vp_in x3 (sz 51) else (if x4 = 5 then (if (f_X8_keptAll I x1 (rt 52 x3.toNatClampNeg) (I x2 6)) = true then vp_in x3 (sz 51) else True) else (if (f_X0_whoIsOut I (rt 52 x3.toNatClampNeg)) = x4 then ok_X9_opened I x3 else True)))) else True)
set_option maxHeartbeats 800000 in
set_option maxRecDepth 4000 in
theorem c_X9_scoreOf {k : KT} {ex : Bool} {J : Nat → Nat → Int64} {w : Bool} (I : Nat → Nat → Int32) (x1 : Nat) (hx1 : kd x1 = 7) (x2 : Nat) (hx2 : kd x2 = 0) (x3 : Int32) (x4 : Int32)  (hok : ok_X9_scoreOf I x1 x2 x3 x4) : Cx k mX9_scoreOf 5 [.ref (ka k 49), .ref (ka k x1), .ref (ka k x2), .int x3, .int x4] (81, ex, I, J, Pw w) (some (.int (f_X9_scoreOf I x1 x2 x3 x4))) (81, ex, I, J, Pw w) := by
  refine Ct.of rfl [some (.ref (ka k 49)), some (.ref (ka k x1)), some (.ref (ka k x2)), some (.int x3), some (.int x4), none] rfl rfl (Nat.le_of_ble_eq_true rfl) ?_
  rw [ok_X9_scoreOf, opv_eq] at hok
  refine g_iload_n3 rfl d_X9_scoreOf_0 ?_
  refine g_iconst 0 d_X9_scoreOf_1 (by decide) ?_
  refine g_iconst 4 d_X9_scoreOf_2 (by decide) ?_
  refine g_callN1 (c_X10_within I x3 0 4) w_X10_within nest9 d_X9_scoreOf_3 rfl rfl (Nat.le_of_ble_eq_true rfl) ⟨Nat.le_of_ble_eq_true rfl, Nat.le_of_ble_eq_true rfl⟩ ⟨Nat.zero_le _, Nat.zero_le _⟩ ⟨rfl, rfl⟩ ?_
  refine g_ifnz 12 d_X9_scoreOf_6 (by decide) (fun h1 => ?_) (fun h1 => ?_)
  · skip
    rw [if_pos h1] at hok
    refine g_aload_n0 rfl d_X9_scoreOf_12 ?_
    refine g_getP (b := 52) f_X9_22 d_X9_scoreOf_13 rfl (Nat.le_of_ble_eq_true rfl) rfl rfl ?_
    refine g_iload_n3 rfl d_X9_scoreOf_16 ?_
    obtain ⟨ho1, hok⟩ := hok
    refine g_aald (b := rt 52 x3.toNatClampNeg) d_X9_scoreOf_17 rfl (Nat.le_of_ble_eq_true rfl) ho1 (pw_rt rfl (by decide) (by decide)) ?_
    refine g_as5 rfl d_X9_scoreOf_18 ?_
    refine g_iload (i := 4) rfl d_X9_scoreOf_20 ?_
    refine g_iconst 4 d_X9_scoreOf_22 (by decide) ?_
    refine g_icmp_ne 44 d_X9_scoreOf_23 (by decide) (fun h2 => ?_) (fun h2 => ?_)
    · skip
      rw [if_neg h2] at hok
      refine g_iload (i := 4) rfl d_X9_scoreOf_44 ?_
      refine g_iconst 5 d_X9_scoreOf_46 (by decide) ?_
      refine g_icmp_ne 76 d_X9_scoreOf_47 (by decide) (fun h3 => ?_) (fun h3 => ?_)
      · skip
        rw [if_neg h3] at hok
        refine g_aload (i := 5) rfl d_X9_scoreOf_76 ?_
        refine g_callV1 (c_X0_whoIsOut I (rt 52 x3.toNatClampNeg) (kt14 rfl ho1)) w_X0_whoIsOut l_X9_104 d_X9_scoreOf_78 (kt14 rfl ho1) (kd_sg (kt14 rfl ho1) (by decide)) rfl rfl (Nat.le_of_ble_eq_true rfl) ⟨Nat.le_of_ble_eq_true rfl, Nat.le_of_ble_eq_true rfl⟩ ⟨Nat.zero_le _, Nat.zero_le _⟩ ⟨rfl, rfl⟩ ?_
        refine g_iload (i := 4) rfl d_X9_scoreOf_81 ?_
        refine g_cut (pc' := 97) (vs' := [some (.ref (ka k 49)), some (.ref (ka k x1)), some (.ref (ka k x2)), some (.int x3), some (.int x4), some (.ref (ka k (rt 52 x3.toNatClampNeg)))]) (st' := [.int (u0_X9_scoreOf I x3 x4)]) (M' := (81, ex, I, J, Pw w)) (fun hj => ?_) ?_
        · skip
          refine g_icmp_ne 95 d_X9_scoreOf_83 (by decide) (fun h4 => ?_) (fun h4 => ?_)
          · skip
            refine g_ldc (v := (-2147483648)) (in4 108 (by decide +kernel) rfl) d_X9_scoreOf_95 ?_
            (try simp only [if_neg h4, opv_eq, if_true, if_false, Bool.false_eq_true, reduceCtorEq, b2i_t, b2i_f, u0_X9_scoreOf] at hj); exact hj
          · skip
            rw [if_pos h4] at hok
            refine g_aload_n0 rfl d_X9_scoreOf_86 ?_
            refine g_iload_n3 rfl d_X9_scoreOf_87 ?_
            have ho2 := hok
            refine g_callV1 (c_X9_opened I x3 ho2) w_X9_opened l_X9_108 d_X9_scoreOf_88 rfl (Nat.le_of_ble_eq_true rfl) rfl rfl (Nat.le_of_ble_eq_true rfl) ⟨Nat.le_of_ble_eq_true rfl, Nat.le_of_ble_eq_true rfl⟩ ⟨Nat.zero_le _, Nat.zero_le _⟩ ⟨rfl, rfl⟩ ?_
            refine g_ineg d_X9_scoreOf_91 ?_
            refine g_goto 97 d_X9_scoreOf_92 (by decide) ?_
            (try simp only [if_pos h4, opv_eq, if_true, if_false, Bool.false_eq_true, reduceCtorEq, b2i_t, b2i_f, u0_X9_scoreOf] at hj); exact hj
        · skip
          exact g_iret rfl d_X9_scoreOf_97 ⟨by simp only [f_X9_scoreOf, if_pos h1, if_neg h2, if_neg h3, opv_eq, if_true, if_false, Bool.false_eq_true, reduceCtorEq, b2i_t, b2i_f], rfl⟩ (Nat.le_refl _) (Nat.le_refl _)
      · skip
        rw [if_pos h3] at hok
        refine g_aload_n1 rfl d_X9_scoreOf_50 ?_
        refine g_aload (i := 5) rfl d_X9_scoreOf_51 ?_
        refine g_aload_n2 rfl d_X9_scoreOf_53 ?_
        refine g_getI f_X9_93 d_X9_scoreOf_54 hx2 (kd_sg hx2 (by decide)) rfl ?_
        refine g_callV1 (c_X8_keptAll I x1 hx1 (rt 52 x3.toNatClampNeg) (kt14 rfl ho1) (I x2 6)) w_X8_keptAll l_X9_100 d_X9_scoreOf_57 hx1 (kd_sg hx1 (by decide)) rfl rfl (Nat.le_of_ble_eq_true rfl) ⟨Nat.le_of_ble_eq_true rfl, Nat.le_of_ble_eq_true rfl⟩ ⟨Nat.zero_le _, Nat.zero_le _⟩ ⟨rfl, rfl⟩ ?_
        refine g_cut (pc' := 75) (vs' := [some (.ref (ka k 49)), some (.ref (ka k x1)), some (.ref (ka k x2)), some (.int x3), some (.int x4), some (.ref (ka k (rt 52 x3.toNatClampNeg)))]) (st' := [.int (u1_X9_scoreOf I x1 x2 x3)]) (M' := (81, ex, I, J, Pw w)) (fun hj => ?_) ?_
        · skip
          refine g_ifz 73 d_X9_scoreOf_60 (by decide) (fun h5 => ?_) (fun h5 => ?_)
          · skip
            refine g_ldc (v := (-2147483648)) (in4 108 (by decide +kernel) rfl) d_X9_scoreOf_73 ?_
            (try simp only [if_neg (nb h5), opv_eq, if_true, if_false, Bool.false_eq_true, reduceCtorEq, b2i_t, b2i_f, u1_X9_scoreOf] at hj); exact hj
          · skip
            rw [if_pos h5] at hok
            refine g_aload_n0 rfl d_X9_scoreOf_63 ?_
            refine g_getP (b := 51) f_X9_17 d_X9_scoreOf_64 rfl (Nat.le_of_ble_eq_true rfl) rfl rfl ?_
            refine g_iload_n3 rfl d_X9_scoreOf_67 ?_
            have ho3 := hok
            refine g_iald d_X9_scoreOf_68 rfl (Nat.le_of_ble_eq_true rfl) ho3 ?_
            refine g_ineg d_X9_scoreOf_69 ?_
            refine g_goto 75 d_X9_scoreOf_70 (by decide) ?_
            (try simp only [if_pos h5, opv_eq, if_true, if_false, Bool.false_eq_true, reduceCtorEq, b2i_t, b2i_f, u1_X9_scoreOf] at hj); exact hj
        · skip
          exact g_iret rfl d_X9_scoreOf_75 ⟨by simp only [f_X9_scoreOf, if_pos h1, if_neg h2, if_pos h3, opv_eq, if_true, if_false, Bool.false_eq_true, reduceCtorEq, b2i_t, b2i_f], rfl⟩ (Nat.le_refl _) (Nat.le_refl _)
    · skip
      rw [if_pos h2] at hok
      refine g_aload_n1 rfl d_X9_scoreOf_26 ?_
      refine g_aload (i := 5) rfl d_X9_scoreOf_27 ?_
      refine g_aload_n2 rfl d_X9_scoreOf_29 ?_
      refine g_getI f_X9_93 d_X9_scoreOf_30 hx2 (kd_sg hx2 (by decide)) rfl ?_
      refine g_callV1 (c_X8_worthKept I x1 hx1 (rt 52 x3.toNatClampNeg) (kt14 rfl ho1) (I x2 6)) w_X8_worthKept l_X9_96 d_X9_scoreOf_33 hx1 (kd_sg hx1 (by decide)) rfl rfl (Nat.le_of_ble_eq_true rfl) ⟨Nat.le_of_ble_eq_true rfl, Nat.le_of_ble_eq_true rfl⟩ ⟨Nat.zero_le _, Nat.zero_le _⟩ ⟨rfl, rfl⟩ ?_
      refine g_aload_n0 rfl d_X9_scoreOf_36 ?_
      refine g_getP (b := 51) f_X9_17 d_X9_scoreOf_37 rfl (Nat.le_of_ble_eq_true rfl) rfl rfl ?_
      refine g_iload_n3 rfl d_X9_scoreOf_40 ?_
      have ho4 := hok
      refine g_iald d_X9_scoreOf_41 rfl (Nat.le_of_ble_eq_true rfl) ho4 ?_
      refine g_isub d_X9_scoreOf_42 ?_
      exact g_iret rfl d_X9_scoreOf_43 ⟨by simp only [f_X9_scoreOf, if_pos h1, if_pos h2, opv_eq, if_true, if_false, Bool.false_eq_true, reduceCtorEq, b2i_t, b2i_f], rfl⟩ (Nat.le_refl _) (Nat.le_refl _)
  · skip
    refine g_ldc (v := (-2147483648)) (in4 108 (by decide +kernel) rfl) d_X9_scoreOf_9 ?_
    exact g_iret rfl d_X9_scoreOf_11 ⟨by simp only [f_X9_scoreOf, if_neg (nb h1), opv_eq, if_true, if_false, Bool.false_eq_true, reduceCtorEq, b2i_t, b2i_f], rfl⟩ (Nat.le_refl _) (Nat.le_refl _)
noncomputable def f_X9_worth (I : Nat → Nat → Int32) (x1 : Nat) (x2 : Nat) (x3 : Int32) : Int32 := opv (f_X9_scoreOf (m_X9_follow (m_X0_copy I 53 x2) x1 0 x3) x1 x2 x3 4)
noncomputable def m_X9_worth (I : Nat → Nat → Int32) (x1 : Nat) (x2 : Nat) (x3 : Int32) : Nat → Nat → Int32 := opv (m_X9_follow (m_X0_copy I 53 x2) x1 0 x3)
noncomputable def ok_X9_worth (I : Nat → Nat → Int32) (x1 : Nat) (x2 : Nat) (x3 : Int32) : Prop := opv (x2 ≠ 53 ∧ (ok_X9_follow (m_X0_copy I 53 x2) x1 0 x3 ∧ ok_X9_scoreOf (m_X9_follow (m_X0_copy I 53 x2) x1 0 x3) x1 x2 x3 4))
set_option maxHeartbeats 800000 in
set_option maxRecDepth 4000 in
theorem c_X9_worth {k : KT} {ex : Bool} {J : Nat → Nat → Int64} {w : Bool} (I : Nat → Nat → Int32) (x1 : Nat) (hx1 : kd x1 = 7) (x2 : Nat) (hx2 : kd x2 = 0) (x3 : Int32)  (hok : ok_X9_worth I x1 x2 x3) : Cx k mX9_worth 7 [.ref (ka k 49), .ref (ka k x1), .ref (ka k x2), .int x3] (81, ex, I, J, Pw w) (some (.int (f_X9_worth I x1 x2 x3))) (81, ex, m_X9_worth I x1 x2 x3, J, Pw w) := by
  refine Ct.of rfl [some (.ref (ka k 49)), some (.ref (ka k x1)), some (.ref (ka k x2)), some (.int x3)] rfl rfl (Nat.le_of_ble_eq_true rfl) ?_
  rw [ok_X9_worth, opv_eq] at hok
  refine g_aload_n0 rfl d_X9_worth_0 ?_
  refine g_getP (b := 52) f_X9_22 d_X9_worth_1 rfl (Nat.le_of_ble_eq_true rfl) rfl rfl ?_
  refine g_iconst 0 d_X9_worth_4 (by decide) ?_
  refine g_aald (b := 53) d_X9_worth_5 rfl (Nat.le_of_ble_eq_true rfl) (vp_c (by decide +kernel)) rfl ?_
  refine g_aload_n2 rfl d_X9_worth_6 ?_
  obtain ⟨ho1, hok⟩ := hok
  refine g_callV0 (c_X0_copy I 53 rfl x2 hx2 ho1) w_X0_copy l_X9_27 d_X9_worth_7 rfl (Nat.le_of_ble_eq_true rfl) rfl rfl (Nat.le_of_ble_eq_true rfl) ⟨Nat.le_of_ble_eq_true rfl, Nat.le_of_ble_eq_true rfl⟩ ⟨Nat.zero_le _, Nat.zero_le _⟩ ⟨rfl, rfl⟩ ?_
  refine g_aload_n0 rfl d_X9_worth_10 ?_
  refine g_aload_n1 rfl d_X9_worth_11 ?_
  refine g_iconst 0 d_X9_worth_12 (by decide) ?_
  refine g_iload_n3 rfl d_X9_worth_13 ?_
  obtain ⟨ho2, hok⟩ := hok
  refine g_callV0 (c_X9_follow (m_X0_copy I 53 x2) x1 hx1 0 x3 ho2) w_X9_follow l_X9_31 d_X9_worth_14 rfl (Nat.le_of_ble_eq_true rfl) rfl rfl (Nat.le_of_ble_eq_true rfl) ⟨Nat.le_of_ble_eq_true rfl, Nat.le_of_ble_eq_true rfl⟩ ⟨Nat.zero_le _, Nat.zero_le _⟩ ⟨rfl, rfl⟩ ?_
  refine g_aload_n0 rfl d_X9_worth_17 ?_
  refine g_aload_n1 rfl d_X9_worth_18 ?_
  refine g_aload_n2 rfl d_X9_worth_19 ?_
  refine g_iload_n3 rfl d_X9_worth_20 ?_
  refine g_iconst 4 d_X9_worth_21 (by decide) ?_
  have ho3 := hok
  refine g_callV1 (c_X9_scoreOf (m_X9_follow (m_X0_copy I 53 x2) x1 0 x3) x1 hx1 x2 hx2 x3 4 ho3) w_X9_scoreOf l_X9_35 d_X9_worth_22 rfl (Nat.le_of_ble_eq_true rfl) rfl rfl (Nat.le_of_ble_eq_true rfl) ⟨Nat.le_of_ble_eq_true rfl, Nat.le_of_ble_eq_true rfl⟩ ⟨Nat.zero_le _, Nat.zero_le _⟩ ⟨rfl, rfl⟩ ?_
  exact g_iret rfl d_X9_worth_25 ⟨by simp only [f_X9_worth, m_X9_worth, opv_eq, if_true, if_false, Bool.false_eq_true, reduceCtorEq, b2i_t, b2i_f], by simp only [f_X9_worth, m_X9_worth, opv_eq, if_true, if_false, Bool.false_eq_true, reduceCtorEq, b2i_t, b2i_f]⟩ (Nat.le_refl _) (Nat.le_refl _)
noncomputable def u0_X9_search (I : Nat → Nat → Int32) (x2 : Nat) : Nat → Nat → Int32 := opv (m_J7_fill_53178 (m_X0_copy (st2 (st2 I 49 0 (-2)) 49 1 (-2147483648)) 53 x2) 50 0)
noncomputable def u1_X9_search (x1 : Nat) (x2 : Nat) (x3 : Int32) (x4 : Int32) (l6 : Int32) (I1 : Nat → Nat → Int32) : Nat → Nat → Int32 := opv (if (f_X9_scoreOf (m_X9_follow I1 x1 l6 x3) x1 x2 x3 x4) ≤ ((m_X9_follow I1 x1 l6 x3) 49 1) then (m_X9_follow I1 x1 l6 x3) else (st2 (st2 (m_X9_follow I1 x1 l6 x3) 49 1 (f_X9_scoreOf (m_X9_follow I1 x1 l6 x3) x1 x2 x3 x4)) 49 0 (f_X9_digits (st2 (m_X9_follow I1 x1 l6 x3) 49 1 (f_X9_scoreOf (m_X9_follow I1 x1 l6 x3) x1 x2 x3 x4)) x3)))
noncomputable def u2_X9_search (x1 : Nat) (x2 : Nat) (x3 : Int32) (x4 : Int32) (l6 : Int32) (I1 : Nat → Nat → Int32) : Nat → Nat → Int32 := opv (m_X9_nextRow (u1_X9_search x1 x2 x3 x4 l6 I1) x3 ((u1_X9_search x1 x2 x3 x4 l6 I1) (rt x1 7) 3))
noncomputable def lp_X9_search_49 (x1 : Nat) (x2 : Nat) (x3 : Int32) (x4 : Int32) (l5 : Int32) : Nat → Int32 → Int32 → (Nat → Nat → Int32) → Int32 × Int32 × (Nat → Nat → Int32)
  | 0, l6, l7, I1 => (l6, l7, I1)
  | n + 1, l6, l7, I1 => (if l5 ≤ l7 then (l6, l7, I1) else (lp_X9_search_49 x1 x2 x3 x4 l5 n (f_X9_nextRow (u1_X9_search x1 x2 x3 x4 l6 I1) x3 ((u1_X9_search x1 x2 x3 x4 l6 I1) (rt x1 7) 3)) (l7 + 1) (u2_X9_search x1 x2 x3 x4 l6 I1)))
def oklp_X9_search_49 (x1 : Nat) (x2 : Nat) (x3 : Int32) (x4 : Int32) (l5 : Int32) : Nat → Int32 → Int32 → (Nat → Nat → Int32) → Prop
  | 0, l6, l7, I1 => True
  | n + 1, l6, l7, I1 => (if l5 ≤ l7 then True else (ok_X9_follow I1 x1 l6 x3 ∧ (ok_X9_scoreOf (m_X9_follow I1 x1 l6 x3) x1 x2 x3 x4 ∧ ((if (f_X9_scoreOf (m_X9_follow I1 x1 l6 x3) x1 x2 x3 x4) ≤ ((m_X9_follow I1 x1 l6 x3) 49 1) then True else ok_X9_digits (st2 (m_X9_follow I1 x1 l6 x3) 49 1 (f_X9_scoreOf (m_X9_follow I1 x1 l6 x3) x1 x2 x3 x4)) x3) ∧ (ok_X9_nextRow (u1_X9_search x1 x2 x3 x4 l6 I1) x3 ((u1_X9_search x1 x2 x3 x4 l6 I1) (rt x1 7) 3) ∧ oklp_X9_search_49 x1 x2 x3 x4 l5 n (f_X9_nextRow (u1_X9_search x1 x2 x3 x4 l6 I1) x3 ((u1_X9_search x1 x2 x3 x4 l6 I1) (rt x1 7) 3)) (l7 + 1) (u2_X9_search x1 x2 x3 x4 l6 I1))))))
set_option maxHeartbeats 800000 in
set_option maxRecDepth 4000 in
theorem k_lp_X9_search_49 {k : KT} {ex : Bool} {J : Nat → Nat → Int64} {w : Bool} (x1 : Nat) (hx1 : kd x1 = 7) (x2 : Nat) (hx2 : kd x2 = 0) (x3 : Int32) (x4 : Int32) (l5 : Int32) {F : FinT} : ∀ (n : Nat) (l6 : Int32) (l7 : Int32) (I1 : (Nat → Nat → Int32)), mu_up l5 l7 < n → oklp_X9_search_49 x1 x2 x3 x4 l5 n l6 l7 I1 → G k mX9_search (roomOf 7 0 0) F 0 0 119 [some (.ref (ka k 49)), some (.ref (ka k x1)), some (.ref (ka k x2)), some (.int x3), some (.int x4), some (.int l5), some (.int ((lp_X9_search_49 x1 x2 x3 x4 l5 n l6 l7 I1).1)), some (.int ((lp_X9_search_49 x1 x2 x3 x4 l5 n l6 l7 I1).2.1)), none] [] (81, ex, (lp_X9_search_49 x1 x2 x3 x4 l5 n l6 l7 I1).2.2, J, Pw w) → G k mX9_search (roomOf 7 0 0) F 0 0 49 [some (.ref (ka k 49)), some (.ref (ka k x1)), some (.ref (ka k x2)), some (.int x3), some (.int x4), some (.int l5), some (.int l6), some (.int l7), none] [] (81, ex, I1, J, Pw w) := by
  intro n
  induction n with
  | zero => intro l6 l7 I1 hmu hok hj; exact absurd hmu (Nat.not_lt_zero _)
  | succ n ih =>
    intro l6 l7 I1 hmu hok hj
    rw [oklp_X9_search_49] at hok
    refine g_iload (i := 7) rfl d_X9_search_49 ?_
    refine g_iload (i := 5) rfl d_X9_search_51 ?_
    refine g_icmp_ge 119 d_X9_search_53 (by decide) (fun h1 => ?_) (fun h1 => ?_)
    · skip
      (try simp only [lp_X9_search_49, if_pos h1, opv_eq, if_true, if_false, Bool.false_eq_true, reduceCtorEq, b2i_t, b2i_f] at hj); exact hj
    · skip
      rw [if_neg h1] at hok
      refine g_aload_n0 rfl d_X9_search_56 ?_
      refine g_aload_n1 rfl d_X9_search_57 ?_
      refine g_iload (i := 6) rfl d_X9_search_58 ?_
      refine g_iload_n3 rfl d_X9_search_60 ?_
      obtain ⟨ho3, hok⟩ := hok
      refine g_callV0 (c_X9_follow I1 x1 hx1 l6 x3 ho3) w_X9_follow l_X9_31 d_X9_search_61 rfl (Nat.le_of_ble_eq_true rfl) rfl rfl (Nat.le_of_ble_eq_true rfl) ⟨Nat.le_of_ble_eq_true rfl, Nat.le_of_ble_eq_true rfl⟩ ⟨Nat.zero_le _, Nat.zero_le _⟩ ⟨rfl, rfl⟩ ?_
      refine g_aload_n0 rfl d_X9_search_64 ?_
      refine g_aload_n1 rfl d_X9_search_65 ?_
      refine g_aload_n2 rfl d_X9_search_66 ?_
      refine g_iload_n3 rfl d_X9_search_67 ?_
      refine g_iload (i := 4) rfl d_X9_search_68 ?_
      obtain ⟨ho4, hok⟩ := hok
      refine g_callV1 (c_X9_scoreOf (m_X9_follow I1 x1 l6 x3) x1 hx1 x2 hx2 x3 x4 ho4) w_X9_scoreOf l_X9_35 d_X9_search_70 rfl (Nat.le_of_ble_eq_true rfl) rfl rfl (Nat.le_of_ble_eq_true rfl) ⟨Nat.le_of_ble_eq_true rfl, Nat.le_of_ble_eq_true rfl⟩ ⟨Nat.zero_le _, Nat.zero_le _⟩ ⟨rfl, rfl⟩ ?_
      refine g_is8 rfl d_X9_search_73 ?_
      refine g_iload (i := 8) rfl d_X9_search_75 ?_
      refine g_aload_n0 rfl d_X9_search_77 ?_
      refine g_getI f_X9_44 d_X9_search_78 rfl (Nat.le_of_ble_eq_true rfl) rfl ?_
      obtain ⟨hoa, hob⟩ := hok
      refine g_cut (pc' := 99) (vs' := [some (.ref (ka k 49)), some (.ref (ka k x1)), some (.ref (ka k x2)), some (.int x3), some (.int x4), some (.int l5), some (.int l6), some (.int l7), some (.int (f_X9_scoreOf (m_X9_follow I1 x1 l6 x3) x1 x2 x3 x4))]) (st' := []) (M' := (81, ex, (u1_X9_search x1 x2 x3 x4 l6 I1), J, Pw w)) (fun hj => ?_) ?_
      · skip
        refine g_icmp_le 99 d_X9_search_81 (by decide) (fun h2 => ?_) (fun h2 => ?_)
        · skip
          (try simp only [if_pos h2, opv_eq, if_true, if_false, Bool.false_eq_true, reduceCtorEq, b2i_t, b2i_f, u1_X9_search] at hj); exact hj
        · skip
          rw [if_neg h2] at hoa
          refine g_aload_n0 rfl d_X9_search_84 ?_
          refine g_iload (i := 8) rfl d_X9_search_85 ?_
          refine g_putI f_X9_44 d_X9_search_87 rfl (Nat.le_of_ble_eq_true rfl) rfl rfl rfl ?_
          refine g_aload_n0 rfl d_X9_search_90 ?_
          refine g_aload_n0 rfl d_X9_search_91 ?_
          refine g_iload_n3 rfl d_X9_search_92 ?_
          have ho5 := hoa
          refine g_callV1 (c_X9_digits (st2 (m_X9_follow I1 x1 l6 x3) 49 1 (f_X9_scoreOf (m_X9_follow I1 x1 l6 x3) x1 x2 x3 x4)) x3 ho5) w_X9_digits l_X9_68 d_X9_search_93 rfl (Nat.le_of_ble_eq_true rfl) rfl rfl (Nat.le_of_ble_eq_true rfl) ⟨Nat.le_of_ble_eq_true rfl, Nat.le_of_ble_eq_true rfl⟩ ⟨Nat.zero_le _, Nat.zero_le _⟩ ⟨rfl, rfl⟩ ?_
          refine g_putI f_X9_39 d_X9_search_96 rfl (Nat.le_of_ble_eq_true rfl) rfl rfl rfl ?_
          (try simp only [if_neg h2, opv_eq, if_true, if_false, Bool.false_eq_true, reduceCtorEq, b2i_t, b2i_f, u1_X9_search] at hj); exact hj
      · skip
        refine g_aload_n0 rfl d_X9_search_99 ?_
        refine g_iload_n3 rfl d_X9_search_100 ?_
        refine g_aload_n1 rfl d_X9_search_101 ?_
        refine g_getP (b := rt x1 7) f_X9_53 d_X9_search_102 hx1 (kd_sg hx1 (by decide)) rfl (pw_rt hx1 (by decide) (by decide)) ?_
        refine g_getI f_X9_59 d_X9_search_105 (kt7 hx1).1 (kd_sg ((kt7 hx1).1) (by decide)) rfl ?_
        obtain ⟨ho6, hok⟩ := hob
        refine g_callV1 (c_X9_nextRow (u1_X9_search x1 x2 x3 x4 l6 I1) x3 ((u1_X9_search x1 x2 x3 x4 l6 I1) (rt x1 7) 3) ho6) w_X9_nextRow l_X9_72 d_X9_search_108 rfl (Nat.le_of_ble_eq_true rfl) rfl rfl (Nat.le_of_ble_eq_true rfl) ⟨Nat.le_of_ble_eq_true rfl, Nat.le_of_ble_eq_true rfl⟩ ⟨Nat.zero_le _, Nat.zero_le _⟩ ⟨rfl, rfl⟩ ?_
        refine G.toI (I' := (u2_X9_search x1 x2 x3 x4 l6 I1)) (by rw [u2_X9_search, opv_eq]) ?_
        refine g_is6 rfl d_X9_search_111 ?_
        refine g_ic7 (l7 + 1) rfl rfl d_X9_search_113 ?_
        refine g_goto 49 d_X9_search_116 (by decide) ?_
        refine G.weak (wks (wks (wks (wks (wks (wks (wks (wks (wkn wk0))))))))) ?_; exact ih (f_X9_nextRow (u1_X9_search x1 x2 x3 x4 l6 I1) x3 ((u1_X9_search x1 x2 x3 x4 l6 I1) (rt x1 7) 3)) (l7 + 1) (u2_X9_search x1 x2 x3 x4 l6 I1) (Nat.lt_of_lt_of_le (mu_up_lt h1) (Nat.le_of_lt_succ hmu)) (by (try simp only [if_neg h1, opv_eq, if_true, if_false, Bool.false_eq_true, reduceCtorEq, b2i_t, b2i_f] at hok); exact hok) (by (try simp only [lp_X9_search_49, if_neg h1, opv_eq, if_true, if_false, Bool.false_eq_true, reduceCtorEq, b2i_t, b2i_f] at hj); exact hj)
noncomputable def m_X9_search (I : Nat → Nat → Int32) (x1 : Nat) (x2 : Nat) (x3 : Int32) (x4 : Int32) : Nat → Nat → Int32 := opv ((lp_X9_search_49 x1 x2 x3 x4 (f_X9_rowsOf (u0_X9_search I x2) x3 ((u0_X9_search I x2) (rt x1 7) 3)) (mu_up (f_X9_rowsOf (u0_X9_search I x2) x3 ((u0_X9_search I x2) (rt x1 7) 3)) 0 + 1) 0 0 (u0_X9_search I x2)).2.2)
noncomputable def ok_X9_search (I : Nat → Nat → Int32) (x1 : Nat) (x2 : Nat) (x3 : Int32) (x4 : Int32) : Prop := opv (x2 ≠ 53 ∧ (ok_J7_fill_53178 (m_X0_copy (st2 (st2 I 49 0 (-2)) 49 1 (-2147483648)) 53 x2) 50 0 ∧ oklp_X9_search_49 x1 x2 x3 x4 (f_X9_rowsOf (u0_X9_search I x2) x3 ((u0_X9_search I x2) (rt x1 7) 3)) (mu_up (f_X9_rowsOf (u0_X9_search I x2) x3 ((u0_X9_search I x2) (rt x1 7) 3)) 0 + 1) 0 0 (u0_X9_search I x2)))
set_option maxHeartbeats 800000 in
set_option maxRecDepth 4000 in
theorem c_X9_search {k : KT} {ex : Bool} {J : Nat → Nat → Int64} {w : Bool} (I : Nat → Nat → Int32) (x1 : Nat) (hx1 : kd x1 = 7) (x2 : Nat) (hx2 : kd x2 = 0) (x3 : Int32) (x4 : Int32)  (hok : ok_X9_search I x1 x2 x3 x4) : Cx k mX9_search 7 [.ref (ka k 49), .ref (ka k x1), .ref (ka k x2), .int x3, .int x4] (81, ex, I, J, Pw w) none (81, ex, m_X9_search I x1 x2 x3 x4, J, Pw w) := by
  refine Ct.of rfl [some (.ref (ka k 49)), some (.ref (ka k x1)), some (.ref (ka k x2)), some (.int x3), some (.int x4), none, none, none, none] rfl rfl (Nat.le_of_ble_eq_true rfl) ?_
  rw [ok_X9_search, opv_eq] at hok
  refine g_aload_n0 rfl d_X9_search_0 ?_
  refine g_bipush (-2) d_X9_search_1 (by decide) ?_
  refine g_putI f_X9_39 d_X9_search_3 rfl (Nat.le_of_ble_eq_true rfl) rfl rfl rfl ?_
  refine g_aload_n0 rfl d_X9_search_6 ?_
  refine g_ldc (v := (-2147483648)) (in4 108 (by decide +kernel) rfl) d_X9_search_7 ?_
  refine g_putI f_X9_44 d_X9_search_9 rfl (Nat.le_of_ble_eq_true rfl) rfl rfl rfl ?_
  refine g_aload_n0 rfl d_X9_search_12 ?_
  refine g_getP (b := 52) f_X9_22 d_X9_search_13 rfl (Nat.le_of_ble_eq_true rfl) rfl rfl ?_
  refine g_iconst 0 d_X9_search_16 (by decide) ?_
  refine g_aald (b := 53) d_X9_search_17 rfl (Nat.le_of_ble_eq_true rfl) (vp_c (by decide +kernel)) rfl ?_
  refine g_aload_n2 rfl d_X9_search_18 ?_
  obtain ⟨ho1, hok⟩ := hok
  refine g_callV0 (c_X0_copy (st2 (st2 I 49 0 (-2)) 49 1 (-2147483648)) 53 rfl x2 hx2 ho1) w_X0_copy l_X9_27 d_X9_search_19 rfl (Nat.le_of_ble_eq_true rfl) rfl rfl (Nat.le_of_ble_eq_true rfl) ⟨Nat.le_of_ble_eq_true rfl, Nat.le_of_ble_eq_true rfl⟩ ⟨Nat.zero_le _, Nat.zero_le _⟩ ⟨rfl, rfl⟩ ?_
  refine g_aload_n0 rfl d_X9_search_22 ?_
  refine g_getP (b := 50) f_X9_11 d_X9_search_23 rfl (Nat.le_of_ble_eq_true rfl) rfl rfl ?_
  refine g_iconst 0 d_X9_search_26 (by decide) ?_
  obtain ⟨ho2, hok⟩ := hok
  refine g_callS0 (c_J7_fill_53178 (m_X0_copy (st2 (st2 I 49 0 (-2)) 49 1 (-2147483648)) 53 x2) 50 rfl 0 ho2) w_J7_fill_53178 l_X9_47 d_X9_search_27 rfl rfl (Nat.le_of_ble_eq_true rfl) ⟨Nat.le_of_ble_eq_true rfl, Nat.le_of_ble_eq_true rfl⟩ ⟨Nat.zero_le _, Nat.zero_le _⟩ ⟨rfl, rfl⟩ ?_
  refine G.toI (I' := (u0_X9_search I x2)) (by rw [u0_X9_search, opv_eq]) ?_
  refine g_iload_n3 rfl d_X9_search_30 ?_
  refine g_aload_n1 rfl d_X9_search_31 ?_
  refine g_getP (b := rt x1 7) f_X9_53 d_X9_search_32 hx1 (kd_sg hx1 (by decide)) rfl (pw_rt hx1 (by decide) (by decide)) ?_
  refine g_getI f_X9_59 d_X9_search_35 (kt7 hx1).1 (kd_sg ((kt7 hx1).1) (by decide)) rfl ?_
  refine g_callS1 (c_X9_rowsOf (u0_X9_search I x2) x3 ((u0_X9_search I x2) (rt x1 7) 3)) w_X9_rowsOf l_X9_64 d_X9_search_38 rfl rfl (Nat.le_of_ble_eq_true rfl) ⟨Nat.le_of_ble_eq_true rfl, Nat.le_of_ble_eq_true rfl⟩ ⟨Nat.zero_le _, Nat.zero_le _⟩ ⟨rfl, rfl⟩ ?_
  refine g_is5 rfl d_X9_search_41 ?_
  refine g_iconst 0 d_X9_search_43 (by decide) ?_
  refine g_is6 rfl d_X9_search_44 ?_
  refine g_iconst 0 d_X9_search_46 (by decide) ?_
  refine g_is7 rfl d_X9_search_47 ?_
  refine k_lp_X9_search_49 x1 hx1 x2 hx2 x3 x4 (f_X9_rowsOf (u0_X9_search I x2) x3 ((u0_X9_search I x2) (rt x1 7) 3)) _ 0 0 (u0_X9_search I x2) (Nat.lt_succ_self _) hok ?_
  exact g_vret rfl d_X9_search_119 ⟨rfl, by simp only [m_X9_search, opv_eq, if_true, if_false, Bool.false_eq_true, reduceCtorEq, b2i_t, b2i_f]⟩ (Nat.le_refl _) (Nat.le_refl _)
