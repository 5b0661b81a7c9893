noncomputable def u0_X9_bestFrom0 (x2 : Int32) : Int32 := opv (if (if (x2 - x2 / 2 * 2) = 0 then true else false) = true then (-9) else 9)
noncomputable def lp_X9_bestFrom0_63 (x1 : Nat) (x2 : Int32) (x3 : Int32) (l4 : Bool) : Nat → Int32 → Int32 → (Nat → Nat → Int32) → Int32 × Int32 × (Nat → Nat → Int32)
  | 0, l5, l6, I1 => (l5, l6, I1)
  | n + 1, l5, l6, I1 => (l5, l6, I1)
def oklp_X9_bestFrom0_63 (x1 : Nat) (x2 : Int32) (x3 : Int32) (l4 : Bool) : Nat → Int32 → Int32 → (Nat → Nat → Int32) → Prop
  | 0, l5, l6, I1 => False
  | n + 1, l5, l6, I1 => (if (I1 (rt x1 7) 3) < l6 then True else (ok_X9_passTurn I1 x1 x2 l6 ∧ False))
set_option maxHeartbeats 800000 in
set_option maxRecDepth 4000 in
theorem k_lp_X9_bestFrom0_63 {k : KT} {ex : Bool} {J : Nat → Nat → Int64} {w : Bool} (x1 : Nat) (hx1 : kd x1 = 7) (x2 : Int32) (x3 : Int32) (l4 : Bool) {F : FinT} : ∀ (n : Nat) (l5 : Int32) (l6 : Int32) (I1 : (Nat → Nat → Int32)), oklp_X9_bestFrom0_63 x1 x2 x3 l4 n l5 l6 I1 → G k mX9_bestFrom (roomOf 6 0 0) F 0 0 124 [some (.ref (ka k 49)), some (.ref (ka k x1)), some (.int x2), some (.int x3), some (.int (b2i l4)), some (.int ((lp_X9_bestFrom0_63 x1 x2 x3 l4 n l5 l6 I1).1)), some (.int ((lp_X9_bestFrom0_63 x1 x2 x3 l4 n l5 l6 I1).2.1)), none] [] (81, ex, (lp_X9_bestFrom0_63 x1 x2 x3 l4 n l5 l6 I1).2.2, J, Pw w) → G k mX9_bestFrom (roomOf 6 0 0) F 0 0 63 [some (.ref (ka k 49)), some (.ref (ka k x1)), some (.int x2), some (.int x3), some (.int (b2i l4)), some (.int l5), some (.int l6), none] [] (81, ex, I1, J, Pw w) := by
  intro n
  induction n with
  | zero => intro l5 l6 I1 hok hj; exact absurd hok (by rw [oklp_X9_bestFrom0_63]; exact id)
  | succ n ih =>
    intro l5 l6 I1 hok hj
    rw [oklp_X9_bestFrom0_63] at hok
    refine g_iload (i := 6) rfl d_X9_bestFrom_63 ?_
    refine g_aload_n1 rfl d_X9_bestFrom_65 ?_
    refine g_getP (b := rt x1 7) f_X9_53 d_X9_bestFrom_66 hx1 (kd_sg hx1 (by decide)) rfl (pw_rt hx1 (by decide) (by decide)) ?_
    refine g_getI f_X9_59 d_X9_bestFrom_69 (kt7 hx1).1 (kd_sg ((kt7 hx1).1) (by decide)) rfl ?_
    refine g_icmp_gt 124 d_X9_bestFrom_72 (by decide) (fun h1 => ?_) (fun h1 => ?_)
    · skip
      (try simp only [lp_X9_bestFrom0_63, if_pos h1, opv_eq, if_true, if_false, Bool.false_eq_true, reduceCtorEq, b2i_t, b2i_f] at hj); exact hj
    · skip
      rw [if_neg h1] at hok
      refine g_aload_n0 rfl d_X9_bestFrom_75 ?_
      refine g_aload_n1 rfl d_X9_bestFrom_76 ?_
      refine g_iload_n2 rfl d_X9_bestFrom_77 ?_
      refine g_iload (i := 6) rfl d_X9_bestFrom_78 ?_
      obtain ⟨ho2, hok⟩ := hok
      refine g_callV0 (c_X9_passTurn I1 x1 hx1 x2 l6 ho2) w_X9_passTurn l_X9_78 d_X9_bestFrom_80 rfl (Nat.le_of_ble_eq_true rfl) rfl rfl (Nat.le_of_ble_eq_true rfl) ⟨Nat.le_of_ble_eq_true rfl, Nat.le_of_ble_eq_true rfl⟩ ⟨Nat.zero_le _, Nat.zero_le _⟩ ⟨rfl, rfl⟩ ?_
      refine g_aload_n0 rfl d_X9_bestFrom_83 ?_
      refine g_aload_n1 rfl d_X9_bestFrom_84 ?_
      refine g_iload_n2 rfl d_X9_bestFrom_85 ?_
      refine g_iconst 1 d_X9_bestFrom_86 (by decide) ?_
      refine g_iadd d_X9_bestFrom_87 ?_
      refine g_iload_n3 rfl d_X9_bestFrom_88 ?_
      exact False.elim hok
noncomputable def f_X9_bestFrom0 (I : Nat → Nat → Int32) (x1 : Nat) (x2 : Int32) (x3 : Int32) : Int32 := opv (if x3 ≤ x2 then I (rt 52 (if (f_X10_within I x2 0 4) = true then x2 else 0).toNatClampNeg) 0 else (if x2 < 4 then (lp_X9_bestFrom0_63 x1 x2 x3 (if (x2 - x2 / 2 * 2) = 0 then true else false) (opq 10) (u0_X9_bestFrom0 x2) 0 I).1 else I (rt 52 (if (f_X10_within I x2 0 4) = true then x2 else 0).toNatClampNeg) 0))
noncomputable def m_X9_bestFrom0 (I : Nat → Nat → Int32) (x1 : Nat) (x2 : Int32) (x3 : Int32) : Nat → Nat → Int32 := opv (if x3 ≤ x2 then I else (if x2 < 4 then (lp_X9_bestFrom0_63 x1 x2 x3 (if (x2 - x2 / 2 * 2) = 0 then true else false) (opq 10) (u0_X9_bestFrom0 x2) 0 I).2.2 else I))
noncomputable def ok_X9_bestFrom0 (I : Nat → Nat → Int32) (x1 : Nat) (x2 : Int32) (x3 : Int32) : Prop := opv (if x3 ≤ x2 then vp_in (if (f_X10_within I x2 0 4) = true then x2 else 0) (sz 52) else (if x2 < 4 then oklp_X9_bestFrom0_63 x1 x2 x3 (if (x2 - x2 / 2 * 2) = 0 then true else false) (opq 10) (u0_X9_bestFrom0 x2) 0 I else vp_in (if (f_X10_within I x2 0 4) = true then x2 else 0) (sz 52)))
set_option maxHeartbeats 800000 in
set_option maxRecDepth 4000 in
theorem c_X9_bestFrom0 {k : KT} {ex : Bool} {J : Nat → Nat → Int64} {w : Bool} (I : Nat → Nat → Int32) (x1 : Nat) (hx1 : kd x1 = 7) (x2 : Int32) (x3 : Int32)  (hok : ok_X9_bestFrom0 I x1 x2 x3) : Cx k mX9_bestFrom 6 [.ref (ka k 49), .ref (ka k x1), .int x2, .int x3] (81, ex, I, J, Pw w) (some (.int (f_X9_bestFrom0 I x1 x2 x3))) (81, ex, m_X9_bestFrom0 I x1 x2 x3, J, Pw w) := by
  refine Ct.of rfl [some (.ref (ka k 49)), some (.ref (ka k x1)), some (.int x2), some (.int x3), none, none, none, none] rfl rfl (Nat.le_of_ble_eq_true rfl) ?_
  rw [ok_X9_bestFrom0, opv_eq] at hok
  refine g_iload_n2 rfl d_X9_bestFrom_0 ?_
  refine g_iload_n3 rfl d_X9_bestFrom_1 ?_
  refine g_icmp_ge 10 d_X9_bestFrom_2 (by decide) (fun h2 => ?_) (fun h2 => ?_)
  · skip
    rw [if_pos h2] at hok
    refine g_aload_n0 rfl d_X9_bestFrom_10 ?_
    refine g_getP (b := 52) f_X9_22 d_X9_bestFrom_11 rfl (Nat.le_of_ble_eq_true rfl) rfl rfl ?_
    refine g_iload_n2 rfl d_X9_bestFrom_14 ?_
    refine g_iconst 0 d_X9_bestFrom_15 (by decide) ?_
    refine g_iconst 4 d_X9_bestFrom_16 (by decide) ?_
    refine g_callN1 (c_X10_within I x2 0 4) w_X10_within nest9 d_X9_bestFrom_17 rfl rfl (Nat.le_of_ble_eq_true rfl) ⟨Nat.le_of_ble_eq_true rfl, Nat.le_of_ble_eq_true rfl⟩ ⟨Nat.zero_le _, Nat.zero_le _⟩ ⟨rfl, rfl⟩ ?_
    refine g_cut (pc' := 28) (vs' := [some (.ref (ka k 49)), some (.ref (ka k x1)), some (.int x2), some (.int x3), none, none, none, none]) (st' := [.int (if (f_X10_within I x2 0 4) = true then x2 else 0), .ref (ka k 52)]) (M' := (81, ex, I, J, Pw w)) (fun hj => ?_) ?_
    · skip
      refine g_ifz 27 d_X9_bestFrom_20 (by decide) (fun h3 => ?_) (fun h3 => ?_)
      · skip
        refine g_iconst 0 d_X9_bestFrom_27 (by decide) ?_
        (try simp only [if_neg (nb h3), opv_eq, if_true, if_false, Bool.false_eq_true, reduceCtorEq, b2i_t, b2i_f] at hj); exact hj
      · skip
        refine g_iload_n2 rfl d_X9_bestFrom_23 ?_
        refine g_goto 28 d_X9_bestFrom_24 (by decide) ?_
        (try simp only [if_pos h3, opv_eq, if_true, if_false, Bool.false_eq_true, reduceCtorEq, b2i_t, b2i_f] at hj); exact hj
    · skip
      have ho1 := hok
      refine g_aald (b := rt 52 (if (f_X10_within I x2 0 4) = true then x2 else 0).toNatClampNeg) d_X9_bestFrom_28 rfl (Nat.le_of_ble_eq_true rfl) ho1 (pw_rt rfl (by decide) (by decide)) ?_
      refine g_getI f_X9_115 d_X9_bestFrom_29 (kt14 rfl ho1) (kd_sg (kt14 rfl ho1) (by decide)) rfl ?_
      exact g_iret rfl d_X9_bestFrom_32 ⟨by simp only [f_X9_bestFrom0, m_X9_bestFrom0, if_pos h2, opv_eq, if_true, if_false, Bool.false_eq_true, reduceCtorEq, b2i_t, b2i_f], by simp only [f_X9_bestFrom0, m_X9_bestFrom0, if_pos h2, opv_eq, if_true, if_false, Bool.false_eq_true, reduceCtorEq, b2i_t, b2i_f]⟩ (Nat.le_refl _) (Nat.le_refl _)
  · skip
    rw [if_neg h2] at hok
    refine g_iload_n2 rfl d_X9_bestFrom_5 ?_
    refine g_iconst 4 d_X9_bestFrom_6 (by decide) ?_
    refine g_icmp_lt 33 d_X9_bestFrom_7 (by decide) (fun h4 => ?_) (fun h4 => ?_)
    · skip
      rw [if_pos h4] at hok
      refine g_iload_n2 rfl d_X9_bestFrom_33 ?_
      refine g_iconst 2 d_X9_bestFrom_34 (by decide) ?_
      refine g_irem (by decide) d_X9_bestFrom_35 ?_
      refine g_cut (pc' := 44) (vs' := [some (.ref (ka k 49)), some (.ref (ka k x1)), some (.int x2), some (.int x3), none, none, none, none]) (st' := [.int (b2i (if (x2 - x2 / 2 * 2) = 0 then true else false))]) (M' := (81, ex, I, J, Pw w)) (fun hj => ?_) ?_
      · skip
        refine g_if_ne 43 d_X9_bestFrom_36 (by decide) (fun h5 => ?_) (fun h5 => ?_)
        · skip
          refine g_iconst 0 d_X9_bestFrom_43 (by decide) ?_
          (try simp only [if_neg h5, opv_eq, if_true, if_false, Bool.false_eq_true, reduceCtorEq, b2i_t, b2i_f] at hj); exact hj
        · skip
          refine g_iconst 1 d_X9_bestFrom_39 (by decide) ?_
          refine g_goto 44 d_X9_bestFrom_40 (by decide) ?_
          (try simp only [if_pos h5, opv_eq, if_true, if_false, Bool.false_eq_true, reduceCtorEq, b2i_t, b2i_f] at hj); exact hj
      · skip
        refine g_is4 rfl d_X9_bestFrom_44 ?_
        refine g_iload (i := 4) rfl d_X9_bestFrom_46 ?_
        refine g_cut (pc' := 58) (vs' := [some (.ref (ka k 49)), some (.ref (ka k x1)), some (.int x2), some (.int x3), some (.int (b2i (if (x2 - x2 / 2 * 2) = 0 then true else false))), none, none, none]) (st' := [.int (u0_X9_bestFrom0 x2)]) (M' := (81, ex, I, J, Pw w)) (fun hj => ?_) ?_
        · skip
          refine g_ifz 56 d_X9_bestFrom_48 (by decide) (fun h6 => ?_) (fun h6 => ?_)
          · skip
            refine g_bipush 9 d_X9_bestFrom_56 (by decide) ?_
            (try simp only [if_neg (nb h6), opv_eq, if_true, if_false, Bool.false_eq_true, reduceCtorEq, b2i_t, b2i_f, u0_X9_bestFrom0] at hj); exact hj
          · skip
            refine g_bipush (-9) d_X9_bestFrom_51 (by decide) ?_
            refine g_goto 58 d_X9_bestFrom_53 (by decide) ?_
            (try simp only [if_pos h6, opv_eq, if_true, if_false, Bool.false_eq_true, reduceCtorEq, b2i_t, b2i_f, u0_X9_bestFrom0] at hj); exact hj
        · skip
          refine g_is5 rfl d_X9_bestFrom_58 ?_
          refine g_iconst 0 d_X9_bestFrom_60 (by decide) ?_
          refine g_is6 rfl d_X9_bestFrom_61 ?_
          refine k_lp_X9_bestFrom0_63 x1 hx1 x2 x3 (if (x2 - x2 / 2 * 2) = 0 then true else false) _ (u0_X9_bestFrom0 x2) 0 I hok ?_
          refine g_iload (i := 5) rfl d_X9_bestFrom_124 ?_
          exact g_iret rfl d_X9_bestFrom_126 ⟨by simp only [f_X9_bestFrom0, m_X9_bestFrom0, if_neg h2, if_pos h4, opv_eq, if_true, if_false, Bool.false_eq_true, reduceCtorEq, b2i_t, b2i_f], by simp only [f_X9_bestFrom0, m_X9_bestFrom0, if_neg h2, if_pos h4, opv_eq, if_true, if_false, Bool.false_eq_true, reduceCtorEq, b2i_t, b2i_f]⟩ (Nat.le_refl _) (Nat.le_refl _)
    · skip
      rw [if_neg h4] at hok
      refine g_aload_n0 rfl d_X9_bestFrom_10 ?_
      refine g_getP (b := 52) f_X9_22 d_X9_bestFrom_11 rfl (Nat.le_of_ble_eq_true rfl) rfl rfl ?_
      refine g_iload_n2 rfl d_X9_bestFrom_14 ?_
      refine g_iconst 0 d_X9_bestFrom_15 (by decide) ?_
      refine g_iconst 4 d_X9_bestFrom_16 (by decide) ?_
      refine g_callN1 (c_X10_within I x2 0 4) w_X10_within nest9 d_X9_bestFrom_17 rfl rfl (Nat.le_of_ble_eq_true rfl) ⟨Nat.le_of_ble_eq_true rfl, Nat.le_of_ble_eq_true rfl⟩ ⟨Nat.zero_le _, Nat.zero_le _⟩ ⟨rfl, rfl⟩ ?_
      refine g_cut (pc' := 28) (vs' := [some (.ref (ka k 49)), some (.ref (ka k x1)), some (.int x2), some (.int x3), none, none, none, none]) (st' := [.int (if (f_X10_within I x2 0 4) = true then x2 else 0), .ref (ka k 52)]) (M' := (81, ex, I, J, Pw w)) (fun hj => ?_) ?_
      · skip
        refine g_ifz 27 d_X9_bestFrom_20 (by decide) (fun h7 => ?_) (fun h7 => ?_)
        · skip
          refine g_iconst 0 d_X9_bestFrom_27 (by decide) ?_
          (try simp only [if_neg (nb h7), opv_eq, if_true, if_false, Bool.false_eq_true, reduceCtorEq, b2i_t, b2i_f] at hj); exact hj
        · skip
          refine g_iload_n2 rfl d_X9_bestFrom_23 ?_
          refine g_goto 28 d_X9_bestFrom_24 (by decide) ?_
          (try simp only [if_pos h7, opv_eq, if_true, if_false, Bool.false_eq_true, reduceCtorEq, b2i_t, b2i_f] at hj); exact hj
      · skip
        have ho3 := hok
        refine g_aald (b := rt 52 (if (f_X10_within I x2 0 4) = true then x2 else 0).toNatClampNeg) d_X9_bestFrom_28 rfl (Nat.le_of_ble_eq_true rfl) ho3 (pw_rt rfl (by decide) (by decide)) ?_
        refine g_getI f_X9_115 d_X9_bestFrom_29 (kt14 rfl ho3) (kd_sg (kt14 rfl ho3) (by decide)) rfl ?_
        exact g_iret rfl d_X9_bestFrom_32 ⟨by simp only [f_X9_bestFrom0, m_X9_bestFrom0, if_neg h2, if_neg h4, opv_eq, if_true, if_false, Bool.false_eq_true, reduceCtorEq, b2i_t, b2i_f], by simp only [f_X9_bestFrom0, m_X9_bestFrom0, if_neg h2, if_neg h4, opv_eq, if_true, if_false, Bool.false_eq_true, reduceCtorEq, b2i_t, b2i_f]⟩ (Nat.le_refl _) (Nat.le_refl _)
noncomputable def u0_X9_bestFrom1 (x2 : Int32) : Int32 := opv (if (if (x2 - x2 / 2 * 2) = 0 then true else false) = true then (-9) else 9)
noncomputable def u1_X9_bestFrom1 (x1 : Nat) (x2 : Int32) (x3 : Int32) (l4 : Bool) (l5 : Int32) (l6 : Int32) (I1 : Nat → Nat → Int32) : Int32 := opv (if l4 = true then imax l5 (f_X9_bestFrom0 (m_X9_passTurn I1 x1 x2 l6) x1 (x2 + 1) x3) else imin l5 (f_X9_bestFrom0 (m_X9_passTurn I1 x1 x2 l6) x1 (x2 + 1) x3))
noncomputable def lp_X9_bestFrom1_63 (x1 : Nat) (x2 : Int32) (x3 : Int32) (l4 : Bool) : Nat → Int32 → Int32 → (Nat → Nat → Int32) → Int32 × Int32 × (Nat → Nat → Int32)
  | 0, l5, l6, I1 => (l5, l6, I1)
  | n + 1, l5, l6, I1 => (if (I1 (rt x1 7) 3) < l6 then (l5, l6, I1) else (lp_X9_bestFrom1_63 x1 x2 x3 l4 n (u1_X9_bestFrom1 x1 x2 x3 l4 l5 l6 I1) (l6 + 1) (m_X9_bestFrom0 (m_X9_passTurn I1 x1 x2 l6) x1 (x2 + 1) x3)))
def oklp_X9_bestFrom1_63 (x1 : Nat) (x2 : Int32) (x3 : Int32) (l4 : Bool) : Nat → Int32 → Int32 → (Nat → Nat → Int32) → Prop
  | 0, l5, l6, I1 => False
  | n + 1, l5, l6, I1 => (if (I1 (rt x1 7) 3) < l6 then True else (ok_X9_passTurn I1 x1 x2 l6 ∧ (ok_X9_bestFrom0 (m_X9_passTurn I1 x1 x2 l6) x1 (x2 + 1) x3 ∧ oklp_X9_bestFrom1_63 x1 x2 x3 l4 n (u1_X9_bestFrom1 x1 x2 x3 l4 l5 l6 I1) (l6 + 1) (m_X9_bestFrom0 (m_X9_passTurn I1 x1 x2 l6) x1 (x2 + 1) x3))))
set_option maxHeartbeats 800000 in
set_option maxRecDepth 4000 in
theorem k_lp_X9_bestFrom1_63 {k : KT} {ex : Bool} {J : Nat → Nat → Int64} {w : Bool} (x1 : Nat) (hx1 : kd x1 = 7) (x2 : Int32) (x3 : Int32) (l4 : Bool) {F : FinT} : ∀ (n : Nat) (l5 : Int32) (l6 : Int32) (I1 : (Nat → Nat → Int32)), oklp_X9_bestFrom1_63 x1 x2 x3 l4 n l5 l6 I1 → G k mX9_bestFrom (roomOf 7 0 0) F 0 0 124 [some (.ref (ka k 49)), some (.ref (ka k x1)), some (.int x2), some (.int x3), some (.int (b2i l4)), some (.int ((lp_X9_bestFrom1_63 x1 x2 x3 l4 n l5 l6 I1).1)), some (.int ((lp_X9_bestFrom1_63 x1 x2 x3 l4 n l5 l6 I1).2.1)), none] [] (81, ex, (lp_X9_bestFrom1_63 x1 x2 x3 l4 n l5 l6 I1).2.2, J, Pw w) → G k mX9_bestFrom (roomOf 7 0 0) F 0 0 63 [some (.ref (ka k 49)), some (.ref (ka k x1)), some (.int x2), some (.int x3), some (.int (b2i l4)), some (.int l5), some (.int l6), none] [] (81, ex, I1, J, Pw w) := by
  intro n
  induction n with
  | zero => intro l5 l6 I1 hok hj; exact absurd hok (by rw [oklp_X9_bestFrom1_63]; exact id)
  | succ n ih =>
    intro l5 l6 I1 hok hj
    rw [oklp_X9_bestFrom1_63] at hok
    refine g_iload (i := 6) rfl d_X9_bestFrom_63 ?_
    refine g_aload_n1 rfl d_X9_bestFrom_65 ?_
    refine g_getP (b := rt x1 7) f_X9_53 d_X9_bestFrom_66 hx1 (kd_sg hx1 (by decide)) rfl (pw_rt hx1 (by decide) (by decide)) ?_
    refine g_getI f_X9_59 d_X9_bestFrom_69 (kt7 hx1).1 (kd_sg ((kt7 hx1).1) (by decide)) rfl ?_
    refine g_icmp_gt 124 d_X9_bestFrom_72 (by decide) (fun h1 => ?_) (fun h1 => ?_)
    · skip
      (try simp only [lp_X9_bestFrom1_63, if_pos h1, opv_eq, if_true, if_false, Bool.false_eq_true, reduceCtorEq, b2i_t, b2i_f] at hj); exact hj
    · skip
      rw [if_neg h1] at hok
      refine g_aload_n0 rfl d_X9_bestFrom_75 ?_
      refine g_aload_n1 rfl d_X9_bestFrom_76 ?_
      refine g_iload_n2 rfl d_X9_bestFrom_77 ?_
      refine g_iload (i := 6) rfl d_X9_bestFrom_78 ?_
      obtain ⟨ho2, hok⟩ := hok
      refine g_callV0 (c_X9_passTurn I1 x1 hx1 x2 l6 ho2) w_X9_passTurn l_X9_78 d_X9_bestFrom_80 rfl (Nat.le_of_ble_eq_true rfl) rfl rfl (Nat.le_of_ble_eq_true rfl) ⟨Nat.le_of_ble_eq_true rfl, Nat.le_of_ble_eq_true rfl⟩ ⟨Nat.zero_le _, Nat.zero_le _⟩ ⟨rfl, rfl⟩ ?_
      refine g_aload_n0 rfl d_X9_bestFrom_83 ?_
      refine g_aload_n1 rfl d_X9_bestFrom_84 ?_
      refine g_iload_n2 rfl d_X9_bestFrom_85 ?_
      refine g_iconst 1 d_X9_bestFrom_86 (by decide) ?_
      refine g_iadd d_X9_bestFrom_87 ?_
      refine g_iload_n3 rfl d_X9_bestFrom_88 ?_
      obtain ⟨ho3, hok⟩ := hok
      refine g_callS1 (c_X9_bestFrom0 (m_X9_passTurn I1 x1 x2 l6) x1 hx1 (x2 + 1) x3 ho3) w_X9_bestFrom l_X9_111 d_X9_bestFrom_89 rfl rfl (Nat.le_of_ble_eq_true rfl) ⟨Nat.le_of_ble_eq_true rfl, Nat.le_of_ble_eq_true rfl⟩ ⟨Nat.zero_le _, Nat.zero_le _⟩ ⟨rfl, rfl⟩ ?_
      refine g_is7 rfl d_X9_bestFrom_92 ?_
      refine g_iload (i := 4) rfl d_X9_bestFrom_94 ?_
      refine g_cut (pc' := 116) (vs' := [some (.ref (ka k 49)), some (.ref (ka k x1)), some (.int x2), some (.int x3), some (.int (b2i l4)), some (.int l5), some (.int l6), some (.int (f_X9_bestFrom0 (m_X9_passTurn I1 x1 x2 l6) x1 (x2 + 1) x3))]) (st' := [.int (u1_X9_bestFrom1 x1 x2 x3 l4 l5 l6 I1)]) (M' := (81, ex, (m_X9_bestFrom0 (m_X9_passTurn I1 x1 x2 l6) x1 (x2 + 1) x3), J, Pw w)) (fun hj => ?_) ?_
      · skip
        refine g_ifz 109 d_X9_bestFrom_96 (by decide) (fun h2 => ?_) (fun h2 => ?_)
        · skip
          refine g_iload (i := 5) rfl d_X9_bestFrom_109 ?_
          refine g_iload (i := 7) rfl d_X9_bestFrom_111 ?_
          refine g_mmin lm_X9_123 d_X9_bestFrom_113 (Nat.le_of_ble_eq_true rfl) ⟨Nat.le_of_ble_eq_true rfl, Nat.le_of_ble_eq_true rfl⟩ ⟨Nat.zero_le _, Nat.zero_le _⟩ ?_
          (try simp only [if_neg (nb h2), opv_eq, if_true, if_false, Bool.false_eq_true, reduceCtorEq, b2i_t, b2i_f, u1_X9_bestFrom1] at hj); exact hj
        · skip
          refine g_iload (i := 5) rfl d_X9_bestFrom_99 ?_
          refine g_iload (i := 7) rfl d_X9_bestFrom_101 ?_
          refine g_mmax lm_X9_118 d_X9_bestFrom_103 (Nat.le_of_ble_eq_true rfl) ⟨Nat.le_of_ble_eq_true rfl, Nat.le_of_ble_eq_true rfl⟩ ⟨Nat.zero_le _, Nat.zero_le _⟩ ?_
          refine g_goto 116 d_X9_bestFrom_106 (by decide) ?_
          (try simp only [if_pos h2, opv_eq, if_true, if_false, Bool.false_eq_true, reduceCtorEq, b2i_t, b2i_f, u1_X9_bestFrom1] at hj); exact hj
      · skip
        refine g_is5 rfl d_X9_bestFrom_116 ?_
        refine g_ic6 (l6 + 1) rfl rfl d_X9_bestFrom_118 ?_
        refine g_goto 63 d_X9_bestFrom_121 (by decide) ?_
        refine G.weak (wks (wks (wks (wks (wks (wks (wks (wkn wk0)))))))) ?_; exact ih (u1_X9_bestFrom1 x1 x2 x3 l4 l5 l6 I1) (l6 + 1) (m_X9_bestFrom0 (m_X9_passTurn I1 x1 x2 l6) x1 (x2 + 1) x3) (by (try simp only [if_neg h1, opv_eq, if_true, if_false, Bool.false_eq_true, reduceCtorEq, b2i_t, b2i_f] at hok); exact hok) (by (try simp only [lp_X9_bestFrom1_63, if_neg h1, opv_eq, if_true, if_false, Bool.false_eq_true, reduceCtorEq, b2i_t, b2i_f] at hj); exact hj)
noncomputable def f_X9_bestFrom1 (I : Nat → Nat → Int32) (x1 : Nat) (x2 : Int32) (x3 : Int32) : Int32 := opv (if x3 ≤ x2 then I (rt 52 (if (f_X10_within I x2 0 4) = true then x2 else 0).toNatClampNeg) 0 else (if x2 < 4 then (lp_X9_bestFrom1_63 x1 x2 x3 (if (x2 - x2 / 2 * 2) = 0 then true else false) (opq 10) (u0_X9_bestFrom1 x2) 0 I).1 else I (rt 52 (if (f_X10_within I x2 0 4) = true then x2 else 0).toNatClampNeg) 0))
noncomputable def m_X9_bestFrom1 (I : Nat → Nat → Int32) (x1 : Nat) (x2 : Int32) (x3 : Int32) : Nat → Nat → Int32 := opv (if x3 ≤ x2 then I else (if x2 < 4 then (lp_X9_bestFrom1_63 x1 x2 x3 (if (x2 - x2 / 2 * 2) = 0 then true else false) (opq 10) (u0_X9_bestFrom1 x2) 0 I).2.2 else I))
noncomputable def ok_X9_bestFrom1 (I : Nat → Nat → Int32) (x1 : Nat) (x2 : Int32) (x3 : Int32) : Prop := opv (if x3 ≤ x2 then vp_in (if (f_X10_within I x2 0 4) = true then x2 else 0) (sz 52) else (if x2 < 4 then oklp_X9_bestFrom1_63 x1 x2 x3 (if (x2 - x2 / 2 * 2) = 0 then true else false) (opq 10) (u0_X9_bestFrom1 x2) 0 I else vp_in (if (f_X10_within I x2 0 4) = true then x2 else 0) (sz 52)))
set_option maxHeartbeats 800000 in
set_option maxRecDepth 4000 in
theorem c_X9_bestFrom1 {k : KT} {ex : Bool} {J : Nat → Nat → Int64} {w : Bool} (I : Nat → Nat → Int32) (x1 : Nat) (hx1 : kd x1 = 7) (x2 : Int32) (x3 : Int32)  (hok : ok_X9_bestFrom1 I x1 x2 x3) : Cx k mX9_bestFrom 7 [.ref (ka k 49), .ref (ka k x1), .int x2, .int x3] (81, ex, I, J, Pw w) (some (.int (f_X9_bestFrom1 I x1 x2 x3))) (81, ex, m_X9_bestFrom1 I x1 x2 x3, J, Pw w) := by
  refine Ct.of rfl [some (.ref (ka k 49)), some (.ref (ka k x1)), some (.int x2), some (.int x3), none, none, none, none] rfl rfl (Nat.le_of_ble_eq_true rfl) ?_
  rw [ok_X9_bestFrom1, opv_eq] at hok
  refine g_iload_n2 rfl d_X9_bestFrom_0 ?_
  refine g_iload_n3 rfl d_X9_bestFrom_1 ?_
  refine g_icmp_ge 10 d_X9_bestFrom_2 (by decide) (fun h3 => ?_) (fun h3 => ?_)
  · skip
    rw [if_pos h3] at hok
    refine g_aload_n0 rfl d_X9_bestFrom_10 ?_
    refine g_getP (b := 52) f_X9_22 d_X9_bestFrom_11 rfl (Nat.le_of_ble_eq_true rfl) rfl rfl ?_
    refine g_iload_n2 rfl d_X9_bestFrom_14 ?_
    refine g_iconst 0 d_X9_bestFrom_15 (by decide) ?_
    refine g_iconst 4 d_X9_bestFrom_16 (by decide) ?_
    refine g_callN1 (c_X10_within I x2 0 4) w_X10_within nest9 d_X9_bestFrom_17 rfl rfl (Nat.le_of_ble_eq_true rfl) ⟨Nat.le_of_ble_eq_true rfl, Nat.le_of_ble_eq_true rfl⟩ ⟨Nat.zero_le _, Nat.zero_le _⟩ ⟨rfl, rfl⟩ ?_
    refine g_cut (pc' := 28) (vs' := [some (.ref (ka k 49)), some (.ref (ka k x1)), some (.int x2), some (.int x3), none, none, none, none]) (st' := [.int (if (f_X10_within I x2 0 4) = true then x2 else 0), .ref (ka k 52)]) (M' := (81, ex, I, J, Pw w)) (fun hj => ?_) ?_
    · skip
      refine g_ifz 27 d_X9_bestFrom_20 (by decide) (fun h4 => ?_) (fun h4 => ?_)
      · skip
        refine g_iconst 0 d_X9_bestFrom_27 (by decide) ?_
        (try simp only [if_neg (nb h4), opv_eq, if_true, if_false, Bool.false_eq_true, reduceCtorEq, b2i_t, b2i_f] at hj); exact hj
      · skip
        refine g_iload_n2 rfl d_X9_bestFrom_23 ?_
        refine g_goto 28 d_X9_bestFrom_24 (by decide) ?_
        (try simp only [if_pos h4, opv_eq, if_true, if_false, Bool.false_eq_true, reduceCtorEq, b2i_t, b2i_f] at hj); exact hj
    · skip
      have ho1 := hok
      refine g_aald (b := rt 52 (if (f_X10_within I x2 0 4) = true then x2 else 0).toNatClampNeg) d_X9_bestFrom_28 rfl (Nat.le_of_ble_eq_true rfl) ho1 (pw_rt rfl (by decide) (by decide)) ?_
      refine g_getI f_X9_115 d_X9_bestFrom_29 (kt14 rfl ho1) (kd_sg (kt14 rfl ho1) (by decide)) rfl ?_
      exact g_iret rfl d_X9_bestFrom_32 ⟨by simp only [f_X9_bestFrom1, m_X9_bestFrom1, if_pos h3, opv_eq, if_true, if_false, Bool.false_eq_true, reduceCtorEq, b2i_t, b2i_f], by simp only [f_X9_bestFrom1, m_X9_bestFrom1, if_pos h3, opv_eq, if_true, if_false, Bool.false_eq_true, reduceCtorEq, b2i_t, b2i_f]⟩ (Nat.le_refl _) (Nat.le_refl _)
  · skip
    rw [if_neg h3] at hok
    refine g_iload_n2 rfl d_X9_bestFrom_5 ?_
    refine g_iconst 4 d_X9_bestFrom_6 (by decide) ?_
    refine g_icmp_lt 33 d_X9_bestFrom_7 (by decide) (fun h5 => ?_) (fun h5 => ?_)
    · skip
      rw [if_pos h5] at hok
      refine g_iload_n2 rfl d_X9_bestFrom_33 ?_
      refine g_iconst 2 d_X9_bestFrom_34 (by decide) ?_
      refine g_irem (by decide) d_X9_bestFrom_35 ?_
      refine g_cut (pc' := 44) (vs' := [some (.ref (ka k 49)), some (.ref (ka k x1)), some (.int x2), some (.int x3), none, none, none, none]) (st' := [.int (b2i (if (x2 - x2 / 2 * 2) = 0 then true else false))]) (M' := (81, ex, I, J, Pw w)) (fun hj => ?_) ?_
      · skip
        refine g_if_ne 43 d_X9_bestFrom_36 (by decide) (fun h6 => ?_) (fun h6 => ?_)
        · skip
          refine g_iconst 0 d_X9_bestFrom_43 (by decide) ?_
          (try simp only [if_neg h6, opv_eq, if_true, if_false, Bool.false_eq_true, reduceCtorEq, b2i_t, b2i_f] at hj); exact hj
        · skip
          refine g_iconst 1 d_X9_bestFrom_39 (by decide) ?_
          refine g_goto 44 d_X9_bestFrom_40 (by decide) ?_
          (try simp only [if_pos h6, opv_eq, if_true, if_false, Bool.false_eq_true, reduceCtorEq, b2i_t, b2i_f] at hj); exact hj
      · skip
        refine g_is4 rfl d_X9_bestFrom_44 ?_
        refine g_iload (i := 4) rfl d_X9_bestFrom_46 ?_
        refine g_cut (pc' := 58) (vs' := [some (.ref (ka k 49)), some (.ref (ka k x1)), some (.int x2), some (.int x3), some (.int (b2i (if (x2 - x2 / 2 * 2) = 0 then true else false))), none, none, none]) (st' := [.int (u0_X9_bestFrom1 x2)]) (M' := (81, ex, I, J, Pw w)) (fun hj => ?_) ?_
        · skip
          refine g_ifz 56 d_X9_bestFrom_48 (by decide) (fun h7 => ?_) (fun h7 => ?_)
          · skip
            refine g_bipush 9 d_X9_bestFrom_56 (by decide) ?_
            (try simp only [if_neg (nb h7), opv_eq, if_true, if_false, Bool.false_eq_true, reduceCtorEq, b2i_t, b2i_f, u0_X9_bestFrom1] at hj); exact hj
          · skip
            refine g_bipush (-9) d_X9_bestFrom_51 (by decide) ?_
            refine g_goto 58 d_X9_bestFrom_53 (by decide) ?_
            (try simp only [if_pos h7, opv_eq, if_true, if_false, Bool.false_eq_true, reduceCtorEq, b2i_t, b2i_f, u0_X9_bestFrom1] at hj); exact hj
        · skip
          refine g_is5 rfl d_X9_bestFrom_58 ?_
          refine g_iconst 0 d_X9_bestFrom_60 (by decide) ?_
          refine g_is6 rfl d_X9_bestFrom_61 ?_
          refine k_lp_X9_bestFrom1_63 x1 hx1 x2 x3 (if (x2 - x2 / 2 * 2) = 0 then true else false) _ (u0_X9_bestFrom1 x2) 0 I hok ?_
          refine g_iload (i := 5) rfl d_X9_bestFrom_124 ?_
          exact g_iret rfl d_X9_bestFrom_126 ⟨by simp only [f_X9_bestFrom1, m_X9_bestFrom1, if_neg h3, if_pos h5, opv_eq, if_true, if_false, Bool.false_eq_true, reduceCtorEq, b2i_t, b2i_f], by simp only [f_X9_bestFrom1, m_X9_bestFrom1, if_neg h3, if_pos h5, opv_eq, if_true, if_false, Bool.false_eq_true, reduceCtorEq, b2i_t, b2i_f]⟩ (Nat.le_refl _) (Nat.le_refl _)
    · skip
      rw [if_neg h5] at hok
      refine g_aload_n0 rfl d_X9_bestFrom_10 ?_
      refine g_getP (b := 52) f_X9_22 d_X9_bestFrom_11 rfl (Nat.le_of_ble_eq_true rfl) rfl rfl ?_
      refine g_iload_n2 rfl d_X9_bestFrom_14 ?_
      refine g_iconst 0 d_X9_bestFrom_15 (by decide) ?_
      refine g_iconst 4 d_X9_bestFrom_16 (by decide) ?_
      refine g_callN1 (c_X10_within I x2 0 4) w_X10_within nest9 d_X9_bestFrom_17 rfl rfl (Nat.le_of_ble_eq_true rfl) ⟨Nat.le_of_ble_eq_true rfl, Nat.le_of_ble_eq_true rfl⟩ ⟨Nat.zero_le _, Nat.zero_le _⟩ ⟨rfl, rfl⟩ ?_
      refine g_cut (pc' := 28) (vs' := [some (.ref (ka k 49)), some (.ref (ka k x1)), some (.int x2), some (.int x3), none, none, none, none]) (st' := [.int (if (f_X10_within I x2 0 4) = true then x2 else 0), .ref (ka k 52)]) (M' := (81, ex, I, J, Pw w)) (fun hj => ?_) ?_
      · skip
        refine g_ifz 27 d_X9_bestFrom_20 (by decide) (fun h8 => ?_) (fun h8 => ?_)
        · skip
          refine g_iconst 0 d_X9_bestFrom_27 (by decide) ?_
          (try simp only [if_neg (nb h8), opv_eq, if_true, if_false, Bool.false_eq_true, reduceCtorEq, b2i_t, b2i_f] at hj); exact hj
        · skip
          refine g_iload_n2 rfl d_X9_bestFrom_23 ?_
          refine g_goto 28 d_X9_bestFrom_24 (by decide) ?_
          (try simp only [if_pos h8, opv_eq, if_true, if_false, Bool.false_eq_true, reduceCtorEq, b2i_t, b2i_f] at hj); exact hj
      · skip
        have ho4 := hok
        refine g_aald (b := rt 52 (if (f_X10_within I x2 0 4) = true then x2 else 0).toNatClampNeg) d_X9_bestFrom_28 rfl (Nat.le_of_ble_eq_true rfl) ho4 (pw_rt rfl (by decide) (by decide)) ?_
        refine g_getI f_X9_115 d_X9_bestFrom_29 (kt14 rfl ho4) (kd_sg (kt14 rfl ho4) (by decide)) rfl ?_
        exact g_iret rfl d_X9_bestFrom_32 ⟨by simp only [f_X9_bestFrom1, m_X9_bestFrom1, if_neg h3, if_neg h5, opv_eq, if_true, if_false, Bool.false_eq_true, reduceCtorEq, b2i_t, b2i_f], by simp only [f_X9_bestFrom1, m_X9_bestFrom1, if_neg h3, if_neg h5, opv_eq, if_true, if_false, Bool.false_eq_true, reduceCtorEq, b2i_t, b2i_f]⟩ (Nat.le_refl _) (Nat.le_refl _)
noncomputable def u0_X9_bestFrom2 (x2 : Int32) : Int32 := opv (if (if (x2 - x2 / 2 * 2) = 0 then true else false) = true then (-9) else 9)
noncomputable def u1_X9_bestFrom2 (x1 : Nat) (x2 : Int32) (x3 : Int32) (l4 : Bool) (l5 : Int32) (l6 : Int32) (I1 : Nat → Nat → Int32) : Int32 := opv (if l4 = true then imax l5 (f_X9_bestFrom1 (m_X9_passTurn I1 x1 x2 l6) x1 (x2 + 1) x3) else imin l5 (f_X9_bestFrom1 (m_X9_passTurn I1 x1 x2 l6) x1 (x2 + 1) x3))
noncomputable def lp_X9_bestFrom2_63 (x1 : Nat) (x2 : Int32) (x3 : Int32) (l4 : Bool) : Nat → Int32 → Int32 → (Nat → Nat → Int32) → Int32 × Int32 × (Nat → Nat → Int32)
  | 0, l5, l6, I1 => (l5, l6, I1)
  | n + 1, l5, l6, I1 => (if (I1 (rt x1 7) 3) < l6 then (l5, l6, I1) else (lp_X9_bestFrom2_63 x1 x2 x3 l4 n (u1_X9_bestFrom2 x1 x2 x3 l4 l5 l6 I1) (l6 + 1) (m_X9_bestFrom1 (m_X9_passTurn I1 x1 x2 l6) x1 (x2 + 1) x3)))
def oklp_X9_bestFrom2_63 (x1 : Nat) (x2 : Int32) (x3 : Int32) (l4 : Bool) : Nat → Int32 → Int32 → (Nat → Nat → Int32) → Prop
  | 0, l5, l6, I1 => False
  | n + 1, l5, l6, I1 => (if (I1 (rt x1 7) 3) < l6 then True else (ok_X9_passTurn I1 x1 x2 l6 ∧ (ok_X9_bestFrom1 (m_X9_passTurn I1 x1 x2 l6) x1 (x2 + 1) x3 ∧ oklp_X9_bestFrom2_63 x1 x2 x3 l4 n (u1_X9_bestFrom2 x1 x2 x3 l4 l5 l6 I1) (l6 + 1) (m_X9_bestFrom1 (m_X9_passTurn I1 x1 x2 l6) x1 (x2 + 1) x3))))
set_option maxHeartbeats 800000 in
set_option maxRecDepth 4000 in
theorem k_lp_X9_bestFrom2_63 {k : KT} {ex : Bool} {J : Nat → Nat → Int64} {w : Bool} (x1 : Nat) (hx1 : kd x1 = 7) (x2 : Int32) (x3 : Int32) (l4 : Bool) {F : FinT} : ∀ (n : Nat) (l5 : Int32) (l6 : Int32) (I1 : (Nat → Nat → Int32)), oklp_X9_bestFrom2_63 x1 x2 x3 l4 n l5 l6 I1 → G k mX9_bestFrom (roomOf 8 0 0) F 0 0 124 [some (.ref (ka k 49)), some (.ref (ka k x1)), some (.int x2), some (.int x3), some (.int (b2i l4)), some (.int ((lp_X9_bestFrom2_63 x1 x2 x3 l4 n l5 l6 I1).1)), some (.int ((lp_X9_bestFrom2_63 x1 x2 x3 l4 n l5 l6 I1).2.1)), none] [] (81, ex, (lp_X9_bestFrom2_63 x1 x2 x3 l4 n l5 l6 I1).2.2, J, Pw w) → G k mX9_bestFrom (roomOf 8 0 0) F 0 0 63 [some (.ref (ka k 49)), some (.ref (ka k x1)), some (.int x2), some (.int x3), some (.int (b2i l4)), some (.int l5), some (.int l6), none] [] (81, ex, I1, J, Pw w) := by
  intro n
  induction n with
  | zero => intro l5 l6 I1 hok hj; exact absurd hok (by rw [oklp_X9_bestFrom2_63]; exact id)
  | succ n ih =>
    intro l5 l6 I1 hok hj
    rw [oklp_X9_bestFrom2_63] at hok
    refine g_iload (i := 6) rfl d_X9_bestFrom_63 ?_
    refine g_aload_n1 rfl d_X9_bestFrom_65 ?_
    refine g_getP (b := rt x1 7) f_X9_53 d_X9_bestFrom_66 hx1 (kd_sg hx1 (by decide)) rfl (pw_rt hx1 (by decide) (by decide)) ?_
    refine g_getI f_X9_59 d_X9_bestFrom_69 (kt7 hx1).1 (kd_sg ((kt7 hx1).1) (by decide)) rfl ?_
    refine g_icmp_gt 124 d_X9_bestFrom_72 (by decide) (fun h1 => ?_) (fun h1 => ?_)
    · skip
      (try simp only [lp_X9_bestFrom2_63, if_pos h1, opv_eq, if_true, if_false, Bool.false_eq_true, reduceCtorEq, b2i_t, b2i_f] at hj); exact hj
    · skip
      rw [if_neg h1] at hok
      refine g_aload_n0 rfl d_X9_bestFrom_75 ?_
      refine g_aload_n1 rfl d_X9_bestFrom_76 ?_
      refine g_iload_n2 rfl d_X9_bestFrom_77 ?_
      refine g_iload (i := 6) rfl d_X9_bestFrom_78 ?_
      obtain ⟨ho2, hok⟩ := hok
      refine g_callV0 (c_X9_passTurn I1 x1 hx1 x2 l6 ho2) w_X9_passTurn l_X9_78 d_X9_bestFrom_80 rfl (Nat.le_of_ble_eq_true rfl) rfl rfl (Nat.le_of_ble_eq_true rfl) ⟨Nat.le_of_ble_eq_true rfl, Nat.le_of_ble_eq_true rfl⟩ ⟨Nat.zero_le _, Nat.zero_le _⟩ ⟨rfl, rfl⟩ ?_
      refine g_aload_n0 rfl d_X9_bestFrom_83 ?_
      refine g_aload_n1 rfl d_X9_bestFrom_84 ?_
      refine g_iload_n2 rfl d_X9_bestFrom_85 ?_
      refine g_iconst 1 d_X9_bestFrom_86 (by decide) ?_
      refine g_iadd d_X9_bestFrom_87 ?_
      refine g_iload_n3 rfl d_X9_bestFrom_88 ?_
      obtain ⟨ho3, hok⟩ := hok
      refine g_callS1 (c_X9_bestFrom1 (m_X9_passTurn I1 x1 x2 l6) x1 hx1 (x2 + 1) x3 ho3) w_X9_bestFrom l_X9_111 d_X9_bestFrom_89 rfl rfl (Nat.le_of_ble_eq_true rfl) ⟨Nat.le_of_ble_eq_true rfl, Nat.le_of_ble_eq_true rfl⟩ ⟨Nat.zero_le _, Nat.zero_le _⟩ ⟨rfl, rfl⟩ ?_
      refine g_is7 rfl d_X9_bestFrom_92 ?_
      refine g_iload (i := 4) rfl d_X9_bestFrom_94 ?_
      refine g_cut (pc' := 116) (vs' := [some (.ref (ka k 49)), some (.ref (ka k x1)), some (.int x2), some (.int x3), some (.int (b2i l4)), some (.int l5), some (.int l6), some (.int (f_X9_bestFrom1 (m_X9_passTurn I1 x1 x2 l6) x1 (x2 + 1) x3))]) (st' := [.int (u1_X9_bestFrom2 x1 x2 x3 l4 l5 l6 I1)]) (M' := (81, ex, (m_X9_bestFrom1 (m_X9_passTurn I1 x1 x2 l6) x1 (x2 + 1) x3), J, Pw w)) (fun hj => ?_) ?_
      · skip
        refine g_ifz 109 d_X9_bestFrom_96 (by decide) (fun h2 => ?_) (fun h2 => ?_)
        · skip
          refine g_iload (i := 5) rfl d_X9_bestFrom_109 ?_
          refine g_iload (i := 7) rfl d_X9_bestFrom_111 ?_
          refine g_mmin lm_X9_123 d_X9_bestFrom_113 (Nat.le_of_ble_eq_true rfl) ⟨Nat.le_of_ble_eq_true rfl, Nat.le_of_ble_eq_true rfl⟩ ⟨Nat.zero_le _, Nat.zero_le _⟩ ?_
          (try simp only [if_neg (nb h2), opv_eq, if_true, if_false, Bool.false_eq_true, reduceCtorEq, b2i_t, b2i_f, u1_X9_bestFrom2] at hj); exact hj
        · skip
          refine g_iload (i := 5) rfl d_X9_bestFrom_99 ?_
          refine g_iload (i := 7) rfl d_X9_bestFrom_101 ?_
          refine g_mmax lm_X9_118 d_X9_bestFrom_103 (Nat.le_of_ble_eq_true rfl) ⟨Nat.le_of_ble_eq_true rfl, Nat.le_of_ble_eq_true rfl⟩ ⟨Nat.zero_le _, Nat.zero_le _⟩ ?_
          refine g_goto 116 d_X9_bestFrom_106 (by decide) ?_
          (try simp only [if_pos h2, opv_eq, if_true, if_false, Bool.false_eq_true, reduceCtorEq, b2i_t, b2i_f, u1_X9_bestFrom2] at hj); exact hj
      · skip
        refine g_is5 rfl d_X9_bestFrom_116 ?_
        refine g_ic6 (l6 + 1) rfl rfl d_X9_bestFrom_118 ?_
        refine g_goto 63 d_X9_bestFrom_121 (by decide) ?_
        refine G.weak (wks (wks (wks (wks (wks (wks (wks (wkn wk0)))))))) ?_; exact ih (u1_X9_bestFrom2 x1 x2 x3 l4 l5 l6 I1) (l6 + 1) (m_X9_bestFrom1 (m_X9_passTurn I1 x1 x2 l6) x1 (x2 + 1) x3) (by (try simp only [if_neg h1, opv_eq, if_true, if_false, Bool.false_eq_true, reduceCtorEq, b2i_t, b2i_f] at hok); exact hok) (by (try simp only [lp_X9_bestFrom2_63, if_neg h1, opv_eq, if_true, if_false, Bool.false_eq_true, reduceCtorEq, b2i_t, b2i_f] at hj); exact hj)
noncomputable def f_X9_bestFrom2 (I : Nat → Nat → Int32) (x1 : Nat) (x2 : Int32) (x3 : Int32) : Int32 := opv (if x3 ≤ x2 then I (rt 52 (if (f_X10_within I x2 0 4) = true then x2 else 0).toNatClampNeg) 0 else (if x2 < 4 then (lp_X9_bestFrom2_63 x1 x2 x3 (if (x2 - x2 / 2 * 2) = 0 then true else false) (opq 10) (u0_X9_bestFrom2 x2) 0 I).1 else I (rt 52 (if (f_X10_within I x2 0 4) = true then x2 else 0).toNatClampNeg) 0))
noncomputable def m_X9_bestFrom2 (I : Nat → Nat → Int32) (x1 : Nat) (x2 : Int32) (x3 : Int32) : Nat → Nat → Int32 := opv (if x3 ≤ x2 then I else (if x2 < 4 then (lp_X9_bestFrom2_63 x1 x2 x3 (if (x2 - x2 / 2 * 2) = 0 then true else false) (opq 10) (u0_X9_bestFrom2 x2) 0 I).2.2 else I))
noncomputable def ok_X9_bestFrom2 (I : Nat → Nat → Int32) (x1 : Nat) (x2 : Int32) (x3 : Int32) : Prop := opv (if x3 ≤ x2 then vp_in (if (f_X10_within I x2 0 4) = true then x2 else 0) (sz 52) else (if x2 < 4 then oklp_X9_bestFrom2_63 x1 x2 x3 (if (x2 - x2 / 2 * 2) = 0 then true else false) (opq 10) (u0_X9_bestFrom2 x2) 0 I else vp_in (if (f_X10_within I x2 0 4) = true then x2 else 0) (sz 52)))
set_option maxHeartbeats 800000 in
set_option maxRecDepth 4000 in
theorem c_X9_bestFrom2 {k : KT} {ex : Bool} {J : Nat → Nat → Int64} {w : Bool} (I : Nat → Nat → Int32) (x1 : Nat) (hx1 : kd x1 = 7) (x2 : Int32) (x3 : Int32)  (hok : ok_X9_bestFrom2 I x1 x2 x3) : Cx k mX9_bestFrom 8 [.ref (ka k 49), .ref (ka k x1), .int x2, .int x3] (81, ex, I, J, Pw w) (some (.int (f_X9_bestFrom2 I x1 x2 x3))) (81, ex, m_X9_bestFrom2 I x1 x2 x3, J, Pw w) := by
  refine Ct.of rfl [some (.ref (ka k 49)), some (.ref (ka k x1)), some (.int x2), some (.int x3), none, none, none, none] rfl rfl (Nat.le_of_ble_eq_true rfl) ?_
  rw [ok_X9_bestFrom2, opv_eq] at hok
  refine g_iload_n2 rfl d_X9_bestFrom_0 ?_
  refine g_iload_n3 rfl d_X9_bestFrom_1 ?_
  refine g_icmp_ge 10 d_X9_bestFrom_2 (by decide) (fun h3 => ?_) (fun h3 => ?_)
  · skip
    rw [if_pos h3] at hok
    refine g_aload_n0 rfl d_X9_bestFrom_10 ?_
    refine g_getP (b := 52) f_X9_22 d_X9_bestFrom_11 rfl (Nat.le_of_ble_eq_true rfl) rfl rfl ?_
    refine g_iload_n2 rfl d_X9_bestFrom_14 ?_
    refine g_iconst 0 d_X9_bestFrom_15 (by decide) ?_
    refine g_iconst 4 d_X9_bestFrom_16 (by decide) ?_
    refine g_callN1 (c_X10_within I x2 0 4) w_X10_within nest9 d_X9_bestFrom_17 rfl rfl (Nat.le_of_ble_eq_true rfl) ⟨Nat.le_of_ble_eq_true rfl, Nat.le_of_ble_eq_true rfl⟩ ⟨Nat.zero_le _, Nat.zero_le _⟩ ⟨rfl, rfl⟩ ?_
    refine g_cut (pc' := 28) (vs' := [some (.ref (ka k 49)), some (.ref (ka k x1)), some (.int x2), some (.int x3), none, none, none, none]) (st' := [.int (if (f_X10_within I x2 0 4) = true then x2 else 0), .ref (ka k 52)]) (M' := (81, ex, I, J, Pw w)) (fun hj => ?_) ?_
    · skip
      refine g_ifz 27 d_X9_bestFrom_20 (by decide) (fun h4 => ?_) (fun h4 => ?_)
      · skip
        refine g_iconst 0 d_X9_bestFrom_27 (by decide) ?_
        (try simp only [if_neg (nb h4), opv_eq, if_true, if_false, Bool.false_eq_true, reduceCtorEq, b2i_t, b2i_f] at hj); exact hj
      · skip
        refine g_iload_n2 rfl d_X9_bestFrom_23 ?_
        refine g_goto 28 d_X9_bestFrom_24 (by decide) ?_
        (try simp only [if_pos h4, opv_eq, if_true, if_false, Bool.false_eq_true, reduceCtorEq, b2i_t, b2i_f] at hj); exact hj
    · skip
      have ho1 := hok
      refine g_aald (b := rt 52 (if (f_X10_within I x2 0 4) = true then x2 else 0).toNatClampNeg) d_X9_bestFrom_28 rfl (Nat.le_of_ble_eq_true rfl) ho1 (pw_rt rfl (by decide) (by decide)) ?_
      refine g_getI f_X9_115 d_X9_bestFrom_29 (kt14 rfl ho1) (kd_sg (kt14 rfl ho1) (by decide)) rfl ?_
      exact g_iret rfl d_X9_bestFrom_32 ⟨by simp only [f_X9_bestFrom2, m_X9_bestFrom2, if_pos h3, opv_eq, if_true, if_false, Bool.false_eq_true, reduceCtorEq, b2i_t, b2i_f], by simp only [f_X9_bestFrom2, m_X9_bestFrom2, if_pos h3, opv_eq, if_true, if_false, Bool.false_eq_true, reduceCtorEq, b2i_t, b2i_f]⟩ (Nat.le_refl _) (Nat.le_refl _)
  · skip
    rw [if_neg h3] at hok
    refine g_iload_n2 rfl d_X9_bestFrom_5 ?_
    refine g_iconst 4 d_X9_bestFrom_6 (by decide) ?_
    refine g_icmp_lt 33 d_X9_bestFrom_7 (by decide) (fun h5 => ?_) (fun h5 => ?_)
    · skip
      rw [if_pos h5] at hok
      refine g_iload_n2 rfl d_X9_bestFrom_33 ?_
      refine g_iconst 2 d_X9_bestFrom_34 (by decide) ?_
      refine g_irem (by decide) d_X9_bestFrom_35 ?_
      refine g_cut (pc' := 44) (vs' := [some (.ref (ka k 49)), some (.ref (ka k x1)), some (.int x2), some (.int x3), none, none, none, none]) (st' := [.int (b2i (if (x2 - x2 / 2 * 2) = 0 then true else false))]) (M' := (81, ex, I, J, Pw w)) (fun hj => ?_) ?_
      · skip
        refine g_if_ne 43 d_X9_bestFrom_36 (by decide) (fun h6 => ?_) (fun h6 => ?_)
        · skip
          refine g_iconst 0 d_X9_bestFrom_43 (by decide) ?_
          (try simp only [if_neg h6, opv_eq, if_true, if_false, Bool.false_eq_true, reduceCtorEq, b2i_t, b2i_f] at hj); exact hj
        · skip
          refine g_iconst 1 d_X9_bestFrom_39 (by decide) ?_
          refine g_goto 44 d_X9_bestFrom_40 (by decide) ?_
          (try simp only [if_pos h6, opv_eq, if_true, if_false, Bool.false_eq_true, reduceCtorEq, b2i_t, b2i_f] at hj); exact hj
      · skip
        refine g_is4 rfl d_X9_bestFrom_44 ?_
        refine g_iload (i := 4) rfl d_X9_bestFrom_46 ?_
        refine g_cut (pc' := 58) (vs' := [some (.ref (ka k 49)), some (.ref (ka k x1)), some (.int x2), some (.int x3), some (.int (b2i (if (x2 - x2 / 2 * 2) = 0 then true else false))), none, none, none]) (st' := [.int (u0_X9_bestFrom2 x2)]) (M' := (81, ex, I, J, Pw w)) (fun hj => ?_) ?_
        · skip
          refine g_ifz 56 d_X9_bestFrom_48 (by decide) (fun h7 => ?_) (fun h7 => ?_)
          · skip
            refine g_bipush 9 d_X9_bestFrom_56 (by decide) ?_
            (try simp only [if_neg (nb h7), opv_eq, if_true, if_false, Bool.false_eq_true, reduceCtorEq, b2i_t, b2i_f, u0_X9_bestFrom2] at hj); exact hj
          · skip
            refine g_bipush (-9) d_X9_bestFrom_51 (by decide) ?_
            refine g_goto 58 d_X9_bestFrom_53 (by decide) ?_
            (try simp only [if_pos h7, opv_eq, if_true, if_false, Bool.false_eq_true, reduceCtorEq, b2i_t, b2i_f, u0_X9_bestFrom2] at hj); exact hj
        · skip
          refine g_is5 rfl d_X9_bestFrom_58 ?_
          refine g_iconst 0 d_X9_bestFrom_60 (by decide) ?_
          refine g_is6 rfl d_X9_bestFrom_61 ?_
          refine k_lp_X9_bestFrom2_63 x1 hx1 x2 x3 (if (x2 - x2 / 2 * 2) = 0 then true else false) _ (u0_X9_bestFrom2 x2) 0 I hok ?_
          refine g_iload (i := 5) rfl d_X9_bestFrom_124 ?_
          exact g_iret rfl d_X9_bestFrom_126 ⟨by simp only [f_X9_bestFrom2, m_X9_bestFrom2, if_neg h3, if_pos h5, opv_eq, if_true, if_false, Bool.false_eq_true, reduceCtorEq, b2i_t, b2i_f], by simp only [f_X9_bestFrom2, m_X9_bestFrom2, if_neg h3, if_pos h5, opv_eq, if_true, if_false, Bool.false_eq_true, reduceCtorEq, b2i_t, b2i_f]⟩ (Nat.le_refl _) (Nat.le_refl _)
    · skip
      rw [if_neg h5] at hok
      refine g_aload_n0 rfl d_X9_bestFrom_10 ?_
      refine g_getP (b := 52) f_X9_22 d_X9_bestFrom_11 rfl (Nat.le_of_ble_eq_true rfl) rfl rfl ?_
      refine g_iload_n2 rfl d_X9_bestFrom_14 ?_
      refine g_iconst 0 d_X9_bestFrom_15 (by decide) ?_
      refine g_iconst 4 d_X9_bestFrom_16 (by decide) ?_
      refine g_callN1 (c_X10_within I x2 0 4) w_X10_within nest9 d_X9_bestFrom_17 rfl rfl (Nat.le_of_ble_eq_true rfl) ⟨Nat.le_of_ble_eq_true rfl, Nat.le_of_ble_eq_true rfl⟩ ⟨Nat.zero_le _, Nat.zero_le _⟩ ⟨rfl, rfl⟩ ?_
      refine g_cut (pc' := 28) (vs' := [some (.ref (ka k 49)), some (.ref (ka k x1)), some (.int x2), some (.int x3), none, none, none, none]) (st' := [.int (if (f_X10_within I x2 0 4) = true then x2 else 0), .ref (ka k 52)]) (M' := (81, ex, I, J, Pw w)) (fun hj => ?_) ?_
      · skip
        refine g_ifz 27 d_X9_bestFrom_20 (by decide) (fun h8 => ?_) (fun h8 => ?_)
        · skip
          refine g_iconst 0 d_X9_bestFrom_27 (by decide) ?_
          (try simp only [if_neg (nb h8), opv_eq, if_true, if_false, Bool.false_eq_true, reduceCtorEq, b2i_t, b2i_f] at hj); exact hj
        · skip
          refine g_iload_n2 rfl d_X9_bestFrom_23 ?_
          refine g_goto 28 d_X9_bestFrom_24 (by decide) ?_
          (try simp only [if_pos h8, opv_eq, if_true, if_false, Bool.false_eq_true, reduceCtorEq, b2i_t, b2i_f] at hj); exact hj
      · skip
        have ho4 := hok
        refine g_aald (b := rt 52 (if (f_X10_within I x2 0 4) = true then x2 else 0).toNatClampNeg) d_X9_bestFrom_28 rfl (Nat.le_of_ble_eq_true rfl) ho4 (pw_rt rfl (by decide) (by decide)) ?_
        refine g_getI f_X9_115 d_X9_bestFrom_29 (kt14 rfl ho4) (kd_sg (kt14 rfl ho4) (by decide)) rfl ?_
        exact g_iret rfl d_X9_bestFrom_32 ⟨by simp only [f_X9_bestFrom2, m_X9_bestFrom2, if_neg h3, if_neg h5, opv_eq, if_true, if_false, Bool.false_eq_true, reduceCtorEq, b2i_t, b2i_f], by simp only [f_X9_bestFrom2, m_X9_bestFrom2, if_neg h3, if_neg h5, opv_eq, if_true, if_false, Bool.false_eq_true, reduceCtorEq, b2i_t, b2i_f]⟩ (Nat.le_refl _) (Nat.le_refl _)
noncomputable def u0_X9_bestFrom3 (x2 : Int32) : Int32 := opv (if (if (x2 - x2 / 2 * 2) = 0 then true else false) = true then (-9) else 9)
noncomputable def u1_X9_bestFrom3 (x1 : Nat) (x2 : Int32) (x3 : Int32) (l4 : Bool) (l5 : Int32) (l6 : Int32) (I1 : Nat → Nat → Int32) : Int32 := opv (if l4 = true then imax l5 (f_X9_bestFrom2 (m_X9_passTurn I1 x1 x2 l6) x1 (x2 + 1) x3) else imin l5 (f_X9_bestFrom2 (m_X9_passTurn I1 x1 x2 l6) x1 (x2 + 1) x3))
noncomputable def lp_X9_bestFrom3_63 (x1 : Nat) (x2 : Int32) (x3 : Int32) (l4 : Bool) : Nat → Int32 → Int32 → (Nat → Nat → Int32) → Int32 × Int32 × (Nat → Nat → Int32)
  | 0, l5, l6, I1 => (l5, l6, I1)
  | n + 1, l5, l6, I1 => (if (I1 (rt x1 7) 3) < l6 then (l5, l6, I1) else (lp_X9_bestFrom3_63 x1 x2 x3 l4 n (u1_X9_bestFrom3 x1 x2 x3 l4 l5 l6 I1) (l6 + 1) (m_X9_bestFrom2 (m_X9_passTurn I1 x1 x2 l6) x1 (x2 + 1) x3)))
def oklp_X9_bestFrom3_63 (x1 : Nat) (x2 : Int32) (x3 : Int32) (l4 : Bool) : Nat → Int32 → Int32 → (Nat → Nat → Int32) → Prop
  | 0, l5, l6, I1 => False
  | n + 1, l5, l6, I1 => (if (I1 (rt x1 7) 3) < l6 then True else (ok_X9_passTurn I1 x1 x2 l6 ∧ (ok_X9_bestFrom2 (m_X9_passTurn I1 x1 x2 l6) x1 (x2 + 1) x3 ∧ oklp_X9_bestFrom3_63 x1 x2 x3 l4 n (u1_X9_bestFrom3 x1 x2 x3 l4 l5 l6 I1) (l6 + 1) (m_X9_bestFrom2 (m_X9_passTurn I1 x1 x2 l6) x1 (x2 + 1) x3))))
set_option maxHeartbeats 800000 in
set_option maxRecDepth 4000 in
theorem k_lp_X9_bestFrom3_63 {k : KT} {ex : Bool} {J : Nat → Nat → Int64} {w : Bool} (x1 : Nat) (hx1 : kd x1 = 7) (x2 : Int32) (x3 : Int32) (l4 : Bool) {F : FinT} : ∀ (n : Nat) (l5 : Int32) (l6 : Int32) (I1 : (Nat → Nat → Int32)), oklp_X9_bestFrom3_63 x1 x2 x3 l4 n l5 l6 I1 → G k mX9_bestFrom (roomOf 9 0 0) F 0 0 124 [some (.ref (ka k 49)), some (.ref (ka k x1)), some (.int x2), some (.int x3), some (.int (b2i l4)), some (.int ((lp_X9_bestFrom3_63 x1 x2 x3 l4 n l5 l6 I1).1)), some (.int ((lp_X9_bestFrom3_63 x1 x2 x3 l4 n l5 l6 I1).2.1)), none] [] (81, ex, (lp_X9_bestFrom3_63 x1 x2 x3 l4 n l5 l6 I1).2.2, J, Pw w) → G k mX9_bestFrom (roomOf 9 0 0) F 0 0 63 [some (.ref (ka k 49)), some (.ref (ka k x1)), some (.int x2), some (.int x3), some (.int (b2i l4)), some (.int l5), some (.int l6), none] [] (81, ex, I1, J, Pw w) := by
  intro n
  induction n with
  | zero => intro l5 l6 I1 hok hj; exact absurd hok (by rw [oklp_X9_bestFrom3_63]; exact id)
  | succ n ih =>
    intro l5 l6 I1 hok hj
    rw [oklp_X9_bestFrom3_63] at hok
    refine g_iload (i := 6) rfl d_X9_bestFrom_63 ?_
    refine g_aload_n1 rfl d_X9_bestFrom_65 ?_
    refine g_getP (b := rt x1 7) f_X9_53 d_X9_bestFrom_66 hx1 (kd_sg hx1 (by decide)) rfl (pw_rt hx1 (by decide) (by decide)) ?_
    refine g_getI f_X9_59 d_X9_bestFrom_69 (kt7 hx1).1 (kd_sg ((kt7 hx1).1) (by decide)) rfl ?_
    refine g_icmp_gt 124 d_X9_bestFrom_72 (by decide) (fun h1 => ?_) (fun h1 => ?_)
    · skip
      (try simp only [lp_X9_bestFrom3_63, if_pos h1, opv_eq, if_true, if_false, Bool.false_eq_true, reduceCtorEq, b2i_t, b2i_f] at hj); exact hj
    · skip
      rw [if_neg h1] at hok
      refine g_aload_n0 rfl d_X9_bestFrom_75 ?_
      refine g_aload_n1 rfl d_X9_bestFrom_76 ?_
      refine g_iload_n2 rfl d_X9_bestFrom_77 ?_
      refine g_iload (i := 6) rfl d_X9_bestFrom_78 ?_
      obtain ⟨ho2, hok⟩ := hok
      refine g_callV0 (c_X9_passTurn I1 x1 hx1 x2 l6 ho2) w_X9_passTurn l_X9_78 d_X9_bestFrom_80 rfl (Nat.le_of_ble_eq_true rfl) rfl rfl (Nat.le_of_ble_eq_true rfl) ⟨Nat.le_of_ble_eq_true rfl, Nat.le_of_ble_eq_true rfl⟩ ⟨Nat.zero_le _, Nat.zero_le _⟩ ⟨rfl, rfl⟩ ?_
      refine g_aload_n0 rfl d_X9_bestFrom_83 ?_
      refine g_aload_n1 rfl d_X9_bestFrom_84 ?_
      refine g_iload_n2 rfl d_X9_bestFrom_85 ?_
      refine g_iconst 1 d_X9_bestFrom_86 (by decide) ?_
      refine g_iadd d_X9_bestFrom_87 ?_
      refine g_iload_n3 rfl d_X9_bestFrom_88 ?_
      obtain ⟨ho3, hok⟩ := hok
      refine g_callS1 (c_X9_bestFrom2 (m_X9_passTurn I1 x1 x2 l6) x1 hx1 (x2 + 1) x3 ho3) w_X9_bestFrom l_X9_111 d_X9_bestFrom_89 rfl rfl (Nat.le_of_ble_eq_true rfl) ⟨Nat.le_of_ble_eq_true rfl, Nat.le_of_ble_eq_true rfl⟩ ⟨Nat.zero_le _, Nat.zero_le _⟩ ⟨rfl, rfl⟩ ?_
      refine g_is7 rfl d_X9_bestFrom_92 ?_
      refine g_iload (i := 4) rfl d_X9_bestFrom_94 ?_
      refine g_cut (pc' := 116) (vs' := [some (.ref (ka k 49)), some (.ref (ka k x1)), some (.int x2), some (.int x3), some (.int (b2i l4)), some (.int l5), some (.int l6), some (.int (f_X9_bestFrom2 (m_X9_passTurn I1 x1 x2 l6) x1 (x2 + 1) x3))]) (st' := [.int (u1_X9_bestFrom3 x1 x2 x3 l4 l5 l6 I1)]) (M' := (81, ex, (m_X9_bestFrom2 (m_X9_passTurn I1 x1 x2 l6) x1 (x2 + 1) x3), J, Pw w)) (fun hj => ?_) ?_
      · skip
        refine g_ifz 109 d_X9_bestFrom_96 (by decide) (fun h2 => ?_) (fun h2 => ?_)
        · skip
          refine g_iload (i := 5) rfl d_X9_bestFrom_109 ?_
          refine g_iload (i := 7) rfl d_X9_bestFrom_111 ?_
          refine g_mmin lm_X9_123 d_X9_bestFrom_113 (Nat.le_of_ble_eq_true rfl) ⟨Nat.le_of_ble_eq_true rfl, Nat.le_of_ble_eq_true rfl⟩ ⟨Nat.zero_le _, Nat.zero_le _⟩ ?_
          (try simp only [if_neg (nb h2), opv_eq, if_true, if_false, Bool.false_eq_true, reduceCtorEq, b2i_t, b2i_f, u1_X9_bestFrom3] at hj); exact hj
        · skip
          refine g_iload (i := 5) rfl d_X9_bestFrom_99 ?_
          refine g_iload (i := 7) rfl d_X9_bestFrom_101 ?_
          refine g_mmax lm_X9_118 d_X9_bestFrom_103 (Nat.le_of_ble_eq_true rfl) ⟨Nat.le_of_ble_eq_true rfl, Nat.le_of_ble_eq_true rfl⟩ ⟨Nat.zero_le _, Nat.zero_le _⟩ ?_
          refine g_goto 116 d_X9_bestFrom_106 (by decide) ?_
          (try simp only [if_pos h2, opv_eq, if_true, if_false, Bool.false_eq_true, reduceCtorEq, b2i_t, b2i_f, u1_X9_bestFrom3] at hj); exact hj
      · skip
        refine g_is5 rfl d_X9_bestFrom_116 ?_
        refine g_ic6 (l6 + 1) rfl rfl d_X9_bestFrom_118 ?_
        refine g_goto 63 d_X9_bestFrom_121 (by decide) ?_
        refine G.weak (wks (wks (wks (wks (wks (wks (wks (wkn wk0)))))))) ?_; exact ih (u1_X9_bestFrom3 x1 x2 x3 l4 l5 l6 I1) (l6 + 1) (m_X9_bestFrom2 (m_X9_passTurn I1 x1 x2 l6) x1 (x2 + 1) x3) (by (try simp only [if_neg h1, opv_eq, if_true, if_false, Bool.false_eq_true, reduceCtorEq, b2i_t, b2i_f] at hok); exact hok) (by (try simp only [lp_X9_bestFrom3_63, if_neg h1, opv_eq, if_true, if_false, Bool.false_eq_true, reduceCtorEq, b2i_t, b2i_f] at hj); exact hj)
noncomputable def f_X9_bestFrom3 (I : Nat → Nat → Int32) (x1 : Nat) (x2 : Int32) (x3 : Int32) : Int32 := opv (if x3 ≤ x2 then I (rt 52 (if (f_X10_within I x2 0 4) = true then x2 else 0).toNatClampNeg) 0 else (if x2 < 4 then (lp_X9_bestFrom3_63 x1 x2 x3 (if (x2 - x2 / 2 * 2) = 0 then true else false) (opq 10) (u0_X9_bestFrom3 x2) 0 I).1 else I (rt 52 (if (f_X10_within I x2 0 4) = true then x2 else 0).toNatClampNeg) 0))
noncomputable def m_X9_bestFrom3 (I : Nat → Nat → Int32) (x1 : Nat) (x2 : Int32) (x3 : Int32) : Nat → Nat → Int32 := opv (if x3 ≤ x2 then I else (if x2 < 4 then (lp_X9_bestFrom3_63 x1 x2 x3 (if (x2 - x2 / 2 * 2) = 0 then true else false) (opq 10) (u0_X9_bestFrom3 x2) 0 I).2.2 else I))
noncomputable def ok_X9_bestFrom3 (I : Nat → Nat → Int32) (x1 : Nat) (x2 : Int32) (x3 : Int32) : Prop := opv (if x3 ≤ x2 then vp_in (if (f_X10_within I x2 0 4) = true then x2 else 0) (sz 52) else (if x2 < 4 then oklp_X9_bestFrom3_63 x1 x2 x3 (if (x2 - x2 / 2 * 2) = 0 then true else false) (opq 10) (u0_X9_bestFrom3 x2) 0 I else vp_in (if (f_X10_within I x2 0 4) = true then x2 else 0) (sz 52)))
set_option maxHeartbeats 800000 in
set_option maxRecDepth 4000 in
theorem c_X9_bestFrom3 {k : KT} {ex : Bool} {J : Nat → Nat → Int64} {w : Bool} (I : Nat → Nat → Int32) (x1 : Nat) (hx1 : kd x1 = 7) (x2 : Int32) (x3 : Int32)  (hok : ok_X9_bestFrom3 I x1 x2 x3) : Cx k mX9_bestFrom 9 [.ref (ka k 49), .ref (ka k x1), .int x2, .int x3] (81, ex, I, J, Pw w) (some (.int (f_X9_bestFrom3 I x1 x2 x3))) (81, ex, m_X9_bestFrom3 I x1 x2 x3, J, Pw w) := by
  refine Ct.of rfl [some (.ref (ka k 49)), some (.ref (ka k x1)), some (.int x2), some (.int x3), none, none, none, none] rfl rfl (Nat.le_of_ble_eq_true rfl) ?_
  rw [ok_X9_bestFrom3, opv_eq] at hok
  refine g_iload_n2 rfl d_X9_bestFrom_0 ?_
  refine g_iload_n3 rfl d_X9_bestFrom_1 ?_
  refine g_icmp_ge 10 d_X9_bestFrom_2 (by decide) (fun h3 => ?_) (fun h3 => ?_)
  · skip
    rw [if_pos h3] at hok
    refine g_aload_n0 rfl d_X9_bestFrom_10 ?_
    refine g_getP (b := 52) f_X9_22 d_X9_bestFrom_11 rfl (Nat.le_of_ble_eq_true rfl) rfl rfl ?_
    refine g_iload_n2 rfl d_X9_bestFrom_14 ?_
    refine g_iconst 0 d_X9_bestFrom_15 (by decide) ?_
    refine g_iconst 4 d_X9_bestFrom_16 (by decide) ?_
    refine g_callN1 (c_X10_within I x2 0 4) w_X10_within nest9 d_X9_bestFrom_17 rfl rfl (Nat.le_of_ble_eq_true rfl) ⟨Nat.le_of_ble_eq_true rfl, Nat.le_of_ble_eq_true rfl⟩ ⟨Nat.zero_le _, Nat.zero_le _⟩ ⟨rfl, rfl⟩ ?_
    refine g_cut (pc' := 28) (vs' := [some (.ref (ka k 49)), some (.ref (ka k x1)), some (.int x2), some (.int x3), none, none, none, none]) (st' := [.int (if (f_X10_within I x2 0 4) = true then x2 else 0), .ref (ka k 52)]) (M' := (81, ex, I, J, Pw w)) (fun hj => ?_) ?_
    · skip
      refine g_ifz 27 d_X9_bestFrom_20 (by decide) (fun h4 => ?_) (fun h4 => ?_)
      · skip
        refine g_iconst 0 d_X9_bestFrom_27 (by decide) ?_
        (try simp only [if_neg (nb h4), opv_eq, if_true, if_false, Bool.false_eq_true, reduceCtorEq, b2i_t, b2i_f] at hj); exact hj
      · skip
        refine g_iload_n2 rfl d_X9_bestFrom_23 ?_
        refine g_goto 28 d_X9_bestFrom_24 (by decide) ?_
        (try simp only [if_pos h4, opv_eq, if_true, if_false, Bool.false_eq_true, reduceCtorEq, b2i_t, b2i_f] at hj); exact hj
    · skip
      have ho1 := hok
      refine g_aald (b := rt 52 (if (f_X10_within I x2 0 4) = true then x2 else 0).toNatClampNeg) d_X9_bestFrom_28 rfl (Nat.le_of_ble_eq_true rfl) ho1 (pw_rt rfl (by decide) (by decide)) ?_
      refine g_getI f_X9_115 d_X9_bestFrom_29 (kt14 rfl ho1) (kd_sg (kt14 rfl ho1) (by decide)) rfl ?_
      exact g_iret rfl d_X9_bestFrom_32 ⟨by simp only [f_X9_bestFrom3, m_X9_bestFrom3, if_pos h3, opv_eq, if_true, if_false, Bool.false_eq_true, reduceCtorEq, b2i_t, b2i_f], by simp only [f_X9_bestFrom3, m_X9_bestFrom3, if_pos h3, opv_eq, if_true, if_false, Bool.false_eq_true, reduceCtorEq, b2i_t, b2i_f]⟩ (Nat.le_refl _) (Nat.le_refl _)
  · skip
    rw [if_neg h3] at hok
    refine g_iload_n2 rfl d_X9_bestFrom_5 ?_
    refine g_iconst 4 d_X9_bestFrom_6 (by decide) ?_
    refine g_icmp_lt 33 d_X9_bestFrom_7 (by decide) (fun h5 => ?_) (fun h5 => ?_)
    · skip
      rw [if_pos h5] at hok
      refine g_iload_n2 rfl d_X9_bestFrom_33 ?_
      refine g_iconst 2 d_X9_bestFrom_34 (by decide) ?_
      refine g_irem (by decide) d_X9_bestFrom_35 ?_
      refine g_cut (pc' := 44) (vs' := [some (.ref (ka k 49)), some (.ref (ka k x1)), some (.int x2), some (.int x3), none, none, none, none]) (st' := [.int (b2i (if (x2 - x2 / 2 * 2) = 0 then true else false))]) (M' := (81, ex, I, J, Pw w)) (fun hj => ?_) ?_
      · skip
        refine g_if_ne 43 d_X9_bestFrom_36 (by decide) (fun h6 => ?_) (fun h6 => ?_)
        · skip
          refine g_iconst 0 d_X9_bestFrom_43 (by decide) ?_
          (try simp only [if_neg h6, opv_eq, if_true, if_false, Bool.false_eq_true, reduceCtorEq, b2i_t, b2i_f] at hj); exact hj
        · skip
          refine g_iconst 1 d_X9_bestFrom_39 (by decide) ?_
          refine g_goto 44 d_X9_bestFrom_40 (by decide) ?_
          (try simp only [if_pos h6, opv_eq, if_true, if_false, Bool.false_eq_true, reduceCtorEq, b2i_t, b2i_f] at hj); exact hj
      · skip
        refine g_is4 rfl d_X9_bestFrom_44 ?_
        refine g_iload (i := 4) rfl d_X9_bestFrom_46 ?_
        refine g_cut (pc' := 58) (vs' := [some (.ref (ka k 49)), some (.ref (ka k x1)), some (.int x2), some (.int x3), some (.int (b2i (if (x2 - x2 / 2 * 2) = 0 then true else false))), none, none, none]) (st' := [.int (u0_X9_bestFrom3 x2)]) (M' := (81, ex, I, J, Pw w)) (fun hj => ?_) ?_
        · skip
          refine g_ifz 56 d_X9_bestFrom_48 (by decide) (fun h7 => ?_) (fun h7 => ?_)
          · skip
            refine g_bipush 9 d_X9_bestFrom_56 (by decide) ?_
            (try simp only [if_neg (nb h7), opv_eq, if_true, if_false, Bool.false_eq_true, reduceCtorEq, b2i_t, b2i_f, u0_X9_bestFrom3] at hj); exact hj
          · skip
            refine g_bipush (-9) d_X9_bestFrom_51 (by decide) ?_
            refine g_goto 58 d_X9_bestFrom_53 (by decide) ?_
            (try simp only [if_pos h7, opv_eq, if_true, if_false, Bool.false_eq_true, reduceCtorEq, b2i_t, b2i_f, u0_X9_bestFrom3] at hj); exact hj
        · skip
          refine g_is5 rfl d_X9_bestFrom_58 ?_
          refine g_iconst 0 d_X9_bestFrom_60 (by decide) ?_
          refine g_is6 rfl d_X9_bestFrom_61 ?_
          refine k_lp_X9_bestFrom3_63 x1 hx1 x2 x3 (if (x2 - x2 / 2 * 2) = 0 then true else false) _ (u0_X9_bestFrom3 x2) 0 I hok ?_
          refine g_iload (i := 5) rfl d_X9_bestFrom_124 ?_
          exact g_iret rfl d_X9_bestFrom_126 ⟨by simp only [f_X9_bestFrom3, m_X9_bestFrom3, if_neg h3, if_pos h5, opv_eq, if_true, if_false, Bool.false_eq_true, reduceCtorEq, b2i_t, b2i_f], by simp only [f_X9_bestFrom3, m_X9_bestFrom3, if_neg h3, if_pos h5, opv_eq, if_true, if_false, Bool.false_eq_true, reduceCtorEq, b2i_t, b2i_f]⟩ (Nat.le_refl _) (Nat.le_refl _)
    · skip
      rw [if_neg h5] at hok
      refine g_aload_n0 rfl d_X9_bestFrom_10 ?_
      refine g_getP (b := 52) f_X9_22 d_X9_bestFrom_11 rfl (Nat.le_of_ble_eq_true rfl) rfl rfl ?_
      refine g_iload_n2 rfl d_X9_bestFrom_14 ?_
      refine g_iconst 0 d_X9_bestFrom_15 (by decide) ?_
      refine g_iconst 4 d_X9_bestFrom_16 (by decide) ?_
      refine g_callN1 (c_X10_within I x2 0 4) w_X10_within nest9 d_X9_bestFrom_17 rfl rfl (Nat.le_of_ble_eq_true rfl) ⟨Nat.le_of_ble_eq_true rfl, Nat.le_of_ble_eq_true rfl⟩ ⟨Nat.zero_le _, Nat.zero_le _⟩ ⟨rfl, rfl⟩ ?_
      refine g_cut (pc' := 28) (vs' := [some (.ref (ka k 49)), some (.ref (ka k x1)), some (.int x2), some (.int x3), none, none, none, none]) (st' := [.int (if (f_X10_within I x2 0 4) = true then x2 else 0), .ref (ka k 52)]) (M' := (81, ex, I, J, Pw w)) (fun hj => ?_) ?_
      · skip
        refine g_ifz 27 d_X9_bestFrom_20 (by decide) (fun h8 => ?_) (fun h8 => ?_)
        · skip
          refine g_iconst 0 d_X9_bestFrom_27 (by decide) ?_
          (try simp only [if_neg (nb h8), opv_eq, if_true, if_false, Bool.false_eq_true, reduceCtorEq, b2i_t, b2i_f] at hj); exact hj
        · skip
          refine g_iload_n2 rfl d_X9_bestFrom_23 ?_
          refine g_goto 28 d_X9_bestFrom_24 (by decide) ?_
          (try simp only [if_pos h8, opv_eq, if_true, if_false, Bool.false_eq_true, reduceCtorEq, b2i_t, b2i_f] at hj); exact hj
      · skip
        have ho4 := hok
        refine g_aald (b := rt 52 (if (f_X10_within I x2 0 4) = true then x2 else 0).toNatClampNeg) d_X9_bestFrom_28 rfl (Nat.le_of_ble_eq_true rfl) ho4 (pw_rt rfl (by decide) (by decide)) ?_
        refine g_getI f_X9_115 d_X9_bestFrom_29 (kt14 rfl ho4) (kd_sg (kt14 rfl ho4) (by decide)) rfl ?_
        exact g_iret rfl d_X9_bestFrom_32 ⟨by simp only [f_X9_bestFrom3, m_X9_bestFrom3, if_neg h3, if_neg h5, opv_eq, if_true, if_false, Bool.false_eq_true, reduceCtorEq, b2i_t, b2i_f], by simp only [f_X9_bestFrom3, m_X9_bestFrom3, if_neg h3, if_neg h5, opv_eq, if_true, if_false, Bool.false_eq_true, reduceCtorEq, b2i_t, b2i_f]⟩ (Nat.le_refl _) (Nat.le_refl _)
noncomputable def u0_X9_bestFrom4 (x2 : Int32) : Int32 := opv (if (if (x2 - x2 / 2 * 2) = 0 then true else false) = true then (-9) else 9)
noncomputable def u1_X9_bestFrom4 (x1 : Nat) (x2 : Int32) (x3 : Int32) (l4 : Bool) (l5 : Int32) (l6 : Int32) (I1 : Nat → Nat → Int32) : Int32 := opv (if l4 = true then imax l5 (f_X9_bestFrom3 (m_X9_passTurn I1 x1 x2 l6) x1 (x2 + 1) x3) else imin l5 (f_X9_bestFrom3 (m_X9_passTurn I1 x1 x2 l6) x1 (x2 + 1) x3))
noncomputable def lp_X9_bestFrom4_63 (x1 : Nat) (x2 : Int32) (x3 : Int32) (l4 : Bool) : Nat → Int32 → Int32 → (Nat → Nat → Int32) → Int32 × Int32 × (Nat → Nat → Int32)
  | 0, l5, l6, I1 => (l5, l6, I1)
  | n + 1, l5, l6, I1 => (if (I1 (rt x1 7) 3) < l6 then (l5, l6, I1) else (lp_X9_bestFrom4_63 x1 x2 x3 l4 n (u1_X9_bestFrom4 x1 x2 x3 l4 l5 l6 I1) (l6 + 1) (m_X9_bestFrom3 (m_X9_passTurn I1 x1 x2 l6) x1 (x2 + 1) x3)))
def oklp_X9_bestFrom4_63 (x1 : Nat) (x2 : Int32) (x3 : Int32) (l4 : Bool) : Nat → Int32 → Int32 → (Nat → Nat → Int32) → Prop
  | 0, l5, l6, I1 => False
  | n + 1, l5, l6, I1 => (if (I1 (rt x1 7) 3) < l6 then True else (ok_X9_passTurn I1 x1 x2 l6 ∧ (ok_X9_bestFrom3 (m_X9_passTurn I1 x1 x2 l6) x1 (x2 + 1) x3 ∧ oklp_X9_bestFrom4_63 x1 x2 x3 l4 n (u1_X9_bestFrom4 x1 x2 x3 l4 l5 l6 I1) (l6 + 1) (m_X9_bestFrom3 (m_X9_passTurn I1 x1 x2 l6) x1 (x2 + 1) x3))))
set_option maxHeartbeats 800000 in
set_option maxRecDepth 4000 in
theorem k_lp_X9_bestFrom4_63 {k : KT} {ex : Bool} {J : Nat → Nat → Int64} {w : Bool} (x1 : Nat) (hx1 : kd x1 = 7) (x2 : Int32) (x3 : Int32) (l4 : Bool) {F : FinT} : ∀ (n : Nat) (l5 : Int32) (l6 : Int32) (I1 : (Nat → Nat → Int32)), oklp_X9_bestFrom4_63 x1 x2 x3 l4 n l5 l6 I1 → G k mX9_bestFrom (roomOf 10 0 0) F 0 0 124 [some (.ref (ka k 49)), some (.ref (ka k x1)), some (.int x2), some (.int x3), some (.int (b2i l4)), some (.int ((lp_X9_bestFrom4_63 x1 x2 x3 l4 n l5 l6 I1).1)), some (.int ((lp_X9_bestFrom4_63 x1 x2 x3 l4 n l5 l6 I1).2.1)), none] [] (81, ex, (lp_X9_bestFrom4_63 x1 x2 x3 l4 n l5 l6 I1).2.2, J, Pw w) → G k mX9_bestFrom (roomOf 10 0 0) F 0 0 63 [some (.ref (ka k 49)), some (.ref (ka k x1)), some (.int x2), some (.int x3), some (.int (b2i l4)), some (.int l5), some (.int l6), none] [] (81, ex, I1, J, Pw w) := by
  intro n
  induction n with
  | zero => intro l5 l6 I1 hok hj; exact absurd hok (by rw [oklp_X9_bestFrom4_63]; exact id)
  | succ n ih =>
    intro l5 l6 I1 hok hj
    rw [oklp_X9_bestFrom4_63] at hok
    refine g_iload (i := 6) rfl d_X9_bestFrom_63 ?_
    refine g_aload_n1 rfl d_X9_bestFrom_65 ?_
    refine g_getP (b := rt x1 7) f_X9_53 d_X9_bestFrom_66 hx1 (kd_sg hx1 (by decide)) rfl (pw_rt hx1 (by decide) (by decide)) ?_
    refine g_getI f_X9_59 d_X9_bestFrom_69 (kt7 hx1).1 (kd_sg ((kt7 hx1).1) (by decide)) rfl ?_
    refine g_icmp_gt 124 d_X9_bestFrom_72 (by decide) (fun h1 => ?_) (fun h1 => ?_)
    · skip
      (try simp only [lp_X9_bestFrom4_63, if_pos h1, opv_eq, if_true, if_false, Bool.false_eq_true, reduceCtorEq, b2i_t, b2i_f] at hj); exact hj
    · skip
      rw [if_neg h1] at hok
      refine g_aload_n0 rfl d_X9_bestFrom_75 ?_
      refine g_aload_n1 rfl d_X9_bestFrom_76 ?_
      refine g_iload_n2 rfl d_X9_bestFrom_77 ?_
      refine g_iload (i := 6) rfl d_X9_bestFrom_78 ?_
      obtain ⟨ho2, hok⟩ := hok
      refine g_callV0 (c_X9_passTurn I1 x1 hx1 x2 l6 ho2) w_X9_passTurn l_X9_78 d_X9_bestFrom_80 rfl (Nat.le_of_ble_eq_true rfl) rfl rfl (Nat.le_of_ble_eq_true rfl) ⟨Nat.le_of_ble_eq_true rfl, Nat.le_of_ble_eq_true rfl⟩ ⟨Nat.zero_le _, Nat.zero_le _⟩ ⟨rfl, rfl⟩ ?_
      refine g_aload_n0 rfl d_X9_bestFrom_83 ?_
      refine g_aload_n1 rfl d_X9_bestFrom_84 ?_
      refine g_iload_n2 rfl d_X9_bestFrom_85 ?_
      refine g_iconst 1 d_X9_bestFrom_86 (by decide) ?_
      refine g_iadd d_X9_bestFrom_87 ?_
      refine g_iload_n3 rfl d_X9_bestFrom_88 ?_
      obtain ⟨ho3, hok⟩ := hok
      refine g_callS1 (c_X9_bestFrom3 (m_X9_passTurn I1 x1 x2 l6) x1 hx1 (x2 + 1) x3 ho3) w_X9_bestFrom l_X9_111 d_X9_bestFrom_89 rfl rfl (Nat.le_of_ble_eq_true rfl) ⟨Nat.le_of_ble_eq_true rfl, Nat.le_of_ble_eq_true rfl⟩ ⟨Nat.zero_le _, Nat.zero_le _⟩ ⟨rfl, rfl⟩ ?_
      refine g_is7 rfl d_X9_bestFrom_92 ?_
      refine g_iload (i := 4) rfl d_X9_bestFrom_94 ?_
      refine g_cut (pc' := 116) (vs' := [some (.ref (ka k 49)), some (.ref (ka k x1)), some (.int x2), some (.int x3), some (.int (b2i l4)), some (.int l5), some (.int l6), some (.int (f_X9_bestFrom3 (m_X9_passTurn I1 x1 x2 l6) x1 (x2 + 1) x3))]) (st' := [.int (u1_X9_bestFrom4 x1 x2 x3 l4 l5 l6 I1)]) (M' := (81, ex, (m_X9_bestFrom3 (m_X9_passTurn I1 x1 x2 l6) x1 (x2 + 1) x3), J, Pw w)) (fun hj => ?_) ?_
      · skip
        refine g_ifz 109 d_X9_bestFrom_96 (by decide) (fun h2 => ?_) (fun h2 => ?_)
        · skip
          refine g_iload (i := 5) rfl d_X9_bestFrom_109 ?_
          refine g_iload (i := 7) rfl d_X9_bestFrom_111 ?_
          refine g_mmin lm_X9_123 d_X9_bestFrom_113 (Nat.le_of_ble_eq_true rfl) ⟨Nat.le_of_ble_eq_true rfl, Nat.le_of_ble_eq_true rfl⟩ ⟨Nat.zero_le _, Nat.zero_le _⟩ ?_
          (try simp only [if_neg (nb h2), opv_eq, if_true, if_false, Bool.false_eq_true, reduceCtorEq, b2i_t, b2i_f, u1_X9_bestFrom4] at hj); exact hj
        · skip
          refine g_iload (i := 5) rfl d_X9_bestFrom_99 ?_
          refine g_iload (i := 7) rfl d_X9_bestFrom_101 ?_
          refine g_mmax lm_X9_118 d_X9_bestFrom_103 (Nat.le_of_ble_eq_true rfl) ⟨Nat.le_of_ble_eq_true rfl, Nat.le_of_ble_eq_true rfl⟩ ⟨Nat.zero_le _, Nat.zero_le _⟩ ?_
          refine g_goto 116 d_X9_bestFrom_106 (by decide) ?_
          (try simp only [if_pos h2, opv_eq, if_true, if_false, Bool.false_eq_true, reduceCtorEq, b2i_t, b2i_f, u1_X9_bestFrom4] at hj); exact hj
      · skip
        refine g_is5 rfl d_X9_bestFrom_116 ?_
        refine g_ic6 (l6 + 1) rfl rfl d_X9_bestFrom_118 ?_
        refine g_goto 63 d_X9_bestFrom_121 (by decide) ?_
        refine G.weak (wks (wks (wks (wks (wks (wks (wks (wkn wk0)))))))) ?_; exact ih (u1_X9_bestFrom4 x1 x2 x3 l4 l5 l6 I1) (l6 + 1) (m_X9_bestFrom3 (m_X9_passTurn I1 x1 x2 l6) x1 (x2 + 1) x3) (by (try simp only [if_neg h1, opv_eq, if_true, if_false, Bool.false_eq_true, reduceCtorEq, b2i_t, b2i_f] at hok); exact hok) (by (try simp only [lp_X9_bestFrom4_63, if_neg h1, opv_eq, if_true, if_false, Bool.false_eq_true, reduceCtorEq, b2i_t, b2i_f] at hj); exact hj)
noncomputable def f_X9_bestFrom4 (I : Nat → Nat → Int32) (x1 : Nat) (x2 : Int32) (x3 : Int32) : Int32 := opv (if x3 ≤ x2 then I (rt 52 (if (f_X10_within I x2 0 4) = true then x2 else 0).toNatClampNeg) 0 else (if x2 < 4 then (lp_X9_bestFrom4_63 x1 x2 x3 (if (x2 - x2 / 2 * 2) = 0 then true else false) (opq 10) (u0_X9_bestFrom4 x2) 0 I).1 else I (rt 52 (if (f_X10_within I x2 0 4) = true then x2 else 0).toNatClampNeg) 0))
noncomputable def m_X9_bestFrom4 (I : Nat → Nat → Int32) (x1 : Nat) (x2 : Int32) (x3 : Int32) : Nat → Nat → Int32 := opv (if x3 ≤ x2 then I else (if x2 < 4 then (lp_X9_bestFrom4_63 x1 x2 x3 (if (x2 - x2 / 2 * 2) = 0 then true else false) (opq 10) (u0_X9_bestFrom4 x2) 0 I).2.2 else I))
noncomputable def ok_X9_bestFrom4 (I : Nat → Nat → Int32) (x1 : Nat) (x2 : Int32) (x3 : Int32) : Prop := opv (if x3 ≤ x2 then vp_in (if (f_X10_within I x2 0 4) = true then x2 else 0) (sz 52) else (if x2 < 4 then oklp_X9_bestFrom4_63 x1 x2 x3 (if (x2 - x2 / 2 * 2) = 0 then true else false) (opq 10) (u0_X9_bestFrom4 x2) 0 I else vp_in (if (f_X10_within I x2 0 4) = true then x2 else 0) (sz 52)))
set_option maxHeartbeats 800000 in
set_option maxRecDepth 4000 in
theorem c_X9_bestFrom4 {k : KT} {ex : Bool} {J : Nat → Nat → Int64} {w : Bool} (I : Nat → Nat → Int32) (x1 : Nat) (hx1 : kd x1 = 7) (x2 : Int32) (x3 : Int32)  (hok : ok_X9_bestFrom4 I x1 x2 x3) : Cx k mX9_bestFrom 10 [.ref (ka k 49), .ref (ka k x1), .int x2, .int x3] (81, ex, I, J, Pw w) (some (.int (f_X9_bestFrom4 I x1 x2 x3))) (81, ex, m_X9_bestFrom4 I x1 x2 x3, J, Pw w) := by
  refine Ct.of rfl [some (.ref (ka k 49)), some (.ref (ka k x1)), some (.int x2), some (.int x3), none, none, none, none] rfl rfl (Nat.le_of_ble_eq_true rfl) ?_
  rw [ok_X9_bestFrom4, opv_eq] at hok
  refine g_iload_n2 rfl d_X9_bestFrom_0 ?_
  refine g_iload_n3 rfl d_X9_bestFrom_1 ?_
  refine g_icmp_ge 10 d_X9_bestFrom_2 (by decide) (fun h3 => ?_) (fun h3 => ?_)
  · skip
    rw [if_pos h3] at hok
    refine g_aload_n0 rfl d_X9_bestFrom_10 ?_
    refine g_getP (b := 52) f_X9_22 d_X9_bestFrom_11 rfl (Nat.le_of_ble_eq_true rfl) rfl rfl ?_
    refine g_iload_n2 rfl d_X9_bestFrom_14 ?_
    refine g_iconst 0 d_X9_bestFrom_15 (by decide) ?_
    refine g_iconst 4 d_X9_bestFrom_16 (by decide) ?_
    refine g_callN1 (c_X10_within I x2 0 4) w_X10_within nest9 d_X9_bestFrom_17 rfl rfl (Nat.le_of_ble_eq_true rfl) ⟨Nat.le_of_ble_eq_true rfl, Nat.le_of_ble_eq_true rfl⟩ ⟨Nat.zero_le _, Nat.zero_le _⟩ ⟨rfl, rfl⟩ ?_
    refine g_cut (pc' := 28) (vs' := [some (.ref (ka k 49)), some (.ref (ka k x1)), some (.int x2), some (.int x3), none, none, none, none]) (st' := [.int (if (f_X10_within I x2 0 4) = true then x2 else 0), .ref (ka k 52)]) (M' := (81, ex, I, J, Pw w)) (fun hj => ?_) ?_
    · skip
      refine g_ifz 27 d_X9_bestFrom_20 (by decide) (fun h4 => ?_) (fun h4 => ?_)
      · skip
        refine g_iconst 0 d_X9_bestFrom_27 (by decide) ?_
        (try simp only [if_neg (nb h4), opv_eq, if_true, if_false, Bool.false_eq_true, reduceCtorEq, b2i_t, b2i_f] at hj); exact hj
      · skip
        refine g_iload_n2 rfl d_X9_bestFrom_23 ?_
        refine g_goto 28 d_X9_bestFrom_24 (by decide) ?_
        (try simp only [if_pos h4, opv_eq, if_true, if_false, Bool.false_eq_true, reduceCtorEq, b2i_t, b2i_f] at hj); exact hj
    · skip
      have ho1 := hok
      refine g_aald (b := rt 52 (if (f_X10_within I x2 0 4) = true then x2 else 0).toNatClampNeg) d_X9_bestFrom_28 rfl (Nat.le_of_ble_eq_true rfl) ho1 (pw_rt rfl (by decide) (by decide)) ?_
      refine g_getI f_X9_115 d_X9_bestFrom_29 (kt14 rfl ho1) (kd_sg (kt14 rfl ho1) (by decide)) rfl ?_
      exact g_iret rfl d_X9_bestFrom_32 ⟨by simp only [f_X9_bestFrom4, m_X9_bestFrom4, if_pos h3, opv_eq, if_true, if_false, Bool.false_eq_true, reduceCtorEq, b2i_t, b2i_f], by simp only [f_X9_bestFrom4, m_X9_bestFrom4, if_pos h3, opv_eq, if_true, if_false, Bool.false_eq_true, reduceCtorEq, b2i_t, b2i_f]⟩ (Nat.le_refl _) (Nat.le_refl _)
  · skip
    rw [if_neg h3] at hok
    refine g_iload_n2 rfl d_X9_bestFrom_5 ?_
    refine g_iconst 4 d_X9_bestFrom_6 (by decide) ?_
    refine g_icmp_lt 33 d_X9_bestFrom_7 (by decide) (fun h5 => ?_) (fun h5 => ?_)
    · skip
      rw [if_pos h5] at hok
      refine g_iload_n2 rfl d_X9_bestFrom_33 ?_
      refine g_iconst 2 d_X9_bestFrom_34 (by decide) ?_
      refine g_irem (by decide) d_X9_bestFrom_35 ?_
      refine g_cut (pc' := 44) (vs' := [some (.ref (ka k 49)), some (.ref (ka k x1)), some (.int x2), some (.int x3), none, none, none, none]) (st' := [.int (b2i (if (x2 - x2 / 2 * 2) = 0 then true else false))]) (M' := (81, ex, I, J, Pw w)) (fun hj => ?_) ?_
      · skip
        refine g_if_ne 43 d_X9_bestFrom_36 (by decide) (fun h6 => ?_) (fun h6 => ?_)
        · skip
          refine g_iconst 0 d_X9_bestFrom_43 (by decide) ?_
          (try simp only [if_neg h6, opv_eq, if_true, if_false, Bool.false_eq_true, reduceCtorEq, b2i_t, b2i_f] at hj); exact hj
        · skip
          refine g_iconst 1 d_X9_bestFrom_39 (by decide) ?_
          refine g_goto 44 d_X9_bestFrom_40 (by decide) ?_
          (try simp only [if_pos h6, opv_eq, if_true, if_false, Bool.false_eq_true, reduceCtorEq, b2i_t, b2i_f] at hj); exact hj
      · skip
        refine g_is4 rfl d_X9_bestFrom_44 ?_
        refine g_iload (i := 4) rfl d_X9_bestFrom_46 ?_
        refine g_cut (pc' := 58) (vs' := [some (.ref (ka k 49)), some (.ref (ka k x1)), some (.int x2), some (.int x3), some (.int (b2i (if (x2 - x2 / 2 * 2) = 0 then true else false))), none, none, none]) (st' := [.int (u0_X9_bestFrom4 x2)]) (M' := (81, ex, I, J, Pw w)) (fun hj => ?_) ?_
        · skip
          refine g_ifz 56 d_X9_bestFrom_48 (by decide) (fun h7 => ?_) (fun h7 => ?_)
          · skip
            refine g_bipush 9 d_X9_bestFrom_56 (by decide) ?_
            (try simp only [if_neg (nb h7), opv_eq, if_true, if_false, Bool.false_eq_true, reduceCtorEq, b2i_t, b2i_f, u0_X9_bestFrom4] at hj); exact hj
          · skip
            refine g_bipush (-9) d_X9_bestFrom_51 (by decide) ?_
            refine g_goto 58 d_X9_bestFrom_53 (by decide) ?_
            (try simp only [if_pos h7, opv_eq, if_true, if_false, Bool.false_eq_true, reduceCtorEq, b2i_t, b2i_f, u0_X9_bestFrom4] at hj); exact hj
        · skip
          refine g_is5 rfl d_X9_bestFrom_58 ?_
          refine g_iconst 0 d_X9_bestFrom_60 (by decide) ?_
          refine g_is6 rfl d_X9_bestFrom_61 ?_
          refine k_lp_X9_bestFrom4_63 x1 hx1 x2 x3 (if (x2 - x2 / 2 * 2) = 0 then true else false) _ (u0_X9_bestFrom4 x2) 0 I hok ?_
          refine g_iload (i := 5) rfl d_X9_bestFrom_124 ?_
          exact g_iret rfl d_X9_bestFrom_126 ⟨by simp only [f_X9_bestFrom4, m_X9_bestFrom4, if_neg h3, if_pos h5, opv_eq, if_true, if_false, Bool.false_eq_true, reduceCtorEq, b2i_t, b2i_f], by simp only [f_X9_bestFrom4, m_X9_bestFrom4, if_neg h3, if_pos h5, opv_eq, if_true, if_false, Bool.false_eq_true, reduceCtorEq, b2i_t, b2i_f]⟩ (Nat.le_refl _) (Nat.le_refl _)
    · skip
      rw [if_neg h5] at hok
      refine g_aload_n0 rfl d_X9_bestFrom_10 ?_
      refine g_getP (b := 52) f_X9_22 d_X9_bestFrom_11 rfl (Nat.le_of_ble_eq_true rfl) rfl rfl ?_
      refine g_iload_n2 rfl d_X9_bestFrom_14 ?_
      refine g_iconst 0 d_X9_bestFrom_15 (by decide) ?_
      refine g_iconst 4 d_X9_bestFrom_16 (by decide) ?_
      refine g_callN1 (c_X10_within I x2 0 4) w_X10_within nest9 d_X9_bestFrom_17 rfl rfl (Nat.le_of_ble_eq_true rfl) ⟨Nat.le_of_ble_eq_true rfl, Nat.le_of_ble_eq_true rfl⟩ ⟨Nat.zero_le _, Nat.zero_le _⟩ ⟨rfl, rfl⟩ ?_
      refine g_cut (pc' := 28) (vs' := [some (.ref (ka k 49)), some (.ref (ka k x1)), some (.int x2), some (.int x3), none, none, none, none]) (st' := [.int (if (f_X10_within I x2 0 4) = true then x2 else 0), .ref (ka k 52)]) (M' := (81, ex, I, J, Pw w)) (fun hj => ?_) ?_
      · skip
        refine g_ifz 27 d_X9_bestFrom_20 (by decide) (fun h8 => ?_) (fun h8 => ?_)
        · skip
          refine g_iconst 0 d_X9_bestFrom_27 (by decide) ?_
          (try simp only [if_neg (nb h8), opv_eq, if_true, if_false, Bool.false_eq_true, reduceCtorEq, b2i_t, b2i_f] at hj); exact hj
        · skip
          refine g_iload_n2 rfl d_X9_bestFrom_23 ?_
          refine g_goto 28 d_X9_bestFrom_24 (by decide) ?_
          (try simp only [if_pos h8, opv_eq, if_true, if_false, Bool.false_eq_true, reduceCtorEq, b2i_t, b2i_f] at hj); exact hj
      · skip
        have ho4 := hok
        refine g_aald (b := rt 52 (if (f_X10_within I x2 0 4) = true then x2 else 0).toNatClampNeg) d_X9_bestFrom_28 rfl (Nat.le_of_ble_eq_true rfl) ho4 (pw_rt rfl (by decide) (by decide)) ?_
        refine g_getI f_X9_115 d_X9_bestFrom_29 (kt14 rfl ho4) (kd_sg (kt14 rfl ho4) (by decide)) rfl ?_
        exact g_iret rfl d_X9_bestFrom_32 ⟨by simp only [f_X9_bestFrom4, m_X9_bestFrom4, if_neg h3, if_neg h5, opv_eq, if_true, if_false, Bool.false_eq_true, reduceCtorEq, b2i_t, b2i_f], by simp only [f_X9_bestFrom4, m_X9_bestFrom4, if_neg h3, if_neg h5, opv_eq, if_true, if_false, Bool.false_eq_true, reduceCtorEq, b2i_t, b2i_f]⟩ (Nat.le_refl _) (Nat.le_refl _)
noncomputable def f_X9_played (I : Nat → Nat → Int32) (x1 : Nat) (x2 : Nat) (x3 : Int32) : Int32 := opv (f_X9_bestFrom4 (m_X0_copy I 53 x2) x1 0 x3)
noncomputable def m_X9_played (I : Nat → Nat → Int32) (x1 : Nat) (x2 : Nat) (x3 : Int32) : Nat → Nat → Int32 := opv (m_X9_bestFrom4 (m_X0_copy I 53 x2) x1 0 x3)
noncomputable def ok_X9_played (I : Nat → Nat → Int32) (x1 : Nat) (x2 : Nat) (x3 : Int32) : Prop := opv (x2 ≠ 53 ∧ ok_X9_bestFrom4 (m_X0_copy I 53 x2) x1 0 x3)
set_option maxHeartbeats 800000 in
set_option maxRecDepth 4000 in
theorem c_X9_played {k : KT} {ex : Bool} {J : Nat → Nat → Int64} {w : Bool} (I : Nat → Nat → Int32) (x1 : Nat) (hx1 : kd x1 = 7) (x2 : Nat) (hx2 : kd x2 = 0) (x3 : Int32)  (hok : ok_X9_played I x1 x2 x3) : Cx k mX9_played 11 [.ref (ka k 49), .ref (ka k x1), .ref (ka k x2), .int x3] (81, ex, I, J, Pw w) (some (.int (f_X9_played I x1 x2 x3))) (81, ex, m_X9_played I x1 x2 x3, J, Pw w) := by
  refine Ct.of rfl [some (.ref (ka k 49)), some (.ref (ka k x1)), some (.ref (ka k x2)), some (.int x3)] rfl rfl (Nat.le_of_ble_eq_true rfl) ?_
  rw [ok_X9_played, opv_eq] at hok
  refine g_aload_n0 rfl d_X9_played_0 ?_
  refine g_getP (b := 52) f_X9_22 d_X9_played_1 rfl (Nat.le_of_ble_eq_true rfl) rfl rfl ?_
  refine g_iconst 0 d_X9_played_4 (by decide) ?_
  refine g_aald (b := 53) d_X9_played_5 rfl (Nat.le_of_ble_eq_true rfl) (vp_c (by decide +kernel)) rfl ?_
  refine g_aload_n2 rfl d_X9_played_6 ?_
  obtain ⟨ho1, hok⟩ := hok
  refine g_callV0 (c_X0_copy I 53 rfl x2 hx2 ho1) w_X0_copy l_X9_27 d_X9_played_7 rfl (Nat.le_of_ble_eq_true rfl) rfl rfl (Nat.le_of_ble_eq_true rfl) ⟨Nat.le_of_ble_eq_true rfl, Nat.le_of_ble_eq_true rfl⟩ ⟨Nat.zero_le _, Nat.zero_le _⟩ ⟨rfl, rfl⟩ ?_
  refine g_aload_n0 rfl d_X9_played_10 ?_
  refine g_aload_n1 rfl d_X9_played_11 ?_
  refine g_iconst 0 d_X9_played_12 (by decide) ?_
  refine g_iload_n3 rfl d_X9_played_13 ?_
  have ho2 := hok
  refine g_callS1 (c_X9_bestFrom4 (m_X0_copy I 53 x2) x1 hx1 0 x3 ho2) w_X9_bestFrom l_X9_111 d_X9_played_14 rfl rfl (Nat.le_of_ble_eq_true rfl) ⟨Nat.le_of_ble_eq_true rfl, Nat.le_of_ble_eq_true rfl⟩ ⟨Nat.zero_le _, Nat.zero_le _⟩ ⟨rfl, rfl⟩ ?_
  exact g_iret rfl d_X9_played_17 ⟨by simp only [f_X9_played, m_X9_played, opv_eq, if_true, if_false, Bool.false_eq_true, reduceCtorEq, b2i_t, b2i_f], by simp only [f_X9_played, m_X9_played, opv_eq, if_true, if_false, Bool.false_eq_true, reduceCtorEq, b2i_t, b2i_f]⟩ (Nat.le_refl _) (Nat.le_refl _)
noncomputable def u0_X9_firstOpened (x1 : Nat) (x3 : Int32) (l4 : Int32) (l5 : Int32) (l6 : Int32) (I1 : Nat → Nat → Int32) : Int32 := opv (if (f_X9_bestFrom4 (m_X9_passTurn I1 x1 0 l6) x1 1 x3) ≤ l5 then l4 else (if l6 = 0 then (-2) else l6 - 1))
noncomputable def u1_X9_firstOpened (x1 : Nat) (x3 : Int32) (l5 : Int32) (l6 : Int32) (I1 : Nat → Nat → Int32) : Int32 := opv (if (f_X9_bestFrom4 (m_X9_passTurn I1 x1 0 l6) x1 1 x3) ≤ l5 then l5 else f_X9_bestFrom4 (m_X9_passTurn I1 x1 0 l6) x1 1 x3)
noncomputable def lp_X9_firstOpened_21 (x1 : Nat) (x2 : Nat) (x3 : Int32) : Nat → Int32 → Int32 → Int32 → (Nat → Nat → Int32) → Int32 × Int32 × Int32 × (Nat → Nat → Int32)
  | 0, l4, l5, l6, I1 => (l4, l5, l6, I1)
  | n + 1, l4, l5, l6, I1 => (if (I1 (rt x1 7) 3) < l6 then (l4, l5, l6, I1) else (lp_X9_firstOpened_21 x1 x2 x3 n (u0_X9_firstOpened x1 x3 l4 l5 l6 I1) (u1_X9_firstOpened x1 x3 l5 l6 I1) (l6 + 1) (m_X9_bestFrom4 (m_X9_passTurn I1 x1 0 l6) x1 1 x3)))
def oklp_X9_firstOpened_21 (x1 : Nat) (x2 : Nat) (x3 : Int32) : Nat → Int32 → Int32 → Int32 → (Nat → Nat → Int32) → Prop
  | 0, l4, l5, l6, I1 => False
  | n + 1, l4, l5, l6, I1 => (if (I1 (rt x1 7) 3) < l6 then True else (ok_X9_passTurn I1 x1 0 l6 ∧ (ok_X9_bestFrom4 (m_X9_passTurn I1 x1 0 l6) x1 1 x3 ∧ oklp_X9_firstOpened_21 x1 x2 x3 n (u0_X9_firstOpened x1 x3 l4 l5 l6 I1) (u1_X9_firstOpened x1 x3 l5 l6 I1) (l6 + 1) (m_X9_bestFrom4 (m_X9_passTurn I1 x1 0 l6) x1 1 x3))))
set_option maxHeartbeats 800000 in
set_option maxRecDepth 4000 in
theorem k_lp_X9_firstOpened_21 {k : KT} {ex : Bool} {J : Nat → Nat → Int64} {w : Bool} (x1 : Nat) (hx1 : kd x1 = 7) (x2 : Nat) (hx2 : kd x2 = 0) (x3 : Int32) {F : FinT} : ∀ (n : Nat) (l4 : Int32) (l5 : Int32) (l6 : Int32) (I1 : (Nat → Nat → Int32)), oklp_X9_firstOpened_21 x1 x2 x3 n l4 l5 l6 I1 → G k mX9_firstOpened (roomOf 11 0 0) F 0 0 83 [some (.ref (ka k 49)), some (.ref (ka k x1)), some (.ref (ka k x2)), some (.int x3), some (.int ((lp_X9_firstOpened_21 x1 x2 x3 n l4 l5 l6 I1).1)), some (.int ((lp_X9_firstOpened_21 x1 x2 x3 n l4 l5 l6 I1).2.1)), some (.int ((lp_X9_firstOpened_21 x1 x2 x3 n l4 l5 l6 I1).2.2.1)), none] [] (81, ex, (lp_X9_firstOpened_21 x1 x2 x3 n l4 l5 l6 I1).2.2.2, J, Pw w) → G k mX9_firstOpened (roomOf 11 0 0) F 0 0 21 [some (.ref (ka k 49)), some (.ref (ka k x1)), some (.ref (ka k x2)), some (.int x3), some (.int l4), some (.int l5), some (.int l6), none] [] (81, ex, I1, J, Pw w) := by
  intro n
  induction n with
  | zero => intro l4 l5 l6 I1 hok hj; exact absurd hok (by rw [oklp_X9_firstOpened_21]; exact id)
  | succ n ih =>
    intro l4 l5 l6 I1 hok hj
    rw [oklp_X9_firstOpened_21] at hok
    refine g_iload (i := 6) rfl d_X9_firstOpened_21 ?_
    refine g_aload_n1 rfl d_X9_firstOpened_23 ?_
    refine g_getP (b := rt x1 7) f_X9_53 d_X9_firstOpened_24 hx1 (kd_sg hx1 (by decide)) rfl (pw_rt hx1 (by decide) (by decide)) ?_
    refine g_getI f_X9_59 d_X9_firstOpened_27 (kt7 hx1).1 (kd_sg ((kt7 hx1).1) (by decide)) rfl ?_
    refine g_icmp_gt 83 d_X9_firstOpened_30 (by decide) (fun h1 => ?_) (fun h1 => ?_)
    · skip
      (try simp only [lp_X9_firstOpened_21, if_pos h1, opv_eq, if_true, if_false, Bool.false_eq_true, reduceCtorEq, b2i_t, b2i_f] at hj); exact hj
    · skip
      rw [if_neg h1] at hok
      refine g_aload_n0 rfl d_X9_firstOpened_33 ?_
      refine g_aload_n1 rfl d_X9_firstOpened_34 ?_
      refine g_iconst 0 d_X9_firstOpened_35 (by decide) ?_
      refine g_iload (i := 6) rfl d_X9_firstOpened_36 ?_
      obtain ⟨ho2, hok⟩ := hok
      refine g_callV0 (c_X9_passTurn I1 x1 hx1 0 l6 ho2) w_X9_passTurn l_X9_78 d_X9_firstOpened_38 rfl (Nat.le_of_ble_eq_true rfl) rfl rfl (Nat.le_of_ble_eq_true rfl) ⟨Nat.le_of_ble_eq_true rfl, Nat.le_of_ble_eq_true rfl⟩ ⟨Nat.zero_le _, Nat.zero_le _⟩ ⟨rfl, rfl⟩ ?_
      refine g_aload_n0 rfl d_X9_firstOpened_41 ?_
      refine g_aload_n1 rfl d_X9_firstOpened_42 ?_
      refine g_iconst 1 d_X9_firstOpened_43 (by decide) ?_
      refine g_iload_n3 rfl d_X9_firstOpened_44 ?_
      obtain ⟨ho3, hok⟩ := hok
      refine g_callS1 (c_X9_bestFrom4 (m_X9_passTurn I1 x1 0 l6) x1 hx1 1 x3 ho3) w_X9_bestFrom l_X9_111 d_X9_firstOpened_45 rfl rfl (Nat.le_of_ble_eq_true rfl) ⟨Nat.le_of_ble_eq_true rfl, Nat.le_of_ble_eq_true rfl⟩ ⟨Nat.zero_le _, Nat.zero_le _⟩ ⟨rfl, rfl⟩ ?_
      refine g_is7 rfl d_X9_firstOpened_48 ?_
      refine g_iload (i := 7) rfl d_X9_firstOpened_50 ?_
      refine g_iload (i := 5) rfl d_X9_firstOpened_52 ?_
      refine g_cut (pc' := 77) (vs' := [some (.ref (ka k 49)), some (.ref (ka k x1)), some (.ref (ka k x2)), some (.int x3), some (.int (u0_X9_firstOpened x1 x3 l4 l5 l6 I1)), some (.int (u1_X9_firstOpened x1 x3 l5 l6 I1)), some (.int l6), some (.int (f_X9_bestFrom4 (m_X9_passTurn I1 x1 0 l6) x1 1 x3))]) (st' := []) (M' := (81, ex, (m_X9_bestFrom4 (m_X9_passTurn I1 x1 0 l6) x1 1 x3), J, Pw w)) (fun hj => ?_) ?_
      · skip
        refine g_icmp_le 77 d_X9_firstOpened_54 (by decide) (fun h2 => ?_) (fun h2 => ?_)
        · skip
          (try simp only [if_pos h2, opv_eq, if_true, if_false, Bool.false_eq_true, reduceCtorEq, b2i_t, b2i_f, u0_X9_firstOpened, u1_X9_firstOpened] at hj); exact hj
        · skip
          refine g_iload (i := 7) rfl d_X9_firstOpened_57 ?_
          refine g_is5 rfl d_X9_firstOpened_59 ?_
          refine g_iload (i := 6) rfl d_X9_firstOpened_61 ?_
          refine g_cut (pc' := 75) (vs' := [some (.ref (ka k 49)), some (.ref (ka k x1)), some (.ref (ka k x2)), some (.int x3), some (.int l4), some (.int (f_X9_bestFrom4 (m_X9_passTurn I1 x1 0 l6) x1 1 x3)), some (.int l6), some (.int (f_X9_bestFrom4 (m_X9_passTurn I1 x1 0 l6) x1 1 x3))]) (st' := [.int (if l6 = 0 then (-2) else l6 - 1)]) (M' := (81, ex, (m_X9_bestFrom4 (m_X9_passTurn I1 x1 0 l6) x1 1 x3), J, Pw w)) (fun hj => ?_) ?_
          · skip
            refine g_if_ne 71 d_X9_firstOpened_63 (by decide) (fun h3 => ?_) (fun h3 => ?_)
            · skip
              refine g_iload (i := 6) rfl d_X9_firstOpened_71 ?_
              refine g_iconst 1 d_X9_firstOpened_73 (by decide) ?_
              refine g_isub d_X9_firstOpened_74 ?_
              (try simp only [if_neg h3, opv_eq, if_true, if_false, Bool.false_eq_true, reduceCtorEq, b2i_t, b2i_f] at hj); exact hj
            · skip
              refine g_bipush (-2) d_X9_firstOpened_66 (by decide) ?_
              refine g_goto 75 d_X9_firstOpened_68 (by decide) ?_
              (try simp only [if_pos h3, opv_eq, if_true, if_false, Bool.false_eq_true, reduceCtorEq, b2i_t, b2i_f] at hj); exact hj
          · skip
            refine g_is4 rfl d_X9_firstOpened_75 ?_
            (try simp only [if_neg h2, opv_eq, if_true, if_false, Bool.false_eq_true, reduceCtorEq, b2i_t, b2i_f, u0_X9_firstOpened, u1_X9_firstOpened] at hj); exact hj
      · skip
        refine g_ic6 (l6 + 1) rfl rfl d_X9_firstOpened_77 ?_
        refine g_goto 21 d_X9_firstOpened_80 (by decide) ?_
        refine G.weak (wks (wks (wks (wks (wks (wks (wks (wkn wk0)))))))) ?_; exact ih (u0_X9_firstOpened x1 x3 l4 l5 l6 I1) (u1_X9_firstOpened x1 x3 l5 l6 I1) (l6 + 1) (m_X9_bestFrom4 (m_X9_passTurn I1 x1 0 l6) x1 1 x3) (by (try simp only [if_neg h1, opv_eq, if_true, if_false, Bool.false_eq_true, reduceCtorEq, b2i_t, b2i_f] at hok); exact hok) (by (try simp only [lp_X9_firstOpened_21, if_neg h1, opv_eq, if_true, if_false, Bool.false_eq_true, reduceCtorEq, b2i_t, b2i_f] at hj); exact hj)
noncomputable def f_X9_firstOpened (I : Nat → Nat → Int32) (x1 : Nat) (x2 : Nat) (x3 : Int32) : Int32 := opv ((lp_X9_firstOpened_21 x1 x2 x3 (opq 10) (-2) (-10) 0 (m_X0_copy I 53 x2)).1)
noncomputable def m_X9_firstOpened (I : Nat → Nat → Int32) (x1 : Nat) (x2 : Nat) (x3 : Int32) : Nat → Nat → Int32 := opv ((lp_X9_firstOpened_21 x1 x2 x3 (opq 10) (-2) (-10) 0 (m_X0_copy I 53 x2)).2.2.2)
noncomputable def ok_X9_firstOpened (I : Nat → Nat → Int32) (x1 : Nat) (x2 : Nat) (x3 : Int32) : Prop := opv (x2 ≠ 53 ∧ oklp_X9_firstOpened_21 x1 x2 x3 (opq 10) (-2) (-10) 0 (m_X0_copy I 53 x2))
set_option maxHeartbeats 800000 in
set_option maxRecDepth 4000 in
theorem c_X9_firstOpened {k : KT} {ex : Bool} {J : Nat → Nat → Int64} {w : Bool} (I : Nat → Nat → Int32) (x1 : Nat) (hx1 : kd x1 = 7) (x2 : Nat) (hx2 : kd x2 = 0) (x3 : Int32)  (hok : ok_X9_firstOpened I x1 x2 x3) : Cx k mX9_firstOpened 11 [.ref (ka k 49), .ref (ka k x1), .ref (ka k x2), .int x3] (81, ex, I, J, Pw w) (some (.int (f_X9_firstOpened I x1 x2 x3))) (81, ex, m_X9_firstOpened I x1 x2 x3, J, Pw w) := by
  refine Ct.of rfl [some (.ref (ka k 49)), some (.ref (ka k x1)), some (.ref (ka k x2)), some (.int x3), none, none, none, none] rfl rfl (Nat.le_of_ble_eq_true rfl) ?_
  rw [ok_X9_firstOpened, opv_eq] at hok
  refine g_aload_n0 rfl d_X9_firstOpened_0 ?_
  refine g_getP (b := 52) f_X9_22 d_X9_firstOpened_1 rfl (Nat.le_of_ble_eq_true rfl) rfl rfl ?_
  refine g_iconst 0 d_X9_firstOpened_4 (by decide) ?_
  refine g_aald (b := 53) d_X9_firstOpened_5 rfl (Nat.le_of_ble_eq_true rfl) (vp_c (by decide +kernel)) rfl ?_
  refine g_aload_n2 rfl d_X9_firstOpened_6 ?_
  obtain ⟨ho1, hok⟩ := hok
  refine g_callV0 (c_X0_copy I 53 rfl x2 hx2 ho1) w_X0_copy l_X9_27 d_X9_firstOpened_7 rfl (Nat.le_of_ble_eq_true rfl) rfl rfl (Nat.le_of_ble_eq_true rfl) ⟨Nat.le_of_ble_eq_true rfl, Nat.le_of_ble_eq_true rfl⟩ ⟨Nat.zero_le _, Nat.zero_le _⟩ ⟨rfl, rfl⟩ ?_
  refine g_bipush (-2) d_X9_firstOpened_10 (by decide) ?_
  refine g_is4 rfl d_X9_firstOpened_12 ?_
  refine g_bipush (-10) d_X9_firstOpened_14 (by decide) ?_
  refine g_is5 rfl d_X9_firstOpened_16 ?_
  refine g_iconst 0 d_X9_firstOpened_18 (by decide) ?_
  refine g_is6 rfl d_X9_firstOpened_19 ?_
  refine k_lp_X9_firstOpened_21 x1 hx1 x2 hx2 x3 _ (-2) (-10) 0 (m_X0_copy I 53 x2) hok ?_
  refine g_iload (i := 4) rfl d_X9_firstOpened_83 ?_
  exact g_iret rfl d_X9_firstOpened_85 ⟨by simp only [f_X9_firstOpened, m_X9_firstOpened, opv_eq, if_true, if_false, Bool.false_eq_true, reduceCtorEq, b2i_t, b2i_f], by simp only [f_X9_firstOpened, m_X9_firstOpened, opv_eq, if_true, if_false, Bool.false_eq_true, reduceCtorEq, b2i_t, b2i_f]⟩ (Nat.le_refl _) (Nat.le_refl _)
noncomputable def u0_X10_value (I : Nat → Nat → Int32) (w : Bool) (x1 : Int32) : Int32 := opv (if (f_X10_refused I (f_X10_within I x1 0 4)) = true then (-1) else (f_X9_played (m_X10_refused I (f_X10_within I x1 0 4)) (td w) 23 x1) + 9)
noncomputable def u1_X10_value (I : Nat → Nat → Int32) (w : Bool) (x1 : Int32) : Nat → Nat → Int32 := opv (if (f_X10_refused I (f_X10_within I x1 0 4)) = true then (m_X10_refused I (f_X10_within I x1 0 4)) else (m_X9_played (m_X10_refused I (f_X10_within I x1 0 4)) (td w) 23 x1))
noncomputable def f_X10_value (I : Nat → Nat → Int32) (w : Bool) (x1 : Int32) : Int32 := opv (u0_X10_value I w x1)
noncomputable def m_X10_value (I : Nat → Nat → Int32) (w : Bool) (x1 : Int32) : Nat → Nat → Int32 := opv (u1_X10_value I w x1)
noncomputable def ok_X10_value (I : Nat → Nat → Int32) (w : Bool) (x1 : Int32) : Prop := opv (if (f_X10_refused I (f_X10_within I x1 0 4)) = true then True else ok_X9_played (m_X10_refused I (f_X10_within I x1 0 4)) (td w) 23 x1)
set_option maxHeartbeats 800000 in
set_option maxRecDepth 4000 in
theorem c_X10_value {k : KT} {ex : Bool} {J : Nat → Nat → Int64} (I : Nat → Nat → Int32) (w : Bool) (x1 : Int32)  (hok : ok_X10_value I w x1) : Cx k mX10_value 12 [.ref (ka k 0), .int x1] (81, ex, I, J, Pw w) (some (.int (f_X10_value I w x1))) (81, ex, m_X10_value I w x1, J, Pw w) := by
  refine Ct.of rfl [some (.ref (ka k 0)), some (.int x1)] rfl rfl (Nat.le_of_ble_eq_true rfl) ?_
  rw [ok_X10_value, opv_eq] at hok
  refine g_aload_n0 rfl d_X10_value_0 ?_
  refine g_iload_n1 rfl d_X10_value_1 ?_
  refine g_iconst 0 d_X10_value_2 (by decide) ?_
  refine g_iconst 4 d_X10_value_3 (by decide) ?_
  refine g_callS1 (c_X10_within I x1 0 4) w_X10_within l_X10_73 d_X10_value_4 rfl rfl (Nat.le_of_ble_eq_true rfl) ⟨Nat.le_of_ble_eq_true rfl, Nat.le_of_ble_eq_true rfl⟩ ⟨Nat.zero_le _, Nat.zero_le _⟩ ⟨rfl, rfl⟩ ?_
  refine g_callV1 (c_X10_refused I (f_X10_within I x1 0 4)) w_X10_refused l_X10_154 d_X10_value_7 rfl (Nat.le_of_ble_eq_true rfl) rfl rfl (Nat.le_of_ble_eq_true rfl) ⟨Nat.le_of_ble_eq_true rfl, Nat.le_of_ble_eq_true rfl⟩ ⟨Nat.zero_le _, Nat.zero_le _⟩ ⟨rfl, rfl⟩ ?_
  refine g_cut (pc' := 36) (vs' := [some (.ref (ka k 0)), some (.int x1)]) (st' := [.int (u0_X10_value I w x1)]) (M' := (81, ex, (u1_X10_value I w x1), J, Pw w)) (fun hj => ?_) ?_
  · skip
    refine g_ifz 17 d_X10_value_10 (by decide) (fun h1 => ?_) (fun h1 => ?_)
    · skip
      rw [if_neg (nb h1)] at hok
      refine g_aload_n0 rfl d_X10_value_17 ?_
      refine g_getP (b := 49) f_X10_47 d_X10_value_18 rfl (Nat.le_of_ble_eq_true rfl) rfl rfl ?_
      refine g_aload_n0 rfl d_X10_value_21 ?_
      refine g_getP (b := td w) f_X10_19 d_X10_value_22 rfl (Nat.le_of_ble_eq_true rfl) rfl rfl ?_
      refine g_aload_n0 rfl d_X10_value_25 ?_
      refine g_getP (b := 23) f_X10_26 d_X10_value_26 rfl (Nat.le_of_ble_eq_true rfl) rfl rfl ?_
      refine g_iload_n1 rfl d_X10_value_29 ?_
      have ho1 := hok
      refine g_callV1 (c_X9_played (m_X10_refused I (f_X10_within I x1 0 4)) (td w) (kd_td w) 23 rfl x1 ho1) w_X9_played l_X10_235 d_X10_value_30 rfl (Nat.le_of_ble_eq_true rfl) rfl rfl (Nat.le_of_ble_eq_true rfl) ⟨Nat.le_of_ble_eq_true rfl, Nat.le_of_ble_eq_true rfl⟩ ⟨Nat.zero_le _, Nat.zero_le _⟩ ⟨rfl, rfl⟩ ?_
      refine g_bipush 9 d_X10_value_33 (by decide) ?_
      refine g_iadd d_X10_value_35 ?_
      (try simp only [if_neg (nb h1), opv_eq, if_true, if_false, Bool.false_eq_true, reduceCtorEq, b2i_t, b2i_f, u0_X10_value, u1_X10_value] at hj); exact hj
    · skip
      refine g_iconst (-1) d_X10_value_13 (by decide) ?_
      refine g_goto 36 d_X10_value_14 (by decide) ?_
      (try simp only [if_pos h1, opv_eq, if_true, if_false, Bool.false_eq_true, reduceCtorEq, b2i_t, b2i_f, u0_X10_value, u1_X10_value] at hj); exact hj
  · skip
    exact g_iret rfl d_X10_value_36 ⟨by simp only [f_X10_value, m_X10_value, opv_eq, if_true, if_false, Bool.false_eq_true, reduceCtorEq, b2i_t, b2i_f], by simp only [f_X10_value, m_X10_value, opv_eq, if_true, if_false, Bool.false_eq_true, reduceCtorEq, b2i_t, b2i_f]⟩ (Nat.le_refl _) (Nat.le_refl _)
noncomputable def u0_X10_opens (I : Nat → Nat → Int32) (w : Bool) (x1 : Int32) : Nat → Nat → Int32 := opv (m_X9_firstOpened (m_X10_refused I (f_X10_within I x1 1 4)) (td w) 23 x1)
noncomputable def u1_X10_opens (I : Nat → Nat → Int32) (w : Bool) (x1 : Int32) : Int32 := opv (if (f_X10_refused I (f_X10_within I x1 1 4)) = true then (-1) else f_X9_firstOpened (m_X10_refused I (f_X10_within I x1 1 4)) (td w) 23 x1)
noncomputable def u2_X10_opens (I : Nat → Nat → Int32) (w : Bool) (x1 : Int32) : Nat → Nat → Int32 := opv (if (f_X10_refused I (f_X10_within I x1 1 4)) = true then (m_X10_refused I (f_X10_within I x1 1 4)) else (u0_X10_opens I w x1))
noncomputable def f_X10_opens (I : Nat → Nat → Int32) (w : Bool) (x1 : Int32) : Int32 := opv (u1_X10_opens I w x1)
noncomputable def m_X10_opens (I : Nat → Nat → Int32) (w : Bool) (x1 : Int32) : Nat → Nat → Int32 := opv (u2_X10_opens I w x1)
noncomputable def ok_X10_opens (I : Nat → Nat → Int32) (w : Bool) (x1 : Int32) : Prop := opv (if (f_X10_refused I (f_X10_within I x1 1 4)) = true then True else ok_X9_firstOpened (m_X10_refused I (f_X10_within I x1 1 4)) (td w) 23 x1)
set_option maxHeartbeats 800000 in
set_option maxRecDepth 4000 in
theorem c_X10_opens {k : KT} {ex : Bool} {J : Nat → Nat → Int64} (I : Nat → Nat → Int32) (w : Bool) (x1 : Int32)  (hok : ok_X10_opens I w x1) : Cx k mX10_opens 12 [.ref (ka k 0), .int x1] (81, ex, I, J, Pw w) (some (.int (f_X10_opens I w x1))) (81, ex, m_X10_opens I w x1, J, Pw w) := by
  refine Ct.of rfl [some (.ref (ka k 0)), some (.int x1)] rfl rfl (Nat.le_of_ble_eq_true rfl) ?_
  rw [ok_X10_opens, opv_eq] at hok
  refine g_aload_n0 rfl d_X10_opens_0 ?_
  refine g_iload_n1 rfl d_X10_opens_1 ?_
  refine g_iconst 1 d_X10_opens_2 (by decide) ?_
  refine g_iconst 4 d_X10_opens_3 (by decide) ?_
  refine g_callS1 (c_X10_within I x1 1 4) w_X10_within l_X10_73 d_X10_opens_4 rfl rfl (Nat.le_of_ble_eq_true rfl) ⟨Nat.le_of_ble_eq_true rfl, Nat.le_of_ble_eq_true rfl⟩ ⟨Nat.zero_le _, Nat.zero_le _⟩ ⟨rfl, rfl⟩ ?_
  refine g_callV1 (c_X10_refused I (f_X10_within I x1 1 4)) w_X10_refused l_X10_154 d_X10_opens_7 rfl (Nat.le_of_ble_eq_true rfl) rfl rfl (Nat.le_of_ble_eq_true rfl) ⟨Nat.le_of_ble_eq_true rfl, Nat.le_of_ble_eq_true rfl⟩ ⟨Nat.zero_le _, Nat.zero_le _⟩ ⟨rfl, rfl⟩ ?_
  refine g_cut (pc' := 33) (vs' := [some (.ref (ka k 0)), some (.int x1)]) (st' := [.int (u1_X10_opens I w x1)]) (M' := (81, ex, (u2_X10_opens I w x1), J, Pw w)) (fun hj => ?_) ?_
  · skip
    refine g_ifz 17 d_X10_opens_10 (by decide) (fun h1 => ?_) (fun h1 => ?_)
    · skip
      rw [if_neg (nb h1)] at hok
      refine g_aload_n0 rfl d_X10_opens_17 ?_
      refine g_getP (b := 49) f_X10_47 d_X10_opens_18 rfl (Nat.le_of_ble_eq_true rfl) rfl rfl ?_
      refine g_aload_n0 rfl d_X10_opens_21 ?_
      refine g_getP (b := td w) f_X10_19 d_X10_opens_22 rfl (Nat.le_of_ble_eq_true rfl) rfl rfl ?_
      refine g_aload_n0 rfl d_X10_opens_25 ?_
      refine g_getP (b := 23) f_X10_26 d_X10_opens_26 rfl (Nat.le_of_ble_eq_true rfl) rfl rfl ?_
      refine g_iload_n1 rfl d_X10_opens_29 ?_
      have ho1 := hok
      refine g_callV1 (c_X9_firstOpened (m_X10_refused I (f_X10_within I x1 1 4)) (td w) (kd_td w) 23 rfl x1 ho1) w_X9_firstOpened l_X10_238 d_X10_opens_30 rfl (Nat.le_of_ble_eq_true rfl) rfl rfl (Nat.le_of_ble_eq_true rfl) ⟨Nat.le_of_ble_eq_true rfl, Nat.le_of_ble_eq_true rfl⟩ ⟨Nat.zero_le _, Nat.zero_le _⟩ ⟨rfl, rfl⟩ ?_
      refine G.toI (I' := (u0_X10_opens I w x1)) (by rw [u0_X10_opens, opv_eq]) ?_
      (try simp only [if_neg (nb h1), opv_eq, if_true, if_false, Bool.false_eq_true, reduceCtorEq, b2i_t, b2i_f, u1_X10_opens, u2_X10_opens] at hj); exact hj
    · skip
      refine g_iconst (-1) d_X10_opens_13 (by decide) ?_
      refine g_goto 33 d_X10_opens_14 (by decide) ?_
      (try simp only [if_pos h1, opv_eq, if_true, if_false, Bool.false_eq_true, reduceCtorEq, b2i_t, b2i_f, u1_X10_opens, u2_X10_opens] at hj); exact hj
  · skip
    exact g_iret rfl d_X10_opens_33 ⟨by simp only [f_X10_opens, m_X10_opens, opv_eq, if_true, if_false, Bool.false_eq_true, reduceCtorEq, b2i_t, b2i_f], by simp only [f_X10_opens, m_X10_opens, opv_eq, if_true, if_false, Bool.false_eq_true, reduceCtorEq, b2i_t, b2i_f]⟩ (Nat.le_refl _) (Nat.le_refl _)
noncomputable def u0_X11_layLevel (I : Nat → Nat → Int32) (x1 : Int32) (x2 : Int32) : Nat → Nat → Int32 := opv (if x2 < 0 then (m_X11_copy I 77 (7 * x1) 78 0 7) else (st2 (m_X11_copy I 77 (7 * x1) 78 0 7) 78 3 (((m_X11_copy I 77 (7 * x1) 78 0 7) 78 3) ||| (1 <<< (x2 &&& 31)))))
noncomputable def u1_X11_layLevel (I : Nat → Nat → Int32) (x1 : Int32) (x2 : Int32) : Nat → Nat → Int32 := opv (m_X11_copy (m_X11_dayOf (u0_X11_layLevel I x1 x2) 78) 78 0 77 (7 * (x1 + 1)) 7)
noncomputable def m_X11_layLevel (I : Nat → Nat → Int32) (x1 : Int32) (x2 : Int32) : Nat → Nat → Int32 := opv (u1_X11_layLevel I x1 x2)
noncomputable def ok_X11_layLevel (I : Nat → Nat → Int32) (x1 : Int32) (x2 : Int32) : Prop := opv (ok_X11_copy I 77 (7 * x1) 78 0 7 ∧ (ok_X11_dayOf (u0_X11_layLevel I x1 x2) 78 ∧ ok_X11_copy (m_X11_dayOf (u0_X11_layLevel I x1 x2) 78) 78 0 77 (7 * (x1 + 1)) 7))
set_option maxHeartbeats 800000 in
set_option maxRecDepth 4000 in
theorem c_X11_layLevel {k : KT} {ex : Bool} {J : Nat → Nat → Int64} {w : Bool} (I : Nat → Nat → Int32) (x1 : Int32) (x2 : Int32)  (hok : ok_X11_layLevel I x1 x2) : Cx k mX11_layLevel 5 [.ref (ka k 65), .int x1, .int x2] (81, ex, I, J, Pw w) none (81, ex, m_X11_layLevel I x1 x2, J, Pw w) := by
  refine Ct.of rfl [some (.ref (ka k 65)), some (.int x1), some (.int x2)] rfl rfl (Nat.le_of_ble_eq_true rfl) ?_
  rw [ok_X11_layLevel, opv_eq] at hok
  refine g_aload_n0 rfl d_X11_layLevel_0 ?_
  refine g_getP (b := 77) f_X11_47 d_X11_layLevel_1 rfl (Nat.le_of_ble_eq_true rfl) rfl rfl ?_
  refine g_bipush 7 d_X11_layLevel_4 (by decide) ?_
  refine g_iload_n1 rfl d_X11_layLevel_6 ?_
  refine g_imul d_X11_layLevel_7 ?_
  refine g_aload_n0 rfl d_X11_layLevel_8 ?_
  refine g_getP (b := 78) f_X11_50 d_X11_layLevel_9 rfl (Nat.le_of_ble_eq_true rfl) rfl rfl ?_
  refine g_iconst 0 d_X11_layLevel_12 (by decide) ?_
  refine g_bipush 7 d_X11_layLevel_13 (by decide) ?_
  obtain ⟨ho1, hok⟩ := hok
  refine g_callS0 (c_X11_copy I 77 rfl (7 * x1) 78 rfl 0 7 ho1) w_X11_copy l_X11_177 d_X11_layLevel_15 rfl rfl (Nat.le_of_ble_eq_true rfl) ⟨Nat.le_of_ble_eq_true rfl, Nat.le_of_ble_eq_true rfl⟩ ⟨Nat.zero_le _, Nat.zero_le _⟩ ⟨rfl, rfl⟩ ?_
  refine g_iload_n2 rfl d_X11_layLevel_18 ?_
  refine g_cut (pc' := 34) (vs' := [some (.ref (ka k 65)), some (.int x1), some (.int x2)]) (st' := []) (M' := (81, ex, (u0_X11_layLevel I x1 x2), J, Pw w)) (fun hj => ?_) ?_
  · skip
    refine g_if_lt 34 d_X11_layLevel_19 (by decide) (fun h1 => ?_) (fun h1 => ?_)
    · skip
      (try simp only [if_pos h1, opv_eq, if_true, if_false, Bool.false_eq_true, reduceCtorEq, b2i_t, b2i_f, u0_X11_layLevel] at hj); exact hj
    · skip
      refine g_aload_n0 rfl d_X11_layLevel_22 ?_
      refine g_getP (b := 78) f_X11_50 d_X11_layLevel_23 rfl (Nat.le_of_ble_eq_true rfl) rfl rfl ?_
      refine g_iconst 3 d_X11_layLevel_26 (by decide) ?_
      refine g_dup2 rfl rfl d_X11_layLevel_27 ?_
      refine g_ialdv ((m_X11_copy I 77 (7 * x1) 78 0 7) 78 3) rfl d_X11_layLevel_28 rfl (Nat.le_of_ble_eq_true rfl) (vp_c (by decide +kernel)) ?_
      refine g_iconst 1 d_X11_layLevel_29 (by decide) ?_
      refine g_iload_n2 rfl d_X11_layLevel_30 ?_
      refine g_ishl d_X11_layLevel_31 ?_
      refine g_ior d_X11_layLevel_32 ?_
      refine g_iasts (n := 3) rfl d_X11_layLevel_33 rfl (Nat.le_of_ble_eq_true rfl) (vp_c (by decide +kernel)) ?_
      (try simp only [if_neg h1, opv_eq, if_true, if_false, Bool.false_eq_true, reduceCtorEq, b2i_t, b2i_f, u0_X11_layLevel] at hj); exact hj
  · skip
    refine g_aload_n0 rfl d_X11_layLevel_34 ?_
    refine g_aload_n0 rfl d_X11_layLevel_35 ?_
    refine g_getP (b := 78) f_X11_50 d_X11_layLevel_36 rfl (Nat.le_of_ble_eq_true rfl) rfl rfl ?_
    obtain ⟨ho2, hok⟩ := hok
    refine g_callV0 (c_X11_dayOf (u0_X11_layLevel I x1 x2) 78 rfl (by decide) ho2) w_X11_dayOf l_X11_288 d_X11_layLevel_39 rfl (Nat.le_of_ble_eq_true rfl) rfl rfl (Nat.le_of_ble_eq_true rfl) ⟨Nat.le_of_ble_eq_true rfl, Nat.le_of_ble_eq_true rfl⟩ ⟨Nat.zero_le _, Nat.zero_le _⟩ ⟨rfl, rfl⟩ ?_
    refine g_aload_n0 rfl d_X11_layLevel_42 ?_
    refine g_getP (b := 78) f_X11_50 d_X11_layLevel_43 rfl (Nat.le_of_ble_eq_true rfl) rfl rfl ?_
    refine g_iconst 0 d_X11_layLevel_46 (by decide) ?_
    refine g_aload_n0 rfl d_X11_layLevel_47 ?_
    refine g_getP (b := 77) f_X11_47 d_X11_layLevel_48 rfl (Nat.le_of_ble_eq_true rfl) rfl rfl ?_
    refine g_bipush 7 d_X11_layLevel_51 (by decide) ?_
    refine g_iload_n1 rfl d_X11_layLevel_53 ?_
    refine g_iconst 1 d_X11_layLevel_54 (by decide) ?_
    refine g_iadd d_X11_layLevel_55 ?_
    refine g_imul d_X11_layLevel_56 ?_
    refine g_bipush 7 d_X11_layLevel_57 (by decide) ?_
    have ho3 := hok
    refine g_callS0 (c_X11_copy (m_X11_dayOf (u0_X11_layLevel I x1 x2) 78) 78 rfl 0 77 rfl (7 * (x1 + 1)) 7 ho3) w_X11_copy l_X11_177 d_X11_layLevel_59 rfl rfl (Nat.le_of_ble_eq_true rfl) ⟨Nat.le_of_ble_eq_true rfl, Nat.le_of_ble_eq_true rfl⟩ ⟨Nat.zero_le _, Nat.zero_le _⟩ ⟨rfl, rfl⟩ ?_
    refine G.toI (I' := (u1_X11_layLevel I x1 x2)) (by rw [u1_X11_layLevel, opv_eq]) ?_
    exact g_vret rfl d_X11_layLevel_62 ⟨rfl, by simp only [m_X11_layLevel, opv_eq, if_true, if_false, Bool.false_eq_true, reduceCtorEq, b2i_t, b2i_f]⟩ (Nat.le_refl _) (Nat.le_refl _)
noncomputable def lp_X11_valueFrom0_24 (x1 : Int32) (x2 : Int32) : Nat → Int32 → Int32 → (Nat → Nat → Int32) → Int32 × Int32 × (Nat → Nat → Int32)
  | 0, l3, l4, I1 => (l3, l4, I1)
  | n + 1, l3, l4, I1 => (l3, l4, I1)
def oklp_X11_valueFrom0_24 (x1 : Int32) (x2 : Int32) : Nat → Int32 → Int32 → (Nat → Nat → Int32) → Prop
  | 0, l3, l4, I1 => False
  | n + 1, l3, l4, I1 => (if (I1 68 5) ≤ l4 then True else (ok_X11_layLevel I1 x1 l4 ∧ False))
set_option maxHeartbeats 800000 in
set_option maxRecDepth 4000 in
theorem k_lp_X11_valueFrom0_24 {k : KT} {ex : Bool} {J : Nat → Nat → Int64} {w : Bool} (x1 : Int32) (x2 : Int32) {F : FinT} : ∀ (n : Nat) (l3 : Int32) (l4 : Int32) (I1 : (Nat → Nat → Int32)), oklp_X11_valueFrom0_24 x1 x2 n l3 l4 I1 → G k mX11_valueFrom (roomOf 6 0 0) F 0 0 89 [some (.ref (ka k 65)), some (.int x1), some (.int x2), some (.int ((lp_X11_valueFrom0_24 x1 x2 n l3 l4 I1).1)), some (.int ((lp_X11_valueFrom0_24 x1 x2 n l3 l4 I1).2.1)), none] [] (81, ex, (lp_X11_valueFrom0_24 x1 x2 n l3 l4 I1).2.2, J, Pw w) → G k mX11_valueFrom (roomOf 6 0 0) F 0 0 24 [some (.ref (ka k 65)), some (.int x1), some (.int x2), some (.int l3), some (.int l4), none] [] (81, ex, I1, J, Pw w) := by
  intro n
  induction n with
  | zero => intro l3 l4 I1 hok hj; exact absurd hok (by rw [oklp_X11_valueFrom0_24]; exact id)
  | succ n ih =>
    intro l3 l4 I1 hok hj
    rw [oklp_X11_valueFrom0_24] at hok
    refine g_iload (i := 4) rfl d_X11_valueFrom_24 ?_
    refine g_aload_n0 rfl d_X11_valueFrom_26 ?_
    refine g_getP (b := 68) f_X11_20 d_X11_valueFrom_27 rfl (Nat.le_of_ble_eq_true rfl) rfl rfl ?_
    refine g_iconst 5 d_X11_valueFrom_30 (by decide) ?_
    refine g_ialdv (I1 68 5) rfl d_X11_valueFrom_31 rfl (Nat.le_of_ble_eq_true rfl) (vp_c (by decide +kernel)) ?_
    refine g_icmp_ge 89 d_X11_valueFrom_32 (by decide) (fun h1 => ?_) (fun h1 => ?_)
    · skip
      (try simp only [lp_X11_valueFrom0_24, if_pos h1, opv_eq, if_true, if_false, Bool.false_eq_true, reduceCtorEq, b2i_t, b2i_f] at hj); exact hj
    · skip
      rw [if_neg h1] at hok
      refine g_aload_n0 rfl d_X11_valueFrom_35 ?_
      refine g_iload_n1 rfl d_X11_valueFrom_36 ?_
      refine g_iload (i := 4) rfl d_X11_valueFrom_37 ?_
      obtain ⟨ho1, hok⟩ := hok
      refine g_callV0 (c_X11_layLevel I1 x1 l4 ho1) w_X11_layLevel l_X11_361 d_X11_valueFrom_39 rfl (Nat.le_of_ble_eq_true rfl) rfl rfl (Nat.le_of_ble_eq_true rfl) ⟨Nat.le_of_ble_eq_true rfl, Nat.le_of_ble_eq_true rfl⟩ ⟨Nat.zero_le _, Nat.zero_le _⟩ ⟨rfl, rfl⟩ ?_
      refine g_aload_n0 rfl d_X11_valueFrom_42 ?_
      refine g_iload_n1 rfl d_X11_valueFrom_43 ?_
      refine g_iconst 1 d_X11_valueFrom_44 (by decide) ?_
      refine g_iadd d_X11_valueFrom_45 ?_
      refine g_iload_n2 rfl d_X11_valueFrom_46 ?_
      exact False.elim hok
noncomputable def f_X11_valueFrom0 (I : Nat → Nat → Int32) (x1 : Int32) (x2 : Int32) : Int32 := opv (if x1 = x2 then I 77 ((7 * x1) + 0).toNatClampNeg else (lp_X11_valueFrom0_24 x1 x2 (opq 10) 1000000 (-1) I).1)
noncomputable def m_X11_valueFrom0 (I : Nat → Nat → Int32) (x1 : Int32) (x2 : Int32) : Nat → Nat → Int32 := opv (if x1 = x2 then I else (lp_X11_valueFrom0_24 x1 x2 (opq 10) 1000000 (-1) I).2.2)
noncomputable def ok_X11_valueFrom0 (I : Nat → Nat → Int32) (x1 : Int32) (x2 : Int32) : Prop := opv (if x1 = x2 then vp_in ((7 * x1) + 0) (sz 77) else oklp_X11_valueFrom0_24 x1 x2 (opq 10) 1000000 (-1) I)
set_option maxHeartbeats 800000 in
set_option maxRecDepth 4000 in
theorem c_X11_valueFrom0 {k : KT} {ex : Bool} {J : Nat → Nat → Int64} {w : Bool} (I : Nat → Nat → Int32) (x1 : Int32) (x2 : Int32)  (hok : ok_X11_valueFrom0 I x1 x2) : Cx k mX11_valueFrom 6 [.ref (ka k 65), .int x1, .int x2] (81, ex, I, J, Pw w) (some (.int (f_X11_valueFrom0 I x1 x2))) (81, ex, m_X11_valueFrom0 I x1 x2, J, Pw w) := by
  refine Ct.of rfl [some (.ref (ka k 65)), some (.int x1), some (.int x2), none, none, none] rfl rfl (Nat.le_of_ble_eq_true rfl) ?_
  rw [ok_X11_valueFrom0, opv_eq] at hok
  refine g_iload_n1 rfl d_X11_valueFrom_0 ?_
  refine g_iload_n2 rfl d_X11_valueFrom_1 ?_
  refine g_icmp_ne 17 d_X11_valueFrom_2 (by decide) (fun h2 => ?_) (fun h2 => ?_)
  · skip
    rw [if_neg h2] at hok
    refine g_ldcw (v := 1000000) (in7 235 (by decide +kernel) rfl) d_X11_valueFrom_17 ?_
    refine g_isn3 rfl d_X11_valueFrom_20 ?_
    refine g_iconst (-1) d_X11_valueFrom_21 (by decide) ?_
    refine g_is4 rfl d_X11_valueFrom_22 ?_
    refine k_lp_X11_valueFrom0_24 x1 x2 _ 1000000 (-1) I hok ?_
    refine g_iload_n3 rfl d_X11_valueFrom_89 ?_
    exact g_iret rfl d_X11_valueFrom_90 ⟨by simp only [f_X11_valueFrom0, m_X11_valueFrom0, if_neg h2, opv_eq, if_true, if_false, Bool.false_eq_true, reduceCtorEq, b2i_t, b2i_f], by simp only [f_X11_valueFrom0, m_X11_valueFrom0, if_neg h2, opv_eq, if_true, if_false, Bool.false_eq_true, reduceCtorEq, b2i_t, b2i_f]⟩ (Nat.le_refl _) (Nat.le_refl _)
  · skip
    rw [if_pos h2] at hok
    refine g_aload_n0 rfl d_X11_valueFrom_5 ?_
    refine g_getP (b := 77) f_X11_47 d_X11_valueFrom_6 rfl (Nat.le_of_ble_eq_true rfl) rfl rfl ?_
    refine g_bipush 7 d_X11_valueFrom_9 (by decide) ?_
    refine g_iload_n1 rfl d_X11_valueFrom_11 ?_
    refine g_imul d_X11_valueFrom_12 ?_
    refine g_iconst 0 d_X11_valueFrom_13 (by decide) ?_
    refine g_iadd d_X11_valueFrom_14 ?_
    have ho2 := hok
    refine g_iald d_X11_valueFrom_15 rfl (Nat.le_of_ble_eq_true rfl) ho2 ?_
    exact g_iret rfl d_X11_valueFrom_16 ⟨by simp only [f_X11_valueFrom0, m_X11_valueFrom0, if_pos h2, opv_eq, if_true, if_false, Bool.false_eq_true, reduceCtorEq, b2i_t, b2i_f], by simp only [f_X11_valueFrom0, m_X11_valueFrom0, if_pos h2, opv_eq, if_true, if_false, Bool.false_eq_true, reduceCtorEq, b2i_t, b2i_f]⟩ (Nat.le_refl _) (Nat.le_refl _)
noncomputable def u0_X11_valueFrom1 (x1 : Int32) (x2 : Int32) (l3 : Int32) (l4 : Int32) (I1 : Nat → Nat → Int32) : Int32 := opv (if l3 = 1000000 then f_X11_valueFrom0 (m_X11_layLevel I1 x1 l4) (x1 + 1) x2 else (if (x1 - x1 / 2 * 2) = 0 then (if (f_X11_valueFrom0 (m_X11_layLevel I1 x1 l4) (x1 + 1) x2) ≤ l3 then l3 else f_X11_valueFrom0 (m_X11_layLevel I1 x1 l4) (x1 + 1) x2) else (if l3 ≤ (f_X11_valueFrom0 (m_X11_layLevel I1 x1 l4) (x1 + 1) x2) then l3 else f_X11_valueFrom0 (m_X11_layLevel I1 x1 l4) (x1 + 1) x2)))
noncomputable def lp_X11_valueFrom1_24 (x1 : Int32) (x2 : Int32) : Nat → Int32 → Int32 → (Nat → Nat → Int32) → Int32 × Int32 × (Nat → Nat → Int32)
  | 0, l3, l4, I1 => (l3, l4, I1)
  | n + 1, l3, l4, I1 => (if (I1 68 5) ≤ l4 then (l3, l4, I1) else (lp_X11_valueFrom1_24 x1 x2 n (u0_X11_valueFrom1 x1 x2 l3 l4 I1) (l4 + 1) (m_X11_valueFrom0 (m_X11_layLevel I1 x1 l4) (x1 + 1) x2)))
def oklp_X11_valueFrom1_24 (x1 : Int32) (x2 : Int32) : Nat → Int32 → Int32 → (Nat → Nat → Int32) → Prop
  | 0, l3, l4, I1 => False
  | n + 1, l3, l4, I1 => (if (I1 68 5) ≤ l4 then True else (ok_X11_layLevel I1 x1 l4 ∧ (ok_X11_valueFrom0 (m_X11_layLevel I1 x1 l4) (x1 + 1) x2 ∧ oklp_X11_valueFrom1_24 x1 x2 n (u0_X11_valueFrom1 x1 x2 l3 l4 I1) (l4 + 1) (m_X11_valueFrom0 (m_X11_layLevel I1 x1 l4) (x1 + 1) x2))))
set_option maxHeartbeats 800000 in
set_option maxRecDepth 4000 in
theorem k_lp_X11_valueFrom1_24 {k : KT} {ex : Bool} {J : Nat → Nat → Int64} {w : Bool} (x1 : Int32) (x2 : Int32) {F : FinT} : ∀ (n : Nat) (l3 : Int32) (l4 : Int32) (I1 : (Nat → Nat → Int32)), oklp_X11_valueFrom1_24 x1 x2 n l3 l4 I1 → G k mX11_valueFrom (roomOf 7 0 0) F 0 0 89 [some (.ref (ka k 65)), some (.int x1), some (.int x2), some (.int ((lp_X11_valueFrom1_24 x1 x2 n l3 l4 I1).1)), some (.int ((lp_X11_valueFrom1_24 x1 x2 n l3 l4 I1).2.1)), none] [] (81, ex, (lp_X11_valueFrom1_24 x1 x2 n l3 l4 I1).2.2, J, Pw w) → G k mX11_valueFrom (roomOf 7 0 0) F 0 0 24 [some (.ref (ka k 65)), some (.int x1), some (.int x2), some (.int l3), some (.int l4), none] [] (81, ex, I1, J, Pw w) := by
  intro n
  induction n with
  | zero => intro l3 l4 I1 hok hj; exact absurd hok (by rw [oklp_X11_valueFrom1_24]; exact id)
  | succ n ih =>
    intro l3 l4 I1 hok hj
    rw [oklp_X11_valueFrom1_24] at hok
    refine g_iload (i := 4) rfl d_X11_valueFrom_24 ?_
    refine g_aload_n0 rfl d_X11_valueFrom_26 ?_
    refine g_getP (b := 68) f_X11_20 d_X11_valueFrom_27 rfl (Nat.le_of_ble_eq_true rfl) rfl rfl ?_
    refine g_iconst 5 d_X11_valueFrom_30 (by decide) ?_
    refine g_ialdv (I1 68 5) rfl d_X11_valueFrom_31 rfl (Nat.le_of_ble_eq_true rfl) (vp_c (by decide +kernel)) ?_
    refine g_icmp_ge 89 d_X11_valueFrom_32 (by decide) (fun h1 => ?_) (fun h1 => ?_)
    · skip
      (try simp only [lp_X11_valueFrom1_24, if_pos h1, opv_eq, if_true, if_false, Bool.false_eq_true, reduceCtorEq, b2i_t, b2i_f] at hj); exact hj
    · skip
      rw [if_neg h1] at hok
      refine g_aload_n0 rfl d_X11_valueFrom_35 ?_
      refine g_iload_n1 rfl d_X11_valueFrom_36 ?_
      refine g_iload (i := 4) rfl d_X11_valueFrom_37 ?_
      obtain ⟨ho1, hok⟩ := hok
      refine g_callV0 (c_X11_layLevel I1 x1 l4 ho1) w_X11_layLevel l_X11_361 d_X11_valueFrom_39 rfl (Nat.le_of_ble_eq_true rfl) rfl rfl (Nat.le_of_ble_eq_true rfl) ⟨Nat.le_of_ble_eq_true rfl, Nat.le_of_ble_eq_true rfl⟩ ⟨Nat.zero_le _, Nat.zero_le _⟩ ⟨rfl, rfl⟩ ?_
      refine g_aload_n0 rfl d_X11_valueFrom_42 ?_
      refine g_iload_n1 rfl d_X11_valueFrom_43 ?_
      refine g_iconst 1 d_X11_valueFrom_44 (by decide) ?_
      refine g_iadd d_X11_valueFrom_45 ?_
      refine g_iload_n2 rfl d_X11_valueFrom_46 ?_
      obtain ⟨ho2, hok⟩ := hok
      refine g_callV1 (c_X11_valueFrom0 (m_X11_layLevel I1 x1 l4) (x1 + 1) x2 ho2) w_X11_valueFrom l_X11_364 d_X11_valueFrom_47 rfl (Nat.le_of_ble_eq_true rfl) rfl rfl (Nat.le_of_ble_eq_true rfl) ⟨Nat.le_of_ble_eq_true rfl, Nat.le_of_ble_eq_true rfl⟩ ⟨Nat.zero_le _, Nat.zero_le _⟩ ⟨rfl, rfl⟩ ?_
      refine g_is5 rfl d_X11_valueFrom_50 ?_
      refine g_iload_n3 rfl d_X11_valueFrom_52 ?_
      refine g_ldcw (v := 1000000) (in7 235 (by decide +kernel) rfl) d_X11_valueFrom_53 ?_
      refine g_cut (pc' := 83) (vs' := [some (.ref (ka k 65)), some (.int x1), some (.int x2), some (.int (u0_X11_valueFrom1 x1 x2 l3 l4 I1)), some (.int l4), some (.int (f_X11_valueFrom0 (m_X11_layLevel I1 x1 l4) (x1 + 1) x2))]) (st' := []) (M' := (81, ex, (m_X11_valueFrom0 (m_X11_layLevel I1 x1 l4) (x1 + 1) x2), J, Pw w)) (fun hj => ?_) ?_
      · skip
        refine g_icmp_eq 80 d_X11_valueFrom_56 (by decide) (fun h2 => ?_) (fun h2 => ?_)
        · skip
          refine g_iload (i := 5) rfl d_X11_valueFrom_80 ?_
          refine g_isn3 rfl d_X11_valueFrom_82 ?_
          (try simp only [if_pos h2, opv_eq, if_true, if_false, Bool.false_eq_true, reduceCtorEq, b2i_t, b2i_f, u0_X11_valueFrom1] at hj); exact hj
        · skip
          refine g_iload_n1 rfl d_X11_valueFrom_59 ?_
          refine g_iconst 2 d_X11_valueFrom_60 (by decide) ?_
          refine g_irem (by decide) d_X11_valueFrom_61 ?_
          refine g_if_ne 74 d_X11_valueFrom_62 (by decide) (fun h3 => ?_) (fun h3 => ?_)
          · skip
            refine g_iload (i := 5) rfl d_X11_valueFrom_74 ?_
            refine g_iload_n3 rfl d_X11_valueFrom_76 ?_
            refine g_icmp_ge 83 d_X11_valueFrom_77 (by decide) (fun h4 => ?_) (fun h4 => ?_)
            · skip
              (try simp only [if_neg h2, if_neg h3, if_pos h4, opv_eq, if_true, if_false, Bool.false_eq_true, reduceCtorEq, b2i_t, b2i_f, u0_X11_valueFrom1] at hj); exact hj
            · skip
              refine g_iload (i := 5) rfl d_X11_valueFrom_80 ?_
              refine g_isn3 rfl d_X11_valueFrom_82 ?_
              (try simp only [if_neg h2, if_neg h3, if_neg h4, opv_eq, if_true, if_false, Bool.false_eq_true, reduceCtorEq, b2i_t, b2i_f, u0_X11_valueFrom1] at hj); exact hj
          · skip
            refine g_iload (i := 5) rfl d_X11_valueFrom_65 ?_
            refine g_iload_n3 rfl d_X11_valueFrom_67 ?_
            refine g_icmp_le 83 d_X11_valueFrom_68 (by decide) (fun h5 => ?_) (fun h5 => ?_)
            · skip
              (try simp only [if_neg h2, if_pos h3, if_pos h5, opv_eq, if_true, if_false, Bool.false_eq_true, reduceCtorEq, b2i_t, b2i_f, u0_X11_valueFrom1] at hj); exact hj
            · skip
              refine g_goto 80 d_X11_valueFrom_71 (by decide) ?_
              refine g_iload (i := 5) rfl d_X11_valueFrom_80 ?_
              refine g_isn3 rfl d_X11_valueFrom_82 ?_
              (try simp only [if_neg h2, if_pos h3, if_neg h5, opv_eq, if_true, if_false, Bool.false_eq_true, reduceCtorEq, b2i_t, b2i_f, u0_X11_valueFrom1] at hj); exact hj
      · skip
        refine g_ic4 (l4 + 1) rfl rfl d_X11_valueFrom_83 ?_
        refine g_goto 24 d_X11_valueFrom_86 (by decide) ?_
        refine G.weak (wks (wks (wks (wks (wks (wkn wk0)))))) ?_; exact ih (u0_X11_valueFrom1 x1 x2 l3 l4 I1) (l4 + 1) (m_X11_valueFrom0 (m_X11_layLevel I1 x1 l4) (x1 + 1) x2) (by (try simp only [if_neg h1, opv_eq, if_true, if_false, Bool.false_eq_true, reduceCtorEq, b2i_t, b2i_f] at hok); exact hok) (by (try simp only [lp_X11_valueFrom1_24, if_neg h1, opv_eq, if_true, if_false, Bool.false_eq_true, reduceCtorEq, b2i_t, b2i_f] at hj); exact hj)
noncomputable def f_X11_valueFrom1 (I : Nat → Nat → Int32) (x1 : Int32) (x2 : Int32) : Int32 := opv (if x1 = x2 then I 77 ((7 * x1) + 0).toNatClampNeg else (lp_X11_valueFrom1_24 x1 x2 (opq 10) 1000000 (-1) I).1)
noncomputable def m_X11_valueFrom1 (I : Nat → Nat → Int32) (x1 : Int32) (x2 : Int32) : Nat → Nat → Int32 := opv (if x1 = x2 then I else (lp_X11_valueFrom1_24 x1 x2 (opq 10) 1000000 (-1) I).2.2)
noncomputable def ok_X11_valueFrom1 (I : Nat → Nat → Int32) (x1 : Int32) (x2 : Int32) : Prop := opv (if x1 = x2 then vp_in ((7 * x1) + 0) (sz 77) else oklp_X11_valueFrom1_24 x1 x2 (opq 10) 1000000 (-1) I)
set_option maxHeartbeats 800000 in
set_option maxRecDepth 4000 in
theorem c_X11_valueFrom1 {k : KT} {ex : Bool} {J : Nat → Nat → Int64} {w : Bool} (I : Nat → Nat → Int32) (x1 : Int32) (x2 : Int32)  (hok : ok_X11_valueFrom1 I x1 x2) : Cx k mX11_valueFrom 7 [.ref (ka k 65), .int x1, .int x2] (81, ex, I, J, Pw w) (some (.int (f_X11_valueFrom1 I x1 x2))) (81, ex, m_X11_valueFrom1 I x1 x2, J, Pw w) := by
  refine Ct.of rfl [some (.ref (ka k 65)), some (.int x1), some (.int x2), none, none, none] rfl rfl (Nat.le_of_ble_eq_true rfl) ?_
  rw [ok_X11_valueFrom1, opv_eq] at hok
  refine g_iload_n1 rfl d_X11_valueFrom_0 ?_
  refine g_iload_n2 rfl d_X11_valueFrom_1 ?_
  refine g_icmp_ne 17 d_X11_valueFrom_2 (by decide) (fun h6 => ?_) (fun h6 => ?_)
  · skip
    rw [if_neg h6] at hok
    refine g_ldcw (v := 1000000) (in7 235 (by decide +kernel) rfl) d_X11_valueFrom_17 ?_
    refine g_isn3 rfl d_X11_valueFrom_20 ?_
    refine g_iconst (-1) d_X11_valueFrom_21 (by decide) ?_
    refine g_is4 rfl d_X11_valueFrom_22 ?_
    refine k_lp_X11_valueFrom1_24 x1 x2 _ 1000000 (-1) I hok ?_
    refine g_iload_n3 rfl d_X11_valueFrom_89 ?_
    exact g_iret rfl d_X11_valueFrom_90 ⟨by simp only [f_X11_valueFrom1, m_X11_valueFrom1, if_neg h6, opv_eq, if_true, if_false, Bool.false_eq_true, reduceCtorEq, b2i_t, b2i_f], by simp only [f_X11_valueFrom1, m_X11_valueFrom1, if_neg h6, opv_eq, if_true, if_false, Bool.false_eq_true, reduceCtorEq, b2i_t, b2i_f]⟩ (Nat.le_refl _) (Nat.le_refl _)
  · skip
    rw [if_pos h6] at hok
    refine g_aload_n0 rfl d_X11_valueFrom_5 ?_
    refine g_getP (b := 77) f_X11_47 d_X11_valueFrom_6 rfl (Nat.le_of_ble_eq_true rfl) rfl rfl ?_
    refine g_bipush 7 d_X11_valueFrom_9 (by decide) ?_
    refine g_iload_n1 rfl d_X11_valueFrom_11 ?_
    refine g_imul d_X11_valueFrom_12 ?_
    refine g_iconst 0 d_X11_valueFrom_13 (by decide) ?_
    refine g_iadd d_X11_valueFrom_14 ?_
    have ho3 := hok
    refine g_iald d_X11_valueFrom_15 rfl (Nat.le_of_ble_eq_true rfl) ho3 ?_
    exact g_iret rfl d_X11_valueFrom_16 ⟨by simp only [f_X11_valueFrom1, m_X11_valueFrom1, if_pos h6, opv_eq, if_true, if_false, Bool.false_eq_true, reduceCtorEq, b2i_t, b2i_f], by simp only [f_X11_valueFrom1, m_X11_valueFrom1, if_pos h6, opv_eq, if_true, if_false, Bool.false_eq_true, reduceCtorEq, b2i_t, b2i_f]⟩ (Nat.le_refl _) (Nat.le_refl _)
noncomputable def u0_X11_valueFrom2 (x1 : Int32) (x2 : Int32) (l3 : Int32) (l4 : Int32) (I1 : Nat → Nat → Int32) : Int32 := opv (if l3 = 1000000 then f_X11_valueFrom1 (m_X11_layLevel I1 x1 l4) (x1 + 1) x2 else (if (x1 - x1 / 2 * 2) = 0 then (if (f_X11_valueFrom1 (m_X11_layLevel I1 x1 l4) (x1 + 1) x2) ≤ l3 then l3 else f_X11_valueFrom1 (m_X11_layLevel I1 x1 l4) (x1 + 1) x2) else (if l3 ≤ (f_X11_valueFrom1 (m_X11_layLevel I1 x1 l4) (x1 + 1) x2) then l3 else f_X11_valueFrom1 (m_X11_layLevel I1 x1 l4) (x1 + 1) x2)))
noncomputable def lp_X11_valueFrom2_24 (x1 : Int32) (x2 : Int32) : Nat → Int32 → Int32 → (Nat → Nat → Int32) → Int32 × Int32 × (Nat → Nat → Int32)
  | 0, l3, l4, I1 => (l3, l4, I1)
  | n + 1, l3, l4, I1 => (if (I1 68 5) ≤ l4 then (l3, l4, I1) else (lp_X11_valueFrom2_24 x1 x2 n (u0_X11_valueFrom2 x1 x2 l3 l4 I1) (l4 + 1) (m_X11_valueFrom1 (m_X11_layLevel I1 x1 l4) (x1 + 1) x2)))
def oklp_X11_valueFrom2_24 (x1 : Int32) (x2 : Int32) : Nat → Int32 → Int32 → (Nat → Nat → Int32) → Prop
  | 0, l3, l4, I1 => False
  | n + 1, l3, l4, I1 => (if (I1 68 5) ≤ l4 then True else (ok_X11_layLevel I1 x1 l4 ∧ (ok_X11_valueFrom1 (m_X11_layLevel I1 x1 l4) (x1 + 1) x2 ∧ oklp_X11_valueFrom2_24 x1 x2 n (u0_X11_valueFrom2 x1 x2 l3 l4 I1) (l4 + 1) (m_X11_valueFrom1 (m_X11_layLevel I1 x1 l4) (x1 + 1) x2))))
set_option maxHeartbeats 800000 in
set_option maxRecDepth 4000 in
theorem k_lp_X11_valueFrom2_24 {k : KT} {ex : Bool} {J : Nat → Nat → Int64} {w : Bool} (x1 : Int32) (x2 : Int32) {F : FinT} : ∀ (n : Nat) (l3 : Int32) (l4 : Int32) (I1 : (Nat → Nat → Int32)), oklp_X11_valueFrom2_24 x1 x2 n l3 l4 I1 → G k mX11_valueFrom (roomOf 8 0 0) F 0 0 89 [some (.ref (ka k 65)), some (.int x1), some (.int x2), some (.int ((lp_X11_valueFrom2_24 x1 x2 n l3 l4 I1).1)), some (.int ((lp_X11_valueFrom2_24 x1 x2 n l3 l4 I1).2.1)), none] [] (81, ex, (lp_X11_valueFrom2_24 x1 x2 n l3 l4 I1).2.2, J, Pw w) → G k mX11_valueFrom (roomOf 8 0 0) F 0 0 24 [some (.ref (ka k 65)), some (.int x1), some (.int x2), some (.int l3), some (.int l4), none] [] (81, ex, I1, J, Pw w) := by
  intro n
  induction n with
  | zero => intro l3 l4 I1 hok hj; exact absurd hok (by rw [oklp_X11_valueFrom2_24]; exact id)
  | succ n ih =>
    intro l3 l4 I1 hok hj
    rw [oklp_X11_valueFrom2_24] at hok
    refine g_iload (i := 4) rfl d_X11_valueFrom_24 ?_
    refine g_aload_n0 rfl d_X11_valueFrom_26 ?_
    refine g_getP (b := 68) f_X11_20 d_X11_valueFrom_27 rfl (Nat.le_of_ble_eq_true rfl) rfl rfl ?_
    refine g_iconst 5 d_X11_valueFrom_30 (by decide) ?_
    refine g_ialdv (I1 68 5) rfl d_X11_valueFrom_31 rfl (Nat.le_of_ble_eq_true rfl) (vp_c (by decide +kernel)) ?_
    refine g_icmp_ge 89 d_X11_valueFrom_32 (by decide) (fun h1 => ?_) (fun h1 => ?_)
    · skip
      (try simp only [lp_X11_valueFrom2_24, if_pos h1, opv_eq, if_true, if_false, Bool.false_eq_true, reduceCtorEq, b2i_t, b2i_f] at hj); exact hj
    · skip
      rw [if_neg h1] at hok
      refine g_aload_n0 rfl d_X11_valueFrom_35 ?_
      refine g_iload_n1 rfl d_X11_valueFrom_36 ?_
      refine g_iload (i := 4) rfl d_X11_valueFrom_37 ?_
      obtain ⟨ho1, hok⟩ := hok
      refine g_callV0 (c_X11_layLevel I1 x1 l4 ho1) w_X11_layLevel l_X11_361 d_X11_valueFrom_39 rfl (Nat.le_of_ble_eq_true rfl) rfl rfl (Nat.le_of_ble_eq_true rfl) ⟨Nat.le_of_ble_eq_true rfl, Nat.le_of_ble_eq_true rfl⟩ ⟨Nat.zero_le _, Nat.zero_le _⟩ ⟨rfl, rfl⟩ ?_
      refine g_aload_n0 rfl d_X11_valueFrom_42 ?_
      refine g_iload_n1 rfl d_X11_valueFrom_43 ?_
      refine g_iconst 1 d_X11_valueFrom_44 (by decide) ?_
      refine g_iadd d_X11_valueFrom_45 ?_
      refine g_iload_n2 rfl d_X11_valueFrom_46 ?_
      obtain ⟨ho2, hok⟩ := hok
      refine g_callV1 (c_X11_valueFrom1 (m_X11_layLevel I1 x1 l4) (x1 + 1) x2 ho2) w_X11_valueFrom l_X11_364 d_X11_valueFrom_47 rfl (Nat.le_of_ble_eq_true rfl) rfl rfl (Nat.le_of_ble_eq_true rfl) ⟨Nat.le_of_ble_eq_true rfl, Nat.le_of_ble_eq_true rfl⟩ ⟨Nat.zero_le _, Nat.zero_le _⟩ ⟨rfl, rfl⟩ ?_
      refine g_is5 rfl d_X11_valueFrom_50 ?_
      refine g_iload_n3 rfl d_X11_valueFrom_52 ?_
      refine g_ldcw (v := 1000000) (in7 235 (by decide +kernel) rfl) d_X11_valueFrom_53 ?_
      refine g_cut (pc' := 83) (vs' := [some (.ref (ka k 65)), some (.int x1), some (.int x2), some (.int (u0_X11_valueFrom2 x1 x2 l3 l4 I1)), some (.int l4), some (.int (f_X11_valueFrom1 (m_X11_layLevel I1 x1 l4) (x1 + 1) x2))]) (st' := []) (M' := (81, ex, (m_X11_valueFrom1 (m_X11_layLevel I1 x1 l4) (x1 + 1) x2), J, Pw w)) (fun hj => ?_) ?_
      · skip
        refine g_icmp_eq 80 d_X11_valueFrom_56 (by decide) (fun h2 => ?_) (fun h2 => ?_)
        · skip
          refine g_iload (i := 5) rfl d_X11_valueFrom_80 ?_
          refine g_isn3 rfl d_X11_valueFrom_82 ?_
          (try simp only [if_pos h2, opv_eq, if_true, if_false, Bool.false_eq_true, reduceCtorEq, b2i_t, b2i_f, u0_X11_valueFrom2] at hj); exact hj
        · skip
          refine g_iload_n1 rfl d_X11_valueFrom_59 ?_
          refine g_iconst 2 d_X11_valueFrom_60 (by decide) ?_
          refine g_irem (by decide) d_X11_valueFrom_61 ?_
          refine g_if_ne 74 d_X11_valueFrom_62 (by decide) (fun h3 => ?_) (fun h3 => ?_)
          · skip
            refine g_iload (i := 5) rfl d_X11_valueFrom_74 ?_
            refine g_iload_n3 rfl d_X11_valueFrom_76 ?_
            refine g_icmp_ge 83 d_X11_valueFrom_77 (by decide) (fun h4 => ?_) (fun h4 => ?_)
            · skip
              (try simp only [if_neg h2, if_neg h3, if_pos h4, opv_eq, if_true, if_false, Bool.false_eq_true, reduceCtorEq, b2i_t, b2i_f, u0_X11_valueFrom2] at hj); exact hj
            · skip
              refine g_iload (i := 5) rfl d_X11_valueFrom_80 ?_
              refine g_isn3 rfl d_X11_valueFrom_82 ?_
              (try simp only [if_neg h2, if_neg h3, if_neg h4, opv_eq, if_true, if_false, Bool.false_eq_true, reduceCtorEq, b2i_t, b2i_f, u0_X11_valueFrom2] at hj); exact hj
          · skip
            refine g_iload (i := 5) rfl d_X11_valueFrom_65 ?_
            refine g_iload_n3 rfl d_X11_valueFrom_67 ?_
            refine g_icmp_le 83 d_X11_valueFrom_68 (by decide) (fun h5 => ?_) (fun h5 => ?_)
            · skip
              (try simp only [if_neg h2, if_pos h3, if_pos h5, opv_eq, if_true, if_false, Bool.false_eq_true, reduceCtorEq, b2i_t, b2i_f, u0_X11_valueFrom2] at hj); exact hj
            · skip
              refine g_goto 80 d_X11_valueFrom_71 (by decide) ?_
              refine g_iload (i := 5) rfl d_X11_valueFrom_80 ?_
              refine g_isn3 rfl d_X11_valueFrom_82 ?_
              (try simp only [if_neg h2, if_pos h3, if_neg h5, opv_eq, if_true, if_false, Bool.false_eq_true, reduceCtorEq, b2i_t, b2i_f, u0_X11_valueFrom2] at hj); exact hj
      · skip
        refine g_ic4 (l4 + 1) rfl rfl d_X11_valueFrom_83 ?_
        refine g_goto 24 d_X11_valueFrom_86 (by decide) ?_
        refine G.weak (wks (wks (wks (wks (wks (wkn wk0)))))) ?_; exact ih (u0_X11_valueFrom2 x1 x2 l3 l4 I1) (l4 + 1) (m_X11_valueFrom1 (m_X11_layLevel I1 x1 l4) (x1 + 1) x2) (by (try simp only [if_neg h1, opv_eq, if_true, if_false, Bool.false_eq_true, reduceCtorEq, b2i_t, b2i_f] at hok); exact hok) (by (try simp only [lp_X11_valueFrom2_24, if_neg h1, opv_eq, if_true, if_false, Bool.false_eq_true, reduceCtorEq, b2i_t, b2i_f] at hj); exact hj)
noncomputable def f_X11_valueFrom2 (I : Nat → Nat → Int32) (x1 : Int32) (x2 : Int32) : Int32 := opv (if x1 = x2 then I 77 ((7 * x1) + 0).toNatClampNeg else (lp_X11_valueFrom2_24 x1 x2 (opq 10) 1000000 (-1) I).1)
noncomputable def m_X11_valueFrom2 (I : Nat → Nat → Int32) (x1 : Int32) (x2 : Int32) : Nat → Nat → Int32 := opv (if x1 = x2 then I else (lp_X11_valueFrom2_24 x1 x2 (opq 10) 1000000 (-1) I).2.2)
noncomputable def ok_X11_valueFrom2 (I : Nat → Nat → Int32) (x1 : Int32) (x2 : Int32) : Prop := opv (if x1 = x2 then vp_in ((7 * x1) + 0) (sz 77) else oklp_X11_valueFrom2_24 x1 x2 (opq 10) 1000000 (-1) I)
set_option maxHeartbeats 800000 in
set_option maxRecDepth 4000 in
theorem c_X11_valueFrom2 {k : KT} {ex : Bool} {J : Nat → Nat → Int64} {w : Bool} (I : Nat → Nat → Int32) (x1 : Int32) (x2 : Int32)  (hok : ok_X11_valueFrom2 I x1 x2) : Cx k mX11_valueFrom 8 [.ref (ka k 65), .int x1, .int x2] (81, ex, I, J, Pw w) (some (.int (f_X11_valueFrom2 I x1 x2))) (81, ex, m_X11_valueFrom2 I x1 x2, J, Pw w) := by
  refine Ct.of rfl [some (.ref (ka k 65)), some (.int x1), some (.int x2), none, none, none] rfl rfl (Nat.le_of_ble_eq_true rfl) ?_
  rw [ok_X11_valueFrom2, opv_eq] at hok
  refine g_iload_n1 rfl d_X11_valueFrom_0 ?_
  refine g_iload_n2 rfl d_X11_valueFrom_1 ?_
  refine g_icmp_ne 17 d_X11_valueFrom_2 (by decide) (fun h6 => ?_) (fun h6 => ?_)
  · skip
    rw [if_neg h6] at hok
    refine g_ldcw (v := 1000000) (in7 235 (by decide +kernel) rfl) d_X11_valueFrom_17 ?_
    refine g_isn3 rfl d_X11_valueFrom_20 ?_
    refine g_iconst (-1) d_X11_valueFrom_21 (by decide) ?_
    refine g_is4 rfl d_X11_valueFrom_22 ?_
    refine k_lp_X11_valueFrom2_24 x1 x2 _ 1000000 (-1) I hok ?_
    refine g_iload_n3 rfl d_X11_valueFrom_89 ?_
    exact g_iret rfl d_X11_valueFrom_90 ⟨by simp only [f_X11_valueFrom2, m_X11_valueFrom2, if_neg h6, opv_eq, if_true, if_false, Bool.false_eq_true, reduceCtorEq, b2i_t, b2i_f], by simp only [f_X11_valueFrom2, m_X11_valueFrom2, if_neg h6, opv_eq, if_true, if_false, Bool.false_eq_true, reduceCtorEq, b2i_t, b2i_f]⟩ (Nat.le_refl _) (Nat.le_refl _)
  · skip
    rw [if_pos h6] at hok
    refine g_aload_n0 rfl d_X11_valueFrom_5 ?_
    refine g_getP (b := 77) f_X11_47 d_X11_valueFrom_6 rfl (Nat.le_of_ble_eq_true rfl) rfl rfl ?_
    refine g_bipush 7 d_X11_valueFrom_9 (by decide) ?_
    refine g_iload_n1 rfl d_X11_valueFrom_11 ?_
    refine g_imul d_X11_valueFrom_12 ?_
    refine g_iconst 0 d_X11_valueFrom_13 (by decide) ?_
    refine g_iadd d_X11_valueFrom_14 ?_
    have ho3 := hok
    refine g_iald d_X11_valueFrom_15 rfl (Nat.le_of_ble_eq_true rfl) ho3 ?_
    exact g_iret rfl d_X11_valueFrom_16 ⟨by simp only [f_X11_valueFrom2, m_X11_valueFrom2, if_pos h6, opv_eq, if_true, if_false, Bool.false_eq_true, reduceCtorEq, b2i_t, b2i_f], by simp only [f_X11_valueFrom2, m_X11_valueFrom2, if_pos h6, opv_eq, if_true, if_false, Bool.false_eq_true, reduceCtorEq, b2i_t, b2i_f]⟩ (Nat.le_refl _) (Nat.le_refl _)
noncomputable def u0_X11_valueFrom3 (x1 : Int32) (x2 : Int32) (l3 : Int32) (l4 : Int32) (I1 : Nat → Nat → Int32) : Int32 := opv (if l3 = 1000000 then f_X11_valueFrom2 (m_X11_layLevel I1 x1 l4) (x1 + 1) x2 else (if (x1 - x1 / 2 * 2) = 0 then (if (f_X11_valueFrom2 (m_X11_layLevel I1 x1 l4) (x1 + 1) x2) ≤ l3 then l3 else f_X11_valueFrom2 (m_X11_layLevel I1 x1 l4) (x1 + 1) x2) else (if l3 ≤ (f_X11_valueFrom2 (m_X11_layLevel I1 x1 l4) (x1 + 1) x2) then l3 else f_X11_valueFrom2 (m_X11_layLevel I1 x1 l4) (x1 + 1) x2)))
noncomputable def lp_X11_valueFrom3_24 (x1 : Int32) (x2 : Int32) : Nat → Int32 → Int32 → (Nat → Nat → Int32) → Int32 × Int32 × (Nat → Nat → Int32)
  | 0, l3, l4, I1 => (l3, l4, I1)
  | n + 1, l3, l4, I1 => (if (I1 68 5) ≤ l4 then (l3, l4, I1) else (lp_X11_valueFrom3_24 x1 x2 n (u0_X11_valueFrom3 x1 x2 l3 l4 I1) (l4 + 1) (m_X11_valueFrom2 (m_X11_layLevel I1 x1 l4) (x1 + 1) x2)))
def oklp_X11_valueFrom3_24 (x1 : Int32) (x2 : Int32) : Nat → Int32 → Int32 → (Nat → Nat → Int32) → Prop
  | 0, l3, l4, I1 => False
  | n + 1, l3, l4, I1 => (if (I1 68 5) ≤ l4 then True else (ok_X11_layLevel I1 x1 l4 ∧ (ok_X11_valueFrom2 (m_X11_layLevel I1 x1 l4) (x1 + 1) x2 ∧ oklp_X11_valueFrom3_24 x1 x2 n (u0_X11_valueFrom3 x1 x2 l3 l4 I1) (l4 + 1) (m_X11_valueFrom2 (m_X11_layLevel I1 x1 l4) (x1 + 1) x2))))
set_option maxHeartbeats 800000 in
set_option maxRecDepth 4000 in
theorem k_lp_X11_valueFrom3_24 {k : KT} {ex : Bool} {J : Nat → Nat → Int64} {w : Bool} (x1 : Int32) (x2 : Int32) {F : FinT} : ∀ (n : Nat) (l3 : Int32) (l4 : Int32) (I1 : (Nat → Nat → Int32)), oklp_X11_valueFrom3_24 x1 x2 n l3 l4 I1 → G k mX11_valueFrom (roomOf 9 0 0) F 0 0 89 [some (.ref (ka k 65)), some (.int x1), some (.int x2), some (.int ((lp_X11_valueFrom3_24 x1 x2 n l3 l4 I1).1)), some (.int ((lp_X11_valueFrom3_24 x1 x2 n l3 l4 I1).2.1)), none] [] (81, ex, (lp_X11_valueFrom3_24 x1 x2 n l3 l4 I1).2.2, J, Pw w) → G k mX11_valueFrom (roomOf 9 0 0) F 0 0 24 [some (.ref (ka k 65)), some (.int x1), some (.int x2), some (.int l3), some (.int l4), none] [] (81, ex, I1, J, Pw w) := by
  intro n
  induction n with
  | zero => intro l3 l4 I1 hok hj; exact absurd hok (by rw [oklp_X11_valueFrom3_24]; exact id)
  | succ n ih =>
    intro l3 l4 I1 hok hj
    rw [oklp_X11_valueFrom3_24] at hok
    refine g_iload (i := 4) rfl d_X11_valueFrom_24 ?_
    refine g_aload_n0 rfl d_X11_valueFrom_26 ?_
    refine g_getP (b := 68) f_X11_20 d_X11_valueFrom_27 rfl (Nat.le_of_ble_eq_true rfl) rfl rfl ?_
    refine g_iconst 5 d_X11_valueFrom_30 (by decide) ?_
    refine g_ialdv (I1 68 5) rfl d_X11_valueFrom_31 rfl (Nat.le_of_ble_eq_true rfl) (vp_c (by decide +kernel)) ?_
    refine g_icmp_ge 89 d_X11_valueFrom_32 (by decide) (fun h1 => ?_) (fun h1 => ?_)
    · skip
      (try simp only [lp_X11_valueFrom3_24, if_pos h1, opv_eq, if_true, if_false, Bool.false_eq_true, reduceCtorEq, b2i_t, b2i_f] at hj); exact hj
    · skip
      rw [if_neg h1] at hok
      refine g_aload_n0 rfl d_X11_valueFrom_35 ?_
      refine g_iload_n1 rfl d_X11_valueFrom_36 ?_
      refine g_iload (i := 4) rfl d_X11_valueFrom_37 ?_
      obtain ⟨ho1, hok⟩ := hok
      refine g_callV0 (c_X11_layLevel I1 x1 l4 ho1) w_X11_layLevel l_X11_361 d_X11_valueFrom_39 rfl (Nat.le_of_ble_eq_true rfl) rfl rfl (Nat.le_of_ble_eq_true rfl) ⟨Nat.le_of_ble_eq_true rfl, Nat.le_of_ble_eq_true rfl⟩ ⟨Nat.zero_le _, Nat.zero_le _⟩ ⟨rfl, rfl⟩ ?_
      refine g_aload_n0 rfl d_X11_valueFrom_42 ?_
      refine g_iload_n1 rfl d_X11_valueFrom_43 ?_
      refine g_iconst 1 d_X11_valueFrom_44 (by decide) ?_
      refine g_iadd d_X11_valueFrom_45 ?_
      refine g_iload_n2 rfl d_X11_valueFrom_46 ?_
      obtain ⟨ho2, hok⟩ := hok
      refine g_callV1 (c_X11_valueFrom2 (m_X11_layLevel I1 x1 l4) (x1 + 1) x2 ho2) w_X11_valueFrom l_X11_364 d_X11_valueFrom_47 rfl (Nat.le_of_ble_eq_true rfl) rfl rfl (Nat.le_of_ble_eq_true rfl) ⟨Nat.le_of_ble_eq_true rfl, Nat.le_of_ble_eq_true rfl⟩ ⟨Nat.zero_le _, Nat.zero_le _⟩ ⟨rfl, rfl⟩ ?_
      refine g_is5 rfl d_X11_valueFrom_50 ?_
      refine g_iload_n3 rfl d_X11_valueFrom_52 ?_
      refine g_ldcw (v := 1000000) (in7 235 (by decide +kernel) rfl) d_X11_valueFrom_53 ?_
      refine g_cut (pc' := 83) (vs' := [some (.ref (ka k 65)), some (.int x1), some (.int x2), some (.int (u0_X11_valueFrom3 x1 x2 l3 l4 I1)), some (.int l4), some (.int (f_X11_valueFrom2 (m_X11_layLevel I1 x1 l4) (x1 + 1) x2))]) (st' := []) (M' := (81, ex, (m_X11_valueFrom2 (m_X11_layLevel I1 x1 l4) (x1 + 1) x2), J, Pw w)) (fun hj => ?_) ?_
      · skip
        refine g_icmp_eq 80 d_X11_valueFrom_56 (by decide) (fun h2 => ?_) (fun h2 => ?_)
        · skip
          refine g_iload (i := 5) rfl d_X11_valueFrom_80 ?_
          refine g_isn3 rfl d_X11_valueFrom_82 ?_
          (try simp only [if_pos h2, opv_eq, if_true, if_false, Bool.false_eq_true, reduceCtorEq, b2i_t, b2i_f, u0_X11_valueFrom3] at hj); exact hj
        · skip
          refine g_iload_n1 rfl d_X11_valueFrom_59 ?_
          refine g_iconst 2 d_X11_valueFrom_60 (by decide) ?_
          refine g_irem (by decide) d_X11_valueFrom_61 ?_
          refine g_if_ne 74 d_X11_valueFrom_62 (by decide) (fun h3 => ?_) (fun h3 => ?_)
          · skip
            refine g_iload (i := 5) rfl d_X11_valueFrom_74 ?_
            refine g_iload_n3 rfl d_X11_valueFrom_76 ?_
            refine g_icmp_ge 83 d_X11_valueFrom_77 (by decide) (fun h4 => ?_) (fun h4 => ?_)
            · skip
              (try simp only [if_neg h2, if_neg h3, if_pos h4, opv_eq, if_true, if_false, Bool.false_eq_true, reduceCtorEq, b2i_t, b2i_f, u0_X11_valueFrom3] at hj); exact hj
            · skip
              refine g_iload (i := 5) rfl d_X11_valueFrom_80 ?_
              refine g_isn3 rfl d_X11_valueFrom_82 ?_
              (try simp only [if_neg h2, if_neg h3, if_neg h4, opv_eq, if_true, if_false, Bool.false_eq_true, reduceCtorEq, b2i_t, b2i_f, u0_X11_valueFrom3] at hj); exact hj
          · skip
            refine g_iload (i := 5) rfl d_X11_valueFrom_65 ?_
            refine g_iload_n3 rfl d_X11_valueFrom_67 ?_
            refine g_icmp_le 83 d_X11_valueFrom_68 (by decide) (fun h5 => ?_) (fun h5 => ?_)
            · skip
              (try simp only [if_neg h2, if_pos h3, if_pos h5, opv_eq, if_true, if_false, Bool.false_eq_true, reduceCtorEq, b2i_t, b2i_f, u0_X11_valueFrom3] at hj); exact hj
            · skip
              refine g_goto 80 d_X11_valueFrom_71 (by decide) ?_
              refine g_iload (i := 5) rfl d_X11_valueFrom_80 ?_
              refine g_isn3 rfl d_X11_valueFrom_82 ?_
              (try simp only [if_neg h2, if_pos h3, if_neg h5, opv_eq, if_true, if_false, Bool.false_eq_true, reduceCtorEq, b2i_t, b2i_f, u0_X11_valueFrom3] at hj); exact hj
      · skip
        refine g_ic4 (l4 + 1) rfl rfl d_X11_valueFrom_83 ?_
        refine g_goto 24 d_X11_valueFrom_86 (by decide) ?_
        refine G.weak (wks (wks (wks (wks (wks (wkn wk0)))))) ?_; exact ih (u0_X11_valueFrom3 x1 x2 l3 l4 I1) (l4 + 1) (m_X11_valueFrom2 (m_X11_layLevel I1 x1 l4) (x1 + 1) x2) (by (try simp only [if_neg h1, opv_eq, if_true, if_false, Bool.false_eq_true, reduceCtorEq, b2i_t, b2i_f] at hok); exact hok) (by (try simp only [lp_X11_valueFrom3_24, if_neg h1, opv_eq, if_true, if_false, Bool.false_eq_true, reduceCtorEq, b2i_t, b2i_f] at hj); exact hj)
noncomputable def f_X11_valueFrom3 (I : Nat → Nat → Int32) (x1 : Int32) (x2 : Int32) : Int32 := opv (if x1 = x2 then I 77 ((7 * x1) + 0).toNatClampNeg else (lp_X11_valueFrom3_24 x1 x2 (opq 10) 1000000 (-1) I).1)
noncomputable def m_X11_valueFrom3 (I : Nat → Nat → Int32) (x1 : Int32) (x2 : Int32) : Nat → Nat → Int32 := opv (if x1 = x2 then I else (lp_X11_valueFrom3_24 x1 x2 (opq 10) 1000000 (-1) I).2.2)
noncomputable def ok_X11_valueFrom3 (I : Nat → Nat → Int32) (x1 : Int32) (x2 : Int32) : Prop := opv (if x1 = x2 then vp_in ((7 * x1) + 0) (sz 77) else oklp_X11_valueFrom3_24 x1 x2 (opq 10) 1000000 (-1) I)
set_option maxHeartbeats 800000 in
set_option maxRecDepth 4000 in
theorem c_X11_valueFrom3 {k : KT} {ex : Bool} {J : Nat → Nat → Int64} {w : Bool} (I : Nat → Nat → Int32) (x1 : Int32) (x2 : Int32)  (hok : ok_X11_valueFrom3 I x1 x2) : Cx k mX11_valueFrom 9 [.ref (ka k 65), .int x1, .int x2] (81, ex, I, J, Pw w) (some (.int (f_X11_valueFrom3 I x1 x2))) (81, ex, m_X11_valueFrom3 I x1 x2, J, Pw w) := by
  refine Ct.of rfl [some (.ref (ka k 65)), some (.int x1), some (.int x2), none, none, none] rfl rfl (Nat.le_of_ble_eq_true rfl) ?_
  rw [ok_X11_valueFrom3, opv_eq] at hok
  refine g_iload_n1 rfl d_X11_valueFrom_0 ?_
  refine g_iload_n2 rfl d_X11_valueFrom_1 ?_
  refine g_icmp_ne 17 d_X11_valueFrom_2 (by decide) (fun h6 => ?_) (fun h6 => ?_)
  · skip
    rw [if_neg h6] at hok
    refine g_ldcw (v := 1000000) (in7 235 (by decide +kernel) rfl) d_X11_valueFrom_17 ?_
    refine g_isn3 rfl d_X11_valueFrom_20 ?_
    refine g_iconst (-1) d_X11_valueFrom_21 (by decide) ?_
    refine g_is4 rfl d_X11_valueFrom_22 ?_
    refine k_lp_X11_valueFrom3_24 x1 x2 _ 1000000 (-1) I hok ?_
    refine g_iload_n3 rfl d_X11_valueFrom_89 ?_
    exact g_iret rfl d_X11_valueFrom_90 ⟨by simp only [f_X11_valueFrom3, m_X11_valueFrom3, if_neg h6, opv_eq, if_true, if_false, Bool.false_eq_true, reduceCtorEq, b2i_t, b2i_f], by simp only [f_X11_valueFrom3, m_X11_valueFrom3, if_neg h6, opv_eq, if_true, if_false, Bool.false_eq_true, reduceCtorEq, b2i_t, b2i_f]⟩ (Nat.le_refl _) (Nat.le_refl _)
  · skip
    rw [if_pos h6] at hok
    refine g_aload_n0 rfl d_X11_valueFrom_5 ?_
    refine g_getP (b := 77) f_X11_47 d_X11_valueFrom_6 rfl (Nat.le_of_ble_eq_true rfl) rfl rfl ?_
    refine g_bipush 7 d_X11_valueFrom_9 (by decide) ?_
    refine g_iload_n1 rfl d_X11_valueFrom_11 ?_
    refine g_imul d_X11_valueFrom_12 ?_
    refine g_iconst 0 d_X11_valueFrom_13 (by decide) ?_
    refine g_iadd d_X11_valueFrom_14 ?_
    have ho3 := hok
    refine g_iald d_X11_valueFrom_15 rfl (Nat.le_of_ble_eq_true rfl) ho3 ?_
    exact g_iret rfl d_X11_valueFrom_16 ⟨by simp only [f_X11_valueFrom3, m_X11_valueFrom3, if_pos h6, opv_eq, if_true, if_false, Bool.false_eq_true, reduceCtorEq, b2i_t, b2i_f], by simp only [f_X11_valueFrom3, m_X11_valueFrom3, if_pos h6, opv_eq, if_true, if_false, Bool.false_eq_true, reduceCtorEq, b2i_t, b2i_f]⟩ (Nat.le_refl _) (Nat.le_refl _)
noncomputable def u0_X11_valueFrom4 (x1 : Int32) (x2 : Int32) (l3 : Int32) (l4 : Int32) (I1 : Nat → Nat → Int32) : Int32 := opv (if l3 = 1000000 then f_X11_valueFrom3 (m_X11_layLevel I1 x1 l4) (x1 + 1) x2 else (if (x1 - x1 / 2 * 2) = 0 then (if (f_X11_valueFrom3 (m_X11_layLevel I1 x1 l4) (x1 + 1) x2) ≤ l3 then l3 else f_X11_valueFrom3 (m_X11_layLevel I1 x1 l4) (x1 + 1) x2) else (if l3 ≤ (f_X11_valueFrom3 (m_X11_layLevel I1 x1 l4) (x1 + 1) x2) then l3 else f_X11_valueFrom3 (m_X11_layLevel I1 x1 l4) (x1 + 1) x2)))
noncomputable def lp_X11_valueFrom4_24 (x1 : Int32) (x2 : Int32) : Nat → Int32 → Int32 → (Nat → Nat → Int32) → Int32 × Int32 × (Nat → Nat → Int32)
  | 0, l3, l4, I1 => (l3, l4, I1)
  | n + 1, l3, l4, I1 => (if (I1 68 5) ≤ l4 then (l3, l4, I1) else (lp_X11_valueFrom4_24 x1 x2 n (u0_X11_valueFrom4 x1 x2 l3 l4 I1) (l4 + 1) (m_X11_valueFrom3 (m_X11_layLevel I1 x1 l4) (x1 + 1) x2)))
def oklp_X11_valueFrom4_24 (x1 : Int32) (x2 : Int32) : Nat → Int32 → Int32 → (Nat → Nat → Int32) → Prop
  | 0, l3, l4, I1 => False
  | n + 1, l3, l4, I1 => (if (I1 68 5) ≤ l4 then True else (ok_X11_layLevel I1 x1 l4 ∧ (ok_X11_valueFrom3 (m_X11_layLevel I1 x1 l4) (x1 + 1) x2 ∧ oklp_X11_valueFrom4_24 x1 x2 n (u0_X11_valueFrom4 x1 x2 l3 l4 I1) (l4 + 1) (m_X11_valueFrom3 (m_X11_layLevel I1 x1 l4) (x1 + 1) x2))))
set_option maxHeartbeats 800000 in
set_option maxRecDepth 4000 in
theorem k_lp_X11_valueFrom4_24 {k : KT} {ex : Bool} {J : Nat → Nat → Int64} {w : Bool} (x1 : Int32) (x2 : Int32) {F : FinT} : ∀ (n : Nat) (l3 : Int32) (l4 : Int32) (I1 : (Nat → Nat → Int32)), oklp_X11_valueFrom4_24 x1 x2 n l3 l4 I1 → G k mX11_valueFrom (roomOf 10 0 0) F 0 0 89 [some (.ref (ka k 65)), some (.int x1), some (.int x2), some (.int ((lp_X11_valueFrom4_24 x1 x2 n l3 l4 I1).1)), some (.int ((lp_X11_valueFrom4_24 x1 x2 n l3 l4 I1).2.1)), none] [] (81, ex, (lp_X11_valueFrom4_24 x1 x2 n l3 l4 I1).2.2, J, Pw w) → G k mX11_valueFrom (roomOf 10 0 0) F 0 0 24 [some (.ref (ka k 65)), some (.int x1), some (.int x2), some (.int l3), some (.int l4), none] [] (81, ex, I1, J, Pw w) := by
  intro n
  induction n with
  | zero => intro l3 l4 I1 hok hj; exact absurd hok (by rw [oklp_X11_valueFrom4_24]; exact id)
  | succ n ih =>
    intro l3 l4 I1 hok hj
    rw [oklp_X11_valueFrom4_24] at hok
    refine g_iload (i := 4) rfl d_X11_valueFrom_24 ?_
    refine g_aload_n0 rfl d_X11_valueFrom_26 ?_
    refine g_getP (b := 68) f_X11_20 d_X11_valueFrom_27 rfl (Nat.le_of_ble_eq_true rfl) rfl rfl ?_
    refine g_iconst 5 d_X11_valueFrom_30 (by decide) ?_
    refine g_ialdv (I1 68 5) rfl d_X11_valueFrom_31 rfl (Nat.le_of_ble_eq_true rfl) (vp_c (by decide +kernel)) ?_
    refine g_icmp_ge 89 d_X11_valueFrom_32 (by decide) (fun h1 => ?_) (fun h1 => ?_)
    · skip
      (try simp only [lp_X11_valueFrom4_24, if_pos h1, opv_eq, if_true, if_false, Bool.false_eq_true, reduceCtorEq, b2i_t, b2i_f] at hj); exact hj
    · skip
      rw [if_neg h1] at hok
      refine g_aload_n0 rfl d_X11_valueFrom_35 ?_
      refine g_iload_n1 rfl d_X11_valueFrom_36 ?_
      refine g_iload (i := 4) rfl d_X11_valueFrom_37 ?_
      obtain ⟨ho1, hok⟩ := hok
      refine g_callV0 (c_X11_layLevel I1 x1 l4 ho1) w_X11_layLevel l_X11_361 d_X11_valueFrom_39 rfl (Nat.le_of_ble_eq_true rfl) rfl rfl (Nat.le_of_ble_eq_true rfl) ⟨Nat.le_of_ble_eq_true rfl, Nat.le_of_ble_eq_true rfl⟩ ⟨Nat.zero_le _, Nat.zero_le _⟩ ⟨rfl, rfl⟩ ?_
      refine g_aload_n0 rfl d_X11_valueFrom_42 ?_
      refine g_iload_n1 rfl d_X11_valueFrom_43 ?_
      refine g_iconst 1 d_X11_valueFrom_44 (by decide) ?_
      refine g_iadd d_X11_valueFrom_45 ?_
      refine g_iload_n2 rfl d_X11_valueFrom_46 ?_
      obtain ⟨ho2, hok⟩ := hok
      refine g_callV1 (c_X11_valueFrom3 (m_X11_layLevel I1 x1 l4) (x1 + 1) x2 ho2) w_X11_valueFrom l_X11_364 d_X11_valueFrom_47 rfl (Nat.le_of_ble_eq_true rfl) rfl rfl (Nat.le_of_ble_eq_true rfl) ⟨Nat.le_of_ble_eq_true rfl, Nat.le_of_ble_eq_true rfl⟩ ⟨Nat.zero_le _, Nat.zero_le _⟩ ⟨rfl, rfl⟩ ?_
      refine g_is5 rfl d_X11_valueFrom_50 ?_
      refine g_iload_n3 rfl d_X11_valueFrom_52 ?_
      refine g_ldcw (v := 1000000) (in7 235 (by decide +kernel) rfl) d_X11_valueFrom_53 ?_
      refine g_cut (pc' := 83) (vs' := [some (.ref (ka k 65)), some (.int x1), some (.int x2), some (.int (u0_X11_valueFrom4 x1 x2 l3 l4 I1)), some (.int l4), some (.int (f_X11_valueFrom3 (m_X11_layLevel I1 x1 l4) (x1 + 1) x2))]) (st' := []) (M' := (81, ex, (m_X11_valueFrom3 (m_X11_layLevel I1 x1 l4) (x1 + 1) x2), J, Pw w)) (fun hj => ?_) ?_
      · skip
        refine g_icmp_eq 80 d_X11_valueFrom_56 (by decide) (fun h2 => ?_) (fun h2 => ?_)
        · skip
          refine g_iload (i := 5) rfl d_X11_valueFrom_80 ?_
          refine g_isn3 rfl d_X11_valueFrom_82 ?_
          (try simp only [if_pos h2, opv_eq, if_true, if_false, Bool.false_eq_true, reduceCtorEq, b2i_t, b2i_f, u0_X11_valueFrom4] at hj); exact hj
        · skip
          refine g_iload_n1 rfl d_X11_valueFrom_59 ?_
          refine g_iconst 2 d_X11_valueFrom_60 (by decide) ?_
          refine g_irem (by decide) d_X11_valueFrom_61 ?_
          refine g_if_ne 74 d_X11_valueFrom_62 (by decide) (fun h3 => ?_) (fun h3 => ?_)
          · skip
            refine g_iload (i := 5) rfl d_X11_valueFrom_74 ?_
            refine g_iload_n3 rfl d_X11_valueFrom_76 ?_
            refine g_icmp_ge 83 d_X11_valueFrom_77 (by decide) (fun h4 => ?_) (fun h4 => ?_)
            · skip
              (try simp only [if_neg h2, if_neg h3, if_pos h4, opv_eq, if_true, if_false, Bool.false_eq_true, reduceCtorEq, b2i_t, b2i_f, u0_X11_valueFrom4] at hj); exact hj
            · skip
              refine g_iload (i := 5) rfl d_X11_valueFrom_80 ?_
              refine g_isn3 rfl d_X11_valueFrom_82 ?_
              (try simp only [if_neg h2, if_neg h3, if_neg h4, opv_eq, if_true, if_false, Bool.false_eq_true, reduceCtorEq, b2i_t, b2i_f, u0_X11_valueFrom4] at hj); exact hj
          · skip
            refine g_iload (i := 5) rfl d_X11_valueFrom_65 ?_
            refine g_iload_n3 rfl d_X11_valueFrom_67 ?_
            refine g_icmp_le 83 d_X11_valueFrom_68 (by decide) (fun h5 => ?_) (fun h5 => ?_)
            · skip
              (try simp only [if_neg h2, if_pos h3, if_pos h5, opv_eq, if_true, if_false, Bool.false_eq_true, reduceCtorEq, b2i_t, b2i_f, u0_X11_valueFrom4] at hj); exact hj
            · skip
              refine g_goto 80 d_X11_valueFrom_71 (by decide) ?_
              refine g_iload (i := 5) rfl d_X11_valueFrom_80 ?_
              refine g_isn3 rfl d_X11_valueFrom_82 ?_
              (try simp only [if_neg h2, if_pos h3, if_neg h5, opv_eq, if_true, if_false, Bool.false_eq_true, reduceCtorEq, b2i_t, b2i_f, u0_X11_valueFrom4] at hj); exact hj
      · skip
        refine g_ic4 (l4 + 1) rfl rfl d_X11_valueFrom_83 ?_
        refine g_goto 24 d_X11_valueFrom_86 (by decide) ?_
        refine G.weak (wks (wks (wks (wks (wks (wkn wk0)))))) ?_; exact ih (u0_X11_valueFrom4 x1 x2 l3 l4 I1) (l4 + 1) (m_X11_valueFrom3 (m_X11_layLevel I1 x1 l4) (x1 + 1) x2) (by (try simp only [if_neg h1, opv_eq, if_true, if_false, Bool.false_eq_true, reduceCtorEq, b2i_t, b2i_f] at hok); exact hok) (by (try simp only [lp_X11_valueFrom4_24, if_neg h1, opv_eq, if_true, if_false, Bool.false_eq_true, reduceCtorEq, b2i_t, b2i_f] at hj); exact hj)
noncomputable def f_X11_valueFrom4 (I : Nat → Nat → Int32) (x1 : Int32) (x2 : Int32) : Int32 := opv (if x1 = x2 then I 77 ((7 * x1) + 0).toNatClampNeg else (lp_X11_valueFrom4_24 x1 x2 (opq 10) 1000000 (-1) I).1)
noncomputable def m_X11_valueFrom4 (I : Nat → Nat → Int32) (x1 : Int32) (x2 : Int32) : Nat → Nat → Int32 := opv (if x1 = x2 then I else (lp_X11_valueFrom4_24 x1 x2 (opq 10) 1000000 (-1) I).2.2)
noncomputable def ok_X11_valueFrom4 (I : Nat → Nat → Int32) (x1 : Int32) (x2 : Int32) : Prop := opv (if x1 = x2 then vp_in ((7 * x1) + 0) (sz 77) else oklp_X11_valueFrom4_24 x1 x2 (opq 10) 1000000 (-1) I)
set_option maxHeartbeats 800000 in
set_option maxRecDepth 4000 in
theorem c_X11_valueFrom4 {k : KT} {ex : Bool} {J : Nat → Nat → Int64} {w : Bool} (I : Nat → Nat → Int32) (x1 : Int32) (x2 : Int32)  (hok : ok_X11_valueFrom4 I x1 x2) : Cx k mX11_valueFrom 10 [.ref (ka k 65), .int x1, .int x2] (81, ex, I, J, Pw w) (some (.int (f_X11_valueFrom4 I x1 x2))) (81, ex, m_X11_valueFrom4 I x1 x2, J, Pw w) := by
  refine Ct.of rfl [some (.ref (ka k 65)), some (.int x1), some (.int x2), none, none, none] rfl rfl (Nat.le_of_ble_eq_true rfl) ?_
  rw [ok_X11_valueFrom4, opv_eq] at hok
  refine g_iload_n1 rfl d_X11_valueFrom_0 ?_
  refine g_iload_n2 rfl d_X11_valueFrom_1 ?_
  refine g_icmp_ne 17 d_X11_valueFrom_2 (by decide) (fun h6 => ?_) (fun h6 => ?_)
  · skip
    rw [if_neg h6] at hok
    refine g_ldcw (v := 1000000) (in7 235 (by decide +kernel) rfl) d_X11_valueFrom_17 ?_
    refine g_isn3 rfl d_X11_valueFrom_20 ?_
    refine g_iconst (-1) d_X11_valueFrom_21 (by decide) ?_
    refine g_is4 rfl d_X11_valueFrom_22 ?_
    refine k_lp_X11_valueFrom4_24 x1 x2 _ 1000000 (-1) I hok ?_
    refine g_iload_n3 rfl d_X11_valueFrom_89 ?_
    exact g_iret rfl d_X11_valueFrom_90 ⟨by simp only [f_X11_valueFrom4, m_X11_valueFrom4, if_neg h6, opv_eq, if_true, if_false, Bool.false_eq_true, reduceCtorEq, b2i_t, b2i_f], by simp only [f_X11_valueFrom4, m_X11_valueFrom4, if_neg h6, opv_eq, if_true, if_false, Bool.false_eq_true, reduceCtorEq, b2i_t, b2i_f]⟩ (Nat.le_refl _) (Nat.le_refl _)
  · skip
    rw [if_pos h6] at hok
    refine g_aload_n0 rfl d_X11_valueFrom_5 ?_
    refine g_getP (b := 77) f_X11_47 d_X11_valueFrom_6 rfl (Nat.le_of_ble_eq_true rfl) rfl rfl ?_
    refine g_bipush 7 d_X11_valueFrom_9 (by decide) ?_
    refine g_iload_n1 rfl d_X11_valueFrom_11 ?_
    refine g_imul d_X11_valueFrom_12 ?_
    refine g_iconst 0 d_X11_valueFrom_13 (by decide) ?_
    refine g_iadd d_X11_valueFrom_14 ?_
    have ho3 := hok
    refine g_iald d_X11_valueFrom_15 rfl (Nat.le_of_ble_eq_true rfl) ho3 ?_
    exact g_iret rfl d_X11_valueFrom_16 ⟨by simp only [f_X11_valueFrom4, m_X11_valueFrom4, if_pos h6, opv_eq, if_true, if_false, Bool.false_eq_true, reduceCtorEq, b2i_t, b2i_f], by simp only [f_X11_valueFrom4, m_X11_valueFrom4, if_pos h6, opv_eq, if_true, if_false, Bool.false_eq_true, reduceCtorEq, b2i_t, b2i_f]⟩ (Nat.le_refl _) (Nat.le_refl _)
noncomputable def f_X11_value (I : Nat → Nat → Int32) (x1 : Int32) : Int32 := opv (if (f_X11_why (m_X11_good I) x1 0 4) = 0 then (f_X11_valueFrom4 (m_X11_copy (m_X11_good I) 70 0 77 0 7) 0 x1) + 9 else f_X11_no (m_X11_good I) (f_X11_why (m_X11_good I) x1 0 4))
noncomputable def m_X11_value (I : Nat → Nat → Int32) (x1 : Int32) : Nat → Nat → Int32 := opv (if (f_X11_why (m_X11_good I) x1 0 4) = 0 then (m_X11_valueFrom4 (m_X11_copy (m_X11_good I) 70 0 77 0 7) 0 x1) else (m_X11_no (m_X11_good I) (f_X11_why (m_X11_good I) x1 0 4)))
noncomputable def ok_X11_value (I : Nat → Nat → Int32) (x1 : Int32) : Prop := opv (if (f_X11_why (m_X11_good I) x1 0 4) = 0 then (ok_X11_copy (m_X11_good I) 70 0 77 0 7 ∧ ok_X11_valueFrom4 (m_X11_copy (m_X11_good I) 70 0 77 0 7) 0 x1) else True)
set_option maxHeartbeats 800000 in
set_option maxRecDepth 4000 in
theorem c_X11_value {k : KT} {ex : Bool} {J : Nat → Nat → Int64} {w : Bool} (I : Nat → Nat → Int32) (x1 : Int32)  (hok : ok_X11_value I x1) : Cx k mX11_value 11 [.ref (ka k 65), .int x1] (81, ex, I, J, Pw w) (some (.int (f_X11_value I x1))) (81, ex, m_X11_value I x1, J, Pw w) := by
  refine Ct.of rfl [some (.ref (ka k 65)), some (.int x1), none] rfl rfl (Nat.le_of_ble_eq_true rfl) ?_
  rw [ok_X11_value, opv_eq] at hok
  refine g_aload_n0 rfl d_X11_value_0 ?_
  refine g_callV0 (c_X11_good I ) w_X11_good l_X11_168 d_X11_value_1 rfl (Nat.le_of_ble_eq_true rfl) rfl rfl (Nat.le_of_ble_eq_true rfl) ⟨Nat.le_of_ble_eq_true rfl, Nat.le_of_ble_eq_true rfl⟩ ⟨Nat.zero_le _, Nat.zero_le _⟩ ⟨rfl, rfl⟩ ?_
  refine g_aload_n0 rfl d_X11_value_4 ?_
  refine g_iload_n1 rfl d_X11_value_5 ?_
  refine g_iconst 0 d_X11_value_6 (by decide) ?_
  refine g_iconst 4 d_X11_value_7 (by decide) ?_
  refine g_callV1 (c_X11_why (m_X11_good I) x1 0 4) w_X11_why l_X11_295 d_X11_value_8 rfl (Nat.le_of_ble_eq_true rfl) rfl rfl (Nat.le_of_ble_eq_true rfl) ⟨Nat.le_of_ble_eq_true rfl, Nat.le_of_ble_eq_true rfl⟩ ⟨Nat.zero_le _, Nat.zero_le _⟩ ⟨rfl, rfl⟩ ?_
  refine g_isn2 rfl d_X11_value_11 ?_
  refine g_iload_n2 rfl d_X11_value_12 ?_
  refine g_if_eq 22 d_X11_value_13 (by decide) (fun h1 => ?_) (fun h1 => ?_)
  · skip
    rw [if_pos h1] at hok
    refine g_aload_n0 rfl d_X11_value_22 ?_
    refine g_getP (b := 70) f_X11_26 d_X11_value_23 rfl (Nat.le_of_ble_eq_true rfl) rfl rfl ?_
    refine g_iconst 0 d_X11_value_26 (by decide) ?_
    refine g_aload_n0 rfl d_X11_value_27 ?_
    refine g_getP (b := 77) f_X11_47 d_X11_value_28 rfl (Nat.le_of_ble_eq_true rfl) rfl rfl ?_
    refine g_iconst 0 d_X11_value_31 (by decide) ?_
    refine g_bipush 7 d_X11_value_32 (by decide) ?_
    obtain ⟨ho1, hok⟩ := hok
    refine g_callS0 (c_X11_copy (m_X11_good I) 70 rfl 0 77 rfl 0 7 ho1) w_X11_copy l_X11_177 d_X11_value_34 rfl rfl (Nat.le_of_ble_eq_true rfl) ⟨Nat.le_of_ble_eq_true rfl, Nat.le_of_ble_eq_true rfl⟩ ⟨Nat.zero_le _, Nat.zero_le _⟩ ⟨rfl, rfl⟩ ?_
    refine g_aload_n0 rfl d_X11_value_37 ?_
    refine g_iconst 0 d_X11_value_38 (by decide) ?_
    refine g_iload_n1 rfl d_X11_value_39 ?_
    have ho2 := hok
    refine g_callV1 (c_X11_valueFrom4 (m_X11_copy (m_X11_good I) 70 0 77 0 7) 0 x1 ho2) w_X11_valueFrom l_X11_364 d_X11_value_40 rfl (Nat.le_of_ble_eq_true rfl) rfl rfl (Nat.le_of_ble_eq_true rfl) ⟨Nat.le_of_ble_eq_true rfl, Nat.le_of_ble_eq_true rfl⟩ ⟨Nat.zero_le _, Nat.zero_le _⟩ ⟨rfl, rfl⟩ ?_
    refine g_bipush 9 d_X11_value_43 (by decide) ?_
    refine g_iadd d_X11_value_45 ?_
    exact g_iret rfl d_X11_value_46 ⟨by simp only [f_X11_value, m_X11_value, if_pos h1, opv_eq, if_true, if_false, Bool.false_eq_true, reduceCtorEq, b2i_t, b2i_f], by simp only [f_X11_value, m_X11_value, if_pos h1, opv_eq, if_true, if_false, Bool.false_eq_true, reduceCtorEq, b2i_t, b2i_f]⟩ (Nat.le_refl _) (Nat.le_refl _)
  · skip
    refine g_aload_n0 rfl d_X11_value_16 ?_
    refine g_iload_n2 rfl d_X11_value_17 ?_
    refine g_callV1 (c_X11_no (m_X11_good I) (f_X11_why (m_X11_good I) x1 0 4)) w_X11_no l_X11_171 d_X11_value_18 rfl (Nat.le_of_ble_eq_true rfl) rfl rfl (Nat.le_of_ble_eq_true rfl) ⟨Nat.le_of_ble_eq_true rfl, Nat.le_of_ble_eq_true rfl⟩ ⟨Nat.zero_le _, Nat.zero_le _⟩ ⟨rfl, rfl⟩ ?_
    exact g_iret rfl d_X11_value_21 ⟨by simp only [f_X11_value, m_X11_value, if_neg h1, opv_eq, if_true, if_false, Bool.false_eq_true, reduceCtorEq, b2i_t, b2i_f], by simp only [f_X11_value, m_X11_value, if_neg h1, opv_eq, if_true, if_false, Bool.false_eq_true, reduceCtorEq, b2i_t, b2i_f]⟩ (Nat.le_refl _) (Nat.le_refl _)
noncomputable def u0_X11_opens (x1 : Int32) (l3 : Int32) (l4 : Int32) (l5 : Int32) (I1 : Nat → Nat → Int32) : Int32 := opv (if l4 < (f_X11_valueFrom4 (m_X11_layLevel I1 0 l5) 1 x1) then (if 0 ≤ l5 then l5 else (-2)) else l3)
noncomputable def u1_X11_opens (x1 : Int32) (l4 : Int32) (l5 : Int32) (I1 : Nat → Nat → Int32) : Int32 := opv (if l4 < (f_X11_valueFrom4 (m_X11_layLevel I1 0 l5) 1 x1) then f_X11_valueFrom4 (m_X11_layLevel I1 0 l5) 1 x1 else l4)
noncomputable def lp_X11_opens_48 (x1 : Int32) (l2 : Int32) : Nat → Int32 → Int32 → Int32 → (Nat → Nat → Int32) → Int32 × Int32 × Int32 × (Nat → Nat → Int32)
  | 0, l3, l4, l5, I1 => (l3, l4, l5, I1)
  | n + 1, l3, l4, l5, I1 => (if (I1 68 5) ≤ l5 then (l3, l4, l5, I1) else (lp_X11_opens_48 x1 l2 n (u0_X11_opens x1 l3 l4 l5 I1) (u1_X11_opens x1 l4 l5 I1) (l5 + 1) (m_X11_valueFrom4 (m_X11_layLevel I1 0 l5) 1 x1)))
def oklp_X11_opens_48 (x1 : Int32) (l2 : Int32) : Nat → Int32 → Int32 → Int32 → (Nat → Nat → Int32) → Prop
  | 0, l3, l4, l5, I1 => False
  | n + 1, l3, l4, l5, I1 => (if (I1 68 5) ≤ l5 then True else (ok_X11_layLevel I1 0 l5 ∧ (ok_X11_valueFrom4 (m_X11_layLevel I1 0 l5) 1 x1 ∧ oklp_X11_opens_48 x1 l2 n (u0_X11_opens x1 l3 l4 l5 I1) (u1_X11_opens x1 l4 l5 I1) (l5 + 1) (m_X11_valueFrom4 (m_X11_layLevel I1 0 l5) 1 x1))))
set_option maxHeartbeats 800000 in
set_option maxRecDepth 4000 in
theorem k_lp_X11_opens_48 {k : KT} {ex : Bool} {J : Nat → Nat → Int64} {w : Bool} (x1 : Int32) (l2 : Int32) {F : FinT} : ∀ (n : Nat) (l3 : Int32) (l4 : Int32) (l5 : Int32) (I1 : (Nat → Nat → Int32)), oklp_X11_opens_48 x1 l2 n l3 l4 l5 I1 → G k mX11_opens (roomOf 11 0 0) F 0 0 107 [some (.ref (ka k 65)), some (.int x1), some (.int l2), some (.int ((lp_X11_opens_48 x1 l2 n l3 l4 l5 I1).1)), some (.int ((lp_X11_opens_48 x1 l2 n l3 l4 l5 I1).2.1)), some (.int ((lp_X11_opens_48 x1 l2 n l3 l4 l5 I1).2.2.1)), none] [] (81, ex, (lp_X11_opens_48 x1 l2 n l3 l4 l5 I1).2.2.2, J, Pw w) → G k mX11_opens (roomOf 11 0 0) F 0 0 48 [some (.ref (ka k 65)), some (.int x1), some (.int l2), some (.int l3), some (.int l4), some (.int l5), none] [] (81, ex, I1, J, Pw w) := by
  intro n
  induction n with
  | zero => intro l3 l4 l5 I1 hok hj; exact absurd hok (by rw [oklp_X11_opens_48]; exact id)
  | succ n ih =>
    intro l3 l4 l5 I1 hok hj
    rw [oklp_X11_opens_48] at hok
    refine g_iload (i := 5) rfl d_X11_opens_48 ?_
    refine g_aload_n0 rfl d_X11_opens_50 ?_
    refine g_getP (b := 68) f_X11_20 d_X11_opens_51 rfl (Nat.le_of_ble_eq_true rfl) rfl rfl ?_
    refine g_iconst 5 d_X11_opens_54 (by decide) ?_
    refine g_ialdv (I1 68 5) rfl d_X11_opens_55 rfl (Nat.le_of_ble_eq_true rfl) (vp_c (by decide +kernel)) ?_
    refine g_icmp_ge 107 d_X11_opens_56 (by decide) (fun h1 => ?_) (fun h1 => ?_)
    · skip
      (try simp only [lp_X11_opens_48, if_pos h1, opv_eq, if_true, if_false, Bool.false_eq_true, reduceCtorEq, b2i_t, b2i_f] at hj); exact hj
    · skip
      rw [if_neg h1] at hok
      refine g_aload_n0 rfl d_X11_opens_59 ?_
      refine g_iconst 0 d_X11_opens_60 (by decide) ?_
      refine g_iload (i := 5) rfl d_X11_opens_61 ?_
      obtain ⟨ho2, hok⟩ := hok
      refine g_callV0 (c_X11_layLevel I1 0 l5 ho2) w_X11_layLevel l_X11_361 d_X11_opens_63 rfl (Nat.le_of_ble_eq_true rfl) rfl rfl (Nat.le_of_ble_eq_true rfl) ⟨Nat.le_of_ble_eq_true rfl, Nat.le_of_ble_eq_true rfl⟩ ⟨Nat.zero_le _, Nat.zero_le _⟩ ⟨rfl, rfl⟩ ?_
      refine g_aload_n0 rfl d_X11_opens_66 ?_
      refine g_iconst 1 d_X11_opens_67 (by decide) ?_
      refine g_iload_n1 rfl d_X11_opens_68 ?_
      obtain ⟨ho3, hok⟩ := hok
      refine g_callV1 (c_X11_valueFrom4 (m_X11_layLevel I1 0 l5) 1 x1 ho3) w_X11_valueFrom l_X11_364 d_X11_opens_69 rfl (Nat.le_of_ble_eq_true rfl) rfl rfl (Nat.le_of_ble_eq_true rfl) ⟨Nat.le_of_ble_eq_true rfl, Nat.le_of_ble_eq_true rfl⟩ ⟨Nat.zero_le _, Nat.zero_le _⟩ ⟨rfl, rfl⟩ ?_
      refine g_is6 rfl d_X11_opens_72 ?_
      refine g_iload (i := 6) rfl d_X11_opens_74 ?_
      refine g_iload (i := 4) rfl d_X11_opens_76 ?_
      refine g_cut (pc' := 101) (vs' := [some (.ref (ka k 65)), some (.int x1), some (.int l2), some (.int (u0_X11_opens x1 l3 l4 l5 I1)), some (.int (u1_X11_opens x1 l4 l5 I1)), some (.int l5), some (.int (f_X11_valueFrom4 (m_X11_layLevel I1 0 l5) 1 x1))]) (st' := []) (M' := (81, ex, (m_X11_valueFrom4 (m_X11_layLevel I1 0 l5) 1 x1), J, Pw w)) (fun hj => ?_) ?_
      · skip
        refine g_icmp_gt 84 d_X11_opens_78 (by decide) (fun h2 => ?_) (fun h2 => ?_)
        · skip
          refine g_iload (i := 5) rfl d_X11_opens_84 ?_
          refine g_cut (pc' := 96) (vs' := [some (.ref (ka k 65)), some (.int x1), some (.int l2), some (.int l3), some (.int l4), some (.int l5), some (.int (f_X11_valueFrom4 (m_X11_layLevel I1 0 l5) 1 x1))]) (st' := [.int (if 0 ≤ l5 then l5 else (-2))]) (M' := (81, ex, (m_X11_valueFrom4 (m_X11_layLevel I1 0 l5) 1 x1), J, Pw w)) (fun hj => ?_) ?_
          · skip
            refine g_if_ge 94 d_X11_opens_86 (by decide) (fun h3 => ?_) (fun h3 => ?_)
            · skip
              refine g_iload (i := 5) rfl d_X11_opens_94 ?_
              (try simp only [if_pos h3, opv_eq, if_true, if_false, Bool.false_eq_true, reduceCtorEq, b2i_t, b2i_f] at hj); exact hj
            · skip
              refine g_bipush (-2) d_X11_opens_89 (by decide) ?_
              refine g_goto 96 d_X11_opens_91 (by decide) ?_
              (try simp only [if_neg h3, opv_eq, if_true, if_false, Bool.false_eq_true, reduceCtorEq, b2i_t, b2i_f] at hj); exact hj
          · skip
            refine g_isn3 rfl d_X11_opens_96 ?_
            refine g_iload (i := 6) rfl d_X11_opens_97 ?_
            refine g_is4 rfl d_X11_opens_99 ?_
            (try simp only [if_pos h2, opv_eq, if_true, if_false, Bool.false_eq_true, reduceCtorEq, b2i_t, b2i_f, u0_X11_opens, u1_X11_opens] at hj); exact hj
        · skip
          refine g_goto 101 d_X11_opens_81 (by decide) ?_
          (try simp only [if_neg h2, opv_eq, if_true, if_false, Bool.false_eq_true, reduceCtorEq, b2i_t, b2i_f, u0_X11_opens, u1_X11_opens] at hj); exact hj
      · skip
        refine g_ic5 (l5 + 1) rfl rfl d_X11_opens_101 ?_
        refine g_goto 48 d_X11_opens_104 (by decide) ?_
        refine G.weak (wks (wks (wks (wks (wks (wks (wkn wk0))))))) ?_; exact ih (u0_X11_opens x1 l3 l4 l5 I1) (u1_X11_opens x1 l4 l5 I1) (l5 + 1) (m_X11_valueFrom4 (m_X11_layLevel I1 0 l5) 1 x1) (by (try simp only [if_neg h1, opv_eq, if_true, if_false, Bool.false_eq_true, reduceCtorEq, b2i_t, b2i_f] at hok); exact hok) (by (try simp only [lp_X11_opens_48, if_neg h1, opv_eq, if_true, if_false, Bool.false_eq_true, reduceCtorEq, b2i_t, b2i_f] at hj); exact hj)
noncomputable def f_X11_opens (I : Nat → Nat → Int32) (x1 : Int32) : Int32 := opv (if (f_X11_why (m_X11_good I) x1 1 4) = 0 then (lp_X11_opens_48 x1 (f_X11_why (m_X11_good I) x1 1 4) (opq 10) (-2) (-1000000) (-1) (m_X11_copy (m_X11_good I) 70 0 77 0 7)).1 else f_X11_no (m_X11_good I) (f_X11_why (m_X11_good I) x1 1 4))
noncomputable def m_X11_opens (I : Nat → Nat → Int32) (x1 : Int32) : Nat → Nat → Int32 := opv (if (f_X11_why (m_X11_good I) x1 1 4) = 0 then (lp_X11_opens_48 x1 (f_X11_why (m_X11_good I) x1 1 4) (opq 10) (-2) (-1000000) (-1) (m_X11_copy (m_X11_good I) 70 0 77 0 7)).2.2.2 else (m_X11_no (m_X11_good I) (f_X11_why (m_X11_good I) x1 1 4)))
noncomputable def ok_X11_opens (I : Nat → Nat → Int32) (x1 : Int32) : Prop := opv (if (f_X11_why (m_X11_good I) x1 1 4) = 0 then (ok_X11_copy (m_X11_good I) 70 0 77 0 7 ∧ oklp_X11_opens_48 x1 (f_X11_why (m_X11_good I) x1 1 4) (opq 10) (-2) (-1000000) (-1) (m_X11_copy (m_X11_good I) 70 0 77 0 7)) else True)
set_option maxHeartbeats 800000 in
set_option maxRecDepth 4000 in
theorem c_X11_opens {k : KT} {ex : Bool} {J : Nat → Nat → Int64} {w : Bool} (I : Nat → Nat → Int32) (x1 : Int32)  (hok : ok_X11_opens I x1) : Cx k mX11_opens 11 [.ref (ka k 65), .int x1] (81, ex, I, J, Pw w) (some (.int (f_X11_opens I x1))) (81, ex, m_X11_opens I x1, J, Pw w) := by
  refine Ct.of rfl [some (.ref (ka k 65)), some (.int x1), none, none, none, none, none] rfl rfl (Nat.le_of_ble_eq_true rfl) ?_
  rw [ok_X11_opens, opv_eq] at hok
  refine g_aload_n0 rfl d_X11_opens_0 ?_
  refine g_callV0 (c_X11_good I ) w_X11_good l_X11_168 d_X11_opens_1 rfl (Nat.le_of_ble_eq_true rfl) rfl rfl (Nat.le_of_ble_eq_true rfl) ⟨Nat.le_of_ble_eq_true rfl, Nat.le_of_ble_eq_true rfl⟩ ⟨Nat.zero_le _, Nat.zero_le _⟩ ⟨rfl, rfl⟩ ?_
  refine g_aload_n0 rfl d_X11_opens_4 ?_
  refine g_iload_n1 rfl d_X11_opens_5 ?_
  refine g_iconst 1 d_X11_opens_6 (by decide) ?_
  refine g_iconst 4 d_X11_opens_7 (by decide) ?_
  refine g_callV1 (c_X11_why (m_X11_good I) x1 1 4) w_X11_why l_X11_295 d_X11_opens_8 rfl (Nat.le_of_ble_eq_true rfl) rfl rfl (Nat.le_of_ble_eq_true rfl) ⟨Nat.le_of_ble_eq_true rfl, Nat.le_of_ble_eq_true rfl⟩ ⟨Nat.zero_le _, Nat.zero_le _⟩ ⟨rfl, rfl⟩ ?_
  refine g_isn2 rfl d_X11_opens_11 ?_
  refine g_iload_n2 rfl d_X11_opens_12 ?_
  refine g_if_eq 22 d_X11_opens_13 (by decide) (fun h4 => ?_) (fun h4 => ?_)
  · skip
    rw [if_pos h4] at hok
    refine g_aload_n0 rfl d_X11_opens_22 ?_
    refine g_getP (b := 70) f_X11_26 d_X11_opens_23 rfl (Nat.le_of_ble_eq_true rfl) rfl rfl ?_
    refine g_iconst 0 d_X11_opens_26 (by decide) ?_
    refine g_aload_n0 rfl d_X11_opens_27 ?_
    refine g_getP (b := 77) f_X11_47 d_X11_opens_28 rfl (Nat.le_of_ble_eq_true rfl) rfl rfl ?_
    refine g_iconst 0 d_X11_opens_31 (by decide) ?_
    refine g_bipush 7 d_X11_opens_32 (by decide) ?_
    obtain ⟨ho1, hok⟩ := hok
    refine g_callS0 (c_X11_copy (m_X11_good I) 70 rfl 0 77 rfl 0 7 ho1) w_X11_copy l_X11_177 d_X11_opens_34 rfl rfl (Nat.le_of_ble_eq_true rfl) ⟨Nat.le_of_ble_eq_true rfl, Nat.le_of_ble_eq_true rfl⟩ ⟨Nat.zero_le _, Nat.zero_le _⟩ ⟨rfl, rfl⟩ ?_
    refine g_bipush (-2) d_X11_opens_37 (by decide) ?_
    refine g_isn3 rfl d_X11_opens_39 ?_
    refine g_ldcw (v := (-1000000)) (in7 155 (by decide +kernel) rfl) d_X11_opens_40 ?_
    refine g_is4 rfl d_X11_opens_43 ?_
    refine g_iconst (-1) d_X11_opens_45 (by decide) ?_
    refine g_is5 rfl d_X11_opens_46 ?_
    refine k_lp_X11_opens_48 x1 (f_X11_why (m_X11_good I) x1 1 4) _ (-2) (-1000000) (-1) (m_X11_copy (m_X11_good I) 70 0 77 0 7) hok ?_
    refine g_iload_n3 rfl d_X11_opens_107 ?_
    exact g_iret rfl d_X11_opens_108 ⟨by simp only [f_X11_opens, m_X11_opens, if_pos h4, opv_eq, if_true, if_false, Bool.false_eq_true, reduceCtorEq, b2i_t, b2i_f], by simp only [f_X11_opens, m_X11_opens, if_pos h4, opv_eq, if_true, if_false, Bool.false_eq_true, reduceCtorEq, b2i_t, b2i_f]⟩ (Nat.le_refl _) (Nat.le_refl _)
  · skip
    refine g_aload_n0 rfl d_X11_opens_16 ?_
    refine g_iload_n2 rfl d_X11_opens_17 ?_
    refine g_callV1 (c_X11_no (m_X11_good I) (f_X11_why (m_X11_good I) x1 1 4)) w_X11_no l_X11_171 d_X11_opens_18 rfl (Nat.le_of_ble_eq_true rfl) rfl rfl (Nat.le_of_ble_eq_true rfl) ⟨Nat.le_of_ble_eq_true rfl, Nat.le_of_ble_eq_true rfl⟩ ⟨Nat.zero_le _, Nat.zero_le _⟩ ⟨rfl, rfl⟩ ?_
    exact g_iret rfl d_X11_opens_21 ⟨by simp only [f_X11_opens, m_X11_opens, if_neg h4, opv_eq, if_true, if_false, Bool.false_eq_true, reduceCtorEq, b2i_t, b2i_f], by simp only [f_X11_opens, m_X11_opens, if_neg h4, opv_eq, if_true, if_false, Bool.false_eq_true, reduceCtorEq, b2i_t, b2i_f]⟩ (Nat.le_refl _) (Nat.le_refl _)
