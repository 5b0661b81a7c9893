noncomputable def f_X10_refuse (I : Nat → Nat → Int32) (x1 : Int32) : Int32 := opv (-1)
noncomputable def m_X10_refuse (I : Nat → Nat → Int32) (x1 : Int32) : Nat → Nat → Int32 := opv (st2 I 0 7 x1)
set_option maxHeartbeats 800000 in
set_option maxRecDepth 4000 in
theorem c_X10_refuse {k : KT} {ex : Bool} {J : Nat → Nat → Int64} {w : Bool} (I : Nat → Nat → Int32) (x1 : Int32)  : Cx k mX10_refuse 1 [.ref (ka k 0), .int x1] (81, ex, I, J, Pw w) (some (.int (f_X10_refuse I x1))) (81, ex, m_X10_refuse I x1, J, Pw w) := by
  refine Ct.of rfl [some (.ref (ka k 0)), some (.int x1)] rfl rfl (Nat.le_of_ble_eq_true rfl) ?_
  refine g_aload_n0 rfl d_X10_refuse_0 ?_
  refine g_iload_n1 rfl d_X10_refuse_1 ?_
  refine g_putI f_X10_101 d_X10_refuse_2 rfl (Nat.le_of_ble_eq_true rfl) rfl rfl rfl ?_
  refine g_iconst (-1) d_X10_refuse_5 (by decide) ?_
  exact g_iret rfl d_X10_refuse_6 ⟨by simp only [f_X10_refuse, m_X10_refuse, opv_eq, if_true, if_false, Bool.false_eq_true, reduceCtorEq, b2i_t, b2i_f], by simp only [f_X10_refuse, m_X10_refuse, opv_eq, if_true, if_false, Bool.false_eq_true, reduceCtorEq, b2i_t, b2i_f]⟩ (Nat.le_refl _) (Nat.le_refl _)
noncomputable def u0_X10_refused (I : Nat → Nat → Int32) (x1 : Bool) : Nat → Nat → Int32 := opv (if (I 0 4) = 0 then (st2 I 0 7 1) else (st2 I 0 7 (if x1 = true then 0 else 2)))
noncomputable def f_X10_refused (I : Nat → Nat → Int32) (x1 : Bool) : Bool := opv (if ((u0_X10_refused I x1) 0 7) = 0 then false else true)
noncomputable def m_X10_refused (I : Nat → Nat → Int32) (x1 : Bool) : Nat → Nat → Int32 := opv (u0_X10_refused I x1)
set_option maxHeartbeats 800000 in
set_option maxRecDepth 4000 in
theorem c_X10_refused {k : KT} {ex : Bool} {J : Nat → Nat → Int64} {w : Bool} (I : Nat → Nat → Int32) (x1 : Bool)  : Cx k mX10_refused 1 [.ref (ka k 0), .int (b2i x1)] (81, ex, I, J, Pw w) (some (.int (b2i (f_X10_refused I x1)))) (81, ex, m_X10_refused I x1, J, Pw w) := by
  refine Ct.of rfl [some (.ref (ka k 0)), some (.int (b2i x1))] rfl rfl (Nat.le_of_ble_eq_true rfl) ?_
  refine g_aload_n0 rfl d_X10_refused_0 ?_
  refine g_getI f_X10_207 d_X10_refused_1 rfl (Nat.le_of_ble_eq_true rfl) rfl ?_
  refine g_cut (pc' := 28) (vs' := [some (.ref (ka k 0)), some (.int (b2i x1))]) (st' := []) (M' := (81, ex, (u0_X10_refused I x1), J, Pw w)) (fun hj => ?_) ?_
  · skip
    refine g_if_ne 15 d_X10_refused_4 (by decide) (fun h1 => ?_) (fun h1 => ?_)
    · skip
      refine g_aload_n0 rfl d_X10_refused_15 ?_
      refine g_iload_n1 rfl d_X10_refused_16 ?_
      refine g_cut (pc' := 25) (vs' := [some (.ref (ka k 0)), some (.int (b2i x1))]) (st' := [.int (if x1 = true then 0 else 2), .ref (ka k 0)]) (M' := (81, ex, I, J, Pw w)) (fun hj => ?_) ?_
      · skip
        refine g_ifz 24 d_X10_refused_17 (by decide) (fun h2 => ?_) (fun h2 => ?_)
        · skip
          refine g_iconst 2 d_X10_refused_24 (by decide) ?_
          (try simp only [if_neg (nb h2), opv_eq, if_true, if_false, Bool.false_eq_true, reduceCtorEq, b2i_t, b2i_f] at hj); exact hj
        · skip
          refine g_iconst 0 d_X10_refused_20 (by decide) ?_
          refine g_goto 25 d_X10_refused_21 (by decide) ?_
          (try simp only [if_pos h2, opv_eq, if_true, if_false, Bool.false_eq_true, reduceCtorEq, b2i_t, b2i_f] at hj); exact hj
      · skip
        refine g_putI f_X10_101 d_X10_refused_25 rfl (Nat.le_of_ble_eq_true rfl) rfl rfl rfl ?_
        (try simp only [if_neg h1, opv_eq, if_true, if_false, Bool.false_eq_true, reduceCtorEq, b2i_t, b2i_f, u0_X10_refused] at hj); exact hj
    · skip
      refine g_aload_n0 rfl d_X10_refused_7 ?_
      refine g_iconst 1 d_X10_refused_8 (by decide) ?_
      refine g_putI f_X10_101 d_X10_refused_9 rfl (Nat.le_of_ble_eq_true rfl) rfl rfl rfl ?_
      refine g_goto 28 d_X10_refused_12 (by decide) ?_
      (try simp only [if_pos h1, opv_eq, if_true, if_false, Bool.false_eq_true, reduceCtorEq, b2i_t, b2i_f, u0_X10_refused] at hj); exact hj
  · skip
    refine g_aload_n0 rfl d_X10_refused_28 ?_
    refine g_getI f_X10_101 d_X10_refused_29 rfl (Nat.le_of_ble_eq_true rfl) rfl ?_
    refine g_cut (pc' := 40) (vs' := [some (.ref (ka k 0)), some (.int (b2i x1))]) (st' := [.int (b2i (if ((u0_X10_refused I x1) 0 7) = 0 then false else true))]) (M' := (81, ex, (u0_X10_refused I x1), J, Pw w)) (fun hj => ?_) ?_
    · skip
      refine g_if_eq 39 d_X10_refused_32 (by decide) (fun h3 => ?_) (fun h3 => ?_)
      · skip
        refine g_iconst 0 d_X10_refused_39 (by decide) ?_
        (try simp only [if_pos h3, opv_eq, if_true, if_false, Bool.false_eq_true, reduceCtorEq, b2i_t, b2i_f] at hj); exact hj
      · skip
        refine g_iconst 1 d_X10_refused_35 (by decide) ?_
        refine g_goto 40 d_X10_refused_36 (by decide) ?_
        (try simp only [if_neg h3, opv_eq, if_true, if_false, Bool.false_eq_true, reduceCtorEq, b2i_t, b2i_f] at hj); exact hj
    · skip
      exact g_zret rfl (nar_b _) d_X10_refused_40 ⟨by simp only [f_X10_refused, m_X10_refused, opv_eq, if_true, if_false, Bool.false_eq_true, reduceCtorEq, b2i_t, b2i_f], by simp only [f_X10_refused, m_X10_refused, opv_eq, if_true, if_false, Bool.false_eq_true, reduceCtorEq, b2i_t, b2i_f]⟩ (Nat.le_refl _) (Nat.le_refl _)
noncomputable def u0_X10_lacks (I : Nat → Nat → Int32) (x1 : Bool) : Bool := opv (if (I 0 4) = 0 then true else (if x1 = true then false else true))
noncomputable def f_X10_lacks (I : Nat → Nat → Int32) (x1 : Bool) : Bool := opv (if (b2i (u0_X10_lacks I x1)) = 0 then false else true)
noncomputable def m_X10_lacks (I : Nat → Nat → Int32) (x1 : Bool) : Nat → Nat → Int32 := opv (st2 I 0 7 (b2i (u0_X10_lacks I x1)))
set_option maxHeartbeats 800000 in
set_option maxRecDepth 4000 in
theorem c_X10_lacks {k : KT} {ex : Bool} {J : Nat → Nat → Int64} {w : Bool} (I : Nat → Nat → Int32) (x1 : Bool)  : Cx k mX10_lacks 1 [.ref (ka k 0), .int (b2i x1)] (81, ex, I, J, Pw w) (some (.int (b2i (f_X10_lacks I x1)))) (81, ex, m_X10_lacks I x1, J, Pw w) := by
  refine Ct.of rfl [some (.ref (ka k 0)), some (.int (b2i x1))] rfl rfl (Nat.le_of_ble_eq_true rfl) ?_
  refine g_aload_n0 rfl d_X10_lacks_0 ?_
  refine g_aload_n0 rfl d_X10_lacks_1 ?_
  refine g_getI f_X10_207 d_X10_lacks_2 rfl (Nat.le_of_ble_eq_true rfl) rfl ?_
  refine g_cut (pc' := 17) (vs' := [some (.ref (ka k 0)), some (.int (b2i x1))]) (st' := [.int (b2i (u0_X10_lacks I x1)), .ref (ka k 0)]) (M' := (81, ex, I, J, Pw w)) (fun hj => ?_) ?_
  · skip
    refine g_if_eq 16 d_X10_lacks_5 (by decide) (fun h1 => ?_) (fun h1 => ?_)
    · skip
      refine g_iconst 1 d_X10_lacks_16 (by decide) ?_
      (try simp only [if_pos h1, opv_eq, if_true, if_false, Bool.false_eq_true, reduceCtorEq, b2i_t, b2i_f, u0_X10_lacks] at hj); exact hj
    · skip
      refine g_iload_n1 rfl d_X10_lacks_8 ?_
      refine g_ifz 16 d_X10_lacks_9 (by decide) (fun h2 => ?_) (fun h2 => ?_)
      · skip
        refine g_iconst 1 d_X10_lacks_16 (by decide) ?_
        (try simp only [if_neg h1, if_neg (nb h2), opv_eq, if_true, if_false, Bool.false_eq_true, reduceCtorEq, b2i_t, b2i_f, u0_X10_lacks] at hj); exact hj
      · skip
        refine g_iconst 0 d_X10_lacks_12 (by decide) ?_
        refine g_goto 17 d_X10_lacks_13 (by decide) ?_
        (try simp only [if_neg h1, if_pos h2, opv_eq, if_true, if_false, Bool.false_eq_true, reduceCtorEq, b2i_t, b2i_f, u0_X10_lacks] at hj); exact hj
  · skip
    refine g_putI f_X10_101 d_X10_lacks_17 rfl (Nat.le_of_ble_eq_true rfl) rfl rfl rfl ?_
    refine g_aload_n0 rfl d_X10_lacks_20 ?_
    refine g_getIv (b2i (u0_X10_lacks I x1)) (st2_s _ _ _ _) f_X10_101 d_X10_lacks_21 rfl (Nat.le_of_ble_eq_true rfl) rfl ?_
    refine g_cut (pc' := 32) (vs' := [some (.ref (ka k 0)), some (.int (b2i x1))]) (st' := [.int (b2i (if (b2i (u0_X10_lacks I x1)) = 0 then false else true))]) (M' := (81, ex, (st2 I 0 7 (b2i (u0_X10_lacks I x1))), J, Pw w)) (fun hj => ?_) ?_
    · skip
      refine g_if_eq 31 d_X10_lacks_24 (by decide) (fun h3 => ?_) (fun h3 => ?_)
      · skip
        refine g_iconst 0 d_X10_lacks_31 (by decide) ?_
        (try simp only [if_pos h3, opv_eq, if_true, if_false, Bool.false_eq_true, reduceCtorEq, b2i_t, b2i_f] at hj); exact hj
      · skip
        refine g_iconst 1 d_X10_lacks_27 (by decide) ?_
        refine g_goto 32 d_X10_lacks_28 (by decide) ?_
        (try simp only [if_neg h3, opv_eq, if_true, if_false, Bool.false_eq_true, reduceCtorEq, b2i_t, b2i_f] at hj); exact hj
    · skip
      exact g_zret rfl (nar_b _) d_X10_lacks_32 ⟨by simp only [f_X10_lacks, m_X10_lacks, opv_eq, if_true, if_false, Bool.false_eq_true, reduceCtorEq, b2i_t, b2i_f], by simp only [f_X10_lacks, m_X10_lacks, opv_eq, if_true, if_false, Bool.false_eq_true, reduceCtorEq, b2i_t, b2i_f]⟩ (Nat.le_refl _) (Nat.le_refl _)
noncomputable def u0_X10_feed (I : Nat → Nat → Int32) (x1 : Int32) (x2 : Int32) (x3 : Int32) (x4 : Int32) : Nat → Nat → Int32 := opv (m_X6_putBytes (m_X6_putBytes (m_X6_putBytes (m_X6_putBytes I x1) x2) x3) x4)
noncomputable def f_X10_feed (I : Nat → Nat → Int32) (x1 : Int32) (x2 : Int32) (x3 : Int32) (x4 : Int32) (x5 : Int32) : Int32 := opv (if (I 0 1) ≤ 880 then (m_X6_putBytes (u0_X10_feed I x1 x2 x3 x4) x5) 0 1 else (-1))
noncomputable def m_X10_feed (I : Nat → Nat → Int32) (x1 : Int32) (x2 : Int32) (x3 : Int32) (x4 : Int32) (x5 : Int32) : Nat → Nat → Int32 := opv (if (I 0 1) ≤ 880 then (m_X6_putBytes (u0_X10_feed I x1 x2 x3 x4) x5) else I)
noncomputable def ok_X10_feed (I : Nat → Nat → Int32) (x1 : Int32) (x2 : Int32) (x3 : Int32) (x4 : Int32) (x5 : Int32) : Prop := opv (if (I 0 1) ≤ 880 then (ok_X6_putBytes I x1 ∧ (ok_X6_putBytes (m_X6_putBytes I x1) x2 ∧ (ok_X6_putBytes (m_X6_putBytes (m_X6_putBytes I x1) x2) x3 ∧ (ok_X6_putBytes (m_X6_putBytes (m_X6_putBytes (m_X6_putBytes I x1) x2) x3) x4 ∧ ok_X6_putBytes (u0_X10_feed I x1 x2 x3 x4) x5)))) else True)
set_option maxHeartbeats 800000 in
set_option maxRecDepth 4000 in
theorem c_X10_feed {k : KT} {ex : Bool} {J : Nat → Nat → Int64} {w : Bool} (I : Nat → Nat → Int32) (x1 : Int32) (x2 : Int32) (x3 : Int32) (x4 : Int32) (x5 : Int32)  (hok : ok_X10_feed I x1 x2 x3 x4 x5) : Cx k mX10_feed 2 [.ref (ka k 0), .int x1, .int x2, .int x3, .int x4, .int x5] (81, ex, I, J, Pw w) (some (.int (f_X10_feed I x1 x2 x3 x4 x5))) (81, ex, m_X10_feed I x1 x2 x3 x4 x5, J, Pw w) := by
  refine Ct.of rfl [some (.ref (ka k 0)), some (.int x1), some (.int x2), some (.int x3), some (.int x4), some (.int x5)] rfl rfl (Nat.le_of_ble_eq_true rfl) ?_
  rw [ok_X10_feed, opv_eq] at hok
  refine g_aload_n0 rfl d_X10_feed_0 ?_
  refine g_getP (b := 2) f_X10_12 d_X10_feed_1 rfl (Nat.le_of_ble_eq_true rfl) rfl rfl ?_
  refine g_getT f_X10_65 d_X10_feed_4 rfl (Nat.le_of_ble_eq_true rfl) rfl ?_
  refine g_sipush 880 d_X10_feed_7 (by decide) ?_
  refine g_icmp_le 15 d_X10_feed_10 (by decide) (fun h1 => ?_) (fun h1 => ?_)
  · skip
    rw [if_pos h1] at hok
    refine g_aload_n0 rfl d_X10_feed_15 ?_
    refine g_getP (b := 2) f_X10_12 d_X10_feed_16 rfl (Nat.le_of_ble_eq_true rfl) rfl rfl ?_
    refine g_iload_n1 rfl d_X10_feed_19 ?_
    obtain ⟨ho1, hok⟩ := hok
    refine g_callV0 (c_X6_putBytes I x1 ho1) w_X6_putBytes l_X10_69 d_X10_feed_20 rfl (Nat.le_of_ble_eq_true rfl) rfl rfl (Nat.le_of_ble_eq_true rfl) ⟨Nat.le_of_ble_eq_true rfl, Nat.le_of_ble_eq_true rfl⟩ ⟨Nat.zero_le _, Nat.zero_le _⟩ ⟨rfl, rfl⟩ ?_
    refine g_aload_n0 rfl d_X10_feed_23 ?_
    refine g_getP (b := 2) f_X10_12 d_X10_feed_24 rfl (Nat.le_of_ble_eq_true rfl) rfl rfl ?_
    refine g_iload_n2 rfl d_X10_feed_27 ?_
    obtain ⟨ho2, hok⟩ := hok
    refine g_callV0 (c_X6_putBytes (m_X6_putBytes I x1) x2 ho2) w_X6_putBytes l_X10_69 d_X10_feed_28 rfl (Nat.le_of_ble_eq_true rfl) rfl rfl (Nat.le_of_ble_eq_true rfl) ⟨Nat.le_of_ble_eq_true rfl, Nat.le_of_ble_eq_true rfl⟩ ⟨Nat.zero_le _, Nat.zero_le _⟩ ⟨rfl, rfl⟩ ?_
    refine g_aload_n0 rfl d_X10_feed_31 ?_
    refine g_getP (b := 2) f_X10_12 d_X10_feed_32 rfl (Nat.le_of_ble_eq_true rfl) rfl rfl ?_
    refine g_iload_n3 rfl d_X10_feed_35 ?_
    obtain ⟨ho3, hok⟩ := hok
    refine g_callV0 (c_X6_putBytes (m_X6_putBytes (m_X6_putBytes I x1) x2) x3 ho3) w_X6_putBytes l_X10_69 d_X10_feed_36 rfl (Nat.le_of_ble_eq_true rfl) rfl rfl (Nat.le_of_ble_eq_true rfl) ⟨Nat.le_of_ble_eq_true rfl, Nat.le_of_ble_eq_true rfl⟩ ⟨Nat.zero_le _, Nat.zero_le _⟩ ⟨rfl, rfl⟩ ?_
    refine g_aload_n0 rfl d_X10_feed_39 ?_
    refine g_getP (b := 2) f_X10_12 d_X10_feed_40 rfl (Nat.le_of_ble_eq_true rfl) rfl rfl ?_
    refine g_iload (i := 4) rfl d_X10_feed_43 ?_
    obtain ⟨ho4, hok⟩ := hok
    refine g_callV0 (c_X6_putBytes (m_X6_putBytes (m_X6_putBytes (m_X6_putBytes I x1) x2) x3) x4 ho4) w_X6_putBytes l_X10_69 d_X10_feed_45 rfl (Nat.le_of_ble_eq_true rfl) rfl rfl (Nat.le_of_ble_eq_true rfl) ⟨Nat.le_of_ble_eq_true rfl, Nat.le_of_ble_eq_true rfl⟩ ⟨Nat.zero_le _, Nat.zero_le _⟩ ⟨rfl, rfl⟩ ?_
    refine G.toI (I' := (u0_X10_feed I x1 x2 x3 x4)) (by rw [u0_X10_feed, opv_eq]) ?_
    refine g_aload_n0 rfl d_X10_feed_48 ?_
    refine g_getP (b := 2) f_X10_12 d_X10_feed_49 rfl (Nat.le_of_ble_eq_true rfl) rfl rfl ?_
    refine g_iload (i := 5) rfl d_X10_feed_52 ?_
    have ho5 := hok
    refine g_callV0 (c_X6_putBytes (u0_X10_feed I x1 x2 x3 x4) x5 ho5) w_X6_putBytes l_X10_69 d_X10_feed_54 rfl (Nat.le_of_ble_eq_true rfl) rfl rfl (Nat.le_of_ble_eq_true rfl) ⟨Nat.le_of_ble_eq_true rfl, Nat.le_of_ble_eq_true rfl⟩ ⟨Nat.zero_le _, Nat.zero_le _⟩ ⟨rfl, rfl⟩ ?_
    refine g_aload_n0 rfl d_X10_feed_57 ?_
    refine g_getP (b := 2) f_X10_12 d_X10_feed_58 rfl (Nat.le_of_ble_eq_true rfl) rfl rfl ?_
    refine g_getT f_X10_65 d_X10_feed_61 rfl (Nat.le_of_ble_eq_true rfl) rfl ?_
    exact g_iret rfl d_X10_feed_64 ⟨by simp only [f_X10_feed, m_X10_feed, if_pos h1, opv_eq, if_true, if_false, Bool.false_eq_true, reduceCtorEq, b2i_t, b2i_f], by simp only [f_X10_feed, m_X10_feed, if_pos h1, opv_eq, if_true, if_false, Bool.false_eq_true, reduceCtorEq, b2i_t, b2i_f]⟩ (Nat.le_refl _) (Nat.le_refl _)
  · skip
    refine g_iconst (-1) d_X10_feed_13 (by decide) ?_
    exact g_iret rfl d_X10_feed_14 ⟨by simp only [f_X10_feed, m_X10_feed, if_neg h1, opv_eq, if_true, if_false, Bool.false_eq_true, reduceCtorEq, b2i_t, b2i_f], by simp only [f_X10_feed, m_X10_feed, if_neg h1, opv_eq, if_true, if_false, Bool.false_eq_true, reduceCtorEq, b2i_t, b2i_f]⟩ (Nat.le_refl _) (Nat.le_refl _)
noncomputable def u0_X10_takeDraft (I : Nat → Nat → Int32) (w : Bool) : Nat → Nat → Int32 := opv (m_X0_begin (st2 I 0 4 1) 23 (I (td (!w)) 0) (I (td (!w)) 1) (I (td (!w)) 2))
noncomputable def m_X10_takeDraft (I : Nat → Nat → Int32) (w : Bool)  : Nat → Nat → Int32 := opv (m_X4_forget (m_X5_forget (u0_X10_takeDraft I w)))
noncomputable def z_X10_takeDraft (I : Nat → Nat → Int32) (w : Bool)  : Bool := opv (!w)
set_option maxHeartbeats 800000 in
set_option maxRecDepth 4000 in
theorem c_X10_takeDraft {k : KT} {ex : Bool} {J : Nat → Nat → Int64} (I : Nat → Nat → Int32) (w : Bool)   : Cx k mX10_takeDraft 2 [.ref (ka k 0)] (81, ex, I, J, Pw w) none (81, ex, m_X10_takeDraft I w, J, Pw (z_X10_takeDraft I w)) := by
  refine Ct.of rfl [some (.ref (ka k 0)), none] rfl rfl (Nat.le_of_ble_eq_true rfl) ?_
  refine g_aload_n0 rfl d_X10_takeDraft_0 ?_
  refine g_getP (b := td w) f_X10_19 d_X10_takeDraft_1 rfl (Nat.le_of_ble_eq_true rfl) rfl rfl ?_
  refine g_asn1 rfl d_X10_takeDraft_4 ?_
  refine g_aload_n0 rfl d_X10_takeDraft_5 ?_
  refine g_aload_n0 rfl d_X10_takeDraft_6 ?_
  refine g_getP (b := 2) f_X10_12 d_X10_takeDraft_7 rfl (Nat.le_of_ble_eq_true rfl) rfl rfl ?_
  refine g_getP (b := dr w) f_X10_342 d_X10_takeDraft_10 rfl (Nat.le_of_ble_eq_true rfl) rfl rfl ?_
  refine g_putP f_X10_19 d_X10_takeDraft_13 rfl (Nat.le_of_ble_eq_true rfl) rfl rfl rfl ?_
  refine g_aload_n0 rfl d_X10_takeDraft_16 ?_
  refine g_getP (b := 2) f_X10_12 d_X10_takeDraft_17 rfl (Nat.le_of_ble_eq_true rfl) rfl rfl ?_
  refine g_aload_n1 rfl d_X10_takeDraft_20 ?_
  refine g_putP f_X10_342 d_X10_takeDraft_21 rfl (Nat.le_of_ble_eq_true rfl) rfl rfl rfl ?_
  refine G.toP (P' := Pw (!w)) (pw_swap w) ?_
  refine g_aload_n0 rfl d_X10_takeDraft_24 ?_
  refine g_iconst 1 d_X10_takeDraft_25 (by decide) ?_
  refine g_putI f_X10_207 d_X10_takeDraft_26 rfl (Nat.le_of_ble_eq_true rfl) rfl (by decide) (by decide) ?_
  refine g_aload_n0 rfl d_X10_takeDraft_29 ?_
  refine g_getP (b := 23) f_X10_26 d_X10_takeDraft_30 rfl (Nat.le_of_ble_eq_true rfl) rfl rfl ?_
  refine g_aload_n0 rfl d_X10_takeDraft_33 ?_
  refine g_getP (b := td (!w)) f_X10_19 d_X10_takeDraft_34 rfl (Nat.le_of_ble_eq_true rfl) rfl rfl ?_
  refine g_getIv (I (td (!w)) 0) (st2_a _ _ (ne_kd (kd_td (!w)) (rfl : kd 0 = 9) (by decide))) f_X10_345 d_X10_takeDraft_37 (kd_td (!w)) (kd_sg (kd_td (!w)) (by decide)) rfl ?_
  refine g_aload_n0 rfl d_X10_takeDraft_40 ?_
  refine g_getP (b := td (!w)) f_X10_19 d_X10_takeDraft_41 rfl (Nat.le_of_ble_eq_true rfl) rfl rfl ?_
  refine g_getIv (I (td (!w)) 1) (st2_a _ _ (ne_kd (kd_td (!w)) (rfl : kd 0 = 9) (by decide))) f_X10_317 d_X10_takeDraft_44 (kd_td (!w)) (kd_sg (kd_td (!w)) (by decide)) rfl ?_
  refine g_aload_n0 rfl d_X10_takeDraft_47 ?_
  refine g_getP (b := td (!w)) f_X10_19 d_X10_takeDraft_48 rfl (Nat.le_of_ble_eq_true rfl) rfl rfl ?_
  refine g_getIv (I (td (!w)) 2) (st2_a _ _ (ne_kd (kd_td (!w)) (rfl : kd 0 = 9) (by decide))) f_X10_320 d_X10_takeDraft_51 (kd_td (!w)) (kd_sg (kd_td (!w)) (by decide)) rfl ?_
  refine g_callV0 (c_X0_begin (st2 I 0 4 1) 23 rfl (I (td (!w)) 0) (I (td (!w)) 1) (I (td (!w)) 2)) w_X0_begin l_X10_346 d_X10_takeDraft_54 rfl (Nat.le_of_ble_eq_true rfl) rfl rfl (Nat.le_of_ble_eq_true rfl) ⟨Nat.le_of_ble_eq_true rfl, Nat.le_of_ble_eq_true rfl⟩ ⟨Nat.zero_le _, Nat.zero_le _⟩ ⟨rfl, rfl⟩ ?_
  refine G.toI (I' := (u0_X10_takeDraft I w)) (by rw [u0_X10_takeDraft, opv_eq]) ?_
  refine g_aload_n0 rfl d_X10_takeDraft_57 ?_
  refine g_getP (b := 24) f_X10_33 d_X10_takeDraft_58 rfl (Nat.le_of_ble_eq_true rfl) rfl rfl ?_
  refine g_callV0 (c_X5_forget (u0_X10_takeDraft I w) ) w_X5_forget l_X10_349 d_X10_takeDraft_61 rfl (Nat.le_of_ble_eq_true rfl) rfl rfl (Nat.le_of_ble_eq_true rfl) ⟨Nat.le_of_ble_eq_true rfl, Nat.le_of_ble_eq_true rfl⟩ ⟨Nat.zero_le _, Nat.zero_le _⟩ ⟨rfl, rfl⟩ ?_
  refine g_aload_n0 rfl d_X10_takeDraft_64 ?_
  refine g_getP (b := 58) f_X10_54 d_X10_takeDraft_65 rfl (Nat.le_of_ble_eq_true rfl) rfl rfl ?_
  refine g_callV0 (c_X4_forget (m_X5_forget (u0_X10_takeDraft I w)) ) w_X4_forget l_X10_352 d_X10_takeDraft_68 rfl (Nat.le_of_ble_eq_true rfl) rfl rfl (Nat.le_of_ble_eq_true rfl) ⟨Nat.le_of_ble_eq_true rfl, Nat.le_of_ble_eq_true rfl⟩ ⟨Nat.zero_le _, Nat.zero_le _⟩ ⟨rfl, rfl⟩ ?_
  exact g_vret rfl d_X10_takeDraft_71 ⟨rfl, by simp only [m_X10_takeDraft, z_X10_takeDraft, opv_eq, if_true, if_false, Bool.false_eq_true, reduceCtorEq, b2i_t, b2i_f]⟩ (Nat.le_refl _) (Nat.le_refl _)
noncomputable def u0_X10_chalet (I : Nat → Nat → Int32) (J : Nat → Nat → Int64) (w : Bool) (x1 : Int32) : Nat → Nat → Int32 := opv (m_X10_takeDraft (st2 (st2 (m_X6_readLines (m_X6_begin I w x1) J w) 0 5 ((m_X6_readLines (m_X6_begin I w x1) J w) 2 0)) 0 6 ((m_X6_readLines (m_X6_begin I w x1) J w) 2 1)) w)
noncomputable def u1_X10_chalet (I : Nat → Nat → Int32) (J : Nat → Nat → Int64) (w : Bool) (x1 : Int32) : Nat → Nat → Int32 := opv (m_X10_refuse (st2 (st2 (m_X6_readLines (m_X6_begin I w x1) J w) 0 5 ((m_X6_readLines (m_X6_begin I w x1) J w) 2 0)) 0 6 ((m_X6_readLines (m_X6_begin I w x1) J w) 2 1)) 4)
noncomputable def f_X10_chalet (I : Nat → Nat → Int32) (J : Nat → Nat → Int64) (w : Bool) (x1 : Int32) : Int32 := opv (if (f_X10_within I x1 0 (I 0 1)) = true then (if (f_X6_readLines (m_X6_begin I w x1) J w) = true then (u0_X10_chalet I J w x1) (rt (td (z_X10_takeDraft (st2 (st2 (m_X6_readLines (m_X6_begin I w x1) J w) 0 5 ((m_X6_readLines (m_X6_begin I w x1) J w) 2 0)) 0 6 ((m_X6_readLines (m_X6_begin I w x1) J w) 2 1)) w)) 7) 3 else f_X10_refuse (st2 (st2 (m_X6_readLines (m_X6_begin I w x1) J w) 0 5 ((m_X6_readLines (m_X6_begin I w x1) J w) 2 0)) 0 6 ((m_X6_readLines (m_X6_begin I w x1) J w) 2 1)) 4) else f_X10_refuse I 2)
noncomputable def m_X10_chalet (I : Nat → Nat → Int32) (J : Nat → Nat → Int64) (w : Bool) (x1 : Int32) : Nat → Nat → Int32 := opv (if (f_X10_within I x1 0 (I 0 1)) = true then (if (f_X6_readLines (m_X6_begin I w x1) J w) = true then (st2 (u0_X10_chalet I J w x1) 0 7 0) else (u1_X10_chalet I J w x1)) else (m_X10_refuse I 2))
noncomputable def j_X10_chalet (I : Nat → Nat → Int32) (J : Nat → Nat → Int64) (w : Bool) (x1 : Int32) : Nat → Nat → Int64 := opv (if (f_X10_within I x1 0 (I 0 1)) = true then (j_X6_readLines (m_X6_begin I w x1) J w) else J)
noncomputable def z_X10_chalet (I : Nat → Nat → Int32) (J : Nat → Nat → Int64) (w : Bool) (x1 : Int32) : Bool := opv (if (f_X10_within I x1 0 (I 0 1)) = true then (if (f_X6_readLines (m_X6_begin I w x1) J w) = true then (z_X10_takeDraft (st2 (st2 (m_X6_readLines (m_X6_begin I w x1) J w) 0 5 ((m_X6_readLines (m_X6_begin I w x1) J w) 2 0)) 0 6 ((m_X6_readLines (m_X6_begin I w x1) J w) 2 1)) w) else w) else w)
noncomputable def ok_X10_chalet (I : Nat → Nat → Int32) (J : Nat → Nat → Int64) (w : Bool) (x1 : Int32) : Prop := opv (if (f_X10_within I x1 0 (I 0 1)) = true then ok_X6_readLines (m_X6_begin I w x1) J w else True)
set_option maxHeartbeats 800000 in
set_option maxRecDepth 4000 in
theorem c_X10_chalet {k : KT} {ex : Bool} (I : Nat → Nat → Int32) (J : Nat → Nat → Int64) (w : Bool) (x1 : Int32)  (hok : ok_X10_chalet I J w x1) : Cx k mX10_chalet 11 [.ref (ka k 0), .int x1] (81, ex, I, J, Pw w) (some (.int (f_X10_chalet I J w x1))) (81, ex, m_X10_chalet I J w x1, j_X10_chalet I J w x1, Pw (z_X10_chalet I J w x1)) := by
  refine Ct.of rfl [some (.ref (ka k 0)), some (.int x1), none] rfl rfl (Nat.le_of_ble_eq_true rfl) ?_
  rw [ok_X10_chalet, opv_eq] at hok
  refine g_iload_n1 rfl d_X10_chalet_0 ?_
  refine g_iconst 0 d_X10_chalet_1 (by decide) ?_
  refine g_aload_n0 rfl d_X10_chalet_2 ?_
  refine g_getP (b := 2) f_X10_12 d_X10_chalet_3 rfl (Nat.le_of_ble_eq_true rfl) rfl rfl ?_
  refine g_getT f_X10_65 d_X10_chalet_6 rfl (Nat.le_of_ble_eq_true rfl) rfl ?_
  refine g_callS1 (c_X10_within I x1 0 (I 0 1)) w_X10_within l_X10_73 d_X10_chalet_9 rfl rfl (Nat.le_of_ble_eq_true rfl) ⟨Nat.le_of_ble_eq_true rfl, Nat.le_of_ble_eq_true rfl⟩ ⟨Nat.zero_le _, Nat.zero_le _⟩ ⟨rfl, rfl⟩ ?_
  refine g_ifnz 21 d_X10_chalet_12 (by decide) (fun h1 => ?_) (fun h1 => ?_)
  · skip
    rw [if_pos h1] at hok
    refine g_aload_n0 rfl d_X10_chalet_21 ?_
    refine g_getP (b := 2) f_X10_12 d_X10_chalet_22 rfl (Nat.le_of_ble_eq_true rfl) rfl rfl ?_
    refine g_iload_n1 rfl d_X10_chalet_25 ?_
    refine g_callV0 (c_X6_begin I w x1) w_X6_begin l_X10_81 d_X10_chalet_26 rfl (Nat.le_of_ble_eq_true rfl) rfl rfl (Nat.le_of_ble_eq_true rfl) ⟨Nat.le_of_ble_eq_true rfl, Nat.le_of_ble_eq_true rfl⟩ ⟨Nat.zero_le _, Nat.zero_le _⟩ ⟨rfl, rfl⟩ ?_
    refine g_aload_n0 rfl d_X10_chalet_29 ?_
    refine g_getP (b := 2) f_X10_12 d_X10_chalet_30 rfl (Nat.le_of_ble_eq_true rfl) rfl rfl ?_
    have ho1 := hok
    refine g_callV1 (c_X6_readLines (m_X6_begin I w x1) J w  ho1) w_X6_readLines l_X10_84 d_X10_chalet_33 rfl (Nat.le_of_ble_eq_true rfl) rfl rfl (Nat.le_of_ble_eq_true rfl) ⟨Nat.le_of_ble_eq_true rfl, Nat.le_of_ble_eq_true rfl⟩ ⟨Nat.zero_le _, Nat.zero_le _⟩ ⟨rfl, rfl⟩ ?_
    refine g_isn2 rfl d_X10_chalet_36 ?_
    refine g_aload_n0 rfl d_X10_chalet_37 ?_
    refine g_aload_n0 rfl d_X10_chalet_38 ?_
    refine g_getP (b := 2) f_X10_12 d_X10_chalet_39 rfl (Nat.le_of_ble_eq_true rfl) rfl rfl ?_
    refine g_getI f_X10_88 d_X10_chalet_42 rfl (Nat.le_of_ble_eq_true rfl) rfl ?_
    refine g_putI f_X10_91 d_X10_chalet_45 rfl (Nat.le_of_ble_eq_true rfl) rfl rfl rfl ?_
    refine g_aload_n0 rfl d_X10_chalet_48 ?_
    refine g_aload_n0 rfl d_X10_chalet_49 ?_
    refine g_getP (b := 2) f_X10_12 d_X10_chalet_50 rfl (Nat.le_of_ble_eq_true rfl) rfl rfl ?_
    refine g_getIv ((m_X6_readLines (m_X6_begin I w x1) J w) 2 1) (st2_a _ _ (by decide)) f_X10_92 d_X10_chalet_53 rfl (Nat.le_of_ble_eq_true rfl) rfl ?_
    refine g_putI f_X10_95 d_X10_chalet_56 rfl (Nat.le_of_ble_eq_true rfl) rfl rfl rfl ?_
    refine g_iload_n2 rfl d_X10_chalet_59 ?_
    refine g_ifnz 69 d_X10_chalet_60 (by decide) (fun h2 => ?_) (fun h2 => ?_)
    · skip
      refine g_aload_n0 rfl d_X10_chalet_69 ?_
      refine g_callV0 (c_X10_takeDraft (st2 (st2 (m_X6_readLines (m_X6_begin I w x1) J w) 0 5 ((m_X6_readLines (m_X6_begin I w x1) J w) 2 0)) 0 6 ((m_X6_readLines (m_X6_begin I w x1) J w) 2 1)) w ) w_X10_takeDraft l_X10_98 d_X10_chalet_70 rfl (Nat.le_of_ble_eq_true rfl) rfl rfl (Nat.le_of_ble_eq_true rfl) ⟨Nat.le_of_ble_eq_true rfl, Nat.le_of_ble_eq_true rfl⟩ ⟨Nat.zero_le _, Nat.zero_le _⟩ ⟨rfl, rfl⟩ ?_
      refine G.toI (I' := (u0_X10_chalet I J w x1)) (by rw [u0_X10_chalet, opv_eq]) ?_
      refine g_aload_n0 rfl d_X10_chalet_73 ?_
      refine g_iconst 0 d_X10_chalet_74 (by decide) ?_
      refine g_putI f_X10_101 d_X10_chalet_75 rfl (Nat.le_of_ble_eq_true rfl) rfl rfl rfl ?_
      refine g_aload_n0 rfl d_X10_chalet_78 ?_
      refine g_getP (b := td (z_X10_takeDraft (st2 (st2 (m_X6_readLines (m_X6_begin I w x1) J w) 0 5 ((m_X6_readLines (m_X6_begin I w x1) J w) 2 0)) 0 6 ((m_X6_readLines (m_X6_begin I w x1) J w) 2 1)) w)) f_X10_19 d_X10_chalet_79 rfl (Nat.le_of_ble_eq_true rfl) rfl rfl ?_
      refine g_getP (b := rt (td (z_X10_takeDraft (st2 (st2 (m_X6_readLines (m_X6_begin I w x1) J w) 0 5 ((m_X6_readLines (m_X6_begin I w x1) J w) 2 0)) 0 6 ((m_X6_readLines (m_X6_begin I w x1) J w) 2 1)) w)) 7) f_X10_104 d_X10_chalet_82 (kd_td (z_X10_takeDraft (st2 (st2 (m_X6_readLines (m_X6_begin I w x1) J w) 0 5 ((m_X6_readLines (m_X6_begin I w x1) J w) 2 0)) 0 6 ((m_X6_readLines (m_X6_begin I w x1) J w) 2 1)) w)) (kd_sg (kd_td (z_X10_takeDraft (st2 (st2 (m_X6_readLines (m_X6_begin I w x1) J w) 0 5 ((m_X6_readLines (m_X6_begin I w x1) J w) 2 0)) 0 6 ((m_X6_readLines (m_X6_begin I w x1) J w) 2 1)) w)) (by decide)) rfl (pw_rt (kd_td (z_X10_takeDraft (st2 (st2 (m_X6_readLines (m_X6_begin I w x1) J w) 0 5 ((m_X6_readLines (m_X6_begin I w x1) J w) 2 0)) 0 6 ((m_X6_readLines (m_X6_begin I w x1) J w) 2 1)) w)) (by decide) (by decide)) ?_
      refine g_getIv ((u0_X10_chalet I J w x1) (rt (td (z_X10_takeDraft (st2 (st2 (m_X6_readLines (m_X6_begin I w x1) J w) 0 5 ((m_X6_readLines (m_X6_begin I w x1) J w) 2 0)) 0 6 ((m_X6_readLines (m_X6_begin I w x1) J w) 2 1)) w)) 7) 3) (st2_a _ _ (ne_kd (kt7 (kd_td (z_X10_takeDraft (st2 (st2 (m_X6_readLines (m_X6_begin I w x1) J w) 0 5 ((m_X6_readLines (m_X6_begin I w x1) J w) 2 0)) 0 6 ((m_X6_readLines (m_X6_begin I w x1) J w) 2 1)) w))).1 (rfl : kd 0 = 9) (by decide))) f_X10_108 d_X10_chalet_85 (kt7 (kd_td (z_X10_takeDraft (st2 (st2 (m_X6_readLines (m_X6_begin I w x1) J w) 0 5 ((m_X6_readLines (m_X6_begin I w x1) J w) 2 0)) 0 6 ((m_X6_readLines (m_X6_begin I w x1) J w) 2 1)) w))).1 (kd_sg ((kt7 (kd_td (z_X10_takeDraft (st2 (st2 (m_X6_readLines (m_X6_begin I w x1) J w) 0 5 ((m_X6_readLines (m_X6_begin I w x1) J w) 2 0)) 0 6 ((m_X6_readLines (m_X6_begin I w x1) J w) 2 1)) w))).1) (by decide)) rfl ?_
      exact g_iret rfl d_X10_chalet_88 ⟨by simp only [f_X10_chalet, m_X10_chalet, j_X10_chalet, z_X10_chalet, if_pos h1, if_pos h2, opv_eq, if_true, if_false, Bool.false_eq_true, reduceCtorEq, b2i_t, b2i_f], by simp only [f_X10_chalet, m_X10_chalet, j_X10_chalet, z_X10_chalet, if_pos h1, if_pos h2, opv_eq, if_true, if_false, Bool.false_eq_true, reduceCtorEq, b2i_t, b2i_f]⟩ (Nat.le_refl _) (Nat.le_refl _)
    · skip
      refine g_aload_n0 rfl d_X10_chalet_63 ?_
      refine g_iconst 4 d_X10_chalet_64 (by decide) ?_
      refine g_callV1 (c_X10_refuse (st2 (st2 (m_X6_readLines (m_X6_begin I w x1) J w) 0 5 ((m_X6_readLines (m_X6_begin I w x1) J w) 2 0)) 0 6 ((m_X6_readLines (m_X6_begin I w x1) J w) 2 1)) 4) w_X10_refuse l_X10_77 d_X10_chalet_65 rfl (Nat.le_of_ble_eq_true rfl) rfl rfl (Nat.le_of_ble_eq_true rfl) ⟨Nat.le_of_ble_eq_true rfl, Nat.le_of_ble_eq_true rfl⟩ ⟨Nat.zero_le _, Nat.zero_le _⟩ ⟨rfl, rfl⟩ ?_
      refine G.toI (I' := (u1_X10_chalet I J w x1)) (by rw [u1_X10_chalet, opv_eq]) ?_
      exact g_iret rfl d_X10_chalet_68 ⟨by simp only [f_X10_chalet, m_X10_chalet, j_X10_chalet, z_X10_chalet, if_pos h1, if_neg (nb h2), opv_eq, if_true, if_false, Bool.false_eq_true, reduceCtorEq, b2i_t, b2i_f], by simp only [f_X10_chalet, m_X10_chalet, j_X10_chalet, z_X10_chalet, if_pos h1, if_neg (nb h2), opv_eq, if_true, if_false, Bool.false_eq_true, reduceCtorEq, b2i_t, b2i_f]⟩ (Nat.le_refl _) (Nat.le_refl _)
  · skip
    refine g_aload_n0 rfl d_X10_chalet_15 ?_
    refine g_iconst 2 d_X10_chalet_16 (by decide) ?_
    refine g_callV1 (c_X10_refuse I 2) w_X10_refuse l_X10_77 d_X10_chalet_17 rfl (Nat.le_of_ble_eq_true rfl) rfl rfl (Nat.le_of_ble_eq_true rfl) ⟨Nat.le_of_ble_eq_true rfl, Nat.le_of_ble_eq_true rfl⟩ ⟨Nat.zero_le _, Nat.zero_le _⟩ ⟨rfl, rfl⟩ ?_
    exact g_iret rfl d_X10_chalet_20 ⟨by simp only [f_X10_chalet, m_X10_chalet, j_X10_chalet, z_X10_chalet, if_neg (nb h1), opv_eq, if_true, if_false, Bool.false_eq_true, reduceCtorEq, b2i_t, b2i_f], by simp only [f_X10_chalet, m_X10_chalet, j_X10_chalet, z_X10_chalet, if_neg (nb h1), opv_eq, if_true, if_false, Bool.false_eq_true, reduceCtorEq, b2i_t, b2i_f]⟩ (Nat.le_refl _) (Nat.le_refl _)
noncomputable def f_X10_fault (I : Nat → Nat → Int32)  : Int32 := opv (I 0 5)
set_option maxHeartbeats 800000 in
set_option maxRecDepth 4000 in
theorem c_X10_fault {k : KT} {ex : Bool} {J : Nat → Nat → Int64} {w : Bool} (I : Nat → Nat → Int32)   : Cx k mX10_fault 1 [.ref (ka k 0)] (81, ex, I, J, Pw w) (some (.int (f_X10_fault I))) (81, ex, I, J, Pw w) := by
  refine Ct.of rfl [some (.ref (ka k 0))] rfl rfl (Nat.le_of_ble_eq_true rfl) ?_
  refine g_aload_n0 rfl d_X10_fault_0 ?_
  refine g_getI f_X10_91 d_X10_fault_1 rfl (Nat.le_of_ble_eq_true rfl) rfl ?_
  exact g_iret rfl d_X10_fault_4 ⟨by simp only [f_X10_fault, opv_eq, if_true, if_false, Bool.false_eq_true, reduceCtorEq, b2i_t, b2i_f], rfl⟩ (Nat.le_refl _) (Nat.le_refl _)
noncomputable def f_X10_where (I : Nat → Nat → Int32)  : Int32 := opv (if (I 0 7) = 4 then I 0 6 else (-1))
set_option maxHeartbeats 800000 in
set_option maxRecDepth 4000 in
theorem c_X10_where {k : KT} {ex : Bool} {J : Nat → Nat → Int64} {w : Bool} (I : Nat → Nat → Int32)   : Cx k mX10_where 1 [.ref (ka k 0)] (81, ex, I, J, Pw w) (some (.int (f_X10_where I))) (81, ex, I, J, Pw w) := by
  refine Ct.of rfl [some (.ref (ka k 0))] rfl rfl (Nat.le_of_ble_eq_true rfl) ?_
  refine g_aload_n0 rfl d_X10_where_0 ?_
  refine g_getI f_X10_101 d_X10_where_1 rfl (Nat.le_of_ble_eq_true rfl) rfl ?_
  refine g_iconst 4 d_X10_where_4 (by decide) ?_
  refine g_cut (pc' := 16) (vs' := [some (.ref (ka k 0))]) (st' := [.int (if (I 0 7) = 4 then I 0 6 else (-1))]) (M' := (81, ex, I, J, Pw w)) (fun hj => ?_) ?_
  · skip
    refine g_icmp_ne 15 d_X10_where_5 (by decide) (fun h1 => ?_) (fun h1 => ?_)
    · skip
      refine g_iconst (-1) d_X10_where_15 (by decide) ?_
      (try simp only [if_neg h1, opv_eq, if_true, if_false, Bool.false_eq_true, reduceCtorEq, b2i_t, b2i_f] at hj); exact hj
    · skip
      refine g_aload_n0 rfl d_X10_where_8 ?_
      refine g_getI f_X10_95 d_X10_where_9 rfl (Nat.le_of_ble_eq_true rfl) rfl ?_
      refine g_goto 16 d_X10_where_12 (by decide) ?_
      (try simp only [if_pos h1, opv_eq, if_true, if_false, Bool.false_eq_true, reduceCtorEq, b2i_t, b2i_f] at hj); exact hj
  · skip
    exact g_iret rfl d_X10_where_16 ⟨by simp only [f_X10_where, opv_eq, if_true, if_false, Bool.false_eq_true, reduceCtorEq, b2i_t, b2i_f], rfl⟩ (Nat.le_refl _) (Nat.le_refl _)
noncomputable def f_X10_trouble (I : Nat → Nat → Int32)  : Int32 := opv (I 0 7)
set_option maxHeartbeats 800000 in
set_option maxRecDepth 4000 in
theorem c_X10_trouble {k : KT} {ex : Bool} {J : Nat → Nat → Int64} {w : Bool} (I : Nat → Nat → Int32)   : Cx k mX10_trouble 1 [.ref (ka k 0)] (81, ex, I, J, Pw w) (some (.int (f_X10_trouble I))) (81, ex, I, J, Pw w) := by
  refine Ct.of rfl [some (.ref (ka k 0))] rfl rfl (Nat.le_of_ble_eq_true rfl) ?_
  refine g_aload_n0 rfl d_X10_trouble_0 ?_
  refine g_getI f_X10_101 d_X10_trouble_1 rfl (Nat.le_of_ble_eq_true rfl) rfl ?_
  exact g_iret rfl d_X10_trouble_4 ⟨by simp only [f_X10_trouble, opv_eq, if_true, if_false, Bool.false_eq_true, reduceCtorEq, b2i_t, b2i_f], rfl⟩ (Nat.le_refl _) (Nat.le_refl _)
noncomputable def f_X10_size (I : Nat → Nat → Int32) (w : Bool) (x1 : Int32) : Int32 := opv (if x1 = 0 then I (td w) 1 else (if x1 = 1 then I (td w) 2 else (if x1 = 2 then I (td w) 3 else (if x1 = 3 then I (td w) 4 else (if x1 = 4 then I (td w) 5 else (if x1 = 5 then I (rt (td w) 7) 3 else (if x1 = 6 then I (rt (td w) 8) 3 else (if x1 = 7 then I (rt (td w) 9) 3 else (if x1 = 8 then I (td w) 6 else (if x1 = 9 then I (rt (td w) 10) 3 else (if x1 = 10 then I 23 6 else (if x1 = 11 then I 24 0 else (if x1 = 12 then I 24 1 else (if x1 = 13 then I 0 1 else (-1)))))))))))))))
set_option maxHeartbeats 800000 in
set_option maxRecDepth 4000 in
theorem c_X10_size {k : KT} {ex : Bool} {J : Nat → Nat → Int64} (I : Nat → Nat → Int32) (w : Bool) (x1 : Int32)  : Cx k mX10_size 1 [.ref (ka k 0), .int x1] (81, ex, I, J, Pw w) (some (.int (f_X10_size I w x1))) (81, ex, I, J, Pw w) := by
  refine Ct.of rfl [some (.ref (ka k 0)), some (.int x1)] rfl rfl (Nat.le_of_ble_eq_true rfl) ?_
  refine g_iload_n1 rfl d_X10_size_0 ?_
  refine g_tcase 0 72 d_X10_size_1 (by decide) (by decide) rfl (by decide) (fun h1 => ?_) (fun h1 => ?_)
  · skip
    refine g_aload_n0 rfl d_X10_size_72 ?_
    refine g_getP (b := td w) f_X10_19 d_X10_size_73 rfl (Nat.le_of_ble_eq_true rfl) rfl rfl ?_
    refine g_getI f_X10_317 d_X10_size_76 (kd_td w) (kd_sg (kd_td w) (by decide)) rfl ?_
    exact g_iret rfl d_X10_size_79 ⟨by simp only [f_X10_size, if_pos h1, opv_eq, if_true, if_false, Bool.false_eq_true, reduceCtorEq, b2i_t, b2i_f], rfl⟩ (Nat.le_refl _) (Nat.le_refl _)
  refine g_tcase 1 80 d_X10_size_1 (by decide) (by decide) rfl (by decide) (fun h2 => ?_) (fun h2 => ?_)
  · skip
    refine g_aload_n0 rfl d_X10_size_80 ?_
    refine g_getP (b := td w) f_X10_19 d_X10_size_81 rfl (Nat.le_of_ble_eq_true rfl) rfl rfl ?_
    refine g_getI f_X10_320 d_X10_size_84 (kd_td w) (kd_sg (kd_td w) (by decide)) rfl ?_
    exact g_iret rfl d_X10_size_87 ⟨by simp only [f_X10_size, if_neg h1, if_pos h2, opv_eq, if_true, if_false, Bool.false_eq_true, reduceCtorEq, b2i_t, b2i_f], rfl⟩ (Nat.le_refl _) (Nat.le_refl _)
  refine g_tcase 2 88 d_X10_size_1 (by decide) (by decide) rfl (by decide) (fun h3 => ?_) (fun h3 => ?_)
  · skip
    refine g_aload_n0 rfl d_X10_size_88 ?_
    refine g_getP (b := td w) f_X10_19 d_X10_size_89 rfl (Nat.le_of_ble_eq_true rfl) rfl rfl ?_
    refine g_getI f_X10_321 d_X10_size_92 (kd_td w) (kd_sg (kd_td w) (by decide)) rfl ?_
    exact g_iret rfl d_X10_size_95 ⟨by simp only [f_X10_size, if_neg h1, if_neg h2, if_pos h3, opv_eq, if_true, if_false, Bool.false_eq_true, reduceCtorEq, b2i_t, b2i_f], rfl⟩ (Nat.le_refl _) (Nat.le_refl _)
  refine g_tcase 3 96 d_X10_size_1 (by decide) (by decide) rfl (by decide) (fun h4 => ?_) (fun h4 => ?_)
  · skip
    refine g_aload_n0 rfl d_X10_size_96 ?_
    refine g_getP (b := td w) f_X10_19 d_X10_size_97 rfl (Nat.le_of_ble_eq_true rfl) rfl rfl ?_
    refine g_getI f_X10_324 d_X10_size_100 (kd_td w) (kd_sg (kd_td w) (by decide)) rfl ?_
    exact g_iret rfl d_X10_size_103 ⟨by simp only [f_X10_size, if_neg h1, if_neg h2, if_neg h3, if_pos h4, opv_eq, if_true, if_false, Bool.false_eq_true, reduceCtorEq, b2i_t, b2i_f], rfl⟩ (Nat.le_refl _) (Nat.le_refl _)
  refine g_tcase 4 104 d_X10_size_1 (by decide) (by decide) rfl (by decide) (fun h5 => ?_) (fun h5 => ?_)
  · skip
    refine g_aload_n0 rfl d_X10_size_104 ?_
    refine g_getP (b := td w) f_X10_19 d_X10_size_105 rfl (Nat.le_of_ble_eq_true rfl) rfl rfl ?_
    refine g_getI f_X10_327 d_X10_size_108 (kd_td w) (kd_sg (kd_td w) (by decide)) rfl ?_
    exact g_iret rfl d_X10_size_111 ⟨by simp only [f_X10_size, if_neg h1, if_neg h2, if_neg h3, if_neg h4, if_pos h5, opv_eq, if_true, if_false, Bool.false_eq_true, reduceCtorEq, b2i_t, b2i_f], rfl⟩ (Nat.le_refl _) (Nat.le_refl _)
  refine g_tcase 5 112 d_X10_size_1 (by decide) (by decide) rfl (by decide) (fun h6 => ?_) (fun h6 => ?_)
  · skip
    refine g_aload_n0 rfl d_X10_size_112 ?_
    refine g_getP (b := td w) f_X10_19 d_X10_size_113 rfl (Nat.le_of_ble_eq_true rfl) rfl rfl ?_
    refine g_getP (b := rt (td w) 7) f_X10_104 d_X10_size_116 (kd_td w) (kd_sg (kd_td w) (by decide)) rfl (pw_rt (kd_td w) (by decide) (by decide)) ?_
    refine g_getI f_X10_108 d_X10_size_119 (kt7 (kd_td w)).1 (kd_sg ((kt7 (kd_td w)).1) (by decide)) rfl ?_
    exact g_iret rfl d_X10_size_122 ⟨by simp only [f_X10_size, if_neg h1, if_neg h2, if_neg h3, if_neg h4, if_neg h5, if_pos h6, opv_eq, if_true, if_false, Bool.false_eq_true, reduceCtorEq, b2i_t, b2i_f], rfl⟩ (Nat.le_refl _) (Nat.le_refl _)
  refine g_tcase 6 123 d_X10_size_1 (by decide) (by decide) rfl (by decide) (fun h7 => ?_) (fun h7 => ?_)
  · skip
    refine g_aload_n0 rfl d_X10_size_123 ?_
    refine g_getP (b := td w) f_X10_19 d_X10_size_124 rfl (Nat.le_of_ble_eq_true rfl) rfl rfl ?_
    refine g_getP (b := rt (td w) 8) f_X10_147 d_X10_size_127 (kd_td w) (kd_sg (kd_td w) (by decide)) rfl (pw_rt (kd_td w) (by decide) (by decide)) ?_
    refine g_getI f_X10_108 d_X10_size_130 (kt7 (kd_td w)).2.1 (kd_sg ((kt7 (kd_td w)).2.1) (by decide)) rfl ?_
    exact g_iret rfl d_X10_size_133 ⟨by simp only [f_X10_size, if_neg h1, if_neg h2, if_neg h3, if_neg h4, if_neg h5, if_neg h6, if_pos h7, opv_eq, if_true, if_false, Bool.false_eq_true, reduceCtorEq, b2i_t, b2i_f], rfl⟩ (Nat.le_refl _) (Nat.le_refl _)
  refine g_tcase 7 134 d_X10_size_1 (by decide) (by decide) rfl (by decide) (fun h8 => ?_) (fun h8 => ?_)
  · skip
    refine g_aload_n0 rfl d_X10_size_134 ?_
    refine g_getP (b := td w) f_X10_19 d_X10_size_135 rfl (Nat.le_of_ble_eq_true rfl) rfl rfl ?_
    refine g_getP (b := rt (td w) 9) f_X10_330 d_X10_size_138 (kd_td w) (kd_sg (kd_td w) (by decide)) rfl (pw_rt (kd_td w) (by decide) (by decide)) ?_
    refine g_getI f_X10_108 d_X10_size_141 (kt7 (kd_td w)).2.2.1 (kd_sg ((kt7 (kd_td w)).2.2.1) (by decide)) rfl ?_
    exact g_iret rfl d_X10_size_144 ⟨by simp only [f_X10_size, if_neg h1, if_neg h2, if_neg h3, if_neg h4, if_neg h5, if_neg h6, if_neg h7, if_pos h8, opv_eq, if_true, if_false, Bool.false_eq_true, reduceCtorEq, b2i_t, b2i_f], rfl⟩ (Nat.le_refl _) (Nat.le_refl _)
  refine g_tcase 8 145 d_X10_size_1 (by decide) (by decide) rfl (by decide) (fun h9 => ?_) (fun h9 => ?_)
  · skip
    refine g_aload_n0 rfl d_X10_size_145 ?_
    refine g_getP (b := td w) f_X10_19 d_X10_size_146 rfl (Nat.le_of_ble_eq_true rfl) rfl rfl ?_
    refine g_getI f_X10_247 d_X10_size_149 (kd_td w) (kd_sg (kd_td w) (by decide)) rfl ?_
    exact g_iret rfl d_X10_size_152 ⟨by simp only [f_X10_size, if_neg h1, if_neg h2, if_neg h3, if_neg h4, if_neg h5, if_neg h6, if_neg h7, if_neg h8, if_pos h9, opv_eq, if_true, if_false, Bool.false_eq_true, reduceCtorEq, b2i_t, b2i_f], rfl⟩ (Nat.le_refl _) (Nat.le_refl _)
  refine g_tcase 9 153 d_X10_size_1 (by decide) (by decide) rfl (by decide) (fun h10 => ?_) (fun h10 => ?_)
  · skip
    refine g_aload_n0 rfl d_X10_size_153 ?_
    refine g_getP (b := td w) f_X10_19 d_X10_size_154 rfl (Nat.le_of_ble_eq_true rfl) rfl rfl ?_
    refine g_getP (b := rt (td w) 10) f_X10_253 d_X10_size_157 (kd_td w) (kd_sg (kd_td w) (by decide)) rfl (pw_rt (kd_td w) (by decide) (by decide)) ?_
    refine g_getI f_X10_108 d_X10_size_160 (kt7 (kd_td w)).2.2.2 (kd_sg ((kt7 (kd_td w)).2.2.2) (by decide)) rfl ?_
    exact g_iret rfl d_X10_size_163 ⟨by simp only [f_X10_size, if_neg h1, if_neg h2, if_neg h3, if_neg h4, if_neg h5, if_neg h6, if_neg h7, if_neg h8, if_neg h9, if_pos h10, opv_eq, if_true, if_false, Bool.false_eq_true, reduceCtorEq, b2i_t, b2i_f], rfl⟩ (Nat.le_refl _) (Nat.le_refl _)
  refine g_tcase 10 164 d_X10_size_1 (by decide) (by decide) rfl (by decide) (fun h11 => ?_) (fun h11 => ?_)
  · skip
    refine g_aload_n0 rfl d_X10_size_164 ?_
    refine g_getP (b := 23) f_X10_26 d_X10_size_165 rfl (Nat.le_of_ble_eq_true rfl) rfl rfl ?_
    refine g_getI f_X10_179 d_X10_size_168 rfl (Nat.le_of_ble_eq_true rfl) rfl ?_
    exact g_iret rfl d_X10_size_171 ⟨by simp only [f_X10_size, if_neg h1, if_neg h2, if_neg h3, if_neg h4, if_neg h5, if_neg h6, if_neg h7, if_neg h8, if_neg h9, if_neg h10, if_pos h11, opv_eq, if_true, if_false, Bool.false_eq_true, reduceCtorEq, b2i_t, b2i_f], rfl⟩ (Nat.le_refl _) (Nat.le_refl _)
  refine g_tcase 11 172 d_X10_size_1 (by decide) (by decide) rfl (by decide) (fun h12 => ?_) (fun h12 => ?_)
  · skip
    refine g_aload_n0 rfl d_X10_size_172 ?_
    refine g_getP (b := 24) f_X10_33 d_X10_size_173 rfl (Nat.le_of_ble_eq_true rfl) rfl rfl ?_
    refine g_getI f_X10_333 d_X10_size_176 rfl (Nat.le_of_ble_eq_true rfl) rfl ?_
    exact g_iret rfl d_X10_size_179 ⟨by simp only [f_X10_size, if_neg h1, if_neg h2, if_neg h3, if_neg h4, if_neg h5, if_neg h6, if_neg h7, if_neg h8, if_neg h9, if_neg h10, if_neg h11, if_pos h12, opv_eq, if_true, if_false, Bool.false_eq_true, reduceCtorEq, b2i_t, b2i_f], rfl⟩ (Nat.le_refl _) (Nat.le_refl _)
  refine g_tcase 12 180 d_X10_size_1 (by decide) (by decide) rfl (by decide) (fun h13 => ?_) (fun h13 => ?_)
  · skip
    refine g_aload_n0 rfl d_X10_size_180 ?_
    refine g_getP (b := 24) f_X10_33 d_X10_size_181 rfl (Nat.le_of_ble_eq_true rfl) rfl rfl ?_
    refine g_getI f_X10_336 d_X10_size_184 rfl (Nat.le_of_ble_eq_true rfl) rfl ?_
    exact g_iret rfl d_X10_size_187 ⟨by simp only [f_X10_size, if_neg h1, if_neg h2, if_neg h3, if_neg h4, if_neg h5, if_neg h6, if_neg h7, if_neg h8, if_neg h9, if_neg h10, if_neg h11, if_neg h12, if_pos h13, opv_eq, if_true, if_false, Bool.false_eq_true, reduceCtorEq, b2i_t, b2i_f], rfl⟩ (Nat.le_refl _) (Nat.le_refl _)
  refine g_tcase 13 188 d_X10_size_1 (by decide) (by decide) rfl (by decide) (fun h14 => ?_) (fun h14 => ?_)
  · skip
    refine g_aload_n0 rfl d_X10_size_188 ?_
    refine g_getP (b := 2) f_X10_12 d_X10_size_189 rfl (Nat.le_of_ble_eq_true rfl) rfl rfl ?_
    refine g_getT f_X10_65 d_X10_size_192 rfl (Nat.le_of_ble_eq_true rfl) rfl ?_
    exact g_iret rfl d_X10_size_195 ⟨by simp only [f_X10_size, if_neg h1, if_neg h2, if_neg h3, if_neg h4, if_neg h5, if_neg h6, if_neg h7, if_neg h8, if_neg h9, if_neg h10, if_neg h11, if_neg h12, if_neg h13, if_pos h14, opv_eq, if_true, if_false, Bool.false_eq_true, reduceCtorEq, b2i_t, b2i_f], rfl⟩ (Nat.le_refl _) (Nat.le_refl _)
  refine g_tableOut 196 d_X10_size_1 (sw_out (n := 13) (by decide) (fun j hj => by rcases (show j = 0 ∨ j = 1 ∨ j = 2 ∨ j = 3 ∨ j = 4 ∨ j = 5 ∨ j = 6 ∨ j = 7 ∨ j = 8 ∨ j = 9 ∨ j = 10 ∨ j = 11 ∨ j = 12 ∨ j = 13 by omega) with rfl | rfl | rfl | rfl | rfl | rfl | rfl | rfl | rfl | rfl | rfl | rfl | rfl | rfl <;> assumption)) (by decide) ?_
  refine g_iconst (-1) d_X10_size_196 (by decide) ?_
  exact g_iret rfl d_X10_size_197 ⟨by simp only [f_X10_size, if_neg h1, if_neg h2, if_neg h3, if_neg h4, if_neg h5, if_neg h6, if_neg h7, if_neg h8, if_neg h9, if_neg h10, if_neg h11, if_neg h12, if_neg h13, if_neg h14, opv_eq, if_true, if_false, Bool.false_eq_true, reduceCtorEq, b2i_t, b2i_f], rfl⟩ (Nat.le_refl _) (Nat.le_refl _)
noncomputable def m_X10_gathered (I : Nat → Nat → Int32) (w : Bool)  : Nat → Nat → Int32 := opv (m_X4_gather I (td w))
noncomputable def ok_X10_gathered (I : Nat → Nat → Int32) (w : Bool)  : Prop := opv (ok_X4_gather I (td w))
set_option maxHeartbeats 800000 in
set_option maxRecDepth 4000 in
theorem c_X10_gathered {k : KT} {ex : Bool} {J : Nat → Nat → Int64} (I : Nat → Nat → Int32) (w : Bool)   (hok : ok_X10_gathered I w) : Cx k mX10_gathered 7 [.ref (ka k 0)] (81, ex, I, J, Pw w) (some (.ref (ka k 58))) (81, ex, m_X10_gathered I w, J, Pw w) := by
  refine Ct.of rfl [some (.ref (ka k 0))] rfl rfl (Nat.le_of_ble_eq_true rfl) ?_
  rw [ok_X10_gathered, opv_eq] at hok
  refine g_aload_n0 rfl d_X10_gathered_0 ?_
  refine g_getP (b := 58) f_X10_54 d_X10_gathered_1 rfl (Nat.le_of_ble_eq_true rfl) rfl rfl ?_
  refine g_aload_n0 rfl d_X10_gathered_4 ?_
  refine g_getP (b := td w) f_X10_19 d_X10_gathered_5 rfl (Nat.le_of_ble_eq_true rfl) rfl rfl ?_
  have ho1 := hok
  refine g_callV0 (c_X4_gather I (td w) (kd_td w) ho1) w_X4_gather l_X10_339 d_X10_gathered_8 rfl (Nat.le_of_ble_eq_true rfl) rfl rfl (Nat.le_of_ble_eq_true rfl) ⟨Nat.le_of_ble_eq_true rfl, Nat.le_of_ble_eq_true rfl⟩ ⟨Nat.zero_le _, Nat.zero_le _⟩ ⟨rfl, rfl⟩ ?_
  refine g_aload_n0 rfl d_X10_gathered_11 ?_
  refine g_getP (b := 58) f_X10_54 d_X10_gathered_12 rfl (Nat.le_of_ble_eq_true rfl) rfl rfl ?_
  exact g_aret rfl d_X10_gathered_15 ⟨rfl, by simp only [m_X10_gathered, opv_eq, if_true, if_false, Bool.false_eq_true, reduceCtorEq, b2i_t, b2i_f]⟩ (Nat.le_refl _) (Nat.le_refl _)
noncomputable def f_X10_beam (I : Nat → Nat → Int32) (x1 : Int32) : Int32 := opv (if (f_X10_lacks I (f_X10_within I x1 0 5)) = true then (-1) else (if x1 = 0 then ((m_X10_lacks I (f_X10_within I x1 0 5)) 23 0) + 9 else (if x1 = 1 then (m_X10_lacks I (f_X10_within I x1 0 5)) 23 1 else (if x1 = 2 then f_X0_whoIsOut (m_X10_lacks I (f_X10_within I x1 0 5)) 23 else (if x1 = 3 then (m_X10_lacks I (f_X10_within I x1 0 5)) 23 3 else (if x1 = 4 then (m_X10_lacks I (f_X10_within I x1 0 5)) 23 5 else (f_X0_pullOfDamp (m_X10_lacks I (f_X10_within I x1 0 5)) ((m_X10_lacks I (f_X10_within I x1 0 5)) 23 1)) + 9))))))
noncomputable def m_X10_beam (I : Nat → Nat → Int32) (x1 : Int32) : Nat → Nat → Int32 := opv (m_X10_lacks I (f_X10_within I x1 0 5))
set_option maxHeartbeats 800000 in
set_option maxRecDepth 4000 in
theorem c_X10_beam {k : KT} {ex : Bool} {J : Nat → Nat → Int64} {w : Bool} (I : Nat → Nat → Int32) (x1 : Int32)  : Cx k mX10_beam 2 [.ref (ka k 0), .int x1] (81, ex, I, J, Pw w) (some (.int (f_X10_beam I x1))) (81, ex, m_X10_beam I x1, J, Pw w) := by
  refine Ct.of rfl [some (.ref (ka k 0)), some (.int x1)] rfl rfl (Nat.le_of_ble_eq_true rfl) ?_
  refine g_aload_n0 rfl d_X10_beam_0 ?_
  refine g_iload_n1 rfl d_X10_beam_1 ?_
  refine g_iconst 0 d_X10_beam_2 (by decide) ?_
  refine g_iconst 5 d_X10_beam_3 (by decide) ?_
  refine g_callS1 (c_X10_within I x1 0 5) w_X10_within l_X10_73 d_X10_beam_4 rfl rfl (Nat.le_of_ble_eq_true rfl) ⟨Nat.le_of_ble_eq_true rfl, Nat.le_of_ble_eq_true rfl⟩ ⟨Nat.zero_le _, Nat.zero_le _⟩ ⟨rfl, rfl⟩ ?_
  refine g_callV1 (c_X10_lacks I (f_X10_within I x1 0 5)) w_X10_lacks l_X10_113 d_X10_beam_7 rfl (Nat.le_of_ble_eq_true rfl) rfl rfl (Nat.le_of_ble_eq_true rfl) ⟨Nat.le_of_ble_eq_true rfl, Nat.le_of_ble_eq_true rfl⟩ ⟨Nat.zero_le _, Nat.zero_le _⟩ ⟨rfl, rfl⟩ ?_
  refine g_ifz 15 d_X10_beam_10 (by decide) (fun h1 => ?_) (fun h1 => ?_)
  · skip
    refine g_iload_n1 rfl d_X10_beam_15 ?_
    refine g_tcase 0 52 d_X10_beam_16 (by decide) (by decide) rfl (by decide) (fun h2 => ?_) (fun h2 => ?_)
    · skip
      refine g_aload_n0 rfl d_X10_beam_52 ?_
      refine g_getP (b := 23) f_X10_26 d_X10_beam_53 rfl (Nat.le_of_ble_eq_true rfl) rfl rfl ?_
      refine g_getI f_X10_117 d_X10_beam_56 rfl (Nat.le_of_ble_eq_true rfl) rfl ?_
      refine g_bipush 9 d_X10_beam_59 (by decide) ?_
      refine g_iadd d_X10_beam_61 ?_
      exact g_iret rfl d_X10_beam_62 ⟨by simp only [f_X10_beam, m_X10_beam, if_neg (nb h1), if_pos h2, opv_eq, if_true, if_false, Bool.false_eq_true, reduceCtorEq, b2i_t, b2i_f], by simp only [f_X10_beam, m_X10_beam, if_neg (nb h1), if_pos h2, opv_eq, if_true, if_false, Bool.false_eq_true, reduceCtorEq, b2i_t, b2i_f]⟩ (Nat.le_refl _) (Nat.le_refl _)
    refine g_tcase 1 63 d_X10_beam_16 (by decide) (by decide) rfl (by decide) (fun h3 => ?_) (fun h3 => ?_)
    · skip
      refine g_aload_n0 rfl d_X10_beam_63 ?_
      refine g_getP (b := 23) f_X10_26 d_X10_beam_64 rfl (Nat.le_of_ble_eq_true rfl) rfl rfl ?_
      refine g_getI f_X10_120 d_X10_beam_67 rfl (Nat.le_of_ble_eq_true rfl) rfl ?_
      exact g_iret rfl d_X10_beam_70 ⟨by simp only [f_X10_beam, m_X10_beam, if_neg (nb h1), if_neg h2, if_pos h3, opv_eq, if_true, if_false, Bool.false_eq_true, reduceCtorEq, b2i_t, b2i_f], by simp only [f_X10_beam, m_X10_beam, if_neg (nb h1), if_neg h2, if_pos h3, opv_eq, if_true, if_false, Bool.false_eq_true, reduceCtorEq, b2i_t, b2i_f]⟩ (Nat.le_refl _) (Nat.le_refl _)
    refine g_tcase 2 71 d_X10_beam_16 (by decide) (by decide) rfl (by decide) (fun h4 => ?_) (fun h4 => ?_)
    · skip
      refine g_aload_n0 rfl d_X10_beam_71 ?_
      refine g_getP (b := 23) f_X10_26 d_X10_beam_72 rfl (Nat.le_of_ble_eq_true rfl) rfl rfl ?_
      refine g_callV1 (c_X0_whoIsOut (m_X10_lacks I (f_X10_within I x1 0 5)) 23 rfl) w_X0_whoIsOut l_X10_123 d_X10_beam_75 rfl (Nat.le_of_ble_eq_true rfl) rfl rfl (Nat.le_of_ble_eq_true rfl) ⟨Nat.le_of_ble_eq_true rfl, Nat.le_of_ble_eq_true rfl⟩ ⟨Nat.zero_le _, Nat.zero_le _⟩ ⟨rfl, rfl⟩ ?_
      exact g_iret rfl d_X10_beam_78 ⟨by simp only [f_X10_beam, m_X10_beam, if_neg (nb h1), if_neg h2, if_neg h3, if_pos h4, opv_eq, if_true, if_false, Bool.false_eq_true, reduceCtorEq, b2i_t, b2i_f], by simp only [f_X10_beam, m_X10_beam, if_neg (nb h1), if_neg h2, if_neg h3, if_pos h4, opv_eq, if_true, if_false, Bool.false_eq_true, reduceCtorEq, b2i_t, b2i_f]⟩ (Nat.le_refl _) (Nat.le_refl _)
    refine g_tcase 3 79 d_X10_beam_16 (by decide) (by decide) rfl (by decide) (fun h5 => ?_) (fun h5 => ?_)
    · skip
      refine g_aload_n0 rfl d_X10_beam_79 ?_
      refine g_getP (b := 23) f_X10_26 d_X10_beam_80 rfl (Nat.le_of_ble_eq_true rfl) rfl rfl ?_
      refine g_getI f_X10_127 d_X10_beam_83 rfl (Nat.le_of_ble_eq_true rfl) rfl ?_
      exact g_iret rfl d_X10_beam_86 ⟨by simp only [f_X10_beam, m_X10_beam, if_neg (nb h1), if_neg h2, if_neg h3, if_neg h4, if_pos h5, opv_eq, if_true, if_false, Bool.false_eq_true, reduceCtorEq, b2i_t, b2i_f], by simp only [f_X10_beam, m_X10_beam, if_neg (nb h1), if_neg h2, if_neg h3, if_neg h4, if_pos h5, opv_eq, if_true, if_false, Bool.false_eq_true, reduceCtorEq, b2i_t, b2i_f]⟩ (Nat.le_refl _) (Nat.le_refl _)
    refine g_tcase 4 87 d_X10_beam_16 (by decide) (by decide) rfl (by decide) (fun h6 => ?_) (fun h6 => ?_)
    · skip
      refine g_aload_n0 rfl d_X10_beam_87 ?_
      refine g_getP (b := 23) f_X10_26 d_X10_beam_88 rfl (Nat.le_of_ble_eq_true rfl) rfl rfl ?_
      refine g_getI f_X10_130 d_X10_beam_91 rfl (Nat.le_of_ble_eq_true rfl) rfl ?_
      exact g_iret rfl d_X10_beam_94 ⟨by simp only [f_X10_beam, m_X10_beam, if_neg (nb h1), if_neg h2, if_neg h3, if_neg h4, if_neg h5, if_pos h6, opv_eq, if_true, if_false, Bool.false_eq_true, reduceCtorEq, b2i_t, b2i_f], by simp only [f_X10_beam, m_X10_beam, if_neg (nb h1), if_neg h2, if_neg h3, if_neg h4, if_neg h5, if_pos h6, opv_eq, if_true, if_false, Bool.false_eq_true, reduceCtorEq, b2i_t, b2i_f]⟩ (Nat.le_refl _) (Nat.le_refl _)
    refine g_tableOut 95 d_X10_beam_16 (sw_out (n := 4) (by decide) (fun j hj => by rcases (show j = 0 ∨ j = 1 ∨ j = 2 ∨ j = 3 ∨ j = 4 by omega) with rfl | rfl | rfl | rfl | rfl <;> assumption)) (by decide) ?_
    refine g_aload_n0 rfl d_X10_beam_95 ?_
    refine g_getP (b := 23) f_X10_26 d_X10_beam_96 rfl (Nat.le_of_ble_eq_true rfl) rfl rfl ?_
    refine g_getI f_X10_120 d_X10_beam_99 rfl (Nat.le_of_ble_eq_true rfl) rfl ?_
    refine g_callS1 (c_X0_pullOfDamp (m_X10_lacks I (f_X10_within I x1 0 5)) ((m_X10_lacks I (f_X10_within I x1 0 5)) 23 1)) w_X0_pullOfDamp l_X10_133 d_X10_beam_102 rfl rfl (Nat.le_of_ble_eq_true rfl) ⟨Nat.le_of_ble_eq_true rfl, Nat.le_of_ble_eq_true rfl⟩ ⟨Nat.zero_le _, Nat.zero_le _⟩ ⟨rfl, rfl⟩ ?_
    refine g_bipush 9 d_X10_beam_105 (by decide) ?_
    refine g_iadd d_X10_beam_107 ?_
    exact g_iret rfl d_X10_beam_108 ⟨by simp only [f_X10_beam, m_X10_beam, if_neg (nb h1), if_neg h2, if_neg h3, if_neg h4, if_neg h5, if_neg h6, opv_eq, if_true, if_false, Bool.false_eq_true, reduceCtorEq, b2i_t, b2i_f], by simp only [f_X10_beam, m_X10_beam, if_neg (nb h1), if_neg h2, if_neg h3, if_neg h4, if_neg h5, if_neg h6, opv_eq, if_true, if_false, Bool.false_eq_true, reduceCtorEq, b2i_t, b2i_f]⟩ (Nat.le_refl _) (Nat.le_refl _)
  · skip
    refine g_iconst (-1) d_X10_beam_13 (by decide) ?_
    exact g_iret rfl d_X10_beam_14 ⟨by simp only [f_X10_beam, m_X10_beam, if_pos h1, opv_eq, if_true, if_false, Bool.false_eq_true, reduceCtorEq, b2i_t, b2i_f], by simp only [f_X10_beam, m_X10_beam, if_pos h1, opv_eq, if_true, if_false, Bool.false_eq_true, reduceCtorEq, b2i_t, b2i_f]⟩ (Nat.le_refl _) (Nat.le_refl _)
noncomputable def u0_X10_vent (I : Nat → Nat → Int32) (w : Bool) (x1 : Int32) (x2 : Int32) : Bool := opv (if (f_X7_holds I (rt (td w) 7) x1) = true then (if (f_X10_within I x2 0 3) = true then true else false) else false)
noncomputable def u1_X10_vent (I : Nat → Nat → Int32) (w : Bool) (x1 : Int32) (x2 : Int32) : Int32 := opv (if x2 = 3 then (if (f_X0_isOpen (m_X10_lacks I (u0_X10_vent I w x1 x2)) 23 x1) = true then 1 else 0) else f_X7_cell (m_X10_lacks I (u0_X10_vent I w x1 x2)) (rt (td w) 7) x1 x2)
noncomputable def f_X10_vent (I : Nat → Nat → Int32) (w : Bool) (x1 : Int32) (x2 : Int32) : Int32 := opv (if (f_X10_lacks I (u0_X10_vent I w x1 x2)) = true then (-1) else (u1_X10_vent I w x1 x2))
noncomputable def m_X10_vent (I : Nat → Nat → Int32) (w : Bool) (x1 : Int32) (x2 : Int32) : Nat → Nat → Int32 := opv (m_X10_lacks I (u0_X10_vent I w x1 x2))
set_option maxHeartbeats 800000 in
set_option maxRecDepth 4000 in
theorem c_X10_vent {k : KT} {ex : Bool} {J : Nat → Nat → Int64} (I : Nat → Nat → Int32) (w : Bool) (x1 : Int32) (x2 : Int32)  : Cx k mX10_vent 3 [.ref (ka k 0), .int x1, .int x2] (81, ex, I, J, Pw w) (some (.int (f_X10_vent I w x1 x2))) (81, ex, m_X10_vent I w x1 x2, J, Pw w) := by
  refine Ct.of rfl [some (.ref (ka k 0)), some (.int x1), some (.int x2)] rfl rfl (Nat.le_of_ble_eq_true rfl) ?_
  refine g_aload_n0 rfl d_X10_vent_0 ?_
  refine g_aload_n0 rfl d_X10_vent_1 ?_
  refine g_getP (b := td w) f_X10_19 d_X10_vent_2 rfl (Nat.le_of_ble_eq_true rfl) rfl rfl ?_
  refine g_getP (b := rt (td w) 7) f_X10_104 d_X10_vent_5 (kd_td w) (kd_sg (kd_td w) (by decide)) rfl (pw_rt (kd_td w) (by decide) (by decide)) ?_
  refine g_iload_n1 rfl d_X10_vent_8 ?_
  refine g_callV1 (c_X7_holds I (rt (td w) 7) (kt7 (kd_td w)).1 x1) w_X7_holds l_X10_136 d_X10_vent_9 (kt7 (kd_td w)).1 (kd_sg ((kt7 (kd_td w)).1) (by decide)) rfl rfl (Nat.le_of_ble_eq_true rfl) ⟨Nat.le_of_ble_eq_true rfl, Nat.le_of_ble_eq_true rfl⟩ ⟨Nat.zero_le _, Nat.zero_le _⟩ ⟨rfl, rfl⟩ ?_
  refine g_cut (pc' := 29) (vs' := [some (.ref (ka k 0)), some (.int x1), some (.int x2)]) (st' := [.int (b2i (u0_X10_vent I w x1 x2)), .ref (ka k 0)]) (M' := (81, ex, I, J, Pw w)) (fun hj => ?_) ?_
  · skip
    refine g_ifz 28 d_X10_vent_12 (by decide) (fun h1 => ?_) (fun h1 => ?_)
    · skip
      refine g_iconst 0 d_X10_vent_28 (by decide) ?_
      (try simp only [if_neg (nb h1), opv_eq, if_true, if_false, Bool.false_eq_true, reduceCtorEq, b2i_t, b2i_f, u0_X10_vent] at hj); exact hj
    · skip
      refine g_iload_n2 rfl d_X10_vent_15 ?_
      refine g_iconst 0 d_X10_vent_16 (by decide) ?_
      refine g_iconst 3 d_X10_vent_17 (by decide) ?_
      refine g_callS1 (c_X10_within I x2 0 3) w_X10_within l_X10_73 d_X10_vent_18 rfl rfl (Nat.le_of_ble_eq_true rfl) ⟨Nat.le_of_ble_eq_true rfl, Nat.le_of_ble_eq_true rfl⟩ ⟨Nat.zero_le _, Nat.zero_le _⟩ ⟨rfl, rfl⟩ ?_
      refine g_ifz 28 d_X10_vent_21 (by decide) (fun h2 => ?_) (fun h2 => ?_)
      · skip
        refine g_iconst 0 d_X10_vent_28 (by decide) ?_
        (try simp only [if_pos h1, if_neg (nb h2), opv_eq, if_true, if_false, Bool.false_eq_true, reduceCtorEq, b2i_t, b2i_f, u0_X10_vent] at hj); exact hj
      · skip
        refine g_iconst 1 d_X10_vent_24 (by decide) ?_
        refine g_goto 29 d_X10_vent_25 (by decide) ?_
        (try simp only [if_pos h1, if_pos h2, opv_eq, if_true, if_false, Bool.false_eq_true, reduceCtorEq, b2i_t, b2i_f, u0_X10_vent] at hj); exact hj
  · skip
    refine g_callV1 (c_X10_lacks I (u0_X10_vent I w x1 x2)) w_X10_lacks l_X10_113 d_X10_vent_29 rfl (Nat.le_of_ble_eq_true rfl) rfl rfl (Nat.le_of_ble_eq_true rfl) ⟨Nat.le_of_ble_eq_true rfl, Nat.le_of_ble_eq_true rfl⟩ ⟨Nat.zero_le _, Nat.zero_le _⟩ ⟨rfl, rfl⟩ ?_
    refine g_ifz 37 d_X10_vent_32 (by decide) (fun h3 => ?_) (fun h3 => ?_)
    · skip
      refine g_iload_n2 rfl d_X10_vent_37 ?_
      refine g_iconst 3 d_X10_vent_38 (by decide) ?_
      refine g_cut (pc' := 73) (vs' := [some (.ref (ka k 0)), some (.int x1), some (.int x2)]) (st' := [.int (u1_X10_vent I w x1 x2)]) (M' := (81, ex, (m_X10_lacks I (u0_X10_vent I w x1 x2)), J, Pw w)) (fun hj => ?_) ?_
      · skip
        refine g_icmp_ne 61 d_X10_vent_39 (by decide) (fun h4 => ?_) (fun h4 => ?_)
        · skip
          refine g_aload_n0 rfl d_X10_vent_61 ?_
          refine g_getP (b := td w) f_X10_19 d_X10_vent_62 rfl (Nat.le_of_ble_eq_true rfl) rfl rfl ?_
          refine g_getP (b := rt (td w) 7) f_X10_104 d_X10_vent_65 (kd_td w) (kd_sg (kd_td w) (by decide)) rfl (pw_rt (kd_td w) (by decide) (by decide)) ?_
          refine g_iload_n1 rfl d_X10_vent_68 ?_
          refine g_iload_n2 rfl d_X10_vent_69 ?_
          refine g_callV1 (c_X7_cell (m_X10_lacks I (u0_X10_vent I w x1 x2)) (rt (td w) 7) (kt7 (kd_td w)).1 x1 x2 (okt_X7_cell (m_X10_lacks I (u0_X10_vent I w x1 x2)) (rt (td w) 7) (kt7 (kd_td w)).1 x1 x2)) w_X7_cell l_X10_143 d_X10_vent_70 (kt7 (kd_td w)).1 (kd_sg ((kt7 (kd_td w)).1) (by decide)) rfl rfl (Nat.le_of_ble_eq_true rfl) ⟨Nat.le_of_ble_eq_true rfl, Nat.le_of_ble_eq_true rfl⟩ ⟨Nat.zero_le _, Nat.zero_le _⟩ ⟨rfl, rfl⟩ ?_
          (try simp only [if_neg h4, opv_eq, if_true, if_false, Bool.false_eq_true, reduceCtorEq, b2i_t, b2i_f, u1_X10_vent] at hj); exact hj
        · skip
          refine g_aload_n0 rfl d_X10_vent_42 ?_
          refine g_getP (b := 23) f_X10_26 d_X10_vent_43 rfl (Nat.le_of_ble_eq_true rfl) rfl rfl ?_
          refine g_iload_n1 rfl d_X10_vent_46 ?_
          refine g_callV1 (c_X0_isOpen (m_X10_lacks I (u0_X10_vent I w x1 x2)) 23 rfl x1) w_X0_isOpen l_X10_140 d_X10_vent_47 rfl (Nat.le_of_ble_eq_true rfl) rfl rfl (Nat.le_of_ble_eq_true rfl) ⟨Nat.le_of_ble_eq_true rfl, Nat.le_of_ble_eq_true rfl⟩ ⟨Nat.zero_le _, Nat.zero_le _⟩ ⟨rfl, rfl⟩ ?_
          refine g_ifz 57 d_X10_vent_50 (by decide) (fun h5 => ?_) (fun h5 => ?_)
          · skip
            refine g_iconst 0 d_X10_vent_57 (by decide) ?_
            refine g_goto 73 d_X10_vent_58 (by decide) ?_
            (try simp only [if_pos h4, if_neg (nb h5), opv_eq, if_true, if_false, Bool.false_eq_true, reduceCtorEq, b2i_t, b2i_f, u1_X10_vent] at hj); exact hj
          · skip
            refine g_iconst 1 d_X10_vent_53 (by decide) ?_
            refine g_goto 73 d_X10_vent_54 (by decide) ?_
            (try simp only [if_pos h4, if_pos h5, opv_eq, if_true, if_false, Bool.false_eq_true, reduceCtorEq, b2i_t, b2i_f, u1_X10_vent] at hj); exact hj
      · skip
        exact g_iret rfl d_X10_vent_73 ⟨by simp only [f_X10_vent, m_X10_vent, if_neg (nb h3), opv_eq, if_true, if_false, Bool.false_eq_true, reduceCtorEq, b2i_t, b2i_f], by simp only [f_X10_vent, m_X10_vent, if_neg (nb h3), opv_eq, if_true, if_false, Bool.false_eq_true, reduceCtorEq, b2i_t, b2i_f]⟩ (Nat.le_refl _) (Nat.le_refl _)
    · skip
      refine g_iconst (-1) d_X10_vent_35 (by decide) ?_
      exact g_iret rfl d_X10_vent_36 ⟨by simp only [f_X10_vent, m_X10_vent, if_pos h3, opv_eq, if_true, if_false, Bool.false_eq_true, reduceCtorEq, b2i_t, b2i_f], by simp only [f_X10_vent, m_X10_vent, if_pos h3, opv_eq, if_true, if_false, Bool.false_eq_true, reduceCtorEq, b2i_t, b2i_f]⟩ (Nat.le_refl _) (Nat.le_refl _)
noncomputable def u0_X10_plan (I : Nat → Nat → Int32) (w : Bool) (x1 : Int32) (x2 : Int32) : Bool := opv (if (f_X7_holds I (rt (td w) 8) x1) = true then (if (f_X10_within I x2 0 3) = true then true else false) else false)
noncomputable def u1_X10_plan (I : Nat → Nat → Int32) (w : Bool) (x1 : Int32) (x2 : Int32) : Int32 := opv (if x2 = 3 then (if (f_X2_keeps (m_X10_lacks I (u0_X10_plan I w x1 x2)) (td w) 23 x1) = true then 1 else 0) else f_X7_cell (m_X10_lacks I (u0_X10_plan I w x1 x2)) (rt (td w) 8) x1 x2)
noncomputable def u2_X10_plan (I : Nat → Nat → Int32) (w : Bool) (x1 : Int32) (x2 : Int32) : Nat → Nat → Int32 := opv (if x2 = 3 then (m_X2_keeps (m_X10_lacks I (u0_X10_plan I w x1 x2)) (td w) 23 x1) else (m_X10_lacks I (u0_X10_plan I w x1 x2)))
noncomputable def f_X10_plan (I : Nat → Nat → Int32) (w : Bool) (x1 : Int32) (x2 : Int32) : Int32 := opv (if (f_X10_lacks I (u0_X10_plan I w x1 x2)) = true then (-1) else (u1_X10_plan I w x1 x2))
noncomputable def m_X10_plan (I : Nat → Nat → Int32) (w : Bool) (x1 : Int32) (x2 : Int32) : Nat → Nat → Int32 := opv (if (f_X10_lacks I (u0_X10_plan I w x1 x2)) = true then (m_X10_lacks I (u0_X10_plan I w x1 x2)) else (u2_X10_plan I w x1 x2))
noncomputable def ok_X10_plan (I : Nat → Nat → Int32) (w : Bool) (x1 : Int32) (x2 : Int32) : Prop := opv (if (f_X10_lacks I (u0_X10_plan I w x1 x2)) = true then True else (if x2 = 3 then ok_X2_keeps (m_X10_lacks I (u0_X10_plan I w x1 x2)) (td w) 23 x1 else True))
set_option maxHeartbeats 800000 in
set_option maxRecDepth 4000 in
theorem c_X10_plan {k : KT} {ex : Bool} {J : Nat → Nat → Int64} (I : Nat → Nat → Int32) (w : Bool) (x1 : Int32) (x2 : Int32)  (hok : ok_X10_plan I w x1 x2) : Cx k mX10_plan 7 [.ref (ka k 0), .int x1, .int x2] (81, ex, I, J, Pw w) (some (.int (f_X10_plan I w x1 x2))) (81, ex, m_X10_plan I w x1 x2, J, Pw w) := by
  refine Ct.of rfl [some (.ref (ka k 0)), some (.int x1), some (.int x2)] rfl rfl (Nat.le_of_ble_eq_true rfl) ?_
  rw [ok_X10_plan, opv_eq] at hok
  refine g_aload_n0 rfl d_X10_plan_0 ?_
  refine g_aload_n0 rfl d_X10_plan_1 ?_
  refine g_getP (b := td w) f_X10_19 d_X10_plan_2 rfl (Nat.le_of_ble_eq_true rfl) rfl rfl ?_
  refine g_getP (b := rt (td w) 8) f_X10_147 d_X10_plan_5 (kd_td w) (kd_sg (kd_td w) (by decide)) rfl (pw_rt (kd_td w) (by decide) (by decide)) ?_
  refine g_iload_n1 rfl d_X10_plan_8 ?_
  refine g_callV1 (c_X7_holds I (rt (td w) 8) (kt7 (kd_td w)).2.1 x1) w_X7_holds l_X10_136 d_X10_plan_9 (kt7 (kd_td w)).2.1 (kd_sg ((kt7 (kd_td w)).2.1) (by decide)) rfl rfl (Nat.le_of_ble_eq_true rfl) ⟨Nat.le_of_ble_eq_true rfl, Nat.le_of_ble_eq_true rfl⟩ ⟨Nat.zero_le _, Nat.zero_le _⟩ ⟨rfl, rfl⟩ ?_
  refine g_cut (pc' := 29) (vs' := [some (.ref (ka k 0)), some (.int x1), some (.int x2)]) (st' := [.int (b2i (u0_X10_plan I w x1 x2)), .ref (ka k 0)]) (M' := (81, ex, I, J, Pw w)) (fun hj => ?_) ?_
  · skip
    refine g_ifz 28 d_X10_plan_12 (by decide) (fun h1 => ?_) (fun h1 => ?_)
    · skip
      refine g_iconst 0 d_X10_plan_28 (by decide) ?_
      (try simp only [if_neg (nb h1), opv_eq, if_true, if_false, Bool.false_eq_true, reduceCtorEq, b2i_t, b2i_f, u0_X10_plan] at hj); exact hj
    · skip
      refine g_iload_n2 rfl d_X10_plan_15 ?_
      refine g_iconst 0 d_X10_plan_16 (by decide) ?_
      refine g_iconst 3 d_X10_plan_17 (by decide) ?_
      refine g_callS1 (c_X10_within I x2 0 3) w_X10_within l_X10_73 d_X10_plan_18 rfl rfl (Nat.le_of_ble_eq_true rfl) ⟨Nat.le_of_ble_eq_true rfl, Nat.le_of_ble_eq_true rfl⟩ ⟨Nat.zero_le _, Nat.zero_le _⟩ ⟨rfl, rfl⟩ ?_
      refine g_ifz 28 d_X10_plan_21 (by decide) (fun h2 => ?_) (fun h2 => ?_)
      · skip
        refine g_iconst 0 d_X10_plan_28 (by decide) ?_
        (try simp only [if_pos h1, if_neg (nb h2), opv_eq, if_true, if_false, Bool.false_eq_true, reduceCtorEq, b2i_t, b2i_f, u0_X10_plan] at hj); exact hj
      · skip
        refine g_iconst 1 d_X10_plan_24 (by decide) ?_
        refine g_goto 29 d_X10_plan_25 (by decide) ?_
        (try simp only [if_pos h1, if_pos h2, opv_eq, if_true, if_false, Bool.false_eq_true, reduceCtorEq, b2i_t, b2i_f, u0_X10_plan] at hj); exact hj
  · skip
    refine g_callV1 (c_X10_lacks I (u0_X10_plan I w x1 x2)) w_X10_lacks l_X10_113 d_X10_plan_29 rfl (Nat.le_of_ble_eq_true rfl) rfl rfl (Nat.le_of_ble_eq_true rfl) ⟨Nat.le_of_ble_eq_true rfl, Nat.le_of_ble_eq_true rfl⟩ ⟨Nat.zero_le _, Nat.zero_le _⟩ ⟨rfl, rfl⟩ ?_
    refine g_ifz 37 d_X10_plan_32 (by decide) (fun h3 => ?_) (fun h3 => ?_)
    · skip
      rw [if_neg (nb h3)] at hok
      refine g_iload_n2 rfl d_X10_plan_37 ?_
      refine g_iconst 3 d_X10_plan_38 (by decide) ?_
      refine g_cut (pc' := 81) (vs' := [some (.ref (ka k 0)), some (.int x1), some (.int x2)]) (st' := [.int (u1_X10_plan I w x1 x2)]) (M' := (81, ex, (u2_X10_plan I w x1 x2), J, Pw w)) (fun hj => ?_) ?_
      · skip
        refine g_icmp_ne 69 d_X10_plan_39 (by decide) (fun h4 => ?_) (fun h4 => ?_)
        · skip
          refine g_aload_n0 rfl d_X10_plan_69 ?_
          refine g_getP (b := td w) f_X10_19 d_X10_plan_70 rfl (Nat.le_of_ble_eq_true rfl) rfl rfl ?_
          refine g_getP (b := rt (td w) 8) f_X10_147 d_X10_plan_73 (kd_td w) (kd_sg (kd_td w) (by decide)) rfl (pw_rt (kd_td w) (by decide) (by decide)) ?_
          refine g_iload_n1 rfl d_X10_plan_76 ?_
          refine g_iload_n2 rfl d_X10_plan_77 ?_
          refine g_callV1 (c_X7_cell (m_X10_lacks I (u0_X10_plan I w x1 x2)) (rt (td w) 8) (kt7 (kd_td w)).2.1 x1 x2 (okt_X7_cell (m_X10_lacks I (u0_X10_plan I w x1 x2)) (rt (td w) 8) (kt7 (kd_td w)).2.1 x1 x2)) w_X7_cell l_X10_143 d_X10_plan_78 (kt7 (kd_td w)).2.1 (kd_sg ((kt7 (kd_td w)).2.1) (by decide)) rfl rfl (Nat.le_of_ble_eq_true rfl) ⟨Nat.le_of_ble_eq_true rfl, Nat.le_of_ble_eq_true rfl⟩ ⟨Nat.zero_le _, Nat.zero_le _⟩ ⟨rfl, rfl⟩ ?_
          (try simp only [if_neg h4, opv_eq, if_true, if_false, Bool.false_eq_true, reduceCtorEq, b2i_t, b2i_f, u1_X10_plan, u2_X10_plan] at hj); exact hj
        · skip
          rw [if_pos h4] at hok
          refine g_aload_n0 rfl d_X10_plan_42 ?_
          refine g_getP (b := 46) f_X10_40 d_X10_plan_43 rfl (Nat.le_of_ble_eq_true rfl) rfl rfl ?_
          refine g_aload_n0 rfl d_X10_plan_46 ?_
          refine g_getP (b := td w) f_X10_19 d_X10_plan_47 rfl (Nat.le_of_ble_eq_true rfl) rfl rfl ?_
          refine g_aload_n0 rfl d_X10_plan_50 ?_
          refine g_getP (b := 23) f_X10_26 d_X10_plan_51 rfl (Nat.le_of_ble_eq_true rfl) rfl rfl ?_
          refine g_iload_n1 rfl d_X10_plan_54 ?_
          have ho1 := hok
          refine g_callV1 (c_X2_keeps (m_X10_lacks I (u0_X10_plan I w x1 x2)) (td w) (kd_td w) 23 rfl x1 ho1) w_X2_keeps l_X10_150 d_X10_plan_55 rfl (Nat.le_of_ble_eq_true rfl) rfl rfl (Nat.le_of_ble_eq_true rfl) ⟨Nat.le_of_ble_eq_true rfl, Nat.le_of_ble_eq_true rfl⟩ ⟨Nat.zero_le _, Nat.zero_le _⟩ ⟨rfl, rfl⟩ ?_
          refine g_ifz 65 d_X10_plan_58 (by decide) (fun h5 => ?_) (fun h5 => ?_)
          · skip
            refine g_iconst 0 d_X10_plan_65 (by decide) ?_
            refine g_goto 81 d_X10_plan_66 (by decide) ?_
            (try simp only [if_pos h4, if_neg (nb h5), opv_eq, if_true, if_false, Bool.false_eq_true, reduceCtorEq, b2i_t, b2i_f, u1_X10_plan, u2_X10_plan] at hj); exact hj
          · skip
            refine g_iconst 1 d_X10_plan_61 (by decide) ?_
            refine g_goto 81 d_X10_plan_62 (by decide) ?_
            (try simp only [if_pos h4, if_pos h5, opv_eq, if_true, if_false, Bool.false_eq_true, reduceCtorEq, b2i_t, b2i_f, u1_X10_plan, u2_X10_plan] at hj); exact hj
      · skip
        exact g_iret rfl d_X10_plan_81 ⟨by simp only [f_X10_plan, m_X10_plan, if_neg (nb h3), opv_eq, if_true, if_false, Bool.false_eq_true, reduceCtorEq, b2i_t, b2i_f], by simp only [f_X10_plan, m_X10_plan, if_neg (nb h3), opv_eq, if_true, if_false, Bool.false_eq_true, reduceCtorEq, b2i_t, b2i_f]⟩ (Nat.le_refl _) (Nat.le_refl _)
    · skip
      refine g_iconst (-1) d_X10_plan_35 (by decide) ?_
      exact g_iret rfl d_X10_plan_36 ⟨by simp only [f_X10_plan, m_X10_plan, if_pos h3, opv_eq, if_true, if_false, Bool.false_eq_true, reduceCtorEq, b2i_t, b2i_f], by simp only [f_X10_plan, m_X10_plan, if_pos h3, opv_eq, if_true, if_false, Bool.false_eq_true, reduceCtorEq, b2i_t, b2i_f]⟩ (Nat.le_refl _) (Nat.le_refl _)
noncomputable def u0_X10_goes (I : Nat → Nat → Int32) (x1 : Int32) : Int32 := opv (if (f_X10_refused I (f_X10_within I x1 0 100)) = true then (-1) else f_X0_reach (m_X10_refused I (f_X10_within I x1 0 100)) 23 x1)
noncomputable def f_X10_goes (I : Nat → Nat → Int32) (x1 : Int32) : Int32 := opv (u0_X10_goes I x1)
noncomputable def m_X10_goes (I : Nat → Nat → Int32) (x1 : Int32) : Nat → Nat → Int32 := opv (m_X10_refused I (f_X10_within I x1 0 100))
set_option maxHeartbeats 800000 in
set_option maxRecDepth 4000 in
theorem c_X10_goes {k : KT} {ex : Bool} {J : Nat → Nat → Int64} {w : Bool} (I : Nat → Nat → Int32) (x1 : Int32)  : Cx k mX10_goes 3 [.ref (ka k 0), .int x1] (81, ex, I, J, Pw w) (some (.int (f_X10_goes I x1))) (81, ex, m_X10_goes I x1, J, Pw w) := by
  refine Ct.of rfl [some (.ref (ka k 0)), some (.int x1)] rfl rfl (Nat.le_of_ble_eq_true rfl) ?_
  refine g_aload_n0 rfl d_X10_goes_0 ?_
  refine g_iload_n1 rfl d_X10_goes_1 ?_
  refine g_iconst 0 d_X10_goes_2 (by decide) ?_
  refine g_bipush 100 d_X10_goes_3 (by decide) ?_
  refine g_callS1 (c_X10_within I x1 0 100) w_X10_within l_X10_73 d_X10_goes_5 rfl rfl (Nat.le_of_ble_eq_true rfl) ⟨Nat.le_of_ble_eq_true rfl, Nat.le_of_ble_eq_true rfl⟩ ⟨Nat.zero_le _, Nat.zero_le _⟩ ⟨rfl, rfl⟩ ?_
  refine g_callV1 (c_X10_refused I (f_X10_within I x1 0 100)) w_X10_refused l_X10_154 d_X10_goes_8 rfl (Nat.le_of_ble_eq_true rfl) rfl rfl (Nat.le_of_ble_eq_true rfl) ⟨Nat.le_of_ble_eq_true rfl, Nat.le_of_ble_eq_true rfl⟩ ⟨Nat.zero_le _, Nat.zero_le _⟩ ⟨rfl, rfl⟩ ?_
  refine g_cut (pc' := 26) (vs' := [some (.ref (ka k 0)), some (.int x1)]) (st' := [.int (u0_X10_goes I x1)]) (M' := (81, ex, (m_X10_refused I (f_X10_within I x1 0 100)), J, Pw w)) (fun hj => ?_) ?_
  · skip
    refine g_ifz 18 d_X10_goes_11 (by decide) (fun h1 => ?_) (fun h1 => ?_)
    · skip
      refine g_aload_n0 rfl d_X10_goes_18 ?_
      refine g_getP (b := 23) f_X10_26 d_X10_goes_19 rfl (Nat.le_of_ble_eq_true rfl) rfl rfl ?_
      refine g_iload_n1 rfl d_X10_goes_22 ?_
      refine g_callV1 (c_X0_reach (m_X10_refused I (f_X10_within I x1 0 100)) 23 rfl x1) w_X0_reach l_X10_157 d_X10_goes_23 rfl (Nat.le_of_ble_eq_true rfl) rfl rfl (Nat.le_of_ble_eq_true rfl) ⟨Nat.le_of_ble_eq_true rfl, Nat.le_of_ble_eq_true rfl⟩ ⟨Nat.zero_le _, Nat.zero_le _⟩ ⟨rfl, rfl⟩ ?_
      (try simp only [if_neg (nb h1), opv_eq, if_true, if_false, Bool.false_eq_true, reduceCtorEq, b2i_t, b2i_f, u0_X10_goes] at hj); exact hj
    · skip
      refine g_iconst (-1) d_X10_goes_14 (by decide) ?_
      refine g_goto 26 d_X10_goes_15 (by decide) ?_
      (try simp only [if_pos h1, opv_eq, if_true, if_false, Bool.false_eq_true, reduceCtorEq, b2i_t, b2i_f, u0_X10_goes] at hj); exact hj
  · skip
    exact g_iret rfl d_X10_goes_26 ⟨by simp only [f_X10_goes, m_X10_goes, opv_eq, if_true, if_false, Bool.false_eq_true, reduceCtorEq, b2i_t, b2i_f], by simp only [f_X10_goes, m_X10_goes, opv_eq, if_true, if_false, Bool.false_eq_true, reduceCtorEq, b2i_t, b2i_f]⟩ (Nat.le_refl _) (Nat.le_refl _)
noncomputable def u0_X10_stays (I1 : Nat → Nat → Int32) (l1 : Int32) (l3 : Int32) : Int32 := opv (if (f_X0_turned I1 23 (f_X0_pullOfDamp I1 l3) l3) = (I1 23 0) then (if l1 = (-1) then l3 else l1) else l1)
noncomputable def u1_X10_stays (I1 : Nat → Nat → Int32) (l2 : Int32) (l3 : Int32) : Int32 := opv (if (f_X0_turned I1 23 (f_X0_pullOfDamp I1 l3) l3) = (I1 23 0) then l3 else l2)
noncomputable def lp_X10_stays_16 (I1 : Nat → Nat → Int32) : Nat → Int32 → Int32 → Int32 → Int32 × Int32 × Int32
  | 0, l1, l2, l3 => (l1, l2, l3)
  | n + 1, l1, l2, l3 => (if 100 < l3 then (l1, l2, l3) else (lp_X10_stays_16 I1 n (u0_X10_stays I1 l1 l3) (u1_X10_stays I1 l2 l3) (l3 + 1)))
set_option maxHeartbeats 800000 in
set_option maxRecDepth 4000 in
theorem k_lp_X10_stays_16 {k : KT} {ex : Bool} {J : Nat → Nat → Int64} {w : Bool} (I1 : Nat → Nat → Int32) {F : FinT} : ∀ (n : Nat) (l1 : Int32) (l2 : Int32) (l3 : Int32), mu_le 100 l3 < n → G k mX10_stays (roomOf 4 0 0) F 0 0 63 [some (.ref (ka k 0)), some (.int ((lp_X10_stays_16 I1 n l1 l2 l3).1)), some (.int ((lp_X10_stays_16 I1 n l1 l2 l3).2.1)), some (.int ((lp_X10_stays_16 I1 n l1 l2 l3).2.2))] [] (81, ex, I1, J, Pw w) → G k mX10_stays (roomOf 4 0 0) F 0 0 16 [some (.ref (ka k 0)), some (.int l1), some (.int l2), some (.int l3)] [] (81, ex, I1, J, Pw w) := by
  intro n
  induction n with
  | zero => intro l1 l2 l3 hmu hj; exact absurd hmu (Nat.not_lt_zero _)
  | succ n ih =>
    intro l1 l2 l3 hmu hj
    refine g_iload_n3 rfl d_X10_stays_16 ?_
    refine g_bipush 100 d_X10_stays_17 (by decide) ?_
    refine g_icmp_gt 63 d_X10_stays_19 (by decide) (fun h1 => ?_) (fun h1 => ?_)
    · skip
      (try simp only [lp_X10_stays_16, if_pos h1, opv_eq, if_true, if_false, Bool.false_eq_true, reduceCtorEq, b2i_t, b2i_f] at hj); exact hj
    · skip
      refine g_aload_n0 rfl d_X10_stays_22 ?_
      refine g_getP (b := 23) f_X10_26 d_X10_stays_23 rfl (Nat.le_of_ble_eq_true rfl) rfl rfl ?_
      refine g_iload_n3 rfl d_X10_stays_26 ?_
      refine g_callS1 (c_X0_pullOfDamp I1 l3) w_X0_pullOfDamp l_X10_133 d_X10_stays_27 rfl rfl (Nat.le_of_ble_eq_true rfl) ⟨Nat.le_of_ble_eq_true rfl, Nat.le_of_ble_eq_true rfl⟩ ⟨Nat.zero_le _, Nat.zero_le _⟩ ⟨rfl, rfl⟩ ?_
      refine g_iload_n3 rfl d_X10_stays_30 ?_
      refine g_callV1 (c_X0_turned I1 23 rfl (f_X0_pullOfDamp I1 l3) l3) w_X0_turned l_X10_160 d_X10_stays_31 rfl (Nat.le_of_ble_eq_true rfl) rfl rfl (Nat.le_of_ble_eq_true rfl) ⟨Nat.le_of_ble_eq_true rfl, Nat.le_of_ble_eq_true rfl⟩ ⟨Nat.zero_le _, Nat.zero_le _⟩ ⟨rfl, rfl⟩ ?_
      refine g_aload_n0 rfl d_X10_stays_34 ?_
      refine g_getP (b := 23) f_X10_26 d_X10_stays_35 rfl (Nat.le_of_ble_eq_true rfl) rfl rfl ?_
      refine g_getI f_X10_117 d_X10_stays_38 rfl (Nat.le_of_ble_eq_true rfl) rfl ?_
      refine g_cut (pc' := 57) (vs' := [some (.ref (ka k 0)), some (.int (u0_X10_stays I1 l1 l3)), some (.int (u1_X10_stays I1 l2 l3)), some (.int l3)]) (st' := []) (M' := (81, ex, I1, J, Pw w)) (fun hj => ?_) ?_
      · skip
        refine g_icmp_ne 57 d_X10_stays_41 (by decide) (fun h2 => ?_) (fun h2 => ?_)
        · skip
          (try simp only [if_neg h2, opv_eq, if_true, if_false, Bool.false_eq_true, reduceCtorEq, b2i_t, b2i_f, u0_X10_stays, u1_X10_stays] at hj); exact hj
        · skip
          refine g_iload_n1 rfl d_X10_stays_44 ?_
          refine g_iconst (-1) d_X10_stays_45 (by decide) ?_
          refine g_cut (pc' := 54) (vs' := [some (.ref (ka k 0)), some (.int l1), some (.int l2), some (.int l3)]) (st' := [.int (if l1 = (-1) then l3 else l1)]) (M' := (81, ex, I1, J, Pw w)) (fun hj => ?_) ?_
          · skip
            refine g_icmp_ne 53 d_X10_stays_46 (by decide) (fun h3 => ?_) (fun h3 => ?_)
            · skip
              refine g_iload_n1 rfl d_X10_stays_53 ?_
              (try simp only [if_neg h3, opv_eq, if_true, if_false, Bool.false_eq_true, reduceCtorEq, b2i_t, b2i_f] at hj); exact hj
            · skip
              refine g_iload_n3 rfl d_X10_stays_49 ?_
              refine g_goto 54 d_X10_stays_50 (by decide) ?_
              (try simp only [if_pos h3, opv_eq, if_true, if_false, Bool.false_eq_true, reduceCtorEq, b2i_t, b2i_f] at hj); exact hj
          · skip
            refine g_isn1 rfl d_X10_stays_54 ?_
            refine g_iload_n3 rfl d_X10_stays_55 ?_
            refine g_isn2 rfl d_X10_stays_56 ?_
            (try simp only [if_pos h2, opv_eq, if_true, if_false, Bool.false_eq_true, reduceCtorEq, b2i_t, b2i_f, u0_X10_stays, u1_X10_stays] at hj); exact hj
      · skip
        refine g_ic3 (l3 + 1) rfl rfl d_X10_stays_57 ?_
        refine g_goto 16 d_X10_stays_60 (by decide) ?_
        exact ih (u0_X10_stays I1 l1 l3) (u1_X10_stays I1 l2 l3) (l3 + 1) (Nat.lt_of_lt_of_le (mu_le_lt (by decide) h1) (Nat.le_of_lt_succ hmu)) (by (try simp only [lp_X10_stays_16, if_neg h1, opv_eq, if_true, if_false, Bool.false_eq_true, reduceCtorEq, b2i_t, b2i_f] at hj); exact hj)
noncomputable def u2_X10_stays (I : Nat → Nat → Int32) : Int32 := opv (if ((lp_X10_stays_16 (m_X10_refused I true) (mu_le 100 0 + 1) (-1) (-1) 0).1) = (-1) then (-2) else (1000 * ((lp_X10_stays_16 (m_X10_refused I true) (mu_le 100 0 + 1) (-1) (-1) 0).1)) + ((lp_X10_stays_16 (m_X10_refused I true) (mu_le 100 0 + 1) (-1) (-1) 0).2.1))
noncomputable def f_X10_stays (I : Nat → Nat → Int32)  : Int32 := opv (if (f_X10_refused I true) = true then (-1) else (u2_X10_stays I))
noncomputable def m_X10_stays (I : Nat → Nat → Int32)  : Nat → Nat → Int32 := opv (m_X10_refused I true)
set_option maxHeartbeats 800000 in
set_option maxRecDepth 4000 in
theorem c_X10_stays {k : KT} {ex : Bool} {J : Nat → Nat → Int64} {w : Bool} (I : Nat → Nat → Int32)   : Cx k mX10_stays 4 [.ref (ka k 0)] (81, ex, I, J, Pw w) (some (.int (f_X10_stays I))) (81, ex, m_X10_stays I, J, Pw w) := by
  refine Ct.of rfl [some (.ref (ka k 0)), none, none, none] rfl rfl (Nat.le_of_ble_eq_true rfl) ?_
  refine g_aload_n0 rfl d_X10_stays_0 ?_
  refine g_iconst 1 d_X10_stays_1 (by decide) ?_
  refine g_callV1 (c_X10_refused I true) w_X10_refused l_X10_154 d_X10_stays_2 rfl (Nat.le_of_ble_eq_true rfl) rfl rfl (Nat.le_of_ble_eq_true rfl) ⟨Nat.le_of_ble_eq_true rfl, Nat.le_of_ble_eq_true rfl⟩ ⟨Nat.zero_le _, Nat.zero_le _⟩ ⟨rfl, rfl⟩ ?_
  refine g_ifz 10 d_X10_stays_5 (by decide) (fun h4 => ?_) (fun h4 => ?_)
  · skip
    refine g_iconst (-1) d_X10_stays_10 (by decide) ?_
    refine g_isn1 rfl d_X10_stays_11 ?_
    refine g_iconst (-1) d_X10_stays_12 (by decide) ?_
    refine g_isn2 rfl d_X10_stays_13 ?_
    refine g_iconst 0 d_X10_stays_14 (by decide) ?_
    refine g_isn3 rfl d_X10_stays_15 ?_
    refine k_lp_X10_stays_16 (m_X10_refused I true) _ (-1) (-1) 0 (Nat.lt_succ_self _) ?_
    refine g_iload_n1 rfl d_X10_stays_63 ?_
    refine g_iconst (-1) d_X10_stays_64 (by decide) ?_
    refine g_cut (pc' := 80) (vs' := [some (.ref (ka k 0)), some (.int ((lp_X10_stays_16 (m_X10_refused I true) (mu_le 100 0 + 1) (-1) (-1) 0).1)), some (.int ((lp_X10_stays_16 (m_X10_refused I true) (mu_le 100 0 + 1) (-1) (-1) 0).2.1)), some (.int ((lp_X10_stays_16 (m_X10_refused I true) (mu_le 100 0 + 1) (-1) (-1) 0).2.2))]) (st' := [.int (u2_X10_stays I)]) (M' := (81, ex, (m_X10_refused I true), J, Pw w)) (fun hj => ?_) ?_
    · skip
      refine g_icmp_ne 73 d_X10_stays_65 (by decide) (fun h5 => ?_) (fun h5 => ?_)
      · skip
        refine g_sipush 1000 d_X10_stays_73 (by decide) ?_
        refine g_iload_n1 rfl d_X10_stays_76 ?_
        refine g_imul d_X10_stays_77 ?_
        refine g_iload_n2 rfl d_X10_stays_78 ?_
        refine g_iadd d_X10_stays_79 ?_
        (try simp only [if_neg h5, opv_eq, if_true, if_false, Bool.false_eq_true, reduceCtorEq, b2i_t, b2i_f, u2_X10_stays] at hj); exact hj
      · skip
        refine g_bipush (-2) d_X10_stays_68 (by decide) ?_
        refine g_goto 80 d_X10_stays_70 (by decide) ?_
        (try simp only [if_pos h5, opv_eq, if_true, if_false, Bool.false_eq_true, reduceCtorEq, b2i_t, b2i_f, u2_X10_stays] at hj); exact hj
    · skip
      exact g_iret rfl d_X10_stays_80 ⟨by simp only [f_X10_stays, m_X10_stays, if_neg (nb h4), opv_eq, if_true, if_false, Bool.false_eq_true, reduceCtorEq, b2i_t, b2i_f], by simp only [f_X10_stays, m_X10_stays, if_neg (nb h4), opv_eq, if_true, if_false, Bool.false_eq_true, reduceCtorEq, b2i_t, b2i_f]⟩ (Nat.le_refl _) (Nat.le_refl _)
  · skip
    refine g_iconst (-1) d_X10_stays_8 (by decide) ?_
    exact g_iret rfl d_X10_stays_9 ⟨by simp only [f_X10_stays, m_X10_stays, if_pos h4, opv_eq, if_true, if_false, Bool.false_eq_true, reduceCtorEq, b2i_t, b2i_f], by simp only [f_X10_stays, m_X10_stays, if_pos h4, opv_eq, if_true, if_false, Bool.false_eq_true, reduceCtorEq, b2i_t, b2i_f]⟩ (Nat.le_refl _) (Nat.le_refl _)
