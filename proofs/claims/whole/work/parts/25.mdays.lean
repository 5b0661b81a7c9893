noncomputable def u0_X11_pullOf (I : Nat → Nat → Int32) (l3 : Int32) : Int32 := opv (if (I 68 (13 + (3 * l3)).toNatClampNeg) = 1 then I 68 ((13 + (3 * l3)) + 1).toNatClampNeg else -(I 68 ((13 + (3 * l3)) + 1).toNatClampNeg))
noncomputable def u1_X11_pullOf (I : Nat → Nat → Int32) (x1 : Nat) (l2 : Int32) (l3 : Int32) : Int32 := opv (if (f_X11_hasBit I (I x1 3) l3) = true then l2 + (u0_X11_pullOf I l3) else l2)
noncomputable def lp_X11_pullOf_9 (I : Nat → Nat → Int32) (x1 : Nat) : Nat → Int32 → Int32 → Int32 × Int32
  | 0, l2, l3 => (l2, l3)
  | n + 1, l2, l3 => (if (I 68 5) ≤ l3 then (l2, l3) else (lp_X11_pullOf_9 I x1 n (u1_X11_pullOf I x1 l2 l3) (l3 + 1)))
def oklp_X11_pullOf_9 (I : Nat → Nat → Int32) (x1 : Nat) : Nat → Int32 → Int32 → Prop
  | 0, l2, l3 => True
  | n + 1, l2, l3 => (if (I 68 5) ≤ l3 then True else (vp_in (3 : Int32) (sz x1) ∧ ((if (f_X11_hasBit I (I x1 3) l3) = true then (vp_in (13 + (3 * l3)) (sz 68) ∧ vp_in ((13 + (3 * l3)) + 1) (sz 68)) else True) ∧ oklp_X11_pullOf_9 I x1 n (u1_X11_pullOf I x1 l2 l3) (l3 + 1))))
set_option maxHeartbeats 800000 in
set_option maxRecDepth 4000 in
theorem k_lp_X11_pullOf_9 {k : KT} {ex : Bool} {J : Nat → Nat → Int64} {w : Bool} (I : Nat → Nat → Int32) (x1 : Nat) (hx1 : kd x1 = 12) (hne_x1_68 : x1 ≠ 68) {F : FinT} : ∀ (n : Nat) (l2 : Int32) (l3 : Int32), mu_up (I 68 5) l3 < n → oklp_X11_pullOf_9 I x1 n l2 l3 → G k mX11_pullOf (roomOf 2 0 0) F 0 0 83 [some (.ref (ka k 65)), some (.ref (ka k x1)), some (.int ((lp_X11_pullOf_9 I x1 n l2 l3).1)), some (.int ((lp_X11_pullOf_9 I x1 n l2 l3).2))] [] (81, ex, I, J, Pw w) → G k mX11_pullOf (roomOf 2 0 0) F 0 0 9 [some (.ref (ka k 65)), some (.ref (ka k x1)), some (.int l2), some (.int l3)] [] (81, ex, I, J, Pw w) := by
  intro n
  induction n with
  | zero => intro l2 l3 hmu hok hj; exact absurd hmu (Nat.not_lt_zero _)
  | succ n ih =>
    intro l2 l3 hmu hok hj
    rw [oklp_X11_pullOf_9] at hok
    refine g_iload_n3 rfl d_X11_pullOf_9 ?_
    refine g_aload_n0 rfl d_X11_pullOf_10 ?_
    refine g_getP (b := 68) f_X11_20 d_X11_pullOf_11 rfl (Nat.le_of_ble_eq_true rfl) rfl rfl ?_
    refine g_iconst 5 d_X11_pullOf_14 (by decide) ?_
    refine g_ialdv (I 68 5) rfl d_X11_pullOf_15 rfl (Nat.le_of_ble_eq_true rfl) (vp_c (by decide +kernel)) ?_
    refine g_icmp_ge 83 d_X11_pullOf_16 (by decide) (fun h1 => ?_) (fun h1 => ?_)
    · skip
      (try simp only [lp_X11_pullOf_9, if_pos h1, opv_eq, if_true, if_false, Bool.false_eq_true, reduceCtorEq, b2i_t, b2i_f] at hj); exact hj
    · skip
      rw [if_neg h1] at hok
      refine g_aload_n1 rfl d_X11_pullOf_19 ?_
      refine g_iconst 3 d_X11_pullOf_20 (by decide) ?_
      obtain ⟨ho2, hok⟩ := hok
      refine g_ialdv (I x1 3) rfl d_X11_pullOf_21 hx1 (kd_sg hx1 (by decide)) ho2 ?_
      refine g_iload_n3 rfl d_X11_pullOf_22 ?_
      refine g_callS1 (c_X11_hasBit I (I x1 3) l3) w_X11_hasBit l_X11_261 d_X11_pullOf_23 rfl rfl (Nat.le_of_ble_eq_true rfl) ⟨Nat.le_of_ble_eq_true rfl, Nat.le_of_ble_eq_true rfl⟩ ⟨Nat.zero_le _, Nat.zero_le _⟩ ⟨rfl, rfl⟩ ?_
      obtain ⟨hoa, hob⟩ := hok
      refine g_cut (pc' := 77) (vs' := [some (.ref (ka k 65)), some (.ref (ka k x1)), some (.int (u1_X11_pullOf I x1 l2 l3)), some (.int l3)]) (st' := []) (M' := (81, ex, I, J, Pw w)) (fun hj => ?_) ?_
      · skip
        refine g_ifz 77 d_X11_pullOf_26 (by decide) (fun h2 => ?_) (fun h2 => ?_)
        · skip
          (try simp only [if_neg (nb h2), opv_eq, if_true, if_false, Bool.false_eq_true, reduceCtorEq, b2i_t, b2i_f, u1_X11_pullOf] at hj); exact hj
        · skip
          rw [if_pos h2] at hoa
          refine g_iload_n2 rfl d_X11_pullOf_29 ?_
          refine g_aload_n0 rfl d_X11_pullOf_30 ?_
          refine g_getP (b := 68) f_X11_20 d_X11_pullOf_31 rfl (Nat.le_of_ble_eq_true rfl) rfl rfl ?_
          refine g_bipush 13 d_X11_pullOf_34 (by decide) ?_
          refine g_iconst 3 d_X11_pullOf_36 (by decide) ?_
          refine g_iload_n3 rfl d_X11_pullOf_37 ?_
          refine g_imul d_X11_pullOf_38 ?_
          refine g_iadd d_X11_pullOf_39 ?_
          obtain ⟨ho3, hok⟩ := hoa
          refine g_iald d_X11_pullOf_40 rfl (Nat.le_of_ble_eq_true rfl) ho3 ?_
          refine g_iconst 1 d_X11_pullOf_41 (by decide) ?_
          refine g_cut (pc' := 75) (vs' := [some (.ref (ka k 65)), some (.ref (ka k x1)), some (.int l2), some (.int l3)]) (st' := [.int (u0_X11_pullOf I l3), .int l2]) (M' := (81, ex, I, J, Pw w)) (fun hj => ?_) ?_
          · skip
            refine g_icmp_ne 61 d_X11_pullOf_42 (by decide) (fun h3 => ?_) (fun h3 => ?_)
            · skip
              refine g_aload_n0 rfl d_X11_pullOf_61 ?_
              refine g_getP (b := 68) f_X11_20 d_X11_pullOf_62 rfl (Nat.le_of_ble_eq_true rfl) rfl rfl ?_
              refine g_bipush 13 d_X11_pullOf_65 (by decide) ?_
              refine g_iconst 3 d_X11_pullOf_67 (by decide) ?_
              refine g_iload_n3 rfl d_X11_pullOf_68 ?_
              refine g_imul d_X11_pullOf_69 ?_
              refine g_iadd d_X11_pullOf_70 ?_
              refine g_iconst 1 d_X11_pullOf_71 (by decide) ?_
              refine g_iadd d_X11_pullOf_72 ?_
              have ho4 := hok
              refine g_iald d_X11_pullOf_73 rfl (Nat.le_of_ble_eq_true rfl) ho4 ?_
              refine g_ineg d_X11_pullOf_74 ?_
              (try simp only [if_neg h3, opv_eq, if_true, if_false, Bool.false_eq_true, reduceCtorEq, b2i_t, b2i_f, u0_X11_pullOf] at hj); exact hj
            · skip
              refine g_aload_n0 rfl d_X11_pullOf_45 ?_
              refine g_getP (b := 68) f_X11_20 d_X11_pullOf_46 rfl (Nat.le_of_ble_eq_true rfl) rfl rfl ?_
              refine g_bipush 13 d_X11_pullOf_49 (by decide) ?_
              refine g_iconst 3 d_X11_pullOf_51 (by decide) ?_
              refine g_iload_n3 rfl d_X11_pullOf_52 ?_
              refine g_imul d_X11_pullOf_53 ?_
              refine g_iadd d_X11_pullOf_54 ?_
              refine g_iconst 1 d_X11_pullOf_55 (by decide) ?_
              refine g_iadd d_X11_pullOf_56 ?_
              have ho5 := hok
              refine g_iald d_X11_pullOf_57 rfl (Nat.le_of_ble_eq_true rfl) ho5 ?_
              refine g_goto 75 d_X11_pullOf_58 (by decide) ?_
              (try simp only [if_pos h3, opv_eq, if_true, if_false, Bool.false_eq_true, reduceCtorEq, b2i_t, b2i_f, u0_X11_pullOf] at hj); exact hj
          · skip
            refine g_iadd d_X11_pullOf_75 ?_
            refine g_isn2 rfl d_X11_pullOf_76 ?_
            (try simp only [if_pos h2, opv_eq, if_true, if_false, Bool.false_eq_true, reduceCtorEq, b2i_t, b2i_f, u1_X11_pullOf] at hj); exact hj
      · skip
        refine g_ic3 (l3 + 1) rfl rfl d_X11_pullOf_77 ?_
        refine g_goto 9 d_X11_pullOf_80 (by decide) ?_
        exact ih (u1_X11_pullOf I x1 l2 l3) (l3 + 1) (Nat.lt_of_lt_of_le (mu_up_lt h1) (Nat.le_of_lt_succ hmu)) (by (try simp only [if_neg h1, opv_eq, if_true, if_false, Bool.false_eq_true, reduceCtorEq, b2i_t, b2i_f] at hob); exact hob) (by (try simp only [lp_X11_pullOf_9, if_neg h1, opv_eq, if_true, if_false, Bool.false_eq_true, reduceCtorEq, b2i_t, b2i_f] at hj); exact hj)
noncomputable def f_X11_pullOf (I : Nat → Nat → Int32) (x1 : Nat) : Int32 := opv (f_X11_bound I ((lp_X11_pullOf_9 I x1 (mu_up (I 68 5) 0 + 1) (f_X11_towards I (I x1 1)) 0).1))
noncomputable def ok_X11_pullOf (I : Nat → Nat → Int32) (x1 : Nat) : Prop := opv (vp_in (1 : Int32) (sz x1) ∧ oklp_X11_pullOf_9 I x1 (mu_up (I 68 5) 0 + 1) (f_X11_towards I (I x1 1)) 0)
set_option maxHeartbeats 800000 in
set_option maxRecDepth 4000 in
theorem c_X11_pullOf {k : KT} {ex : Bool} {J : Nat → Nat → Int64} {w : Bool} (I : Nat → Nat → Int32) (x1 : Nat) (hx1 : kd x1 = 12)  (hne_x1_68 : x1 ≠ 68) (hok : ok_X11_pullOf I x1) : Cx k mX11_pullOf 2 [.ref (ka k 65), .ref (ka k x1)] (81, ex, I, J, Pw w) (some (.int (f_X11_pullOf I x1))) (81, ex, I, J, Pw w) := by
  refine Ct.of rfl [some (.ref (ka k 65)), some (.ref (ka k x1)), none, none] rfl rfl (Nat.le_of_ble_eq_true rfl) ?_
  rw [ok_X11_pullOf, opv_eq] at hok
  refine g_aload_n1 rfl d_X11_pullOf_0 ?_
  refine g_iconst 1 d_X11_pullOf_1 (by decide) ?_
  obtain ⟨ho1, hok⟩ := hok
  refine g_ialdv (I x1 1) rfl d_X11_pullOf_2 hx1 (kd_sg hx1 (by decide)) ho1 ?_
  refine g_callS1 (c_X11_towards I (I x1 1)) w_X11_towards l_X11_258 d_X11_pullOf_3 rfl rfl (Nat.le_of_ble_eq_true rfl) ⟨Nat.le_of_ble_eq_true rfl, Nat.le_of_ble_eq_true rfl⟩ ⟨Nat.zero_le _, Nat.zero_le _⟩ ⟨rfl, rfl⟩ ?_
  refine g_isn2 rfl d_X11_pullOf_6 ?_
  refine g_iconst 0 d_X11_pullOf_7 (by decide) ?_
  refine g_isn3 rfl d_X11_pullOf_8 ?_
  refine k_lp_X11_pullOf_9 I x1 hx1 hne_x1_68 _ (f_X11_towards I (I x1 1)) 0 (Nat.lt_succ_self _) hok ?_
  refine g_iload_n2 rfl d_X11_pullOf_83 ?_
  refine g_callS1 (c_X11_bound I ((lp_X11_pullOf_9 I x1 (mu_up (I 68 5) 0 + 1) (f_X11_towards I (I x1 1)) 0).1)) w_X11_bound l_X11_265 d_X11_pullOf_84 rfl rfl (Nat.le_of_ble_eq_true rfl) ⟨Nat.le_of_ble_eq_true rfl, Nat.le_of_ble_eq_true rfl⟩ ⟨Nat.zero_le _, Nat.zero_le _⟩ ⟨rfl, rfl⟩ ?_
  exact g_iret rfl d_X11_pullOf_87 ⟨by simp only [f_X11_pullOf, opv_eq, if_true, if_false, Bool.false_eq_true, reduceCtorEq, b2i_t, b2i_f], rfl⟩ (Nat.le_refl _) (Nat.le_refl _)
noncomputable def u0_X11_dayBy (I : Nat → Nat → Int32) (x1 : Nat) : Int32 := opv (if (f_X11_whoOf I x1) = 1 then 1 else (if (f_X11_whoOf I x1) = 2 then 2 else 0))
noncomputable def u1_X11_dayBy (I : Nat → Nat → Int32) (x1 : Nat) : Int32 := opv (if (f_X11_whoOf I x1) = 1 then I 68 3 else (if (f_X11_whoOf I x1) = 2 then -(I 68 4) else 0))
noncomputable def u2_X11_dayBy (I : Nat → Nat → Int32) (x1 : Nat) : Int32 := opv (if ((I x1 1) + (u1_X11_dayBy I x1)) ≤ 100 then (if 0 ≤ ((I x1 1) + (u1_X11_dayBy I x1)) then (I x1 1) + (u1_X11_dayBy I x1) else 0) else 100)
noncomputable def u3_X11_dayBy (x1 : Nat) (l5 : Int32) (I1 : Nat → Nat → Int32) : Int32 := opv (if (I1 68 (25 + (3 * l5)).toNatClampNeg) = (I1 x1 4) then (if (I1 68 ((25 + (3 * l5)) + 1).toNatClampNeg) = (I1 x1 5) then 1 <<< (l5 &&& 31) else 0) else 0)
noncomputable def lp_X11_dayBy_120 (x1 : Nat) (x2 : Int32) (l3 : Int32) (l4 : Int32) : Nat → Int32 → (Nat → Nat → Int32) → Int32 × (Nat → Nat → Int32)
  | 0, l5, I1 => (l5, I1)
  | n + 1, l5, I1 => (if (I1 68 6) ≤ l5 then (l5, I1) else (lp_X11_dayBy_120 x1 x2 l3 l4 n (l5 + 1) (st2 I1 x1 6 ((I1 x1 6) ||| (u3_X11_dayBy x1 l5 I1)))))
def oklp_X11_dayBy_120 (x1 : Nat) (x2 : Int32) (l3 : Int32) (l4 : Int32) : Nat → Int32 → (Nat → Nat → Int32) → Prop
  | 0, l5, I1 => True
  | n + 1, l5, I1 => (if (I1 68 6) ≤ l5 then True else (vp_in (6 : Int32) (sz x1) ∧ (vp_in (25 + (3 * l5)) (sz 68) ∧ (vp_in (4 : Int32) (sz x1) ∧ ((if (I1 68 (25 + (3 * l5)).toNatClampNeg) = (I1 x1 4) then (vp_in ((25 + (3 * l5)) + 1) (sz 68) ∧ vp_in (5 : Int32) (sz x1)) else True) ∧ (vp_in (6 : Int32) (sz x1) ∧ oklp_X11_dayBy_120 x1 x2 l3 l4 n (l5 + 1) (st2 I1 x1 6 ((I1 x1 6) ||| (u3_X11_dayBy x1 l5 I1)))))))))
set_option maxHeartbeats 800000 in
set_option maxRecDepth 4000 in
theorem k_lp_X11_dayBy_120 {k : KT} {ex : Bool} {J : Nat → Nat → Int64} {w : Bool} (x1 : Nat) (hx1 : kd x1 = 12) (x2 : Int32) (l3 : Int32) (l4 : Int32) (hne_x1_68 : x1 ≠ 68) {F : FinT} : ∀ (n : Nat) (l5 : Int32) (I1 : (Nat → Nat → Int32)), mu_up (I1 68 6) l5 < n → oklp_X11_dayBy_120 x1 x2 l3 l4 n l5 I1 → G k mX11_dayBy (roomOf 3 0 0) F 0 0 191 [some (.ref (ka k 65)), some (.ref (ka k x1)), some (.int x2), some (.int l3), some (.int l4), some (.int ((lp_X11_dayBy_120 x1 x2 l3 l4 n l5 I1).1))] [] (81, ex, (lp_X11_dayBy_120 x1 x2 l3 l4 n l5 I1).2, J, Pw w) → G k mX11_dayBy (roomOf 3 0 0) F 0 0 120 [some (.ref (ka k 65)), some (.ref (ka k x1)), some (.int x2), some (.int l3), some (.int l4), some (.int l5)] [] (81, ex, I1, J, Pw w) := by
  intro n
  induction n with
  | zero => intro l5 I1 hmu hok hj; exact absurd hmu (Nat.not_lt_zero _)
  | succ n ih =>
    intro l5 I1 hmu hok hj
    rw [oklp_X11_dayBy_120] at hok
    refine g_iload (i := 5) rfl d_X11_dayBy_120 ?_
    refine g_aload_n0 rfl d_X11_dayBy_122 ?_
    refine g_getP (b := 68) f_X11_20 d_X11_dayBy_123 rfl (Nat.le_of_ble_eq_true rfl) rfl rfl ?_
    refine g_bipush 6 d_X11_dayBy_126 (by decide) ?_
    refine g_ialdv (I1 68 6) rfl d_X11_dayBy_128 rfl (Nat.le_of_ble_eq_true rfl) (vp_c (by decide +kernel)) ?_
    refine g_icmp_ge 191 d_X11_dayBy_129 (by decide) (fun h1 => ?_) (fun h1 => ?_)
    · skip
      (try simp only [lp_X11_dayBy_120, if_pos h1, opv_eq, if_true, if_false, Bool.false_eq_true, reduceCtorEq, b2i_t, b2i_f] at hj); exact hj
    · skip
      rw [if_neg h1] at hok
      refine g_aload_n1 rfl d_X11_dayBy_132 ?_
      refine g_bipush 6 d_X11_dayBy_133 (by decide) ?_
      refine g_dup2 rfl rfl d_X11_dayBy_135 ?_
      obtain ⟨ho11, hok⟩ := hok
      refine g_ialdv (I1 x1 6) rfl d_X11_dayBy_136 hx1 (kd_sg hx1 (by decide)) ho11 ?_
      refine g_aload_n0 rfl d_X11_dayBy_137 ?_
      refine g_getP (b := 68) f_X11_20 d_X11_dayBy_138 rfl (Nat.le_of_ble_eq_true rfl) rfl rfl ?_
      refine g_bipush 25 d_X11_dayBy_141 (by decide) ?_
      refine g_iconst 3 d_X11_dayBy_143 (by decide) ?_
      refine g_iload (i := 5) rfl d_X11_dayBy_144 ?_
      refine g_imul d_X11_dayBy_146 ?_
      refine g_iadd d_X11_dayBy_147 ?_
      obtain ⟨ho12, hok⟩ := hok
      refine g_iald d_X11_dayBy_148 rfl (Nat.le_of_ble_eq_true rfl) ho12 ?_
      refine g_aload_n1 rfl d_X11_dayBy_149 ?_
      refine g_iconst 4 d_X11_dayBy_150 (by decide) ?_
      obtain ⟨ho13, hok⟩ := hok
      refine g_ialdv (I1 x1 4) rfl d_X11_dayBy_151 hx1 (kd_sg hx1 (by decide)) ho13 ?_
      obtain ⟨hoa, hob⟩ := hok
      refine g_cut (pc' := 183) (vs' := [some (.ref (ka k 65)), some (.ref (ka k x1)), some (.int x2), some (.int l3), some (.int l4), some (.int l5)]) (st' := [.int (u3_X11_dayBy x1 l5 I1), .int (I1 x1 6), .int 6, .ref (ka k x1)]) (M' := (81, ex, I1, J, Pw w)) (fun hj => ?_) ?_
      · skip
        refine g_icmp_ne 182 d_X11_dayBy_152 (by decide) (fun h2 => ?_) (fun h2 => ?_)
        · skip
          refine g_iconst 0 d_X11_dayBy_182 (by decide) ?_
          (try simp only [if_neg h2, opv_eq, if_true, if_false, Bool.false_eq_true, reduceCtorEq, b2i_t, b2i_f, u3_X11_dayBy] at hj); exact hj
        · skip
          rw [if_pos h2] at hoa
          refine g_aload_n0 rfl d_X11_dayBy_155 ?_
          refine g_getP (b := 68) f_X11_20 d_X11_dayBy_156 rfl (Nat.le_of_ble_eq_true rfl) rfl rfl ?_
          refine g_bipush 25 d_X11_dayBy_159 (by decide) ?_
          refine g_iconst 3 d_X11_dayBy_161 (by decide) ?_
          refine g_iload (i := 5) rfl d_X11_dayBy_162 ?_
          refine g_imul d_X11_dayBy_164 ?_
          refine g_iadd d_X11_dayBy_165 ?_
          refine g_iconst 1 d_X11_dayBy_166 (by decide) ?_
          refine g_iadd d_X11_dayBy_167 ?_
          obtain ⟨ho14, hok⟩ := hoa
          refine g_iald d_X11_dayBy_168 rfl (Nat.le_of_ble_eq_true rfl) ho14 ?_
          refine g_aload_n1 rfl d_X11_dayBy_169 ?_
          refine g_iconst 5 d_X11_dayBy_170 (by decide) ?_
          have ho15 := hok
          refine g_ialdv (I1 x1 5) rfl d_X11_dayBy_171 hx1 (kd_sg hx1 (by decide)) ho15 ?_
          refine g_icmp_ne 182 d_X11_dayBy_172 (by decide) (fun h3 => ?_) (fun h3 => ?_)
          · skip
            refine g_iconst 0 d_X11_dayBy_182 (by decide) ?_
            (try simp only [if_pos h2, if_neg h3, opv_eq, if_true, if_false, Bool.false_eq_true, reduceCtorEq, b2i_t, b2i_f, u3_X11_dayBy] at hj); exact hj
          · skip
            refine g_iconst 1 d_X11_dayBy_175 (by decide) ?_
            refine g_iload (i := 5) rfl d_X11_dayBy_176 ?_
            refine g_ishl d_X11_dayBy_178 ?_
            refine g_goto 183 d_X11_dayBy_179 (by decide) ?_
            (try simp only [if_pos h2, if_pos h3, opv_eq, if_true, if_false, Bool.false_eq_true, reduceCtorEq, b2i_t, b2i_f, u3_X11_dayBy] at hj); exact hj
      · skip
        refine g_ior d_X11_dayBy_183 ?_
        obtain ⟨ho16, hok⟩ := hob
        refine g_iasts (n := 6) rfl d_X11_dayBy_184 hx1 (kd_sg hx1 (by decide)) ho16 ?_
        refine g_ic5 (l5 + 1) rfl rfl d_X11_dayBy_185 ?_
        refine g_goto 120 d_X11_dayBy_188 (by decide) ?_
        exact ih (l5 + 1) (st2 I1 x1 6 ((I1 x1 6) ||| (u3_X11_dayBy x1 l5 I1))) (Nat.lt_of_lt_of_le (by rw [st2_a _ _ (Ne.symm hne_x1_68)]; exact mu_up_lt h1) (Nat.le_of_lt_succ hmu)) (by (try simp only [if_neg h1, opv_eq, if_true, if_false, Bool.false_eq_true, reduceCtorEq, b2i_t, b2i_f] at hok); exact hok) (by (try simp only [lp_X11_dayBy_120, if_neg h1, opv_eq, if_true, if_false, Bool.false_eq_true, reduceCtorEq, b2i_t, b2i_f] at hj); exact hj)
noncomputable def m_X11_dayBy (I : Nat → Nat → Int32) (x1 : Nat) (x2 : Int32) : Nat → Nat → Int32 := opv (st2 ((lp_X11_dayBy_120 x1 x2 (f_X11_whoOf I x1) ((I x1 1) + (u1_X11_dayBy I x1)) (mu_up ((st2 (st2 (st2 (st2 I x1 5 (u0_X11_dayBy I x1)) x1 1 (u2_X11_dayBy I x1)) x1 0 (f_X11_nearer (st2 (st2 I x1 5 (u0_X11_dayBy I x1)) x1 1 (u2_X11_dayBy I x1)) (I x1 0) (f_X11_pullOf (st2 (st2 I x1 5 (u0_X11_dayBy I x1)) x1 1 (u2_X11_dayBy I x1)) x1) (f_X11_stepOf (st2 (st2 I x1 5 (u0_X11_dayBy I x1)) x1 1 (u2_X11_dayBy I x1)) (u2_X11_dayBy I x1) (I x1 2) x2))) x1 3 0) 68 6) 0 + 1) 0 (st2 (st2 (st2 (st2 I x1 5 (u0_X11_dayBy I x1)) x1 1 (u2_X11_dayBy I x1)) x1 0 (f_X11_nearer (st2 (st2 I x1 5 (u0_X11_dayBy I x1)) x1 1 (u2_X11_dayBy I x1)) (I x1 0) (f_X11_pullOf (st2 (st2 I x1 5 (u0_X11_dayBy I x1)) x1 1 (u2_X11_dayBy I x1)) x1) (f_X11_stepOf (st2 (st2 I x1 5 (u0_X11_dayBy I x1)) x1 1 (u2_X11_dayBy I x1)) (u2_X11_dayBy I x1) (I x1 2) x2))) x1 3 0)).2) x1 4 ((((lp_X11_dayBy_120 x1 x2 (f_X11_whoOf I x1) ((I x1 1) + (u1_X11_dayBy I x1)) (mu_up ((st2 (st2 (st2 (st2 I x1 5 (u0_X11_dayBy I x1)) x1 1 (u2_X11_dayBy I x1)) x1 0 (f_X11_nearer (st2 (st2 I x1 5 (u0_X11_dayBy I x1)) x1 1 (u2_X11_dayBy I x1)) (I x1 0) (f_X11_pullOf (st2 (st2 I x1 5 (u0_X11_dayBy I x1)) x1 1 (u2_X11_dayBy I x1)) x1) (f_X11_stepOf (st2 (st2 I x1 5 (u0_X11_dayBy I x1)) x1 1 (u2_X11_dayBy I x1)) (u2_X11_dayBy I x1) (I x1 2) x2))) x1 3 0) 68 6) 0 + 1) 0 (st2 (st2 (st2 (st2 I x1 5 (u0_X11_dayBy I x1)) x1 1 (u2_X11_dayBy I x1)) x1 0 (f_X11_nearer (st2 (st2 I x1 5 (u0_X11_dayBy I x1)) x1 1 (u2_X11_dayBy I x1)) (I x1 0) (f_X11_pullOf (st2 (st2 I x1 5 (u0_X11_dayBy I x1)) x1 1 (u2_X11_dayBy I x1)) x1) (f_X11_stepOf (st2 (st2 I x1 5 (u0_X11_dayBy I x1)) x1 1 (u2_X11_dayBy I x1)) (u2_X11_dayBy I x1) (I x1 2) x2))) x1 3 0)).2) x1 4) + 1))
noncomputable def ok_X11_dayBy (I : Nat → Nat → Int32) (x1 : Nat) (x2 : Int32) : Prop := opv (ok_X11_whoOf I x1 ∧ (vp_in (5 : Int32) (sz x1) ∧ (vp_in (1 : Int32) (sz x1) ∧ (vp_in (1 : Int32) (sz x1) ∧ (vp_in (0 : Int32) (sz x1) ∧ (ok_X11_pullOf (st2 (st2 I x1 5 (u0_X11_dayBy I x1)) x1 1 (u2_X11_dayBy I x1)) x1 ∧ (vp_in (1 : Int32) (sz x1) ∧ (vp_in (2 : Int32) (sz x1) ∧ (vp_in (0 : Int32) (sz x1) ∧ (vp_in (3 : Int32) (sz x1) ∧ (oklp_X11_dayBy_120 x1 x2 (f_X11_whoOf I x1) ((I x1 1) + (u1_X11_dayBy I x1)) (mu_up ((st2 (st2 (st2 (st2 I x1 5 (u0_X11_dayBy I x1)) x1 1 (u2_X11_dayBy I x1)) x1 0 (f_X11_nearer (st2 (st2 I x1 5 (u0_X11_dayBy I x1)) x1 1 (u2_X11_dayBy I x1)) (I x1 0) (f_X11_pullOf (st2 (st2 I x1 5 (u0_X11_dayBy I x1)) x1 1 (u2_X11_dayBy I x1)) x1) (f_X11_stepOf (st2 (st2 I x1 5 (u0_X11_dayBy I x1)) x1 1 (u2_X11_dayBy I x1)) (u2_X11_dayBy I x1) (I x1 2) x2))) x1 3 0) 68 6) 0 + 1) 0 (st2 (st2 (st2 (st2 I x1 5 (u0_X11_dayBy I x1)) x1 1 (u2_X11_dayBy I x1)) x1 0 (f_X11_nearer (st2 (st2 I x1 5 (u0_X11_dayBy I x1)) x1 1 (u2_X11_dayBy I x1)) (I x1 0) (f_X11_pullOf (st2 (st2 I x1 5 (u0_X11_dayBy I x1)) x1 1 (u2_X11_dayBy I x1)) x1) (f_X11_stepOf (st2 (st2 I x1 5 (u0_X11_dayBy I x1)) x1 1 (u2_X11_dayBy I x1)) (u2_X11_dayBy I x1) (I x1 2) x2))) x1 3 0) ∧ (vp_in (4 : Int32) (sz x1) ∧ vp_in (4 : Int32) (sz x1)))))))))))))
set_option maxHeartbeats 800000 in
set_option maxRecDepth 4000 in
theorem c_X11_dayBy {k : KT} {ex : Bool} {J : Nat → Nat → Int64} {w : Bool} (I : Nat → Nat → Int32) (x1 : Nat) (hx1 : kd x1 = 12) (x2 : Int32)  (hne_x1_68 : x1 ≠ 68) (hok : ok_X11_dayBy I x1 x2) : Cx k mX11_dayBy 3 [.ref (ka k 65), .ref (ka k x1), .int x2] (81, ex, I, J, Pw w) none (81, ex, m_X11_dayBy I x1 x2, J, Pw w) := by
  refine Ct.of rfl [some (.ref (ka k 65)), some (.ref (ka k x1)), some (.int x2), none, none, none] rfl rfl (Nat.le_of_ble_eq_true rfl) ?_
  rw [ok_X11_dayBy, opv_eq] at hok
  refine g_aload_n1 rfl d_X11_dayBy_0 ?_
  obtain ⟨ho1, hok⟩ := hok
  refine g_callS1 (c_X11_whoOf I x1 hx1 ho1) w_X11_whoOf l_X11_268 d_X11_dayBy_1 rfl rfl (Nat.le_of_ble_eq_true rfl) ⟨Nat.le_of_ble_eq_true rfl, Nat.le_of_ble_eq_true rfl⟩ ⟨Nat.zero_le _, Nat.zero_le _⟩ ⟨rfl, rfl⟩ ?_
  refine g_isn3 rfl d_X11_dayBy_4 ?_
  refine g_aload_n1 rfl d_X11_dayBy_5 ?_
  refine g_iconst 5 d_X11_dayBy_6 (by decide) ?_
  refine g_iload_n3 rfl d_X11_dayBy_7 ?_
  refine g_iconst 1 d_X11_dayBy_8 (by decide) ?_
  refine g_cut (pc' := 26) (vs' := [some (.ref (ka k 65)), some (.ref (ka k x1)), some (.int x2), some (.int (f_X11_whoOf I x1)), none, none]) (st' := [.int (u0_X11_dayBy I x1), .int 5, .ref (ka k x1)]) (M' := (81, ex, I, J, Pw w)) (fun hj => ?_) ?_
  · skip
    refine g_icmp_ne 16 d_X11_dayBy_9 (by decide) (fun h4 => ?_) (fun h4 => ?_)
    · skip
      refine g_iload_n3 rfl d_X11_dayBy_16 ?_
      refine g_iconst 2 d_X11_dayBy_17 (by decide) ?_
      refine g_icmp_ne 25 d_X11_dayBy_18 (by decide) (fun h5 => ?_) (fun h5 => ?_)
      · skip
        refine g_iconst 0 d_X11_dayBy_25 (by decide) ?_
        (try simp only [if_neg h4, if_neg h5, opv_eq, if_true, if_false, Bool.false_eq_true, reduceCtorEq, b2i_t, b2i_f, u0_X11_dayBy] at hj); exact hj
      · skip
        refine g_iconst 2 d_X11_dayBy_21 (by decide) ?_
        refine g_goto 26 d_X11_dayBy_22 (by decide) ?_
        (try simp only [if_neg h4, if_pos h5, opv_eq, if_true, if_false, Bool.false_eq_true, reduceCtorEq, b2i_t, b2i_f, u0_X11_dayBy] at hj); exact hj
    · skip
      refine g_iconst 1 d_X11_dayBy_12 (by decide) ?_
      refine g_goto 26 d_X11_dayBy_13 (by decide) ?_
      (try simp only [if_pos h4, opv_eq, if_true, if_false, Bool.false_eq_true, reduceCtorEq, b2i_t, b2i_f, u0_X11_dayBy] at hj); exact hj
  · skip
    obtain ⟨ho2, hok⟩ := hok
    refine g_iasts (n := 5) rfl d_X11_dayBy_26 hx1 (kd_sg hx1 (by decide)) ho2 ?_
    refine g_aload_n1 rfl d_X11_dayBy_27 ?_
    refine g_iconst 1 d_X11_dayBy_28 (by decide) ?_
    obtain ⟨ho3, hok⟩ := hok
    refine g_ialdv (I x1 1) (st2_o _ _ _ (by decide)) d_X11_dayBy_29 hx1 (kd_sg hx1 (by decide)) ho3 ?_
    refine g_iload_n3 rfl d_X11_dayBy_30 ?_
    refine g_iconst 1 d_X11_dayBy_31 (by decide) ?_
    refine g_cut (pc' := 60) (vs' := [some (.ref (ka k 65)), some (.ref (ka k x1)), some (.int x2), some (.int (f_X11_whoOf I x1)), none, none]) (st' := [.int (u1_X11_dayBy I x1), .int (I x1 1)]) (M' := (81, ex, (st2 I x1 5 (u0_X11_dayBy I x1)), J, Pw w)) (fun hj => ?_) ?_
    · skip
      refine g_icmp_ne 44 d_X11_dayBy_32 (by decide) (fun h6 => ?_) (fun h6 => ?_)
      · skip
        refine g_iload_n3 rfl d_X11_dayBy_44 ?_
        refine g_iconst 2 d_X11_dayBy_45 (by decide) ?_
        refine g_icmp_ne 59 d_X11_dayBy_46 (by decide) (fun h7 => ?_) (fun h7 => ?_)
        · skip
          refine g_iconst 0 d_X11_dayBy_59 (by decide) ?_
          (try simp only [if_neg h6, if_neg h7, opv_eq, if_true, if_false, Bool.false_eq_true, reduceCtorEq, b2i_t, b2i_f, u1_X11_dayBy] at hj); exact hj
        · skip
          refine g_aload_n0 rfl d_X11_dayBy_49 ?_
          refine g_getP (b := 68) f_X11_20 d_X11_dayBy_50 rfl (Nat.le_of_ble_eq_true rfl) rfl rfl ?_
          refine g_iconst 4 d_X11_dayBy_53 (by decide) ?_
          refine g_ialdv (I 68 4) (st2_a _ _ (Ne.symm hne_x1_68)) d_X11_dayBy_54 rfl (Nat.le_of_ble_eq_true rfl) (vp_c (by decide +kernel)) ?_
          refine g_ineg d_X11_dayBy_55 ?_
          refine g_goto 60 d_X11_dayBy_56 (by decide) ?_
          (try simp only [if_neg h6, if_pos h7, opv_eq, if_true, if_false, Bool.false_eq_true, reduceCtorEq, b2i_t, b2i_f, u1_X11_dayBy] at hj); exact hj
      · skip
        refine g_aload_n0 rfl d_X11_dayBy_35 ?_
        refine g_getP (b := 68) f_X11_20 d_X11_dayBy_36 rfl (Nat.le_of_ble_eq_true rfl) rfl rfl ?_
        refine g_iconst 3 d_X11_dayBy_39 (by decide) ?_
        refine g_ialdv (I 68 3) (st2_a _ _ (Ne.symm hne_x1_68)) d_X11_dayBy_40 rfl (Nat.le_of_ble_eq_true rfl) (vp_c (by decide +kernel)) ?_
        refine g_goto 60 d_X11_dayBy_41 (by decide) ?_
        (try simp only [if_pos h6, opv_eq, if_true, if_false, Bool.false_eq_true, reduceCtorEq, b2i_t, b2i_f, u1_X11_dayBy] at hj); exact hj
    · skip
      refine g_iadd d_X11_dayBy_60 ?_
      refine g_is4 rfl d_X11_dayBy_61 ?_
      refine g_aload_n1 rfl d_X11_dayBy_63 ?_
      refine g_iconst 1 d_X11_dayBy_64 (by decide) ?_
      refine g_iload (i := 4) rfl d_X11_dayBy_65 ?_
      refine g_bipush 100 d_X11_dayBy_67 (by decide) ?_
      refine g_cut (pc' := 88) (vs' := [some (.ref (ka k 65)), some (.ref (ka k x1)), some (.int x2), some (.int (f_X11_whoOf I x1)), some (.int ((I x1 1) + (u1_X11_dayBy I x1))), none]) (st' := [.int (u2_X11_dayBy I x1), .int 1, .ref (ka k x1)]) (M' := (81, ex, (st2 I x1 5 (u0_X11_dayBy I x1)), J, Pw w)) (fun hj => ?_) ?_
      · skip
        refine g_icmp_le 77 d_X11_dayBy_69 (by decide) (fun h8 => ?_) (fun h8 => ?_)
        · skip
          refine g_iload (i := 4) rfl d_X11_dayBy_77 ?_
          refine g_if_ge 86 d_X11_dayBy_79 (by decide) (fun h9 => ?_) (fun h9 => ?_)
          · skip
            refine g_iload (i := 4) rfl d_X11_dayBy_86 ?_
            (try simp only [if_pos h8, if_pos h9, opv_eq, if_true, if_false, Bool.false_eq_true, reduceCtorEq, b2i_t, b2i_f, u2_X11_dayBy] at hj); exact hj
          · skip
            refine g_iconst 0 d_X11_dayBy_82 (by decide) ?_
            refine g_goto 88 d_X11_dayBy_83 (by decide) ?_
            (try simp only [if_pos h8, if_neg h9, opv_eq, if_true, if_false, Bool.false_eq_true, reduceCtorEq, b2i_t, b2i_f, u2_X11_dayBy] at hj); exact hj
        · skip
          refine g_bipush 100 d_X11_dayBy_72 (by decide) ?_
          refine g_goto 88 d_X11_dayBy_74 (by decide) ?_
          (try simp only [if_neg h8, opv_eq, if_true, if_false, Bool.false_eq_true, reduceCtorEq, b2i_t, b2i_f, u2_X11_dayBy] at hj); exact hj
      · skip
        obtain ⟨ho4, hok⟩ := hok
        refine g_iasts (n := 1) rfl d_X11_dayBy_88 hx1 (kd_sg hx1 (by decide)) ho4 ?_
        refine g_aload_n1 rfl d_X11_dayBy_89 ?_
        refine g_iconst 0 d_X11_dayBy_90 (by decide) ?_
        refine g_aload_n1 rfl d_X11_dayBy_91 ?_
        refine g_iconst 0 d_X11_dayBy_92 (by decide) ?_
        obtain ⟨ho5, hok⟩ := hok
        refine g_ialdv (I x1 0) ((st2_o _ _ _ (by decide)).trans (st2_o _ _ _ (by decide))) d_X11_dayBy_93 hx1 (kd_sg hx1 (by decide)) ho5 ?_
        refine g_aload_n0 rfl d_X11_dayBy_94 ?_
        refine g_aload_n1 rfl d_X11_dayBy_95 ?_
        obtain ⟨ho6, hok⟩ := hok
        refine g_callV1 (c_X11_pullOf (st2 (st2 I x1 5 (u0_X11_dayBy I x1)) x1 1 (u2_X11_dayBy I x1)) x1 hx1 hne_x1_68 ho6) w_X11_pullOf l_X11_272 d_X11_dayBy_96 rfl (Nat.le_of_ble_eq_true rfl) rfl rfl (Nat.le_of_ble_eq_true rfl) ⟨Nat.le_of_ble_eq_true rfl, Nat.le_of_ble_eq_true rfl⟩ ⟨Nat.zero_le _, Nat.zero_le _⟩ ⟨rfl, rfl⟩ ?_
        refine g_aload_n1 rfl d_X11_dayBy_99 ?_
        refine g_iconst 1 d_X11_dayBy_100 (by decide) ?_
        obtain ⟨ho7, hok⟩ := hok
        refine g_ialdv (u2_X11_dayBy I x1) (st2_s _ _ _ _) d_X11_dayBy_101 hx1 (kd_sg hx1 (by decide)) ho7 ?_
        refine g_aload_n1 rfl d_X11_dayBy_102 ?_
        refine g_iconst 2 d_X11_dayBy_103 (by decide) ?_
        obtain ⟨ho8, hok⟩ := hok
        refine g_ialdv (I x1 2) ((st2_o _ _ _ (by decide)).trans (st2_o _ _ _ (by decide))) d_X11_dayBy_104 hx1 (kd_sg hx1 (by decide)) ho8 ?_
        refine g_iload_n2 rfl d_X11_dayBy_105 ?_
        refine g_callS1 (c_X11_stepOf (st2 (st2 I x1 5 (u0_X11_dayBy I x1)) x1 1 (u2_X11_dayBy I x1)) (u2_X11_dayBy I x1) (I x1 2) x2) w_X11_stepOf l_X11_275 d_X11_dayBy_106 rfl rfl (Nat.le_of_ble_eq_true rfl) ⟨Nat.le_of_ble_eq_true rfl, Nat.le_of_ble_eq_true rfl⟩ ⟨Nat.zero_le _, Nat.zero_le _⟩ ⟨rfl, rfl⟩ ?_
        refine g_callS1 (c_X11_nearer (st2 (st2 I x1 5 (u0_X11_dayBy I x1)) x1 1 (u2_X11_dayBy I x1)) (I x1 0) (f_X11_pullOf (st2 (st2 I x1 5 (u0_X11_dayBy I x1)) x1 1 (u2_X11_dayBy I x1)) x1) (f_X11_stepOf (st2 (st2 I x1 5 (u0_X11_dayBy I x1)) x1 1 (u2_X11_dayBy I x1)) (u2_X11_dayBy I x1) (I x1 2) x2)) w_X11_nearer l_X11_279 d_X11_dayBy_109 rfl rfl (Nat.le_of_ble_eq_true rfl) ⟨Nat.le_of_ble_eq_true rfl, Nat.le_of_ble_eq_true rfl⟩ ⟨Nat.zero_le _, Nat.zero_le _⟩ ⟨rfl, rfl⟩ ?_
        obtain ⟨ho9, hok⟩ := hok
        refine g_iasts (n := 0) rfl d_X11_dayBy_112 hx1 (kd_sg hx1 (by decide)) ho9 ?_
        refine g_aload_n1 rfl d_X11_dayBy_113 ?_
        refine g_iconst 3 d_X11_dayBy_114 (by decide) ?_
        refine g_iconst 0 d_X11_dayBy_115 (by decide) ?_
        obtain ⟨ho10, hok⟩ := hok
        refine g_iasts (n := 3) rfl d_X11_dayBy_116 hx1 (kd_sg hx1 (by decide)) ho10 ?_
        refine g_iconst 0 d_X11_dayBy_117 (by decide) ?_
        refine g_is5 rfl d_X11_dayBy_118 ?_
        obtain ⟨hol, hok⟩ := hok
        refine k_lp_X11_dayBy_120 x1 hx1 x2 (f_X11_whoOf I x1) ((I x1 1) + (u1_X11_dayBy I x1)) hne_x1_68 _ 0 (st2 (st2 (st2 (st2 I x1 5 (u0_X11_dayBy I x1)) x1 1 (u2_X11_dayBy I x1)) x1 0 (f_X11_nearer (st2 (st2 I x1 5 (u0_X11_dayBy I x1)) x1 1 (u2_X11_dayBy I x1)) (I x1 0) (f_X11_pullOf (st2 (st2 I x1 5 (u0_X11_dayBy I x1)) x1 1 (u2_X11_dayBy I x1)) x1) (f_X11_stepOf (st2 (st2 I x1 5 (u0_X11_dayBy I x1)) x1 1 (u2_X11_dayBy I x1)) (u2_X11_dayBy I x1) (I x1 2) x2))) x1 3 0) (Nat.lt_succ_self _) hol ?_
        refine g_aload_n1 rfl d_X11_dayBy_191 ?_
        refine g_iconst 4 d_X11_dayBy_192 (by decide) ?_
        refine g_dup2 rfl rfl d_X11_dayBy_193 ?_
        obtain ⟨ho17, hok⟩ := hok
        refine g_ialdv (((lp_X11_dayBy_120 x1 x2 (f_X11_whoOf I x1) ((I x1 1) + (u1_X11_dayBy I x1)) (mu_up ((st2 (st2 (st2 (st2 I x1 5 (u0_X11_dayBy I x1)) x1 1 (u2_X11_dayBy I x1)) x1 0 (f_X11_nearer (st2 (st2 I x1 5 (u0_X11_dayBy I x1)) x1 1 (u2_X11_dayBy I x1)) (I x1 0) (f_X11_pullOf (st2 (st2 I x1 5 (u0_X11_dayBy I x1)) x1 1 (u2_X11_dayBy I x1)) x1) (f_X11_stepOf (st2 (st2 I x1 5 (u0_X11_dayBy I x1)) x1 1 (u2_X11_dayBy I x1)) (u2_X11_dayBy I x1) (I x1 2) x2))) x1 3 0) 68 6) 0 + 1) 0 (st2 (st2 (st2 (st2 I x1 5 (u0_X11_dayBy I x1)) x1 1 (u2_X11_dayBy I x1)) x1 0 (f_X11_nearer (st2 (st2 I x1 5 (u0_X11_dayBy I x1)) x1 1 (u2_X11_dayBy I x1)) (I x1 0) (f_X11_pullOf (st2 (st2 I x1 5 (u0_X11_dayBy I x1)) x1 1 (u2_X11_dayBy I x1)) x1) (f_X11_stepOf (st2 (st2 I x1 5 (u0_X11_dayBy I x1)) x1 1 (u2_X11_dayBy I x1)) (u2_X11_dayBy I x1) (I x1 2) x2))) x1 3 0)).2) x1 4) rfl d_X11_dayBy_194 hx1 (kd_sg hx1 (by decide)) ho17 ?_
        refine g_iconst 1 d_X11_dayBy_195 (by decide) ?_
        refine g_iadd d_X11_dayBy_196 ?_
        have ho18 := hok
        refine g_iasts (n := 4) rfl d_X11_dayBy_197 hx1 (kd_sg hx1 (by decide)) ho18 ?_
        exact g_vret rfl d_X11_dayBy_198 ⟨rfl, by simp only [m_X11_dayBy, opv_eq, if_true, if_false, Bool.false_eq_true, reduceCtorEq, b2i_t, b2i_f]⟩ (Nat.le_refl _) (Nat.le_refl _)
noncomputable def m_X11_dayOf (I : Nat → Nat → Int32) (x1 : Nat) : Nat → Nat → Int32 := opv (m_X11_dayBy I x1 (I 68 0))
noncomputable def ok_X11_dayOf (I : Nat → Nat → Int32) (x1 : Nat) : Prop := opv (ok_X11_dayBy I x1 (I 68 0))
set_option maxHeartbeats 800000 in
set_option maxRecDepth 4000 in
theorem c_X11_dayOf {k : KT} {ex : Bool} {J : Nat → Nat → Int64} {w : Bool} (I : Nat → Nat → Int32) (x1 : Nat) (hx1 : kd x1 = 12)  (hne_x1_68 : x1 ≠ 68) (hok : ok_X11_dayOf I x1) : Cx k mX11_dayOf 4 [.ref (ka k 65), .ref (ka k x1)] (81, ex, I, J, Pw w) none (81, ex, m_X11_dayOf I x1, J, Pw w) := by
  refine Ct.of rfl [some (.ref (ka k 65)), some (.ref (ka k x1))] rfl rfl (Nat.le_of_ble_eq_true rfl) ?_
  rw [ok_X11_dayOf, opv_eq] at hok
  refine g_aload_n0 rfl d_X11_dayOf_0 ?_
  refine g_aload_n1 rfl d_X11_dayOf_1 ?_
  refine g_aload_n0 rfl d_X11_dayOf_2 ?_
  refine g_getP (b := 68) f_X11_20 d_X11_dayOf_3 rfl (Nat.le_of_ble_eq_true rfl) rfl rfl ?_
  refine g_iconst 0 d_X11_dayOf_6 (by decide) ?_
  refine g_ialdv (I 68 0) rfl d_X11_dayOf_7 rfl (Nat.le_of_ble_eq_true rfl) (vp_c (by decide +kernel)) ?_
  have ho1 := hok
  refine g_callV0 (c_X11_dayBy I x1 hx1 (I 68 0) hne_x1_68 ho1) w_X11_dayBy l_X11_282 d_X11_dayOf_8 rfl (Nat.le_of_ble_eq_true rfl) rfl rfl (Nat.le_of_ble_eq_true rfl) ⟨Nat.le_of_ble_eq_true rfl, Nat.le_of_ble_eq_true rfl⟩ ⟨Nat.zero_le _, Nat.zero_le _⟩ ⟨rfl, rfl⟩ ?_
  exact g_vret rfl d_X11_dayOf_11 ⟨rfl, by simp only [m_X11_dayOf, opv_eq, if_true, if_false, Bool.false_eq_true, reduceCtorEq, b2i_t, b2i_f]⟩ (Nat.le_refl _) (Nat.le_refl _)
noncomputable def m_X11_begin (I : Nat → Nat → Int32)  : Nat → Nat → Int32 := opv (m_X11_copy I 70 0 73 0 7)
noncomputable def ok_X11_begin (I : Nat → Nat → Int32)  : Prop := opv (ok_X11_copy I 70 0 73 0 7)
set_option maxHeartbeats 800000 in
set_option maxRecDepth 4000 in
theorem c_X11_begin {k : KT} {ex : Bool} {J : Nat → Nat → Int64} {w : Bool} (I : Nat → Nat → Int32)   (hok : ok_X11_begin I) : Cx k mX11_begin 2 [.ref (ka k 65)] (81, ex, I, J, Pw w) none (81, ex, m_X11_begin I, J, Pw w) := by
  refine Ct.of rfl [some (.ref (ka k 65))] rfl rfl (Nat.le_of_ble_eq_true rfl) ?_
  rw [ok_X11_begin, opv_eq] at hok
  refine g_aload_n0 rfl d_X11_begin_0 ?_
  refine g_getP (b := 70) f_X11_26 d_X11_begin_1 rfl (Nat.le_of_ble_eq_true rfl) rfl rfl ?_
  refine g_iconst 0 d_X11_begin_4 (by decide) ?_
  refine g_aload_n0 rfl d_X11_begin_5 ?_
  refine g_getP (b := 73) f_X11_35 d_X11_begin_6 rfl (Nat.le_of_ble_eq_true rfl) rfl rfl ?_
  refine g_iconst 0 d_X11_begin_9 (by decide) ?_
  refine g_bipush 7 d_X11_begin_10 (by decide) ?_
  have ho1 := hok
  refine g_callS0 (c_X11_copy I 70 rfl 0 73 rfl 0 7 ho1) w_X11_copy l_X11_177 d_X11_begin_12 rfl rfl (Nat.le_of_ble_eq_true rfl) ⟨Nat.le_of_ble_eq_true rfl, Nat.le_of_ble_eq_true rfl⟩ ⟨Nat.zero_le _, Nat.zero_le _⟩ ⟨rfl, rfl⟩ ?_
  exact g_vret rfl d_X11_begin_15 ⟨rfl, by simp only [m_X11_begin, opv_eq, if_true, if_false, Bool.false_eq_true, reduceCtorEq, b2i_t, b2i_f]⟩ (Nat.le_refl _) (Nat.le_refl _)
noncomputable def lp_X11_goOver_6 (x1 : Int32) : Nat → Int32 → (Nat → Nat → Int32) → Int32 × (Nat → Nat → Int32)
  | 0, l2, I1 => (l2, I1)
  | n + 1, l2, I1 => (if x1 ≤ l2 then (l2, I1) else (lp_X11_goOver_6 x1 n (l2 + 1) (m_X11_dayOf I1 73)))
def oklp_X11_goOver_6 (x1 : Int32) : Nat → Int32 → (Nat → Nat → Int32) → Prop
  | 0, l2, I1 => True
  | n + 1, l2, I1 => (if x1 ≤ l2 then True else (ok_X11_dayOf I1 73 ∧ oklp_X11_goOver_6 x1 n (l2 + 1) (m_X11_dayOf I1 73)))
set_option maxHeartbeats 800000 in
set_option maxRecDepth 4000 in
theorem k_lp_X11_goOver_6 {k : KT} {ex : Bool} {J : Nat → Nat → Int64} {w : Bool} (x1 : Int32) {F : FinT} : ∀ (n : Nat) (l2 : Int32) (I1 : (Nat → Nat → Int32)), mu_up x1 l2 < n → oklp_X11_goOver_6 x1 n l2 I1 → G k mX11_goOver (roomOf 5 0 0) F 0 0 25 [some (.ref (ka k 65)), some (.int x1), some (.int ((lp_X11_goOver_6 x1 n l2 I1).1))] [] (81, ex, (lp_X11_goOver_6 x1 n l2 I1).2, J, Pw w) → G k mX11_goOver (roomOf 5 0 0) F 0 0 6 [some (.ref (ka k 65)), some (.int x1), some (.int l2)] [] (81, ex, I1, J, Pw w) := by
  intro n
  induction n with
  | zero => intro l2 I1 hmu hok hj; exact absurd hmu (Nat.not_lt_zero _)
  | succ n ih =>
    intro l2 I1 hmu hok hj
    rw [oklp_X11_goOver_6] at hok
    refine g_iload_n2 rfl d_X11_goOver_6 ?_
    refine g_iload_n1 rfl d_X11_goOver_7 ?_
    refine g_icmp_ge 25 d_X11_goOver_8 (by decide) (fun h1 => ?_) (fun h1 => ?_)
    · skip
      (try simp only [lp_X11_goOver_6, if_pos h1, opv_eq, if_true, if_false, Bool.false_eq_true, reduceCtorEq, b2i_t, b2i_f] at hj); exact hj
    · skip
      rw [if_neg h1] at hok
      refine g_aload_n0 rfl d_X11_goOver_11 ?_
      refine g_aload_n0 rfl d_X11_goOver_12 ?_
      refine g_getP (b := 73) f_X11_35 d_X11_goOver_13 rfl (Nat.le_of_ble_eq_true rfl) rfl rfl ?_
      obtain ⟨ho2, hok⟩ := hok
      refine g_callV0 (c_X11_dayOf I1 73 rfl (by decide) ho2) w_X11_dayOf l_X11_288 d_X11_goOver_16 rfl (Nat.le_of_ble_eq_true rfl) rfl rfl (Nat.le_of_ble_eq_true rfl) ⟨Nat.le_of_ble_eq_true rfl, Nat.le_of_ble_eq_true rfl⟩ ⟨Nat.zero_le _, Nat.zero_le _⟩ ⟨rfl, rfl⟩ ?_
      refine g_ic2 (l2 + 1) rfl rfl d_X11_goOver_19 ?_
      refine g_goto 6 d_X11_goOver_22 (by decide) ?_
      exact ih (l2 + 1) (m_X11_dayOf I1 73) (Nat.lt_of_lt_of_le (mu_up_lt h1) (Nat.le_of_lt_succ hmu)) (by (try simp only [if_neg h1, opv_eq, if_true, if_false, Bool.false_eq_true, reduceCtorEq, b2i_t, b2i_f] at hok); exact hok) (by (try simp only [lp_X11_goOver_6, if_neg h1, opv_eq, if_true, if_false, Bool.false_eq_true, reduceCtorEq, b2i_t, b2i_f] at hj); exact hj)
noncomputable def m_X11_goOver (I : Nat → Nat → Int32) (x1 : Int32) : Nat → Nat → Int32 := opv ((lp_X11_goOver_6 x1 (mu_up x1 0 + 1) 0 (m_X11_begin I)).2)
noncomputable def ok_X11_goOver (I : Nat → Nat → Int32) (x1 : Int32) : Prop := opv (ok_X11_begin I ∧ oklp_X11_goOver_6 x1 (mu_up x1 0 + 1) 0 (m_X11_begin I))
set_option maxHeartbeats 800000 in
set_option maxRecDepth 4000 in
theorem c_X11_goOver {k : KT} {ex : Bool} {J : Nat → Nat → Int64} {w : Bool} (I : Nat → Nat → Int32) (x1 : Int32)  (hok : ok_X11_goOver I x1) : Cx k mX11_goOver 5 [.ref (ka k 65), .int x1] (81, ex, I, J, Pw w) none (81, ex, m_X11_goOver I x1, J, Pw w) := by
  refine Ct.of rfl [some (.ref (ka k 65)), some (.int x1), none] rfl rfl (Nat.le_of_ble_eq_true rfl) ?_
  rw [ok_X11_goOver, opv_eq] at hok
  refine g_aload_n0 rfl d_X11_goOver_0 ?_
  obtain ⟨ho1, hok⟩ := hok
  refine g_callV0 (c_X11_begin I  ho1) w_X11_begin l_X11_285 d_X11_goOver_1 rfl (Nat.le_of_ble_eq_true rfl) rfl rfl (Nat.le_of_ble_eq_true rfl) ⟨Nat.le_of_ble_eq_true rfl, Nat.le_of_ble_eq_true rfl⟩ ⟨Nat.zero_le _, Nat.zero_le _⟩ ⟨rfl, rfl⟩ ?_
  refine g_iconst 0 d_X11_goOver_4 (by decide) ?_
  refine g_isn2 rfl d_X11_goOver_5 ?_
  refine k_lp_X11_goOver_6 x1 _ 0 (m_X11_begin I) (Nat.lt_succ_self _) hok ?_
  exact g_vret rfl d_X11_goOver_25 ⟨rfl, by simp only [m_X11_goOver, opv_eq, if_true, if_false, Bool.false_eq_true, reduceCtorEq, b2i_t, b2i_f]⟩ (Nat.le_refl _) (Nat.le_refl _)
noncomputable def u0_X11_worthsOf (I : Nat → Nat → Int32) (x1 : Nat) (x2 : Int32) (x3 : Int32) (l5 : Int32) : Int32 := opv (if (f_X11_in I (I 68 (25 + (3 * l5)).toNatClampNeg) x2 (x3 - 1)) = true then (if (f_X11_hasBit I (I x1 6) l5) = true then I 68 ((25 + (3 * l5)) + 2).toNatClampNeg else 0) else 0)
noncomputable def lp_X11_worthsOf_6 (I : Nat → Nat → Int32) (x1 : Nat) (x2 : Int32) (x3 : Int32) : Nat → Int32 → Int32 → Int32 × Int32
  | 0, l4, l5 => (l4, l5)
  | n + 1, l4, l5 => (if (I 68 6) ≤ l5 then (l4, l5) else (lp_X11_worthsOf_6 I x1 x2 x3 n (l4 + (u0_X11_worthsOf I x1 x2 x3 l5)) (l5 + 1)))
def oklp_X11_worthsOf_6 (I : Nat → Nat → Int32) (x1 : Nat) (x2 : Int32) (x3 : Int32) : Nat → Int32 → Int32 → Prop
  | 0, l4, l5 => True
  | n + 1, l4, l5 => (if (I 68 6) ≤ l5 then True else (vp_in (25 + (3 * l5)) (sz 68) ∧ ((if (f_X11_in I (I 68 (25 + (3 * l5)).toNatClampNeg) x2 (x3 - 1)) = true then (vp_in (6 : Int32) (sz x1) ∧ (if (f_X11_hasBit I (I x1 6) l5) = true then vp_in ((25 + (3 * l5)) + 2) (sz 68) else True)) else True) ∧ oklp_X11_worthsOf_6 I x1 x2 x3 n (l4 + (u0_X11_worthsOf I x1 x2 x3 l5)) (l5 + 1))))
set_option maxHeartbeats 800000 in
set_option maxRecDepth 4000 in
theorem k_lp_X11_worthsOf_6 {k : KT} {ex : Bool} {J : Nat → Nat → Int64} {w : Bool} (I : Nat → Nat → Int32) (x1 : Nat) (hx1 : kd x1 = 12) (x2 : Int32) (x3 : Int32) {F : FinT} : ∀ (n : Nat) (l4 : Int32) (l5 : Int32), mu_up (I 68 6) l5 < n → oklp_X11_worthsOf_6 I x1 x2 x3 n l4 l5 → G k mX11_worthsOf (roomOf 2 0 0) F 0 0 81 [some (.ref (ka k 65)), some (.ref (ka k x1)), some (.int x2), some (.int x3), some (.int ((lp_X11_worthsOf_6 I x1 x2 x3 n l4 l5).1)), some (.int ((lp_X11_worthsOf_6 I x1 x2 x3 n l4 l5).2))] [] (81, ex, I, J, Pw w) → G k mX11_worthsOf (roomOf 2 0 0) F 0 0 6 [some (.ref (ka k 65)), some (.ref (ka k x1)), some (.int x2), some (.int x3), some (.int l4), some (.int l5)] [] (81, ex, I, J, Pw w) := by
  intro n
  induction n with
  | zero => intro l4 l5 hmu hok hj; exact absurd hmu (Nat.not_lt_zero _)
  | succ n ih =>
    intro l4 l5 hmu hok hj
    rw [oklp_X11_worthsOf_6] at hok
    refine g_iload (i := 5) rfl d_X11_worthsOf_6 ?_
    refine g_aload_n0 rfl d_X11_worthsOf_8 ?_
    refine g_getP (b := 68) f_X11_20 d_X11_worthsOf_9 rfl (Nat.le_of_ble_eq_true rfl) rfl rfl ?_
    refine g_bipush 6 d_X11_worthsOf_12 (by decide) ?_
    refine g_ialdv (I 68 6) rfl d_X11_worthsOf_14 rfl (Nat.le_of_ble_eq_true rfl) (vp_c (by decide +kernel)) ?_
    refine g_icmp_ge 81 d_X11_worthsOf_15 (by decide) (fun h1 => ?_) (fun h1 => ?_)
    · skip
      (try simp only [lp_X11_worthsOf_6, if_pos h1, opv_eq, if_true, if_false, Bool.false_eq_true, reduceCtorEq, b2i_t, b2i_f] at hj); exact hj
    · skip
      rw [if_neg h1] at hok
      refine g_iload (i := 4) rfl d_X11_worthsOf_18 ?_
      refine g_aload_n0 rfl d_X11_worthsOf_20 ?_
      refine g_getP (b := 68) f_X11_20 d_X11_worthsOf_21 rfl (Nat.le_of_ble_eq_true rfl) rfl rfl ?_
      refine g_bipush 25 d_X11_worthsOf_24 (by decide) ?_
      refine g_iconst 3 d_X11_worthsOf_26 (by decide) ?_
      refine g_iload (i := 5) rfl d_X11_worthsOf_27 ?_
      refine g_imul d_X11_worthsOf_29 ?_
      refine g_iadd d_X11_worthsOf_30 ?_
      obtain ⟨ho1, hok⟩ := hok
      refine g_iald d_X11_worthsOf_31 rfl (Nat.le_of_ble_eq_true rfl) ho1 ?_
      refine g_iload_n2 rfl d_X11_worthsOf_32 ?_
      refine g_iload_n3 rfl d_X11_worthsOf_33 ?_
      refine g_iconst 1 d_X11_worthsOf_34 (by decide) ?_
      refine g_isub d_X11_worthsOf_35 ?_
      refine g_callS1 (c_X11_in I (I 68 (25 + (3 * l5)).toNatClampNeg) x2 (x3 - 1)) w_X11_in l_X11_149 d_X11_worthsOf_36 rfl rfl (Nat.le_of_ble_eq_true rfl) ⟨Nat.le_of_ble_eq_true rfl, Nat.le_of_ble_eq_true rfl⟩ ⟨Nat.zero_le _, Nat.zero_le _⟩ ⟨rfl, rfl⟩ ?_
      obtain ⟨hoa, hob⟩ := hok
      refine g_cut (pc' := 72) (vs' := [some (.ref (ka k 65)), some (.ref (ka k x1)), some (.int x2), some (.int x3), some (.int l4), some (.int l5)]) (st' := [.int (u0_X11_worthsOf I x1 x2 x3 l5), .int l4]) (M' := (81, ex, I, J, Pw w)) (fun hj => ?_) ?_
      · skip
        refine g_ifz 71 d_X11_worthsOf_39 (by decide) (fun h2 => ?_) (fun h2 => ?_)
        · skip
          refine g_iconst 0 d_X11_worthsOf_71 (by decide) ?_
          (try simp only [if_neg (nb h2), opv_eq, if_true, if_false, Bool.false_eq_true, reduceCtorEq, b2i_t, b2i_f, u0_X11_worthsOf] at hj); exact hj
        · skip
          rw [if_pos h2] at hoa
          refine g_aload_n1 rfl d_X11_worthsOf_42 ?_
          refine g_bipush 6 d_X11_worthsOf_43 (by decide) ?_
          obtain ⟨ho2, hok⟩ := hoa
          refine g_ialdv (I x1 6) rfl d_X11_worthsOf_45 hx1 (kd_sg hx1 (by decide)) ho2 ?_
          refine g_iload (i := 5) rfl d_X11_worthsOf_46 ?_
          refine g_callS1 (c_X11_hasBit I (I x1 6) l5) w_X11_hasBit l_X11_261 d_X11_worthsOf_48 rfl rfl (Nat.le_of_ble_eq_true rfl) ⟨Nat.le_of_ble_eq_true rfl, Nat.le_of_ble_eq_true rfl⟩ ⟨Nat.zero_le _, Nat.zero_le _⟩ ⟨rfl, rfl⟩ ?_
          refine g_ifz 71 d_X11_worthsOf_51 (by decide) (fun h3 => ?_) (fun h3 => ?_)
          · skip
            refine g_iconst 0 d_X11_worthsOf_71 (by decide) ?_
            (try simp only [if_pos h2, if_neg (nb h3), opv_eq, if_true, if_false, Bool.false_eq_true, reduceCtorEq, b2i_t, b2i_f, u0_X11_worthsOf] at hj); exact hj
          · skip
            rw [if_pos h3] at hok
            refine g_aload_n0 rfl d_X11_worthsOf_54 ?_
            refine g_getP (b := 68) f_X11_20 d_X11_worthsOf_55 rfl (Nat.le_of_ble_eq_true rfl) rfl rfl ?_
            refine g_bipush 25 d_X11_worthsOf_58 (by decide) ?_
            refine g_iconst 3 d_X11_worthsOf_60 (by decide) ?_
            refine g_iload (i := 5) rfl d_X11_worthsOf_61 ?_
            refine g_imul d_X11_worthsOf_63 ?_
            refine g_iadd d_X11_worthsOf_64 ?_
            refine g_iconst 2 d_X11_worthsOf_65 (by decide) ?_
            refine g_iadd d_X11_worthsOf_66 ?_
            have ho3 := hok
            refine g_iald d_X11_worthsOf_67 rfl (Nat.le_of_ble_eq_true rfl) ho3 ?_
            refine g_goto 72 d_X11_worthsOf_68 (by decide) ?_
            (try simp only [if_pos h2, if_pos h3, opv_eq, if_true, if_false, Bool.false_eq_true, reduceCtorEq, b2i_t, b2i_f, u0_X11_worthsOf] at hj); exact hj
      · skip
        refine g_iadd d_X11_worthsOf_72 ?_
        refine g_is4 rfl d_X11_worthsOf_73 ?_
        refine g_ic5 (l5 + 1) rfl rfl d_X11_worthsOf_75 ?_
        refine g_goto 6 d_X11_worthsOf_78 (by decide) ?_
        exact ih (l4 + (u0_X11_worthsOf I x1 x2 x3 l5)) (l5 + 1) (Nat.lt_of_lt_of_le (mu_up_lt h1) (Nat.le_of_lt_succ hmu)) (by (try simp only [if_neg h1, opv_eq, if_true, if_false, Bool.false_eq_true, reduceCtorEq, b2i_t, b2i_f] at hob); exact hob) (by (try simp only [lp_X11_worthsOf_6, if_neg h1, opv_eq, if_true, if_false, Bool.false_eq_true, reduceCtorEq, b2i_t, b2i_f] at hj); exact hj)
noncomputable def f_X11_worthsOf (I : Nat → Nat → Int32) (x1 : Nat) (x2 : Int32) (x3 : Int32) : Int32 := opv ((lp_X11_worthsOf_6 I x1 x2 x3 (mu_up (I 68 6) 0 + 1) 0 0).1)
noncomputable def ok_X11_worthsOf (I : Nat → Nat → Int32) (x1 : Nat) (x2 : Int32) (x3 : Int32) : Prop := opv (oklp_X11_worthsOf_6 I x1 x2 x3 (mu_up (I 68 6) 0 + 1) 0 0)
set_option maxHeartbeats 800000 in
set_option maxRecDepth 4000 in
theorem c_X11_worthsOf {k : KT} {ex : Bool} {J : Nat → Nat → Int64} {w : Bool} (I : Nat → Nat → Int32) (x1 : Nat) (hx1 : kd x1 = 12) (x2 : Int32) (x3 : Int32)  (hok : ok_X11_worthsOf I x1 x2 x3) : Cx k mX11_worthsOf 2 [.ref (ka k 65), .ref (ka k x1), .int x2, .int x3] (81, ex, I, J, Pw w) (some (.int (f_X11_worthsOf I x1 x2 x3))) (81, ex, I, J, Pw w) := by
  refine Ct.of rfl [some (.ref (ka k 65)), some (.ref (ka k x1)), some (.int x2), some (.int x3), none, none] rfl rfl (Nat.le_of_ble_eq_true rfl) ?_
  rw [ok_X11_worthsOf, opv_eq] at hok
  refine g_iconst 0 d_X11_worthsOf_0 (by decide) ?_
  refine g_is4 rfl d_X11_worthsOf_1 ?_
  refine g_iconst 0 d_X11_worthsOf_3 (by decide) ?_
  refine g_is5 rfl d_X11_worthsOf_4 ?_
  refine k_lp_X11_worthsOf_6 I x1 hx1 x2 x3 _ 0 0 (Nat.lt_succ_self _) hok ?_
  refine g_iload (i := 4) rfl d_X11_worthsOf_81 ?_
  exact g_iret rfl d_X11_worthsOf_83 ⟨by simp only [f_X11_worthsOf, opv_eq, if_true, if_false, Bool.false_eq_true, reduceCtorEq, b2i_t, b2i_f], rfl⟩ (Nat.le_refl _) (Nat.le_refl _)
noncomputable def f_X11_beam (I : Nat → Nat → Int32) (x1 : Int32) : Int32 := opv (if ((m_X11_good I) 65 14) = 0 then f_X11_no (m_X11_good I) 1 else (if (f_X11_in (m_X11_good I) x1 0 5) = true then (if x1 = 0 then ((m_X11_good I) 70 0) + 9 else (if x1 = 1 then (m_X11_good I) 70 1 else (if x1 = 2 then f_X11_whoOf (m_X11_good I) 70 else (if x1 = 3 then (m_X11_good I) 70 2 else (if x1 = 4 then (m_X11_good I) 70 5 else (f_X11_towards (m_X11_good I) ((m_X11_good I) 70 1)) + 9))))) else f_X11_no (m_X11_good I) 1))
noncomputable def m_X11_beam (I : Nat → Nat → Int32) (x1 : Int32) : Nat → Nat → Int32 := opv (if ((m_X11_good I) 65 14) = 0 then (m_X11_no (m_X11_good I) 1) else (if (f_X11_in (m_X11_good I) x1 0 5) = true then (m_X11_good I) else (m_X11_no (m_X11_good I) 1)))
noncomputable def ok_X11_beam (I : Nat → Nat → Int32) (x1 : Int32) : Prop := opv (if ((m_X11_good I) 65 14) = 0 then True else (if (f_X11_in (m_X11_good I) x1 0 5) = true then (if x1 = 0 then True else (if x1 = 1 then True else (if x1 = 2 then ok_X11_whoOf (m_X11_good I) 70 else True))) else True))
set_option maxHeartbeats 800000 in
set_option maxRecDepth 4000 in
theorem c_X11_beam {k : KT} {ex : Bool} {J : Nat → Nat → Int64} {w : Bool} (I : Nat → Nat → Int32) (x1 : Int32)  (hok : ok_X11_beam I x1) : Cx k mX11_beam 2 [.ref (ka k 65), .int x1] (81, ex, I, J, Pw w) (some (.int (f_X11_beam I x1))) (81, ex, m_X11_beam I x1, J, Pw w) := by
  refine Ct.of rfl [some (.ref (ka k 65)), some (.int x1)] rfl rfl (Nat.le_of_ble_eq_true rfl) ?_
  rw [ok_X11_beam, opv_eq] at hok
  refine g_aload_n0 rfl d_X11_beam_0 ?_
  refine g_callV0 (c_X11_good I ) w_X11_good l_X11_168 d_X11_beam_1 rfl (Nat.le_of_ble_eq_true rfl) rfl rfl (Nat.le_of_ble_eq_true rfl) ⟨Nat.le_of_ble_eq_true rfl, Nat.le_of_ble_eq_true rfl⟩ ⟨Nat.zero_le _, Nat.zero_le _⟩ ⟨rfl, rfl⟩ ?_
  refine g_aload_n0 rfl d_X11_beam_4 ?_
  refine g_getI f_X11_185 d_X11_beam_5 rfl (Nat.le_of_ble_eq_true rfl) rfl ?_
  refine g_if_eq 20 d_X11_beam_8 (by decide) (fun h1 => ?_) (fun h1 => ?_)
  · skip
    refine g_aload_n0 rfl d_X11_beam_20 ?_
    refine g_iconst 1 d_X11_beam_21 (by decide) ?_
    refine g_callV1 (c_X11_no (m_X11_good I) 1) w_X11_no l_X11_171 d_X11_beam_22 rfl (Nat.le_of_ble_eq_true rfl) rfl rfl (Nat.le_of_ble_eq_true rfl) ⟨Nat.le_of_ble_eq_true rfl, Nat.le_of_ble_eq_true rfl⟩ ⟨Nat.zero_le _, Nat.zero_le _⟩ ⟨rfl, rfl⟩ ?_
    exact g_iret rfl d_X11_beam_25 ⟨by simp only [f_X11_beam, m_X11_beam, if_pos h1, opv_eq, if_true, if_false, Bool.false_eq_true, reduceCtorEq, b2i_t, b2i_f], by simp only [f_X11_beam, m_X11_beam, if_pos h1, opv_eq, if_true, if_false, Bool.false_eq_true, reduceCtorEq, b2i_t, b2i_f]⟩ (Nat.le_refl _) (Nat.le_refl _)
  · skip
    rw [if_neg h1] at hok
    refine g_iload_n1 rfl d_X11_beam_11 ?_
    refine g_iconst 0 d_X11_beam_12 (by decide) ?_
    refine g_iconst 5 d_X11_beam_13 (by decide) ?_
    refine g_callS1 (c_X11_in (m_X11_good I) x1 0 5) w_X11_in l_X11_149 d_X11_beam_14 rfl rfl (Nat.le_of_ble_eq_true rfl) ⟨Nat.le_of_ble_eq_true rfl, Nat.le_of_ble_eq_true rfl⟩ ⟨Nat.zero_le _, Nat.zero_le _⟩ ⟨rfl, rfl⟩ ?_
    refine g_ifnz 26 d_X11_beam_17 (by decide) (fun h2 => ?_) (fun h2 => ?_)
    · skip
      rw [if_pos h2] at hok
      refine g_iload_n1 rfl d_X11_beam_26 ?_
      refine g_tcase 0 60 d_X11_beam_27 (by decide) (by decide) rfl (by decide) (fun h3 => ?_) (fun h3 => ?_)
      · skip
        refine g_aload_n0 rfl d_X11_beam_60 ?_
        refine g_getP (b := 70) f_X11_26 d_X11_beam_61 rfl (Nat.le_of_ble_eq_true rfl) rfl rfl ?_
        refine g_iconst 0 d_X11_beam_64 (by decide) ?_
        refine g_ialdv ((m_X11_good I) 70 0) rfl d_X11_beam_65 rfl (Nat.le_of_ble_eq_true rfl) (vp_c (by decide +kernel)) ?_
        refine g_bipush 9 d_X11_beam_66 (by decide) ?_
        refine g_iadd d_X11_beam_68 ?_
        exact g_iret rfl d_X11_beam_69 ⟨by simp only [f_X11_beam, m_X11_beam, if_neg h1, if_pos h2, if_pos h3, opv_eq, if_true, if_false, Bool.false_eq_true, reduceCtorEq, b2i_t, b2i_f], by simp only [f_X11_beam, m_X11_beam, if_neg h1, if_pos h2, if_pos h3, opv_eq, if_true, if_false, Bool.false_eq_true, reduceCtorEq, b2i_t, b2i_f]⟩ (Nat.le_refl _) (Nat.le_refl _)
      rw [if_neg h3] at hok
      refine g_tcase 1 70 d_X11_beam_27 (by decide) (by decide) rfl (by decide) (fun h4 => ?_) (fun h4 => ?_)
      · skip
        refine g_aload_n0 rfl d_X11_beam_70 ?_
        refine g_getP (b := 70) f_X11_26 d_X11_beam_71 rfl (Nat.le_of_ble_eq_true rfl) rfl rfl ?_
        refine g_iconst 1 d_X11_beam_74 (by decide) ?_
        refine g_ialdv ((m_X11_good I) 70 1) rfl d_X11_beam_75 rfl (Nat.le_of_ble_eq_true rfl) (vp_c (by decide +kernel)) ?_
        exact g_iret rfl d_X11_beam_76 ⟨by simp only [f_X11_beam, m_X11_beam, if_neg h1, if_pos h2, if_neg h3, if_pos h4, opv_eq, if_true, if_false, Bool.false_eq_true, reduceCtorEq, b2i_t, b2i_f], by simp only [f_X11_beam, m_X11_beam, if_neg h1, if_pos h2, if_neg h3, if_pos h4, opv_eq, if_true, if_false, Bool.false_eq_true, reduceCtorEq, b2i_t, b2i_f]⟩ (Nat.le_refl _) (Nat.le_refl _)
      rw [if_neg h4] at hok
      refine g_tcase 2 77 d_X11_beam_27 (by decide) (by decide) rfl (by decide) (fun h5 => ?_) (fun h5 => ?_)
      · skip
        rw [if_pos h5] at hok
        refine g_aload_n0 rfl d_X11_beam_77 ?_
        refine g_getP (b := 70) f_X11_26 d_X11_beam_78 rfl (Nat.le_of_ble_eq_true rfl) rfl rfl ?_
        have ho1 := hok
        refine g_callS1 (c_X11_whoOf (m_X11_good I) 70 rfl ho1) w_X11_whoOf l_X11_268 d_X11_beam_81 rfl rfl (Nat.le_of_ble_eq_true rfl) ⟨Nat.le_of_ble_eq_true rfl, Nat.le_of_ble_eq_true rfl⟩ ⟨Nat.zero_le _, Nat.zero_le _⟩ ⟨rfl, rfl⟩ ?_
        exact g_iret rfl d_X11_beam_84 ⟨by simp only [f_X11_beam, m_X11_beam, if_neg h1, if_pos h2, if_neg h3, if_neg h4, if_pos h5, opv_eq, if_true, if_false, Bool.false_eq_true, reduceCtorEq, b2i_t, b2i_f], by simp only [f_X11_beam, m_X11_beam, if_neg h1, if_pos h2, if_neg h3, if_neg h4, if_pos h5, opv_eq, if_true, if_false, Bool.false_eq_true, reduceCtorEq, b2i_t, b2i_f]⟩ (Nat.le_refl _) (Nat.le_refl _)
      refine g_tcase 3 85 d_X11_beam_27 (by decide) (by decide) rfl (by decide) (fun h6 => ?_) (fun h6 => ?_)
      · skip
        refine g_aload_n0 rfl d_X11_beam_85 ?_
        refine g_getP (b := 70) f_X11_26 d_X11_beam_86 rfl (Nat.le_of_ble_eq_true rfl) rfl rfl ?_
        refine g_iconst 2 d_X11_beam_89 (by decide) ?_
        refine g_ialdv ((m_X11_good I) 70 2) rfl d_X11_beam_90 rfl (Nat.le_of_ble_eq_true rfl) (vp_c (by decide +kernel)) ?_
        exact g_iret rfl d_X11_beam_91 ⟨by simp only [f_X11_beam, m_X11_beam, if_neg h1, if_pos h2, if_neg h3, if_neg h4, if_neg h5, if_pos h6, opv_eq, if_true, if_false, Bool.false_eq_true, reduceCtorEq, b2i_t, b2i_f], by simp only [f_X11_beam, m_X11_beam, if_neg h1, if_pos h2, if_neg h3, if_neg h4, if_neg h5, if_pos h6, opv_eq, if_true, if_false, Bool.false_eq_true, reduceCtorEq, b2i_t, b2i_f]⟩ (Nat.le_refl _) (Nat.le_refl _)
      refine g_tcase 4 92 d_X11_beam_27 (by decide) (by decide) rfl (by decide) (fun h7 => ?_) (fun h7 => ?_)
      · skip
        refine g_aload_n0 rfl d_X11_beam_92 ?_
        refine g_getP (b := 70) f_X11_26 d_X11_beam_93 rfl (Nat.le_of_ble_eq_true rfl) rfl rfl ?_
        refine g_iconst 5 d_X11_beam_96 (by decide) ?_
        refine g_ialdv ((m_X11_good I) 70 5) rfl d_X11_beam_97 rfl (Nat.le_of_ble_eq_true rfl) (vp_c (by decide +kernel)) ?_
        exact g_iret rfl d_X11_beam_98 ⟨by simp only [f_X11_beam, m_X11_beam, if_neg h1, if_pos h2, if_neg h3, if_neg h4, if_neg h5, if_neg h6, if_pos h7, opv_eq, if_true, if_false, Bool.false_eq_true, reduceCtorEq, b2i_t, b2i_f], by simp only [f_X11_beam, m_X11_beam, if_neg h1, if_pos h2, if_neg h3, if_neg h4, if_neg h5, if_neg h6, if_pos h7, opv_eq, if_true, if_false, Bool.false_eq_true, reduceCtorEq, b2i_t, b2i_f]⟩ (Nat.le_refl _) (Nat.le_refl _)
      refine g_tableOut 99 d_X11_beam_27 (sw_out (n := 4) (by decide) (fun j hj => by rcases (show j = 0 ∨ j = 1 ∨ j = 2 ∨ j = 3 ∨ j = 4 by omega) with rfl | rfl | rfl | rfl | rfl <;> assumption)) (by decide) ?_
      refine g_aload_n0 rfl d_X11_beam_99 ?_
      refine g_getP (b := 70) f_X11_26 d_X11_beam_100 rfl (Nat.le_of_ble_eq_true rfl) rfl rfl ?_
      refine g_iconst 1 d_X11_beam_103 (by decide) ?_
      refine g_ialdv ((m_X11_good I) 70 1) rfl d_X11_beam_104 rfl (Nat.le_of_ble_eq_true rfl) (vp_c (by decide +kernel)) ?_
      refine g_callS1 (c_X11_towards (m_X11_good I) ((m_X11_good I) 70 1)) w_X11_towards l_X11_258 d_X11_beam_105 rfl rfl (Nat.le_of_ble_eq_true rfl) ⟨Nat.le_of_ble_eq_true rfl, Nat.le_of_ble_eq_true rfl⟩ ⟨Nat.zero_le _, Nat.zero_le _⟩ ⟨rfl, rfl⟩ ?_
      refine g_bipush 9 d_X11_beam_108 (by decide) ?_
      refine g_iadd d_X11_beam_110 ?_
      exact g_iret rfl d_X11_beam_111 ⟨by simp only [f_X11_beam, m_X11_beam, if_neg h1, if_pos h2, if_neg h3, if_neg h4, if_neg h5, if_neg h6, if_neg h7, opv_eq, if_true, if_false, Bool.false_eq_true, reduceCtorEq, b2i_t, b2i_f], by simp only [f_X11_beam, m_X11_beam, if_neg h1, if_pos h2, if_neg h3, if_neg h4, if_neg h5, if_neg h6, if_neg h7, opv_eq, if_true, if_false, Bool.false_eq_true, reduceCtorEq, b2i_t, b2i_f]⟩ (Nat.le_refl _) (Nat.le_refl _)
    · skip
      refine g_aload_n0 rfl d_X11_beam_20 ?_
      refine g_iconst 1 d_X11_beam_21 (by decide) ?_
      refine g_callV1 (c_X11_no (m_X11_good I) 1) w_X11_no l_X11_171 d_X11_beam_22 rfl (Nat.le_of_ble_eq_true rfl) rfl rfl (Nat.le_of_ble_eq_true rfl) ⟨Nat.le_of_ble_eq_true rfl, Nat.le_of_ble_eq_true rfl⟩ ⟨Nat.zero_le _, Nat.zero_le _⟩ ⟨rfl, rfl⟩ ?_
      exact g_iret rfl d_X11_beam_25 ⟨by simp only [f_X11_beam, m_X11_beam, if_neg h1, if_neg (nb h2), opv_eq, if_true, if_false, Bool.false_eq_true, reduceCtorEq, b2i_t, b2i_f], by simp only [f_X11_beam, m_X11_beam, if_neg h1, if_neg (nb h2), opv_eq, if_true, if_false, Bool.false_eq_true, reduceCtorEq, b2i_t, b2i_f]⟩ (Nat.le_refl _) (Nat.le_refl _)
noncomputable def u0_X11_isVent (I : Nat → Nat → Int32) (x1 : Int32) : Bool := opv (if (I 65 14) = 0 then false else (if (f_X11_in I x1 0 ((I 68 5) - 1)) = true then true else false))
noncomputable def f_X11_isVent (I : Nat → Nat → Int32) (x1 : Int32) : Bool := opv (u0_X11_isVent I x1)
set_option maxHeartbeats 800000 in
set_option maxRecDepth 4000 in
theorem c_X11_isVent {k : KT} {ex : Bool} {J : Nat → Nat → Int64} {w : Bool} (I : Nat → Nat → Int32) (x1 : Int32)  : Cx k mX11_isVent 2 [.ref (ka k 65), .int x1] (81, ex, I, J, Pw w) (some (.int (b2i (f_X11_isVent I x1)))) (81, ex, I, J, Pw w) := by
  refine Ct.of rfl [some (.ref (ka k 65)), some (.int x1)] rfl rfl (Nat.le_of_ble_eq_true rfl) ?_
  refine g_aload_n0 rfl d_X11_isVent_0 ?_
  refine g_getI f_X11_185 d_X11_isVent_1 rfl (Nat.le_of_ble_eq_true rfl) rfl ?_
  refine g_cut (pc' := 28) (vs' := [some (.ref (ka k 65)), some (.int x1)]) (st' := [.int (b2i (u0_X11_isVent I x1))]) (M' := (81, ex, I, J, Pw w)) (fun hj => ?_) ?_
  · skip
    refine g_if_eq 27 d_X11_isVent_4 (by decide) (fun h1 => ?_) (fun h1 => ?_)
    · skip
      refine g_iconst 0 d_X11_isVent_27 (by decide) ?_
      (try simp only [if_pos h1, opv_eq, if_true, if_false, Bool.false_eq_true, reduceCtorEq, b2i_t, b2i_f, u0_X11_isVent] at hj); exact hj
    · skip
      refine g_iload_n1 rfl d_X11_isVent_7 ?_
      refine g_iconst 0 d_X11_isVent_8 (by decide) ?_
      refine g_aload_n0 rfl d_X11_isVent_9 ?_
      refine g_getP (b := 68) f_X11_20 d_X11_isVent_10 rfl (Nat.le_of_ble_eq_true rfl) rfl rfl ?_
      refine g_iconst 5 d_X11_isVent_13 (by decide) ?_
      refine g_ialdv (I 68 5) rfl d_X11_isVent_14 rfl (Nat.le_of_ble_eq_true rfl) (vp_c (by decide +kernel)) ?_
      refine g_iconst 1 d_X11_isVent_15 (by decide) ?_
      refine g_isub d_X11_isVent_16 ?_
      refine g_callS1 (c_X11_in I x1 0 ((I 68 5) - 1)) w_X11_in l_X11_149 d_X11_isVent_17 rfl rfl (Nat.le_of_ble_eq_true rfl) ⟨Nat.le_of_ble_eq_true rfl, Nat.le_of_ble_eq_true rfl⟩ ⟨Nat.zero_le _, Nat.zero_le _⟩ ⟨rfl, rfl⟩ ?_
      refine g_ifz 27 d_X11_isVent_20 (by decide) (fun h2 => ?_) (fun h2 => ?_)
      · skip
        refine g_iconst 0 d_X11_isVent_27 (by decide) ?_
        (try simp only [if_neg h1, if_neg (nb h2), opv_eq, if_true, if_false, Bool.false_eq_true, reduceCtorEq, b2i_t, b2i_f, u0_X11_isVent] at hj); exact hj
      · skip
        refine g_iconst 1 d_X11_isVent_23 (by decide) ?_
        refine g_goto 28 d_X11_isVent_24 (by decide) ?_
        (try simp only [if_neg h1, if_pos h2, opv_eq, if_true, if_false, Bool.false_eq_true, reduceCtorEq, b2i_t, b2i_f, u0_X11_isVent] at hj); exact hj
  · skip
    exact g_zret rfl (nar_b _) d_X11_isVent_28 ⟨by simp only [f_X11_isVent, opv_eq, if_true, if_false, Bool.false_eq_true, reduceCtorEq, b2i_t, b2i_f], rfl⟩ (Nat.le_refl _) (Nat.le_refl _)
noncomputable def u0_X11_why (I : Nat → Nat → Int32) (x1 : Int32) (x2 : Int32) (x3 : Int32) : Int32 := opv (if (I 65 14) = 0 then 1 else (if (f_X11_in I x1 x2 x3) = true then 0 else 2))
noncomputable def f_X11_why (I : Nat → Nat → Int32) (x1 : Int32) (x2 : Int32) (x3 : Int32) : Int32 := opv (u0_X11_why I x1 x2 x3)
set_option maxHeartbeats 800000 in
set_option maxRecDepth 4000 in
theorem c_X11_why {k : KT} {ex : Bool} {J : Nat → Nat → Int64} {w : Bool} (I : Nat → Nat → Int32) (x1 : Int32) (x2 : Int32) (x3 : Int32)  : Cx k mX11_why 2 [.ref (ka k 65), .int x1, .int x2, .int x3] (81, ex, I, J, Pw w) (some (.int (f_X11_why I x1 x2 x3))) (81, ex, I, J, Pw w) := by
  refine Ct.of rfl [some (.ref (ka k 65)), some (.int x1), some (.int x2), some (.int x3)] rfl rfl (Nat.le_of_ble_eq_true rfl) ?_
  refine g_aload_n0 rfl d_X11_why_0 ?_
  refine g_getI f_X11_185 d_X11_why_1 rfl (Nat.le_of_ble_eq_true rfl) rfl ?_
  refine g_cut (pc' := 25) (vs' := [some (.ref (ka k 65)), some (.int x1), some (.int x2), some (.int x3)]) (st' := [.int (u0_X11_why I x1 x2 x3)]) (M' := (81, ex, I, J, Pw w)) (fun hj => ?_) ?_
  · skip
    refine g_if_ne 11 d_X11_why_4 (by decide) (fun h1 => ?_) (fun h1 => ?_)
    · skip
      refine g_iload_n1 rfl d_X11_why_11 ?_
      refine g_iload_n2 rfl d_X11_why_12 ?_
      refine g_iload_n3 rfl d_X11_why_13 ?_
      refine g_callS1 (c_X11_in I x1 x2 x3) w_X11_in l_X11_149 d_X11_why_14 rfl rfl (Nat.le_of_ble_eq_true rfl) ⟨Nat.le_of_ble_eq_true rfl, Nat.le_of_ble_eq_true rfl⟩ ⟨Nat.zero_le _, Nat.zero_le _⟩ ⟨rfl, rfl⟩ ?_
      refine g_ifz 24 d_X11_why_17 (by decide) (fun h2 => ?_) (fun h2 => ?_)
      · skip
        refine g_iconst 2 d_X11_why_24 (by decide) ?_
        (try simp only [if_neg h1, if_neg (nb h2), opv_eq, if_true, if_false, Bool.false_eq_true, reduceCtorEq, b2i_t, b2i_f, u0_X11_why] at hj); exact hj
      · skip
        refine g_iconst 0 d_X11_why_20 (by decide) ?_
        refine g_goto 25 d_X11_why_21 (by decide) ?_
        (try simp only [if_neg h1, if_pos h2, opv_eq, if_true, if_false, Bool.false_eq_true, reduceCtorEq, b2i_t, b2i_f, u0_X11_why] at hj); exact hj
    · skip
      refine g_iconst 1 d_X11_why_7 (by decide) ?_
      refine g_goto 25 d_X11_why_8 (by decide) ?_
      (try simp only [if_pos h1, opv_eq, if_true, if_false, Bool.false_eq_true, reduceCtorEq, b2i_t, b2i_f, u0_X11_why] at hj); exact hj
  · skip
    exact g_iret rfl d_X11_why_25 ⟨by simp only [f_X11_why, opv_eq, if_true, if_false, Bool.false_eq_true, reduceCtorEq, b2i_t, b2i_f], rfl⟩ (Nat.le_refl _) (Nat.le_refl _)
noncomputable def u0_X11_vent (I : Nat → Nat → Int32) (x1 : Int32) (x2 : Int32) : Int32 := opv (if 3 ≤ x2 then (((m_X11_good I) 70 3) >>> (x1 &&& 31)) &&& 1 else (m_X11_good I) 68 ((13 + (3 * x1)) + x2).toNatClampNeg)
noncomputable def f_X11_vent (I : Nat → Nat → Int32) (x1 : Int32) (x2 : Int32) : Int32 := opv (if (f_X11_isVent (m_X11_good I) x1) = true then (if (f_X11_in (m_X11_good I) x2 0 3) = true then (u0_X11_vent I x1 x2) else f_X11_no (m_X11_good I) 1) else f_X11_no (m_X11_good I) 1)
noncomputable def m_X11_vent (I : Nat → Nat → Int32) (x1 : Int32) (x2 : Int32) : Nat → Nat → Int32 := opv (if (f_X11_isVent (m_X11_good I) x1) = true then (if (f_X11_in (m_X11_good I) x2 0 3) = true then (m_X11_good I) else (m_X11_no (m_X11_good I) 1)) else (m_X11_no (m_X11_good I) 1))
noncomputable def ok_X11_vent (I : Nat → Nat → Int32) (x1 : Int32) (x2 : Int32) : Prop := opv (if (f_X11_isVent (m_X11_good I) x1) = true then (if (f_X11_in (m_X11_good I) x2 0 3) = true then (if 3 ≤ x2 then True else vp_in ((13 + (3 * x1)) + x2) (sz 68)) else True) else True)
set_option maxHeartbeats 800000 in
set_option maxRecDepth 4000 in
theorem c_X11_vent {k : KT} {ex : Bool} {J : Nat → Nat → Int64} {w : Bool} (I : Nat → Nat → Int32) (x1 : Int32) (x2 : Int32)  (hok : ok_X11_vent I x1 x2) : Cx k mX11_vent 3 [.ref (ka k 65), .int x1, .int x2] (81, ex, I, J, Pw w) (some (.int (f_X11_vent I x1 x2))) (81, ex, m_X11_vent I x1 x2, J, Pw w) := by
  refine Ct.of rfl [some (.ref (ka k 65)), some (.int x1), some (.int x2)] rfl rfl (Nat.le_of_ble_eq_true rfl) ?_
  rw [ok_X11_vent, opv_eq] at hok
  refine g_aload_n0 rfl d_X11_vent_0 ?_
  refine g_callV0 (c_X11_good I ) w_X11_good l_X11_168 d_X11_vent_1 rfl (Nat.le_of_ble_eq_true rfl) rfl rfl (Nat.le_of_ble_eq_true rfl) ⟨Nat.le_of_ble_eq_true rfl, Nat.le_of_ble_eq_true rfl⟩ ⟨Nat.zero_le _, Nat.zero_le _⟩ ⟨rfl, rfl⟩ ?_
  refine g_aload_n0 rfl d_X11_vent_4 ?_
  refine g_iload_n1 rfl d_X11_vent_5 ?_
  refine g_callV1 (c_X11_isVent (m_X11_good I) x1) w_X11_isVent l_X11_292 d_X11_vent_6 rfl (Nat.le_of_ble_eq_true rfl) rfl rfl (Nat.le_of_ble_eq_true rfl) ⟨Nat.le_of_ble_eq_true rfl, Nat.le_of_ble_eq_true rfl⟩ ⟨Nat.zero_le _, Nat.zero_le _⟩ ⟨rfl, rfl⟩ ?_
  refine g_ifz 21 d_X11_vent_9 (by decide) (fun h1 => ?_) (fun h1 => ?_)
  · skip
    refine g_aload_n0 rfl d_X11_vent_21 ?_
    refine g_iconst 1 d_X11_vent_22 (by decide) ?_
    refine g_callV1 (c_X11_no (m_X11_good I) 1) w_X11_no l_X11_171 d_X11_vent_23 rfl (Nat.le_of_ble_eq_true rfl) rfl rfl (Nat.le_of_ble_eq_true rfl) ⟨Nat.le_of_ble_eq_true rfl, Nat.le_of_ble_eq_true rfl⟩ ⟨Nat.zero_le _, Nat.zero_le _⟩ ⟨rfl, rfl⟩ ?_
    exact g_iret rfl d_X11_vent_26 ⟨by simp only [f_X11_vent, m_X11_vent, if_neg (nb h1), opv_eq, if_true, if_false, Bool.false_eq_true, reduceCtorEq, b2i_t, b2i_f], by simp only [f_X11_vent, m_X11_vent, if_neg (nb h1), opv_eq, if_true, if_false, Bool.false_eq_true, reduceCtorEq, b2i_t, b2i_f]⟩ (Nat.le_refl _) (Nat.le_refl _)
  · skip
    rw [if_pos h1] at hok
    refine g_iload_n2 rfl d_X11_vent_12 ?_
    refine g_iconst 0 d_X11_vent_13 (by decide) ?_
    refine g_iconst 3 d_X11_vent_14 (by decide) ?_
    refine g_callS1 (c_X11_in (m_X11_good I) x2 0 3) w_X11_in l_X11_149 d_X11_vent_15 rfl rfl (Nat.le_of_ble_eq_true rfl) ⟨Nat.le_of_ble_eq_true rfl, Nat.le_of_ble_eq_true rfl⟩ ⟨Nat.zero_le _, Nat.zero_le _⟩ ⟨rfl, rfl⟩ ?_
    refine g_ifnz 27 d_X11_vent_18 (by decide) (fun h2 => ?_) (fun h2 => ?_)
    · skip
      rw [if_pos h2] at hok
      refine g_iload_n2 rfl d_X11_vent_27 ?_
      refine g_iconst 3 d_X11_vent_28 (by decide) ?_
      refine g_cut (pc' := 58) (vs' := [some (.ref (ka k 65)), some (.int x1), some (.int x2)]) (st' := [.int (u0_X11_vent I x1 x2)]) (M' := (81, ex, (m_X11_good I), J, Pw w)) (fun hj => ?_) ?_
      · skip
        refine g_icmp_ge 48 d_X11_vent_29 (by decide) (fun h3 => ?_) (fun h3 => ?_)
        · skip
          refine g_aload_n0 rfl d_X11_vent_48 ?_
          refine g_getP (b := 70) f_X11_26 d_X11_vent_49 rfl (Nat.le_of_ble_eq_true rfl) rfl rfl ?_
          refine g_iconst 3 d_X11_vent_52 (by decide) ?_
          refine g_ialdv ((m_X11_good I) 70 3) rfl d_X11_vent_53 rfl (Nat.le_of_ble_eq_true rfl) (vp_c (by decide +kernel)) ?_
          refine g_iload_n1 rfl d_X11_vent_54 ?_
          refine g_ishr d_X11_vent_55 ?_
          refine g_iconst 1 d_X11_vent_56 (by decide) ?_
          refine g_iand d_X11_vent_57 ?_
          (try simp only [if_pos h3, opv_eq, if_true, if_false, Bool.false_eq_true, reduceCtorEq, b2i_t, b2i_f, u0_X11_vent] at hj); exact hj
        · skip
          rw [if_neg h3] at hok
          refine g_aload_n0 rfl d_X11_vent_32 ?_
          refine g_getP (b := 68) f_X11_20 d_X11_vent_33 rfl (Nat.le_of_ble_eq_true rfl) rfl rfl ?_
          refine g_bipush 13 d_X11_vent_36 (by decide) ?_
          refine g_iconst 3 d_X11_vent_38 (by decide) ?_
          refine g_iload_n1 rfl d_X11_vent_39 ?_
          refine g_imul d_X11_vent_40 ?_
          refine g_iadd d_X11_vent_41 ?_
          refine g_iload_n2 rfl d_X11_vent_42 ?_
          refine g_iadd d_X11_vent_43 ?_
          have ho1 := hok
          refine g_iald d_X11_vent_44 rfl (Nat.le_of_ble_eq_true rfl) ho1 ?_
          refine g_goto 58 d_X11_vent_45 (by decide) ?_
          (try simp only [if_neg h3, opv_eq, if_true, if_false, Bool.false_eq_true, reduceCtorEq, b2i_t, b2i_f, u0_X11_vent] at hj); exact hj
      · skip
        exact g_iret rfl d_X11_vent_58 ⟨by simp only [f_X11_vent, m_X11_vent, if_pos h1, if_pos h2, opv_eq, if_true, if_false, Bool.false_eq_true, reduceCtorEq, b2i_t, b2i_f], by simp only [f_X11_vent, m_X11_vent, if_pos h1, if_pos h2, opv_eq, if_true, if_false, Bool.false_eq_true, reduceCtorEq, b2i_t, b2i_f]⟩ (Nat.le_refl _) (Nat.le_refl _)
    · skip
      refine g_aload_n0 rfl d_X11_vent_21 ?_
      refine g_iconst 1 d_X11_vent_22 (by decide) ?_
      refine g_callV1 (c_X11_no (m_X11_good I) 1) w_X11_no l_X11_171 d_X11_vent_23 rfl (Nat.le_of_ble_eq_true rfl) rfl rfl (Nat.le_of_ble_eq_true rfl) ⟨Nat.le_of_ble_eq_true rfl, Nat.le_of_ble_eq_true rfl⟩ ⟨Nat.zero_le _, Nat.zero_le _⟩ ⟨rfl, rfl⟩ ?_
      exact g_iret rfl d_X11_vent_26 ⟨by simp only [f_X11_vent, m_X11_vent, if_pos h1, if_neg (nb h2), opv_eq, if_true, if_false, Bool.false_eq_true, reduceCtorEq, b2i_t, b2i_f], by simp only [f_X11_vent, m_X11_vent, if_pos h1, if_neg (nb h2), opv_eq, if_true, if_false, Bool.false_eq_true, reduceCtorEq, b2i_t, b2i_f]⟩ (Nat.le_refl _) (Nat.le_refl _)
noncomputable def lp_X11_plan_66 (x1 : Int32) (x2 : Int32) : Nat → (Nat → Nat → Int32) → (Nat → Nat → Int32)
  | 0, I1 => I1
  | n + 1, I1 => (if (I1 68 (25 + (3 * x1)).toNatClampNeg) < (I1 73 4) then I1 else (lp_X11_plan_66 x1 x2 n (m_X11_dayOf I1 73)))
def oklp_X11_plan_66 (x1 : Int32) (x2 : Int32) : Nat → (Nat → Nat → Int32) → Prop
  | 0, I1 => False
  | n + 1, I1 => (vp_in (25 + (3 * x1)) (sz 68) ∧ (if (I1 68 (25 + (3 * x1)).toNatClampNeg) < (I1 73 4) then True else (ok_X11_dayOf I1 73 ∧ oklp_X11_plan_66 x1 x2 n (m_X11_dayOf I1 73))))
set_option maxHeartbeats 800000 in
set_option maxRecDepth 4000 in
theorem k_lp_X11_plan_66 {k : KT} {ex : Bool} {J : Nat → Nat → Int64} {w : Bool} (x1 : Int32) (x2 : Int32) {F : FinT} : ∀ (n : Nat) (I1 : (Nat → Nat → Int32)), oklp_X11_plan_66 x1 x2 n I1 → G k mX11_plan (roomOf 5 0 0) F 0 0 97 [some (.ref (ka k 65)), some (.int x1), some (.int x2)] [] (81, ex, (lp_X11_plan_66 x1 x2 n I1), J, Pw w) → G k mX11_plan (roomOf 5 0 0) F 0 0 66 [some (.ref (ka k 65)), some (.int x1), some (.int x2)] [] (81, ex, I1, J, Pw w) := by
  intro n
  induction n with
  | zero => intro I1 hok hj; exact absurd hok (by rw [oklp_X11_plan_66]; exact id)
  | succ n ih =>
    intro I1 hok hj
    rw [oklp_X11_plan_66] at hok
    refine g_aload_n0 rfl d_X11_plan_66 ?_
    refine g_getP (b := 73) f_X11_35 d_X11_plan_67 rfl (Nat.le_of_ble_eq_true rfl) rfl rfl ?_
    refine g_iconst 4 d_X11_plan_70 (by decide) ?_
    refine g_ialdv (I1 73 4) rfl d_X11_plan_71 rfl (Nat.le_of_ble_eq_true rfl) (vp_c (by decide +kernel)) ?_
    refine g_aload_n0 rfl d_X11_plan_72 ?_
    refine g_getP (b := 68) f_X11_20 d_X11_plan_73 rfl (Nat.le_of_ble_eq_true rfl) rfl rfl ?_
    refine g_bipush 25 d_X11_plan_76 (by decide) ?_
    refine g_iconst 3 d_X11_plan_78 (by decide) ?_
    refine g_iload_n1 rfl d_X11_plan_79 ?_
    refine g_imul d_X11_plan_80 ?_
    refine g_iadd d_X11_plan_81 ?_
    obtain ⟨ho2, hok⟩ := hok
    refine g_iald d_X11_plan_82 rfl (Nat.le_of_ble_eq_true rfl) ho2 ?_
    refine g_icmp_gt 97 d_X11_plan_83 (by decide) (fun h1 => ?_) (fun h1 => ?_)
    · skip
      (try simp only [lp_X11_plan_66, if_pos h1, opv_eq, if_true, if_false, Bool.false_eq_true, reduceCtorEq, b2i_t, b2i_f] at hj); exact hj
    · skip
      rw [if_neg h1] at hok
      refine g_aload_n0 rfl d_X11_plan_86 ?_
      refine g_aload_n0 rfl d_X11_plan_87 ?_
      refine g_getP (b := 73) f_X11_35 d_X11_plan_88 rfl (Nat.le_of_ble_eq_true rfl) rfl rfl ?_
      obtain ⟨ho3, hok⟩ := hok
      refine g_callV0 (c_X11_dayOf I1 73 rfl (by decide) ho3) w_X11_dayOf l_X11_288 d_X11_plan_91 rfl (Nat.le_of_ble_eq_true rfl) rfl rfl (Nat.le_of_ble_eq_true rfl) ⟨Nat.le_of_ble_eq_true rfl, Nat.le_of_ble_eq_true rfl⟩ ⟨Nat.zero_le _, Nat.zero_le _⟩ ⟨rfl, rfl⟩ ?_
      refine g_goto 66 d_X11_plan_94 (by decide) ?_
      exact ih (m_X11_dayOf I1 73) (by (try simp only [if_neg h1, opv_eq, if_true, if_false, Bool.false_eq_true, reduceCtorEq, b2i_t, b2i_f] at hok); exact hok) (by (try simp only [lp_X11_plan_66, if_neg h1, opv_eq, if_true, if_false, Bool.false_eq_true, reduceCtorEq, b2i_t, b2i_f] at hj); exact hj)
noncomputable def f_X11_plan (I : Nat → Nat → Int32) (x1 : Int32) (x2 : Int32) : Int32 := opv (if ((m_X11_good I) 65 14) = 0 then f_X11_no (m_X11_good I) 1 else (if (f_X11_in (m_X11_good I) x1 0 (((m_X11_good I) 68 6) - 1)) = true then (if (f_X11_in (m_X11_good I) x2 0 3) = true then (if 3 ≤ x2 then (((lp_X11_plan_66 x1 x2 (opq 100) (m_X11_begin (m_X11_good I))) 73 6) >>> (x1 &&& 31)) &&& 1 else (m_X11_good I) 68 ((25 + (3 * x1)) + x2).toNatClampNeg) else f_X11_no (m_X11_good I) 1) else f_X11_no (m_X11_good I) 1))
noncomputable def m_X11_plan (I : Nat → Nat → Int32) (x1 : Int32) (x2 : Int32) : Nat → Nat → Int32 := opv (if ((m_X11_good I) 65 14) = 0 then (m_X11_no (m_X11_good I) 1) else (if (f_X11_in (m_X11_good I) x1 0 (((m_X11_good I) 68 6) - 1)) = true then (if (f_X11_in (m_X11_good I) x2 0 3) = true then (if 3 ≤ x2 then (lp_X11_plan_66 x1 x2 (opq 100) (m_X11_begin (m_X11_good I))) else (m_X11_good I)) else (m_X11_no (m_X11_good I) 1)) else (m_X11_no (m_X11_good I) 1)))
noncomputable def ok_X11_plan (I : Nat → Nat → Int32) (x1 : Int32) (x2 : Int32) : Prop := opv (if ((m_X11_good I) 65 14) = 0 then True else (if (f_X11_in (m_X11_good I) x1 0 (((m_X11_good I) 68 6) - 1)) = true then (if (f_X11_in (m_X11_good I) x2 0 3) = true then (if 3 ≤ x2 then (ok_X11_begin (m_X11_good I) ∧ oklp_X11_plan_66 x1 x2 (opq 100) (m_X11_begin (m_X11_good I))) else vp_in ((25 + (3 * x1)) + x2) (sz 68)) else True) else True))
set_option maxHeartbeats 800000 in
set_option maxRecDepth 4000 in
theorem c_X11_plan {k : KT} {ex : Bool} {J : Nat → Nat → Int64} {w : Bool} (I : Nat → Nat → Int32) (x1 : Int32) (x2 : Int32)  (hok : ok_X11_plan I x1 x2) : Cx k mX11_plan 5 [.ref (ka k 65), .int x1, .int x2] (81, ex, I, J, Pw w) (some (.int (f_X11_plan I x1 x2))) (81, ex, m_X11_plan I x1 x2, J, Pw w) := by
  refine Ct.of rfl [some (.ref (ka k 65)), some (.int x1), some (.int x2)] rfl rfl (Nat.le_of_ble_eq_true rfl) ?_
  rw [ok_X11_plan, opv_eq] at hok
  refine g_aload_n0 rfl d_X11_plan_0 ?_
  refine g_callV0 (c_X11_good I ) w_X11_good l_X11_168 d_X11_plan_1 rfl (Nat.le_of_ble_eq_true rfl) rfl rfl (Nat.le_of_ble_eq_true rfl) ⟨Nat.le_of_ble_eq_true rfl, Nat.le_of_ble_eq_true rfl⟩ ⟨Nat.zero_le _, Nat.zero_le _⟩ ⟨rfl, rfl⟩ ?_
  refine g_aload_n0 rfl d_X11_plan_4 ?_
  refine g_getI f_X11_185 d_X11_plan_5 rfl (Nat.le_of_ble_eq_true rfl) rfl ?_
  refine g_if_eq 37 d_X11_plan_8 (by decide) (fun h2 => ?_) (fun h2 => ?_)
  · skip
    refine g_aload_n0 rfl d_X11_plan_37 ?_
    refine g_iconst 1 d_X11_plan_38 (by decide) ?_
    refine g_callV1 (c_X11_no (m_X11_good I) 1) w_X11_no l_X11_171 d_X11_plan_39 rfl (Nat.le_of_ble_eq_true rfl) rfl rfl (Nat.le_of_ble_eq_true rfl) ⟨Nat.le_of_ble_eq_true rfl, Nat.le_of_ble_eq_true rfl⟩ ⟨Nat.zero_le _, Nat.zero_le _⟩ ⟨rfl, rfl⟩ ?_
    exact g_iret rfl d_X11_plan_42 ⟨by simp only [f_X11_plan, m_X11_plan, if_pos h2, opv_eq, if_true, if_false, Bool.false_eq_true, reduceCtorEq, b2i_t, b2i_f], by simp only [f_X11_plan, m_X11_plan, if_pos h2, opv_eq, if_true, if_false, Bool.false_eq_true, reduceCtorEq, b2i_t, b2i_f]⟩ (Nat.le_refl _) (Nat.le_refl _)
  · skip
    rw [if_neg h2] at hok
    refine g_iload_n1 rfl d_X11_plan_11 ?_
    refine g_iconst 0 d_X11_plan_12 (by decide) ?_
    refine g_aload_n0 rfl d_X11_plan_13 ?_
    refine g_getP (b := 68) f_X11_20 d_X11_plan_14 rfl (Nat.le_of_ble_eq_true rfl) rfl rfl ?_
    refine g_bipush 6 d_X11_plan_17 (by decide) ?_
    refine g_ialdv ((m_X11_good I) 68 6) rfl d_X11_plan_19 rfl (Nat.le_of_ble_eq_true rfl) (vp_c (by decide +kernel)) ?_
    refine g_iconst 1 d_X11_plan_20 (by decide) ?_
    refine g_isub d_X11_plan_21 ?_
    refine g_callS1 (c_X11_in (m_X11_good I) x1 0 (((m_X11_good I) 68 6) - 1)) w_X11_in l_X11_149 d_X11_plan_22 rfl rfl (Nat.le_of_ble_eq_true rfl) ⟨Nat.le_of_ble_eq_true rfl, Nat.le_of_ble_eq_true rfl⟩ ⟨Nat.zero_le _, Nat.zero_le _⟩ ⟨rfl, rfl⟩ ?_
    refine g_ifz 37 d_X11_plan_25 (by decide) (fun h3 => ?_) (fun h3 => ?_)
    · skip
      refine g_aload_n0 rfl d_X11_plan_37 ?_
      refine g_iconst 1 d_X11_plan_38 (by decide) ?_
      refine g_callV1 (c_X11_no (m_X11_good I) 1) w_X11_no l_X11_171 d_X11_plan_39 rfl (Nat.le_of_ble_eq_true rfl) rfl rfl (Nat.le_of_ble_eq_true rfl) ⟨Nat.le_of_ble_eq_true rfl, Nat.le_of_ble_eq_true rfl⟩ ⟨Nat.zero_le _, Nat.zero_le _⟩ ⟨rfl, rfl⟩ ?_
      exact g_iret rfl d_X11_plan_42 ⟨by simp only [f_X11_plan, m_X11_plan, if_neg h2, if_neg (nb h3), opv_eq, if_true, if_false, Bool.false_eq_true, reduceCtorEq, b2i_t, b2i_f], by simp only [f_X11_plan, m_X11_plan, if_neg h2, if_neg (nb h3), opv_eq, if_true, if_false, Bool.false_eq_true, reduceCtorEq, b2i_t, b2i_f]⟩ (Nat.le_refl _) (Nat.le_refl _)
    · skip
      rw [if_pos h3] at hok
      refine g_iload_n2 rfl d_X11_plan_28 ?_
      refine g_iconst 0 d_X11_plan_29 (by decide) ?_
      refine g_iconst 3 d_X11_plan_30 (by decide) ?_
      refine g_callS1 (c_X11_in (m_X11_good I) x2 0 3) w_X11_in l_X11_149 d_X11_plan_31 rfl rfl (Nat.le_of_ble_eq_true rfl) ⟨Nat.le_of_ble_eq_true rfl, Nat.le_of_ble_eq_true rfl⟩ ⟨Nat.zero_le _, Nat.zero_le _⟩ ⟨rfl, rfl⟩ ?_
      refine g_ifnz 43 d_X11_plan_34 (by decide) (fun h4 => ?_) (fun h4 => ?_)
      · skip
        rw [if_pos h4] at hok
        refine g_iload_n2 rfl d_X11_plan_43 ?_
        refine g_iconst 3 d_X11_plan_44 (by decide) ?_
        refine g_icmp_ge 62 d_X11_plan_45 (by decide) (fun h5 => ?_) (fun h5 => ?_)
        · skip
          rw [if_pos h5] at hok
          refine g_aload_n0 rfl d_X11_plan_62 ?_
          obtain ⟨ho1, hok⟩ := hok
          refine g_callV0 (c_X11_begin (m_X11_good I)  ho1) w_X11_begin l_X11_285 d_X11_plan_63 rfl (Nat.le_of_ble_eq_true rfl) rfl rfl (Nat.le_of_ble_eq_true rfl) ⟨Nat.le_of_ble_eq_true rfl, Nat.le_of_ble_eq_true rfl⟩ ⟨Nat.zero_le _, Nat.zero_le _⟩ ⟨rfl, rfl⟩ ?_
          refine k_lp_X11_plan_66 x1 x2 _ (m_X11_begin (m_X11_good I)) hok ?_
          refine g_aload_n0 rfl d_X11_plan_97 ?_
          refine g_getP (b := 73) f_X11_35 d_X11_plan_98 rfl (Nat.le_of_ble_eq_true rfl) rfl rfl ?_
          refine g_bipush 6 d_X11_plan_101 (by decide) ?_
          refine g_ialdv ((lp_X11_plan_66 x1 x2 (opq 100) (m_X11_begin (m_X11_good I))) 73 6) rfl d_X11_plan_103 rfl (Nat.le_of_ble_eq_true rfl) (vp_c (by decide +kernel)) ?_
          refine g_iload_n1 rfl d_X11_plan_104 ?_
          refine g_ishr d_X11_plan_105 ?_
          refine g_iconst 1 d_X11_plan_106 (by decide) ?_
          refine g_iand d_X11_plan_107 ?_
          exact g_iret rfl d_X11_plan_108 ⟨by simp only [f_X11_plan, m_X11_plan, if_neg h2, if_pos h3, if_pos h4, if_pos h5, opv_eq, if_true, if_false, Bool.false_eq_true, reduceCtorEq, b2i_t, b2i_f], by simp only [f_X11_plan, m_X11_plan, if_neg h2, if_pos h3, if_pos h4, if_pos h5, opv_eq, if_true, if_false, Bool.false_eq_true, reduceCtorEq, b2i_t, b2i_f]⟩ (Nat.le_refl _) (Nat.le_refl _)
        · skip
          rw [if_neg h5] at hok
          refine g_aload_n0 rfl d_X11_plan_48 ?_
          refine g_getP (b := 68) f_X11_20 d_X11_plan_49 rfl (Nat.le_of_ble_eq_true rfl) rfl rfl ?_
          refine g_bipush 25 d_X11_plan_52 (by decide) ?_
          refine g_iconst 3 d_X11_plan_54 (by decide) ?_
          refine g_iload_n1 rfl d_X11_plan_55 ?_
          refine g_imul d_X11_plan_56 ?_
          refine g_iadd d_X11_plan_57 ?_
          refine g_iload_n2 rfl d_X11_plan_58 ?_
          refine g_iadd d_X11_plan_59 ?_
          have ho4 := hok
          refine g_iald d_X11_plan_60 rfl (Nat.le_of_ble_eq_true rfl) ho4 ?_
          exact g_iret rfl d_X11_plan_61 ⟨by simp only [f_X11_plan, m_X11_plan, if_neg h2, if_pos h3, if_pos h4, if_neg h5, opv_eq, if_true, if_false, Bool.false_eq_true, reduceCtorEq, b2i_t, b2i_f], by simp only [f_X11_plan, m_X11_plan, if_neg h2, if_pos h3, if_pos h4, if_neg h5, opv_eq, if_true, if_false, Bool.false_eq_true, reduceCtorEq, b2i_t, b2i_f]⟩ (Nat.le_refl _) (Nat.le_refl _)
      · skip
        refine g_aload_n0 rfl d_X11_plan_37 ?_
        refine g_iconst 1 d_X11_plan_38 (by decide) ?_
        refine g_callV1 (c_X11_no (m_X11_good I) 1) w_X11_no l_X11_171 d_X11_plan_39 rfl (Nat.le_of_ble_eq_true rfl) rfl rfl (Nat.le_of_ble_eq_true rfl) ⟨Nat.le_of_ble_eq_true rfl, Nat.le_of_ble_eq_true rfl⟩ ⟨Nat.zero_le _, Nat.zero_le _⟩ ⟨rfl, rfl⟩ ?_
        exact g_iret rfl d_X11_plan_42 ⟨by simp only [f_X11_plan, m_X11_plan, if_neg h2, if_pos h3, if_neg (nb h4), opv_eq, if_true, if_false, Bool.false_eq_true, reduceCtorEq, b2i_t, b2i_f], by simp only [f_X11_plan, m_X11_plan, if_neg h2, if_pos h3, if_neg (nb h4), opv_eq, if_true, if_false, Bool.false_eq_true, reduceCtorEq, b2i_t, b2i_f]⟩ (Nat.le_refl _) (Nat.le_refl _)
noncomputable def u0_X11_goes (I : Nat → Nat → Int32) (x1 : Int32) : Int32 := opv (if (f_X11_why (m_X11_good I) x1 0 100) = 0 then f_X11_stepOf (m_X11_good I) x1 ((m_X11_good I) 70 2) ((m_X11_good I) 68 0) else f_X11_no (m_X11_good I) (f_X11_why (m_X11_good I) x1 0 100))
noncomputable def u1_X11_goes (I : Nat → Nat → Int32) (x1 : Int32) : Nat → Nat → Int32 := opv (if (f_X11_why (m_X11_good I) x1 0 100) = 0 then (m_X11_good I) else (m_X11_no (m_X11_good I) (f_X11_why (m_X11_good I) x1 0 100)))
noncomputable def f_X11_goes (I : Nat → Nat → Int32) (x1 : Int32) : Int32 := opv (u0_X11_goes I x1)
noncomputable def m_X11_goes (I : Nat → Nat → Int32) (x1 : Int32) : Nat → Nat → Int32 := opv (u1_X11_goes I x1)
set_option maxHeartbeats 800000 in
set_option maxRecDepth 4000 in
theorem c_X11_goes {k : KT} {ex : Bool} {J : Nat → Nat → Int64} {w : Bool} (I : Nat → Nat → Int32) (x1 : Int32)  : Cx k mX11_goes 3 [.ref (ka k 65), .int x1] (81, ex, I, J, Pw w) (some (.int (f_X11_goes I x1))) (81, ex, m_X11_goes I x1, J, Pw w) := by
  refine Ct.of rfl [some (.ref (ka k 65)), some (.int x1), none] rfl rfl (Nat.le_of_ble_eq_true rfl) ?_
  refine g_aload_n0 rfl d_X11_goes_0 ?_
  refine g_callV0 (c_X11_good I ) w_X11_good l_X11_168 d_X11_goes_1 rfl (Nat.le_of_ble_eq_true rfl) rfl rfl (Nat.le_of_ble_eq_true rfl) ⟨Nat.le_of_ble_eq_true rfl, Nat.le_of_ble_eq_true rfl⟩ ⟨Nat.zero_le _, Nat.zero_le _⟩ ⟨rfl, rfl⟩ ?_
  refine g_aload_n0 rfl d_X11_goes_4 ?_
  refine g_iload_n1 rfl d_X11_goes_5 ?_
  refine g_iconst 0 d_X11_goes_6 (by decide) ?_
  refine g_bipush 100 d_X11_goes_7 (by decide) ?_
  refine g_callV1 (c_X11_why (m_X11_good I) x1 0 100) w_X11_why l_X11_295 d_X11_goes_9 rfl (Nat.le_of_ble_eq_true rfl) rfl rfl (Nat.le_of_ble_eq_true rfl) ⟨Nat.le_of_ble_eq_true rfl, Nat.le_of_ble_eq_true rfl⟩ ⟨Nat.zero_le _, Nat.zero_le _⟩ ⟨rfl, rfl⟩ ?_
  refine g_isn2 rfl d_X11_goes_12 ?_
  refine g_iload_n2 rfl d_X11_goes_13 ?_
  refine g_cut (pc' := 41) (vs' := [some (.ref (ka k 65)), some (.int x1), some (.int (f_X11_why (m_X11_good I) x1 0 100))]) (st' := [.int (u0_X11_goes I x1)]) (M' := (81, ex, (u1_X11_goes I x1), J, Pw w)) (fun hj => ?_) ?_
  · skip
    refine g_if_eq 25 d_X11_goes_14 (by decide) (fun h1 => ?_) (fun h1 => ?_)
    · skip
      refine g_iload_n1 rfl d_X11_goes_25 ?_
      refine g_aload_n0 rfl d_X11_goes_26 ?_
      refine g_getP (b := 70) f_X11_26 d_X11_goes_27 rfl (Nat.le_of_ble_eq_true rfl) rfl rfl ?_
      refine g_iconst 2 d_X11_goes_30 (by decide) ?_
      refine g_ialdv ((m_X11_good I) 70 2) rfl d_X11_goes_31 rfl (Nat.le_of_ble_eq_true rfl) (vp_c (by decide +kernel)) ?_
      refine g_aload_n0 rfl d_X11_goes_32 ?_
      refine g_getP (b := 68) f_X11_20 d_X11_goes_33 rfl (Nat.le_of_ble_eq_true rfl) rfl rfl ?_
      refine g_iconst 0 d_X11_goes_36 (by decide) ?_
      refine g_ialdv ((m_X11_good I) 68 0) rfl d_X11_goes_37 rfl (Nat.le_of_ble_eq_true rfl) (vp_c (by decide +kernel)) ?_
      refine g_callS1 (c_X11_stepOf (m_X11_good I) x1 ((m_X11_good I) 70 2) ((m_X11_good I) 68 0)) w_X11_stepOf l_X11_275 d_X11_goes_38 rfl rfl (Nat.le_of_ble_eq_true rfl) ⟨Nat.le_of_ble_eq_true rfl, Nat.le_of_ble_eq_true rfl⟩ ⟨Nat.zero_le _, Nat.zero_le _⟩ ⟨rfl, rfl⟩ ?_
      (try simp only [if_pos h1, opv_eq, if_true, if_false, Bool.false_eq_true, reduceCtorEq, b2i_t, b2i_f, u0_X11_goes, u1_X11_goes] at hj); exact hj
    · skip
      refine g_aload_n0 rfl d_X11_goes_17 ?_
      refine g_iload_n2 rfl d_X11_goes_18 ?_
      refine g_callV1 (c_X11_no (m_X11_good I) (f_X11_why (m_X11_good I) x1 0 100)) w_X11_no l_X11_171 d_X11_goes_19 rfl (Nat.le_of_ble_eq_true rfl) rfl rfl (Nat.le_of_ble_eq_true rfl) ⟨Nat.le_of_ble_eq_true rfl, Nat.le_of_ble_eq_true rfl⟩ ⟨Nat.zero_le _, Nat.zero_le _⟩ ⟨rfl, rfl⟩ ?_
      refine g_goto 41 d_X11_goes_22 (by decide) ?_
      (try simp only [if_neg h1, opv_eq, if_true, if_false, Bool.false_eq_true, reduceCtorEq, b2i_t, b2i_f, u0_X11_goes, u1_X11_goes] at hj); exact hj
  · skip
    exact g_iret rfl d_X11_goes_41 ⟨by simp only [f_X11_goes, m_X11_goes, opv_eq, if_true, if_false, Bool.false_eq_true, reduceCtorEq, b2i_t, b2i_f], by simp only [f_X11_goes, m_X11_goes, opv_eq, if_true, if_false, Bool.false_eq_true, reduceCtorEq, b2i_t, b2i_f]⟩ (Nat.le_refl _) (Nat.le_refl _)
noncomputable def u0_X11_stays (I1 : Nat → Nat → Int32) (l1 : Int32) (l3 : Int32) : Int32 := opv (if (f_X11_nearer I1 (I1 70 0) (f_X11_towards I1 l3) (f_X11_stepOf I1 l3 (I1 70 2) (I1 68 0))) = (I1 70 0) then (if 0 ≤ l1 then l1 else l3) else l1)
noncomputable def u1_X11_stays (I1 : Nat → Nat → Int32) (l2 : Int32) (l3 : Int32) : Int32 := opv (if (f_X11_nearer I1 (I1 70 0) (f_X11_towards I1 l3) (f_X11_stepOf I1 l3 (I1 70 2) (I1 68 0))) = (I1 70 0) then l3 else l2)
noncomputable def lp_X11_stays_23 (I1 : Nat → Nat → Int32) : Nat → Int32 → Int32 → Int32 → Int32 × Int32 × Int32
  | 0, l1, l2, l3 => (l1, l2, l3)
  | n + 1, l1, l2, l3 => (if 100 < l3 then (l1, l2, l3) else (lp_X11_stays_23 I1 n (u0_X11_stays I1 l1 l3) (u1_X11_stays I1 l2 l3) (l3 + 1)))
set_option maxHeartbeats 800000 in
set_option maxRecDepth 4000 in
theorem k_lp_X11_stays_23 {k : KT} {ex : Bool} {J : Nat → Nat → Int64} {w : Bool} (I1 : Nat → Nat → Int32) {F : FinT} : ∀ (n : Nat) (l1 : Int32) (l2 : Int32) (l3 : Int32), mu_le 100 l3 < n → G k mX11_stays (roomOf 2 0 0) F 0 0 88 [some (.ref (ka k 65)), some (.int ((lp_X11_stays_23 I1 n l1 l2 l3).1)), some (.int ((lp_X11_stays_23 I1 n l1 l2 l3).2.1)), some (.int ((lp_X11_stays_23 I1 n l1 l2 l3).2.2))] [] (81, ex, I1, J, Pw w) → G k mX11_stays (roomOf 2 0 0) F 0 0 23 [some (.ref (ka k 65)), some (.int l1), some (.int l2), some (.int l3)] [] (81, ex, I1, J, Pw w) := by
  intro n
  induction n with
  | zero => intro l1 l2 l3 hmu hj; exact absurd hmu (Nat.not_lt_zero _)
  | succ n ih =>
    intro l1 l2 l3 hmu hj
    refine g_iload_n3 rfl d_X11_stays_23 ?_
    refine g_bipush 100 d_X11_stays_24 (by decide) ?_
    refine g_icmp_gt 88 d_X11_stays_26 (by decide) (fun h1 => ?_) (fun h1 => ?_)
    · skip
      (try simp only [lp_X11_stays_23, if_pos h1, opv_eq, if_true, if_false, Bool.false_eq_true, reduceCtorEq, b2i_t, b2i_f] at hj); exact hj
    · skip
      refine g_aload_n0 rfl d_X11_stays_29 ?_
      refine g_getP (b := 70) f_X11_26 d_X11_stays_30 rfl (Nat.le_of_ble_eq_true rfl) rfl rfl ?_
      refine g_iconst 0 d_X11_stays_33 (by decide) ?_
      refine g_ialdv (I1 70 0) rfl d_X11_stays_34 rfl (Nat.le_of_ble_eq_true rfl) (vp_c (by decide +kernel)) ?_
      refine g_iload_n3 rfl d_X11_stays_35 ?_
      refine g_callS1 (c_X11_towards I1 l3) w_X11_towards l_X11_258 d_X11_stays_36 rfl rfl (Nat.le_of_ble_eq_true rfl) ⟨Nat.le_of_ble_eq_true rfl, Nat.le_of_ble_eq_true rfl⟩ ⟨Nat.zero_le _, Nat.zero_le _⟩ ⟨rfl, rfl⟩ ?_
      refine g_iload_n3 rfl d_X11_stays_39 ?_
      refine g_aload_n0 rfl d_X11_stays_40 ?_
      refine g_getP (b := 70) f_X11_26 d_X11_stays_41 rfl (Nat.le_of_ble_eq_true rfl) rfl rfl ?_
      refine g_iconst 2 d_X11_stays_44 (by decide) ?_
      refine g_ialdv (I1 70 2) rfl d_X11_stays_45 rfl (Nat.le_of_ble_eq_true rfl) (vp_c (by decide +kernel)) ?_
      refine g_aload_n0 rfl d_X11_stays_46 ?_
      refine g_getP (b := 68) f_X11_20 d_X11_stays_47 rfl (Nat.le_of_ble_eq_true rfl) rfl rfl ?_
      refine g_iconst 0 d_X11_stays_50 (by decide) ?_
      refine g_ialdv (I1 68 0) rfl d_X11_stays_51 rfl (Nat.le_of_ble_eq_true rfl) (vp_c (by decide +kernel)) ?_
      refine g_callS1 (c_X11_stepOf I1 l3 (I1 70 2) (I1 68 0)) w_X11_stepOf l_X11_275 d_X11_stays_52 rfl rfl (Nat.le_of_ble_eq_true rfl) ⟨Nat.le_of_ble_eq_true rfl, Nat.le_of_ble_eq_true rfl⟩ ⟨Nat.zero_le _, Nat.zero_le _⟩ ⟨rfl, rfl⟩ ?_
      refine g_callS1 (c_X11_nearer I1 (I1 70 0) (f_X11_towards I1 l3) (f_X11_stepOf I1 l3 (I1 70 2) (I1 68 0))) w_X11_nearer l_X11_279 d_X11_stays_55 rfl rfl (Nat.le_of_ble_eq_true rfl) ⟨Nat.le_of_ble_eq_true rfl, Nat.le_of_ble_eq_true rfl⟩ ⟨Nat.zero_le _, Nat.zero_le _⟩ ⟨rfl, rfl⟩ ?_
      refine g_aload_n0 rfl d_X11_stays_58 ?_
      refine g_getP (b := 70) f_X11_26 d_X11_stays_59 rfl (Nat.le_of_ble_eq_true rfl) rfl rfl ?_
      refine g_iconst 0 d_X11_stays_62 (by decide) ?_
      refine g_ialdv (I1 70 0) rfl d_X11_stays_63 rfl (Nat.le_of_ble_eq_true rfl) (vp_c (by decide +kernel)) ?_
      refine g_cut (pc' := 82) (vs' := [some (.ref (ka k 65)), some (.int (u0_X11_stays I1 l1 l3)), some (.int (u1_X11_stays I1 l2 l3)), some (.int l3)]) (st' := []) (M' := (81, ex, I1, J, Pw w)) (fun hj => ?_) ?_
      · skip
        refine g_icmp_eq 70 d_X11_stays_64 (by decide) (fun h2 => ?_) (fun h2 => ?_)
        · skip
          refine g_iload_n1 rfl d_X11_stays_70 ?_
          refine g_cut (pc' := 79) (vs' := [some (.ref (ka k 65)), some (.int l1), some (.int l2), some (.int l3)]) (st' := [.int (if 0 ≤ l1 then l1 else l3)]) (M' := (81, ex, I1, J, Pw w)) (fun hj => ?_) ?_
          · skip
            refine g_if_ge 78 d_X11_stays_71 (by decide) (fun h3 => ?_) (fun h3 => ?_)
            · skip
              refine g_iload_n1 rfl d_X11_stays_78 ?_
              (try simp only [if_pos h3, opv_eq, if_true, if_false, Bool.false_eq_true, reduceCtorEq, b2i_t, b2i_f] at hj); exact hj
            · skip
              refine g_iload_n3 rfl d_X11_stays_74 ?_
              refine g_goto 79 d_X11_stays_75 (by decide) ?_
              (try simp only [if_neg h3, opv_eq, if_true, if_false, Bool.false_eq_true, reduceCtorEq, b2i_t, b2i_f] at hj); exact hj
          · skip
            refine g_isn1 rfl d_X11_stays_79 ?_
            refine g_iload_n3 rfl d_X11_stays_80 ?_
            refine g_isn2 rfl d_X11_stays_81 ?_
            (try simp only [if_pos h2, opv_eq, if_true, if_false, Bool.false_eq_true, reduceCtorEq, b2i_t, b2i_f, u0_X11_stays, u1_X11_stays] at hj); exact hj
        · skip
          refine g_goto 82 d_X11_stays_67 (by decide) ?_
          (try simp only [if_neg h2, opv_eq, if_true, if_false, Bool.false_eq_true, reduceCtorEq, b2i_t, b2i_f, u0_X11_stays, u1_X11_stays] at hj); exact hj
      · skip
        refine g_ic3 (l3 + 1) rfl rfl d_X11_stays_82 ?_
        refine g_goto 23 d_X11_stays_85 (by decide) ?_
        exact ih (u0_X11_stays I1 l1 l3) (u1_X11_stays I1 l2 l3) (l3 + 1) (Nat.lt_of_lt_of_le (mu_le_lt (by decide) h1) (Nat.le_of_lt_succ hmu)) (by (try simp only [lp_X11_stays_23, if_neg h1, opv_eq, if_true, if_false, Bool.false_eq_true, reduceCtorEq, b2i_t, b2i_f] at hj); exact hj)
noncomputable def u2_X11_stays (I : Nat → Nat → Int32) : Int32 := opv (if 0 ≤ ((lp_X11_stays_23 (m_X11_good I) (mu_le 100 0 + 1) (-1) (-1) 0).1) then (1000 * ((lp_X11_stays_23 (m_X11_good I) (mu_le 100 0 + 1) (-1) (-1) 0).1)) + ((lp_X11_stays_23 (m_X11_good I) (mu_le 100 0 + 1) (-1) (-1) 0).2.1) else (-2))
noncomputable def f_X11_stays (I : Nat → Nat → Int32)  : Int32 := opv (if ((m_X11_good I) 65 14) = 0 then f_X11_no (m_X11_good I) 1 else (u2_X11_stays I))
noncomputable def m_X11_stays (I : Nat → Nat → Int32)  : Nat → Nat → Int32 := opv (if ((m_X11_good I) 65 14) = 0 then (m_X11_no (m_X11_good I) 1) else (m_X11_good I))
set_option maxHeartbeats 800000 in
set_option maxRecDepth 4000 in
theorem c_X11_stays {k : KT} {ex : Bool} {J : Nat → Nat → Int64} {w : Bool} (I : Nat → Nat → Int32)   : Cx k mX11_stays 2 [.ref (ka k 65)] (81, ex, I, J, Pw w) (some (.int (f_X11_stays I))) (81, ex, m_X11_stays I, J, Pw w) := by
  refine Ct.of rfl [some (.ref (ka k 65)), none, none, none] rfl rfl (Nat.le_of_ble_eq_true rfl) ?_
  refine g_aload_n0 rfl d_X11_stays_0 ?_
  refine g_callV0 (c_X11_good I ) w_X11_good l_X11_168 d_X11_stays_1 rfl (Nat.le_of_ble_eq_true rfl) rfl rfl (Nat.le_of_ble_eq_true rfl) ⟨Nat.le_of_ble_eq_true rfl, Nat.le_of_ble_eq_true rfl⟩ ⟨Nat.zero_le _, Nat.zero_le _⟩ ⟨rfl, rfl⟩ ?_
  refine g_aload_n0 rfl d_X11_stays_4 ?_
  refine g_getI f_X11_185 d_X11_stays_5 rfl (Nat.le_of_ble_eq_true rfl) rfl ?_
  refine g_if_ne 17 d_X11_stays_8 (by decide) (fun h4 => ?_) (fun h4 => ?_)
  · skip
    refine g_iconst (-1) d_X11_stays_17 (by decide) ?_
    refine g_isn1 rfl d_X11_stays_18 ?_
    refine g_iconst (-1) d_X11_stays_19 (by decide) ?_
    refine g_isn2 rfl d_X11_stays_20 ?_
    refine g_iconst 0 d_X11_stays_21 (by decide) ?_
    refine g_isn3 rfl d_X11_stays_22 ?_
    refine k_lp_X11_stays_23 (m_X11_good I) _ (-1) (-1) 0 (Nat.lt_succ_self _) ?_
    refine g_iload_n1 rfl d_X11_stays_88 ?_
    refine g_cut (pc' := 104) (vs' := [some (.ref (ka k 65)), some (.int ((lp_X11_stays_23 (m_X11_good I) (mu_le 100 0 + 1) (-1) (-1) 0).1)), some (.int ((lp_X11_stays_23 (m_X11_good I) (mu_le 100 0 + 1) (-1) (-1) 0).2.1)), some (.int ((lp_X11_stays_23 (m_X11_good I) (mu_le 100 0 + 1) (-1) (-1) 0).2.2))]) (st' := [.int (u2_X11_stays I)]) (M' := (81, ex, (m_X11_good I), J, Pw w)) (fun hj => ?_) ?_
    · skip
      refine g_if_ge 97 d_X11_stays_89 (by decide) (fun h5 => ?_) (fun h5 => ?_)
      · skip
        refine g_sipush 1000 d_X11_stays_97 (by decide) ?_
        refine g_iload_n1 rfl d_X11_stays_100 ?_
        refine g_imul d_X11_stays_101 ?_
        refine g_iload_n2 rfl d_X11_stays_102 ?_
        refine g_iadd d_X11_stays_103 ?_
        (try simp only [if_pos h5, opv_eq, if_true, if_false, Bool.false_eq_true, reduceCtorEq, b2i_t, b2i_f, u2_X11_stays] at hj); exact hj
      · skip
        refine g_bipush (-2) d_X11_stays_92 (by decide) ?_
        refine g_goto 104 d_X11_stays_94 (by decide) ?_
        (try simp only [if_neg h5, opv_eq, if_true, if_false, Bool.false_eq_true, reduceCtorEq, b2i_t, b2i_f, u2_X11_stays] at hj); exact hj
    · skip
      exact g_iret rfl d_X11_stays_104 ⟨by simp only [f_X11_stays, m_X11_stays, if_neg h4, opv_eq, if_true, if_false, Bool.false_eq_true, reduceCtorEq, b2i_t, b2i_f], by simp only [f_X11_stays, m_X11_stays, if_neg h4, opv_eq, if_true, if_false, Bool.false_eq_true, reduceCtorEq, b2i_t, b2i_f]⟩ (Nat.le_refl _) (Nat.le_refl _)
  · skip
    refine g_aload_n0 rfl d_X11_stays_11 ?_
    refine g_iconst 1 d_X11_stays_12 (by decide) ?_
    refine g_callV1 (c_X11_no (m_X11_good I) 1) w_X11_no l_X11_171 d_X11_stays_13 rfl (Nat.le_of_ble_eq_true rfl) rfl rfl (Nat.le_of_ble_eq_true rfl) ⟨Nat.le_of_ble_eq_true rfl, Nat.le_of_ble_eq_true rfl⟩ ⟨Nat.zero_le _, Nat.zero_le _⟩ ⟨rfl, rfl⟩ ?_
    exact g_iret rfl d_X11_stays_16 ⟨by simp only [f_X11_stays, m_X11_stays, if_pos h4, opv_eq, if_true, if_false, Bool.false_eq_true, reduceCtorEq, b2i_t, b2i_f], by simp only [f_X11_stays, m_X11_stays, if_pos h4, opv_eq, if_true, if_false, Bool.false_eq_true, reduceCtorEq, b2i_t, b2i_f]⟩ (Nat.le_refl _) (Nat.le_refl _)
noncomputable def f_X11_angleIn (I : Nat → Nat → Int32) (x1 : Int32) : Int32 := opv (if (f_X11_why (m_X11_good I) x1 0 60) = 0 then ((m_X11_goOver (m_X11_good I) x1) 73 0) + 9 else f_X11_no (m_X11_good I) (f_X11_why (m_X11_good I) x1 0 60))
noncomputable def m_X11_angleIn (I : Nat → Nat → Int32) (x1 : Int32) : Nat → Nat → Int32 := opv (if (f_X11_why (m_X11_good I) x1 0 60) = 0 then (m_X11_goOver (m_X11_good I) x1) else (m_X11_no (m_X11_good I) (f_X11_why (m_X11_good I) x1 0 60)))
noncomputable def ok_X11_angleIn (I : Nat → Nat → Int32) (x1 : Int32) : Prop := opv (if (f_X11_why (m_X11_good I) x1 0 60) = 0 then ok_X11_goOver (m_X11_good I) x1 else True)
set_option maxHeartbeats 800000 in
set_option maxRecDepth 4000 in
theorem c_X11_angleIn {k : KT} {ex : Bool} {J : Nat → Nat → Int64} {w : Bool} (I : Nat → Nat → Int32) (x1 : Int32)  (hok : ok_X11_angleIn I x1) : Cx k mX11_angleIn 6 [.ref (ka k 65), .int x1] (81, ex, I, J, Pw w) (some (.int (f_X11_angleIn I x1))) (81, ex, m_X11_angleIn I x1, J, Pw w) := by
  refine Ct.of rfl [some (.ref (ka k 65)), some (.int x1), none] rfl rfl (Nat.le_of_ble_eq_true rfl) ?_
  rw [ok_X11_angleIn, opv_eq] at hok
  refine g_aload_n0 rfl d_X11_angleIn_0 ?_
  refine g_callV0 (c_X11_good I ) w_X11_good l_X11_168 d_X11_angleIn_1 rfl (Nat.le_of_ble_eq_true rfl) rfl rfl (Nat.le_of_ble_eq_true rfl) ⟨Nat.le_of_ble_eq_true rfl, Nat.le_of_ble_eq_true rfl⟩ ⟨Nat.zero_le _, Nat.zero_le _⟩ ⟨rfl, rfl⟩ ?_
  refine g_aload_n0 rfl d_X11_angleIn_4 ?_
  refine g_iload_n1 rfl d_X11_angleIn_5 ?_
  refine g_iconst 0 d_X11_angleIn_6 (by decide) ?_
  refine g_bipush 60 d_X11_angleIn_7 (by decide) ?_
  refine g_callV1 (c_X11_why (m_X11_good I) x1 0 60) w_X11_why l_X11_295 d_X11_angleIn_9 rfl (Nat.le_of_ble_eq_true rfl) rfl rfl (Nat.le_of_ble_eq_true rfl) ⟨Nat.le_of_ble_eq_true rfl, Nat.le_of_ble_eq_true rfl⟩ ⟨Nat.zero_le _, Nat.zero_le _⟩ ⟨rfl, rfl⟩ ?_
  refine g_isn2 rfl d_X11_angleIn_12 ?_
  refine g_iload_n2 rfl d_X11_angleIn_13 ?_
  refine g_if_eq 23 d_X11_angleIn_14 (by decide) (fun h1 => ?_) (fun h1 => ?_)
  · skip
    rw [if_pos h1] at hok
    refine g_aload_n0 rfl d_X11_angleIn_23 ?_
    refine g_iload_n1 rfl d_X11_angleIn_24 ?_
    have ho1 := hok
    refine g_callV0 (c_X11_goOver (m_X11_good I) x1 ho1) w_X11_goOver l_X11_298 d_X11_angleIn_25 rfl (Nat.le_of_ble_eq_true rfl) rfl rfl (Nat.le_of_ble_eq_true rfl) ⟨Nat.le_of_ble_eq_true rfl, Nat.le_of_ble_eq_true rfl⟩ ⟨Nat.zero_le _, Nat.zero_le _⟩ ⟨rfl, rfl⟩ ?_
    refine g_aload_n0 rfl d_X11_angleIn_28 ?_
    refine g_getP (b := 73) f_X11_35 d_X11_angleIn_29 rfl (Nat.le_of_ble_eq_true rfl) rfl rfl ?_
    refine g_iconst 0 d_X11_angleIn_32 (by decide) ?_
    refine g_ialdv ((m_X11_goOver (m_X11_good I) x1) 73 0) rfl d_X11_angleIn_33 rfl (Nat.le_of_ble_eq_true rfl) (vp_c (by decide +kernel)) ?_
    refine g_bipush 9 d_X11_angleIn_34 (by decide) ?_
    refine g_iadd d_X11_angleIn_36 ?_
    exact g_iret rfl d_X11_angleIn_37 ⟨by simp only [f_X11_angleIn, m_X11_angleIn, if_pos h1, opv_eq, if_true, if_false, Bool.false_eq_true, reduceCtorEq, b2i_t, b2i_f], by simp only [f_X11_angleIn, m_X11_angleIn, if_pos h1, opv_eq, if_true, if_false, Bool.false_eq_true, reduceCtorEq, b2i_t, b2i_f]⟩ (Nat.le_refl _) (Nat.le_refl _)
  · skip
    refine g_aload_n0 rfl d_X11_angleIn_17 ?_
    refine g_iload_n2 rfl d_X11_angleIn_18 ?_
    refine g_callV1 (c_X11_no (m_X11_good I) (f_X11_why (m_X11_good I) x1 0 60)) w_X11_no l_X11_171 d_X11_angleIn_19 rfl (Nat.le_of_ble_eq_true rfl) rfl rfl (Nat.le_of_ble_eq_true rfl) ⟨Nat.le_of_ble_eq_true rfl, Nat.le_of_ble_eq_true rfl⟩ ⟨Nat.zero_le _, Nat.zero_le _⟩ ⟨rfl, rfl⟩ ?_
    exact g_iret rfl d_X11_angleIn_22 ⟨by simp only [f_X11_angleIn, m_X11_angleIn, if_neg h1, opv_eq, if_true, if_false, Bool.false_eq_true, reduceCtorEq, b2i_t, b2i_f], by simp only [f_X11_angleIn, m_X11_angleIn, if_neg h1, opv_eq, if_true, if_false, Bool.false_eq_true, reduceCtorEq, b2i_t, b2i_f]⟩ (Nat.le_refl _) (Nat.le_refl _)
noncomputable def f_X11_dampIn (I : Nat → Nat → Int32) (x1 : Int32) : Int32 := opv (if (f_X11_why (m_X11_good I) x1 0 60) = 0 then (m_X11_goOver (m_X11_good I) x1) 73 1 else f_X11_no (m_X11_good I) (f_X11_why (m_X11_good I) x1 0 60))
noncomputable def m_X11_dampIn (I : Nat → Nat → Int32) (x1 : Int32) : Nat → Nat → Int32 := opv (if (f_X11_why (m_X11_good I) x1 0 60) = 0 then (m_X11_goOver (m_X11_good I) x1) else (m_X11_no (m_X11_good I) (f_X11_why (m_X11_good I) x1 0 60)))
noncomputable def ok_X11_dampIn (I : Nat → Nat → Int32) (x1 : Int32) : Prop := opv (if (f_X11_why (m_X11_good I) x1 0 60) = 0 then ok_X11_goOver (m_X11_good I) x1 else True)
set_option maxHeartbeats 800000 in
set_option maxRecDepth 4000 in
theorem c_X11_dampIn {k : KT} {ex : Bool} {J : Nat → Nat → Int64} {w : Bool} (I : Nat → Nat → Int32) (x1 : Int32)  (hok : ok_X11_dampIn I x1) : Cx k mX11_dampIn 6 [.ref (ka k 65), .int x1] (81, ex, I, J, Pw w) (some (.int (f_X11_dampIn I x1))) (81, ex, m_X11_dampIn I x1, J, Pw w) := by
  refine Ct.of rfl [some (.ref (ka k 65)), some (.int x1), none] rfl rfl (Nat.le_of_ble_eq_true rfl) ?_
  rw [ok_X11_dampIn, opv_eq] at hok
  refine g_aload_n0 rfl d_X11_dampIn_0 ?_
  refine g_callV0 (c_X11_good I ) w_X11_good l_X11_168 d_X11_dampIn_1 rfl (Nat.le_of_ble_eq_true rfl) rfl rfl (Nat.le_of_ble_eq_true rfl) ⟨Nat.le_of_ble_eq_true rfl, Nat.le_of_ble_eq_true rfl⟩ ⟨Nat.zero_le _, Nat.zero_le _⟩ ⟨rfl, rfl⟩ ?_
  refine g_aload_n0 rfl d_X11_dampIn_4 ?_
  refine g_iload_n1 rfl d_X11_dampIn_5 ?_
  refine g_iconst 0 d_X11_dampIn_6 (by decide) ?_
  refine g_bipush 60 d_X11_dampIn_7 (by decide) ?_
  refine g_callV1 (c_X11_why (m_X11_good I) x1 0 60) w_X11_why l_X11_295 d_X11_dampIn_9 rfl (Nat.le_of_ble_eq_true rfl) rfl rfl (Nat.le_of_ble_eq_true rfl) ⟨Nat.le_of_ble_eq_true rfl, Nat.le_of_ble_eq_true rfl⟩ ⟨Nat.zero_le _, Nat.zero_le _⟩ ⟨rfl, rfl⟩ ?_
  refine g_isn2 rfl d_X11_dampIn_12 ?_
  refine g_iload_n2 rfl d_X11_dampIn_13 ?_
  refine g_if_eq 23 d_X11_dampIn_14 (by decide) (fun h1 => ?_) (fun h1 => ?_)
  · skip
    rw [if_pos h1] at hok
    refine g_aload_n0 rfl d_X11_dampIn_23 ?_
    refine g_iload_n1 rfl d_X11_dampIn_24 ?_
    have ho1 := hok
    refine g_callV0 (c_X11_goOver (m_X11_good I) x1 ho1) w_X11_goOver l_X11_298 d_X11_dampIn_25 rfl (Nat.le_of_ble_eq_true rfl) rfl rfl (Nat.le_of_ble_eq_true rfl) ⟨Nat.le_of_ble_eq_true rfl, Nat.le_of_ble_eq_true rfl⟩ ⟨Nat.zero_le _, Nat.zero_le _⟩ ⟨rfl, rfl⟩ ?_
    refine g_aload_n0 rfl d_X11_dampIn_28 ?_
    refine g_getP (b := 73) f_X11_35 d_X11_dampIn_29 rfl (Nat.le_of_ble_eq_true rfl) rfl rfl ?_
    refine g_iconst 1 d_X11_dampIn_32 (by decide) ?_
    refine g_ialdv ((m_X11_goOver (m_X11_good I) x1) 73 1) rfl d_X11_dampIn_33 rfl (Nat.le_of_ble_eq_true rfl) (vp_c (by decide +kernel)) ?_
    exact g_iret rfl d_X11_dampIn_34 ⟨by simp only [f_X11_dampIn, m_X11_dampIn, if_pos h1, opv_eq, if_true, if_false, Bool.false_eq_true, reduceCtorEq, b2i_t, b2i_f], by simp only [f_X11_dampIn, m_X11_dampIn, if_pos h1, opv_eq, if_true, if_false, Bool.false_eq_true, reduceCtorEq, b2i_t, b2i_f]⟩ (Nat.le_refl _) (Nat.le_refl _)
  · skip
    refine g_aload_n0 rfl d_X11_dampIn_17 ?_
    refine g_iload_n2 rfl d_X11_dampIn_18 ?_
    refine g_callV1 (c_X11_no (m_X11_good I) (f_X11_why (m_X11_good I) x1 0 60)) w_X11_no l_X11_171 d_X11_dampIn_19 rfl (Nat.le_of_ble_eq_true rfl) rfl rfl (Nat.le_of_ble_eq_true rfl) ⟨Nat.le_of_ble_eq_true rfl, Nat.le_of_ble_eq_true rfl⟩ ⟨Nat.zero_le _, Nat.zero_le _⟩ ⟨rfl, rfl⟩ ?_
    exact g_iret rfl d_X11_dampIn_22 ⟨by simp only [f_X11_dampIn, m_X11_dampIn, if_neg h1, opv_eq, if_true, if_false, Bool.false_eq_true, reduceCtorEq, b2i_t, b2i_f], by simp only [f_X11_dampIn, m_X11_dampIn, if_neg h1, opv_eq, if_true, if_false, Bool.false_eq_true, reduceCtorEq, b2i_t, b2i_f]⟩ (Nat.le_refl _) (Nat.le_refl _)
noncomputable def f_X11_whoIn (I : Nat → Nat → Int32) (x1 : Int32) : Int32 := opv (if (f_X11_why (m_X11_good I) x1 0 60) = 0 then f_X11_whoOf (m_X11_goOver (m_X11_good I) x1) 73 else f_X11_no (m_X11_good I) (f_X11_why (m_X11_good I) x1 0 60))
noncomputable def m_X11_whoIn (I : Nat → Nat → Int32) (x1 : Int32) : Nat → Nat → Int32 := opv (if (f_X11_why (m_X11_good I) x1 0 60) = 0 then (m_X11_goOver (m_X11_good I) x1) else (m_X11_no (m_X11_good I) (f_X11_why (m_X11_good I) x1 0 60)))
noncomputable def ok_X11_whoIn (I : Nat → Nat → Int32) (x1 : Int32) : Prop := opv (if (f_X11_why (m_X11_good I) x1 0 60) = 0 then (ok_X11_goOver (m_X11_good I) x1 ∧ ok_X11_whoOf (m_X11_goOver (m_X11_good I) x1) 73) else True)
set_option maxHeartbeats 800000 in
set_option maxRecDepth 4000 in
theorem c_X11_whoIn {k : KT} {ex : Bool} {J : Nat → Nat → Int64} {w : Bool} (I : Nat → Nat → Int32) (x1 : Int32)  (hok : ok_X11_whoIn I x1) : Cx k mX11_whoIn 6 [.ref (ka k 65), .int x1] (81, ex, I, J, Pw w) (some (.int (f_X11_whoIn I x1))) (81, ex, m_X11_whoIn I x1, J, Pw w) := by
  refine Ct.of rfl [some (.ref (ka k 65)), some (.int x1), none] rfl rfl (Nat.le_of_ble_eq_true rfl) ?_
  rw [ok_X11_whoIn, opv_eq] at hok
  refine g_aload_n0 rfl d_X11_whoIn_0 ?_
  refine g_callV0 (c_X11_good I ) w_X11_good l_X11_168 d_X11_whoIn_1 rfl (Nat.le_of_ble_eq_true rfl) rfl rfl (Nat.le_of_ble_eq_true rfl) ⟨Nat.le_of_ble_eq_true rfl, Nat.le_of_ble_eq_true rfl⟩ ⟨Nat.zero_le _, Nat.zero_le _⟩ ⟨rfl, rfl⟩ ?_
  refine g_aload_n0 rfl d_X11_whoIn_4 ?_
  refine g_iload_n1 rfl d_X11_whoIn_5 ?_
  refine g_iconst 0 d_X11_whoIn_6 (by decide) ?_
  refine g_bipush 60 d_X11_whoIn_7 (by decide) ?_
  refine g_callV1 (c_X11_why (m_X11_good I) x1 0 60) w_X11_why l_X11_295 d_X11_whoIn_9 rfl (Nat.le_of_ble_eq_true rfl) rfl rfl (Nat.le_of_ble_eq_true rfl) ⟨Nat.le_of_ble_eq_true rfl, Nat.le_of_ble_eq_true rfl⟩ ⟨Nat.zero_le _, Nat.zero_le _⟩ ⟨rfl, rfl⟩ ?_
  refine g_isn2 rfl d_X11_whoIn_12 ?_
  refine g_iload_n2 rfl d_X11_whoIn_13 ?_
  refine g_if_eq 23 d_X11_whoIn_14 (by decide) (fun h1 => ?_) (fun h1 => ?_)
  · skip
    rw [if_pos h1] at hok
    refine g_aload_n0 rfl d_X11_whoIn_23 ?_
    refine g_iload_n1 rfl d_X11_whoIn_24 ?_
    obtain ⟨ho1, hok⟩ := hok
    refine g_callV0 (c_X11_goOver (m_X11_good I) x1 ho1) w_X11_goOver l_X11_298 d_X11_whoIn_25 rfl (Nat.le_of_ble_eq_true rfl) rfl rfl (Nat.le_of_ble_eq_true rfl) ⟨Nat.le_of_ble_eq_true rfl, Nat.le_of_ble_eq_true rfl⟩ ⟨Nat.zero_le _, Nat.zero_le _⟩ ⟨rfl, rfl⟩ ?_
    refine g_aload_n0 rfl d_X11_whoIn_28 ?_
    refine g_getP (b := 73) f_X11_35 d_X11_whoIn_29 rfl (Nat.le_of_ble_eq_true rfl) rfl rfl ?_
    have ho2 := hok
    refine g_callS1 (c_X11_whoOf (m_X11_goOver (m_X11_good I) x1) 73 rfl ho2) w_X11_whoOf l_X11_268 d_X11_whoIn_32 rfl rfl (Nat.le_of_ble_eq_true rfl) ⟨Nat.le_of_ble_eq_true rfl, Nat.le_of_ble_eq_true rfl⟩ ⟨Nat.zero_le _, Nat.zero_le _⟩ ⟨rfl, rfl⟩ ?_
    exact g_iret rfl d_X11_whoIn_35 ⟨by simp only [f_X11_whoIn, m_X11_whoIn, if_pos h1, opv_eq, if_true, if_false, Bool.false_eq_true, reduceCtorEq, b2i_t, b2i_f], by simp only [f_X11_whoIn, m_X11_whoIn, if_pos h1, opv_eq, if_true, if_false, Bool.false_eq_true, reduceCtorEq, b2i_t, b2i_f]⟩ (Nat.le_refl _) (Nat.le_refl _)
  · skip
    refine g_aload_n0 rfl d_X11_whoIn_17 ?_
    refine g_iload_n2 rfl d_X11_whoIn_18 ?_
    refine g_callV1 (c_X11_no (m_X11_good I) (f_X11_why (m_X11_good I) x1 0 60)) w_X11_no l_X11_171 d_X11_whoIn_19 rfl (Nat.le_of_ble_eq_true rfl) rfl rfl (Nat.le_of_ble_eq_true rfl) ⟨Nat.le_of_ble_eq_true rfl, Nat.le_of_ble_eq_true rfl⟩ ⟨Nat.zero_le _, Nat.zero_le _⟩ ⟨rfl, rfl⟩ ?_
    exact g_iret rfl d_X11_whoIn_22 ⟨by simp only [f_X11_whoIn, m_X11_whoIn, if_neg h1, opv_eq, if_true, if_false, Bool.false_eq_true, reduceCtorEq, b2i_t, b2i_f], by simp only [f_X11_whoIn, m_X11_whoIn, if_neg h1, opv_eq, if_true, if_false, Bool.false_eq_true, reduceCtorEq, b2i_t, b2i_f]⟩ (Nat.le_refl _) (Nat.le_refl _)
noncomputable def lp_X11_daysOf_51 (x1 : Int32) (x2 : Int32) : Nat → Int32 → Int32 → (Nat → Nat → Int32) → Int32 × Int32 × (Nat → Nat → Int32)
  | 0, l3, l4, I1 => (l3, l4, I1)
  | n + 1, l3, l4, I1 => (if x2 ≤ l4 then (l3, l4, I1) else (lp_X11_daysOf_51 x1 x2 n (l3 + (b2i (if ((m_X11_dayOf I1 73) 73 5) = x1 then true else false))) (l4 + 1) (m_X11_dayOf I1 73)))
def oklp_X11_daysOf_51 (x1 : Int32) (x2 : Int32) : Nat → Int32 → Int32 → (Nat → Nat → Int32) → Prop
  | 0, l3, l4, I1 => True
  | n + 1, l3, l4, I1 => (if x2 ≤ l4 then True else (ok_X11_dayOf I1 73 ∧ oklp_X11_daysOf_51 x1 x2 n (l3 + (b2i (if ((m_X11_dayOf I1 73) 73 5) = x1 then true else false))) (l4 + 1) (m_X11_dayOf I1 73)))
set_option maxHeartbeats 800000 in
set_option maxRecDepth 4000 in
theorem k_lp_X11_daysOf_51 {k : KT} {ex : Bool} {J : Nat → Nat → Int64} {w : Bool} (x1 : Int32) (x2 : Int32) {F : FinT} : ∀ (n : Nat) (l3 : Int32) (l4 : Int32) (I1 : (Nat → Nat → Int32)), mu_up x2 l4 < n → oklp_X11_daysOf_51 x1 x2 n l3 l4 I1 → G k mX11_daysOf (roomOf 5 0 0) F 0 0 89 [some (.ref (ka k 65)), some (.int x1), some (.int x2), some (.int ((lp_X11_daysOf_51 x1 x2 n l3 l4 I1).1)), some (.int ((lp_X11_daysOf_51 x1 x2 n l3 l4 I1).2.1))] [] (81, ex, (lp_X11_daysOf_51 x1 x2 n l3 l4 I1).2.2, J, Pw w) → G k mX11_daysOf (roomOf 5 0 0) F 0 0 51 [some (.ref (ka k 65)), some (.int x1), some (.int x2), some (.int l3), some (.int l4)] [] (81, ex, I1, J, Pw w) := by
  intro n
  induction n with
  | zero => intro l3 l4 I1 hmu hok hj; exact absurd hmu (Nat.not_lt_zero _)
  | succ n ih =>
    intro l3 l4 I1 hmu hok hj
    rw [oklp_X11_daysOf_51] at hok
    refine g_iload (i := 4) rfl d_X11_daysOf_51 ?_
    refine g_iload_n2 rfl d_X11_daysOf_53 ?_
    refine g_icmp_ge 89 d_X11_daysOf_54 (by decide) (fun h1 => ?_) (fun h1 => ?_)
    · skip
      (try simp only [lp_X11_daysOf_51, if_pos h1, opv_eq, if_true, if_false, Bool.false_eq_true, reduceCtorEq, b2i_t, b2i_f] at hj); exact hj
    · skip
      rw [if_neg h1] at hok
      refine g_aload_n0 rfl d_X11_daysOf_57 ?_
      refine g_aload_n0 rfl d_X11_daysOf_58 ?_
      refine g_getP (b := 73) f_X11_35 d_X11_daysOf_59 rfl (Nat.le_of_ble_eq_true rfl) rfl rfl ?_
      obtain ⟨ho2, hok⟩ := hok
      refine g_callV0 (c_X11_dayOf I1 73 rfl (by decide) ho2) w_X11_dayOf l_X11_288 d_X11_daysOf_62 rfl (Nat.le_of_ble_eq_true rfl) rfl rfl (Nat.le_of_ble_eq_true rfl) ⟨Nat.le_of_ble_eq_true rfl, Nat.le_of_ble_eq_true rfl⟩ ⟨Nat.zero_le _, Nat.zero_le _⟩ ⟨rfl, rfl⟩ ?_
      refine g_iload_n3 rfl d_X11_daysOf_65 ?_
      refine g_aload_n0 rfl d_X11_daysOf_66 ?_
      refine g_getP (b := 73) f_X11_35 d_X11_daysOf_67 rfl (Nat.le_of_ble_eq_true rfl) rfl rfl ?_
      refine g_iconst 5 d_X11_daysOf_70 (by decide) ?_
      refine g_ialdv ((m_X11_dayOf I1 73) 73 5) rfl d_X11_daysOf_71 rfl (Nat.le_of_ble_eq_true rfl) (vp_c (by decide +kernel)) ?_
      refine g_iload_n1 rfl d_X11_daysOf_72 ?_
      refine g_cut (pc' := 81) (vs' := [some (.ref (ka k 65)), some (.int x1), some (.int x2), some (.int l3), some (.int l4)]) (st' := [.int (b2i (if ((m_X11_dayOf I1 73) 73 5) = x1 then true else false)), .int l3]) (M' := (81, ex, (m_X11_dayOf I1 73), J, Pw w)) (fun hj => ?_) ?_
      · skip
        refine g_icmp_ne 80 d_X11_daysOf_73 (by decide) (fun h2 => ?_) (fun h2 => ?_)
        · skip
          refine g_iconst 0 d_X11_daysOf_80 (by decide) ?_
          (try simp only [if_neg h2, opv_eq, if_true, if_false, Bool.false_eq_true, reduceCtorEq, b2i_t, b2i_f] at hj); exact hj
        · skip
          refine g_iconst 1 d_X11_daysOf_76 (by decide) ?_
          refine g_goto 81 d_X11_daysOf_77 (by decide) ?_
          (try simp only [if_pos h2, opv_eq, if_true, if_false, Bool.false_eq_true, reduceCtorEq, b2i_t, b2i_f] at hj); exact hj
      · skip
        refine g_iadd d_X11_daysOf_81 ?_
        refine g_isn3 rfl d_X11_daysOf_82 ?_
        refine g_ic4 (l4 + 1) rfl rfl d_X11_daysOf_83 ?_
        refine g_goto 51 d_X11_daysOf_86 (by decide) ?_
        exact ih (l3 + (b2i (if ((m_X11_dayOf I1 73) 73 5) = x1 then true else false))) (l4 + 1) (m_X11_dayOf I1 73) (Nat.lt_of_lt_of_le (mu_up_lt h1) (Nat.le_of_lt_succ hmu)) (by (try simp only [if_neg h1, opv_eq, if_true, if_false, Bool.false_eq_true, reduceCtorEq, b2i_t, b2i_f] at hok); exact hok) (by (try simp only [lp_X11_daysOf_51, if_neg h1, opv_eq, if_true, if_false, Bool.false_eq_true, reduceCtorEq, b2i_t, b2i_f] at hj); exact hj)
noncomputable def f_X11_daysOf (I : Nat → Nat → Int32) (x1 : Int32) (x2 : Int32) : Int32 := opv (if ((m_X11_good I) 65 14) = 0 then f_X11_no (m_X11_good I) 1 else (if (f_X11_in (m_X11_good I) x1 0 2) = true then (if (f_X11_in (m_X11_good I) x2 0 60) = true then (lp_X11_daysOf_51 x1 x2 (mu_up x2 0 + 1) 0 0 (m_X11_begin (m_X11_good I))).1 else f_X11_no (m_X11_good I) 2) else f_X11_no (m_X11_good I) 2))
noncomputable def m_X11_daysOf (I : Nat → Nat → Int32) (x1 : Int32) (x2 : Int32) : Nat → Nat → Int32 := opv (if ((m_X11_good I) 65 14) = 0 then (m_X11_no (m_X11_good I) 1) else (if (f_X11_in (m_X11_good I) x1 0 2) = true then (if (f_X11_in (m_X11_good I) x2 0 60) = true then (lp_X11_daysOf_51 x1 x2 (mu_up x2 0 + 1) 0 0 (m_X11_begin (m_X11_good I))).2.2 else (m_X11_no (m_X11_good I) 2)) else (m_X11_no (m_X11_good I) 2)))
noncomputable def ok_X11_daysOf (I : Nat → Nat → Int32) (x1 : Int32) (x2 : Int32) : Prop := opv (if ((m_X11_good I) 65 14) = 0 then True else (if (f_X11_in (m_X11_good I) x1 0 2) = true then (if (f_X11_in (m_X11_good I) x2 0 60) = true then (ok_X11_begin (m_X11_good I) ∧ oklp_X11_daysOf_51 x1 x2 (mu_up x2 0 + 1) 0 0 (m_X11_begin (m_X11_good I))) else True) else True))
set_option maxHeartbeats 800000 in
set_option maxRecDepth 4000 in
theorem c_X11_daysOf {k : KT} {ex : Bool} {J : Nat → Nat → Int64} {w : Bool} (I : Nat → Nat → Int32) (x1 : Int32) (x2 : Int32)  (hok : ok_X11_daysOf I x1 x2) : Cx k mX11_daysOf 5 [.ref (ka k 65), .int x1, .int x2] (81, ex, I, J, Pw w) (some (.int (f_X11_daysOf I x1 x2))) (81, ex, m_X11_daysOf I x1 x2, J, Pw w) := by
  refine Ct.of rfl [some (.ref (ka k 65)), some (.int x1), some (.int x2), none, none] rfl rfl (Nat.le_of_ble_eq_true rfl) ?_
  rw [ok_X11_daysOf, opv_eq] at hok
  refine g_aload_n0 rfl d_X11_daysOf_0 ?_
  refine g_callV0 (c_X11_good I ) w_X11_good l_X11_168 d_X11_daysOf_1 rfl (Nat.le_of_ble_eq_true rfl) rfl rfl (Nat.le_of_ble_eq_true rfl) ⟨Nat.le_of_ble_eq_true rfl, Nat.le_of_ble_eq_true rfl⟩ ⟨Nat.zero_le _, Nat.zero_le _⟩ ⟨rfl, rfl⟩ ?_
  refine g_aload_n0 rfl d_X11_daysOf_4 ?_
  refine g_getI f_X11_185 d_X11_daysOf_5 rfl (Nat.le_of_ble_eq_true rfl) rfl ?_
  refine g_if_ne 17 d_X11_daysOf_8 (by decide) (fun h3 => ?_) (fun h3 => ?_)
  · skip
    rw [if_neg h3] at hok
    refine g_iload_n1 rfl d_X11_daysOf_17 ?_
    refine g_iconst 0 d_X11_daysOf_18 (by decide) ?_
    refine g_iconst 2 d_X11_daysOf_19 (by decide) ?_
    refine g_callS1 (c_X11_in (m_X11_good I) x1 0 2) w_X11_in l_X11_149 d_X11_daysOf_20 rfl rfl (Nat.le_of_ble_eq_true rfl) ⟨Nat.le_of_ble_eq_true rfl, Nat.le_of_ble_eq_true rfl⟩ ⟨Nat.zero_le _, Nat.zero_le _⟩ ⟨rfl, rfl⟩ ?_
    refine g_ifz 36 d_X11_daysOf_23 (by decide) (fun h4 => ?_) (fun h4 => ?_)
    · skip
      refine g_aload_n0 rfl d_X11_daysOf_36 ?_
      refine g_iconst 2 d_X11_daysOf_37 (by decide) ?_
      refine g_callV1 (c_X11_no (m_X11_good I) 2) w_X11_no l_X11_171 d_X11_daysOf_38 rfl (Nat.le_of_ble_eq_true rfl) rfl rfl (Nat.le_of_ble_eq_true rfl) ⟨Nat.le_of_ble_eq_true rfl, Nat.le_of_ble_eq_true rfl⟩ ⟨Nat.zero_le _, Nat.zero_le _⟩ ⟨rfl, rfl⟩ ?_
      exact g_iret rfl d_X11_daysOf_41 ⟨by simp only [f_X11_daysOf, m_X11_daysOf, if_neg h3, if_neg (nb h4), opv_eq, if_true, if_false, Bool.false_eq_true, reduceCtorEq, b2i_t, b2i_f], by simp only [f_X11_daysOf, m_X11_daysOf, if_neg h3, if_neg (nb h4), opv_eq, if_true, if_false, Bool.false_eq_true, reduceCtorEq, b2i_t, b2i_f]⟩ (Nat.le_refl _) (Nat.le_refl _)
    · skip
      rw [if_pos h4] at hok
      refine g_iload_n2 rfl d_X11_daysOf_26 ?_
      refine g_iconst 0 d_X11_daysOf_27 (by decide) ?_
      refine g_bipush 60 d_X11_daysOf_28 (by decide) ?_
      refine g_callS1 (c_X11_in (m_X11_good I) x2 0 60) w_X11_in l_X11_149 d_X11_daysOf_30 rfl rfl (Nat.le_of_ble_eq_true rfl) ⟨Nat.le_of_ble_eq_true rfl, Nat.le_of_ble_eq_true rfl⟩ ⟨Nat.zero_le _, Nat.zero_le _⟩ ⟨rfl, rfl⟩ ?_
      refine g_ifnz 42 d_X11_daysOf_33 (by decide) (fun h5 => ?_) (fun h5 => ?_)
      · skip
        rw [if_pos h5] at hok
        refine g_aload_n0 rfl d_X11_daysOf_42 ?_
        obtain ⟨ho1, hok⟩ := hok
        refine g_callV0 (c_X11_begin (m_X11_good I)  ho1) w_X11_begin l_X11_285 d_X11_daysOf_43 rfl (Nat.le_of_ble_eq_true rfl) rfl rfl (Nat.le_of_ble_eq_true rfl) ⟨Nat.le_of_ble_eq_true rfl, Nat.le_of_ble_eq_true rfl⟩ ⟨Nat.zero_le _, Nat.zero_le _⟩ ⟨rfl, rfl⟩ ?_
        refine g_iconst 0 d_X11_daysOf_46 (by decide) ?_
        refine g_isn3 rfl d_X11_daysOf_47 ?_
        refine g_iconst 0 d_X11_daysOf_48 (by decide) ?_
        refine g_is4 rfl d_X11_daysOf_49 ?_
        refine k_lp_X11_daysOf_51 x1 x2 _ 0 0 (m_X11_begin (m_X11_good I)) (Nat.lt_succ_self _) hok ?_
        refine g_iload_n3 rfl d_X11_daysOf_89 ?_
        exact g_iret rfl d_X11_daysOf_90 ⟨by simp only [f_X11_daysOf, m_X11_daysOf, if_neg h3, if_pos h4, if_pos h5, opv_eq, if_true, if_false, Bool.false_eq_true, reduceCtorEq, b2i_t, b2i_f], by simp only [f_X11_daysOf, m_X11_daysOf, if_neg h3, if_pos h4, if_pos h5, opv_eq, if_true, if_false, Bool.false_eq_true, reduceCtorEq, b2i_t, b2i_f]⟩ (Nat.le_refl _) (Nat.le_refl _)
      · skip
        refine g_aload_n0 rfl d_X11_daysOf_36 ?_
        refine g_iconst 2 d_X11_daysOf_37 (by decide) ?_
        refine g_callV1 (c_X11_no (m_X11_good I) 2) w_X11_no l_X11_171 d_X11_daysOf_38 rfl (Nat.le_of_ble_eq_true rfl) rfl rfl (Nat.le_of_ble_eq_true rfl) ⟨Nat.le_of_ble_eq_true rfl, Nat.le_of_ble_eq_true rfl⟩ ⟨Nat.zero_le _, Nat.zero_le _⟩ ⟨rfl, rfl⟩ ?_
        exact g_iret rfl d_X11_daysOf_41 ⟨by simp only [f_X11_daysOf, m_X11_daysOf, if_neg h3, if_pos h4, if_neg (nb h5), opv_eq, if_true, if_false, Bool.false_eq_true, reduceCtorEq, b2i_t, b2i_f], by simp only [f_X11_daysOf, m_X11_daysOf, if_neg h3, if_pos h4, if_neg (nb h5), opv_eq, if_true, if_false, Bool.false_eq_true, reduceCtorEq, b2i_t, b2i_f]⟩ (Nat.le_refl _) (Nat.le_refl _)
  · skip
    refine g_aload_n0 rfl d_X11_daysOf_11 ?_
    refine g_iconst 1 d_X11_daysOf_12 (by decide) ?_
    refine g_callV1 (c_X11_no (m_X11_good I) 1) w_X11_no l_X11_171 d_X11_daysOf_13 rfl (Nat.le_of_ble_eq_true rfl) rfl rfl (Nat.le_of_ble_eq_true rfl) ⟨Nat.le_of_ble_eq_true rfl, Nat.le_of_ble_eq_true rfl⟩ ⟨Nat.zero_le _, Nat.zero_le _⟩ ⟨rfl, rfl⟩ ?_
    exact g_iret rfl d_X11_daysOf_16 ⟨by simp only [f_X11_daysOf, m_X11_daysOf, if_pos h3, opv_eq, if_true, if_false, Bool.false_eq_true, reduceCtorEq, b2i_t, b2i_f], by simp only [f_X11_daysOf, m_X11_daysOf, if_pos h3, opv_eq, if_true, if_false, Bool.false_eq_true, reduceCtorEq, b2i_t, b2i_f]⟩ (Nat.le_refl _) (Nat.le_refl _)
noncomputable def lp_X11_when_28 (x1 : Int32) (l2 : Int32) : Nat → Int32 → (Nat → Nat → Int32) → Int32 × (Nat → Nat → Int32)
  | 0, l3, I1 => (0, I1)
  | n + 1, l3, I1 => (if 60 < l3 then ((-2), I1) else (if (f_X11_whoOf I1 73) = x1 then (l3, I1) else (lp_X11_when_28 x1 l2 n (l3 + 1) (m_X11_dayOf I1 73))))
def oklp_X11_when_28 (x1 : Int32) (l2 : Int32) : Nat → Int32 → (Nat → Nat → Int32) → Prop
  | 0, l3, I1 => True
  | n + 1, l3, I1 => (if 60 < l3 then True else (ok_X11_whoOf I1 73 ∧ (if (f_X11_whoOf I1 73) = x1 then True else (ok_X11_dayOf I1 73 ∧ oklp_X11_when_28 x1 l2 n (l3 + 1) (m_X11_dayOf I1 73)))))
set_option maxHeartbeats 800000 in
set_option maxRecDepth 4000 in
theorem k_lp_X11_when_28 {k : KT} {ex : Bool} {J : Nat → Nat → Int64} {w : Bool} (x1 : Int32) (l2 : Int32) {Q : Option Value → MM → Prop} : ∀ (n : Nat) (l3 : Int32) (I1 : (Nat → Nat → Int32)), mu_le 60 l3 < n → oklp_X11_when_28 x1 l2 n l3 I1 → Q (some (.int (lp_X11_when_28 x1 l2 n l3 I1).1)) (81, ex, (lp_X11_when_28 x1 l2 n l3 I1).2, J, Pw w) → G k mX11_when (roomOf 5 0 0) (FinM k Q 0 0) 0 0 28 [some (.ref (ka k 65)), some (.int x1), some (.int l2), some (.int l3)] [] (81, ex, I1, J, Pw w) := by
  intro n
  induction n with
  | zero => intro l3 I1 hmu hok hq; exact absurd hmu (Nat.not_lt_zero _)
  | succ n ih =>
    intro l3 I1 hmu hok hq
    rw [oklp_X11_when_28] at hok
    refine g_iload_n3 rfl d_X11_when_28 ?_
    refine g_bipush 60 d_X11_when_29 (by decide) ?_
    refine g_icmp_gt 61 d_X11_when_31 (by decide) (fun h1 => ?_) (fun h1 => ?_)
    · skip
      refine g_bipush (-2) d_X11_when_61 (by decide) ?_
      exact g_iret rfl d_X11_when_63 (by (try simp only [lp_X11_when_28, if_pos h1, opv_eq, if_true, if_false, Bool.false_eq_true, reduceCtorEq, b2i_t, b2i_f] at hq); exact hq) (Nat.le_refl _) (Nat.le_refl _)
    · skip
      rw [if_neg h1] at hok
      refine g_aload_n0 rfl d_X11_when_34 ?_
      refine g_getP (b := 73) f_X11_35 d_X11_when_35 rfl (Nat.le_of_ble_eq_true rfl) rfl rfl ?_
      obtain ⟨ho2, hok⟩ := hok
      refine g_callS1 (c_X11_whoOf I1 73 rfl ho2) w_X11_whoOf l_X11_268 d_X11_when_38 rfl rfl (Nat.le_of_ble_eq_true rfl) ⟨Nat.le_of_ble_eq_true rfl, Nat.le_of_ble_eq_true rfl⟩ ⟨Nat.zero_le _, Nat.zero_le _⟩ ⟨rfl, rfl⟩ ?_
      refine g_iload_n1 rfl d_X11_when_41 ?_
      refine g_icmp_ne 47 d_X11_when_42 (by decide) (fun h2 => ?_) (fun h2 => ?_)
      · skip
        rw [if_neg h2] at hok
        refine g_aload_n0 rfl d_X11_when_47 ?_
        refine g_aload_n0 rfl d_X11_when_48 ?_
        refine g_getP (b := 73) f_X11_35 d_X11_when_49 rfl (Nat.le_of_ble_eq_true rfl) rfl rfl ?_
        obtain ⟨ho3, hok⟩ := hok
        refine g_callV0 (c_X11_dayOf I1 73 rfl (by decide) ho3) w_X11_dayOf l_X11_288 d_X11_when_52 rfl (Nat.le_of_ble_eq_true rfl) rfl rfl (Nat.le_of_ble_eq_true rfl) ⟨Nat.le_of_ble_eq_true rfl, Nat.le_of_ble_eq_true rfl⟩ ⟨Nat.zero_le _, Nat.zero_le _⟩ ⟨rfl, rfl⟩ ?_
        refine g_ic3 (l3 + 1) rfl rfl d_X11_when_55 ?_
        refine g_goto 28 d_X11_when_58 (by decide) ?_
        exact ih (l3 + 1) (m_X11_dayOf I1 73) (Nat.lt_of_lt_of_le (mu_le_lt (by decide) h1) (Nat.le_of_lt_succ hmu)) (by (try simp only [if_neg h1, if_neg h2, opv_eq, if_true, if_false, Bool.false_eq_true, reduceCtorEq, b2i_t, b2i_f] at hok); exact hok) (by (try simp only [lp_X11_when_28, if_neg h1, if_neg h2, opv_eq, if_true, if_false, Bool.false_eq_true, reduceCtorEq, b2i_t, b2i_f] at hq); exact hq)
      · skip
        refine g_iload_n3 rfl d_X11_when_45 ?_
        exact g_iret rfl d_X11_when_46 (by (try simp only [lp_X11_when_28, if_neg h1, if_pos h2, opv_eq, if_true, if_false, Bool.false_eq_true, reduceCtorEq, b2i_t, b2i_f] at hq); exact hq) (Nat.le_refl _) (Nat.le_refl _)
noncomputable def f_X11_when (I : Nat → Nat → Int32) (x1 : Int32) : Int32 := opv (if (f_X11_why (m_X11_good I) x1 0 3) = 0 then (lp_X11_when_28 x1 (f_X11_why (m_X11_good I) x1 0 3) (mu_le 60 0 + 1) 0 (m_X11_begin (m_X11_good I))).1 else f_X11_no (m_X11_good I) (f_X11_why (m_X11_good I) x1 0 3))
noncomputable def m_X11_when (I : Nat → Nat → Int32) (x1 : Int32) : Nat → Nat → Int32 := opv (if (f_X11_why (m_X11_good I) x1 0 3) = 0 then (lp_X11_when_28 x1 (f_X11_why (m_X11_good I) x1 0 3) (mu_le 60 0 + 1) 0 (m_X11_begin (m_X11_good I))).2 else (m_X11_no (m_X11_good I) (f_X11_why (m_X11_good I) x1 0 3)))
noncomputable def ok_X11_when (I : Nat → Nat → Int32) (x1 : Int32) : Prop := opv (if (f_X11_why (m_X11_good I) x1 0 3) = 0 then (ok_X11_begin (m_X11_good I) ∧ oklp_X11_when_28 x1 (f_X11_why (m_X11_good I) x1 0 3) (mu_le 60 0 + 1) 0 (m_X11_begin (m_X11_good I))) else True)
set_option maxHeartbeats 800000 in
set_option maxRecDepth 4000 in
theorem c_X11_when {k : KT} {ex : Bool} {J : Nat → Nat → Int64} {w : Bool} (I : Nat → Nat → Int32) (x1 : Int32)  (hok : ok_X11_when I x1) : Cx k mX11_when 5 [.ref (ka k 65), .int x1] (81, ex, I, J, Pw w) (some (.int (f_X11_when I x1))) (81, ex, m_X11_when I x1, J, Pw w) := by
  refine Ct.of rfl [some (.ref (ka k 65)), some (.int x1), none, none] rfl rfl (Nat.le_of_ble_eq_true rfl) ?_
  rw [ok_X11_when, opv_eq] at hok
  refine g_aload_n0 rfl d_X11_when_0 ?_
  refine g_callV0 (c_X11_good I ) w_X11_good l_X11_168 d_X11_when_1 rfl (Nat.le_of_ble_eq_true rfl) rfl rfl (Nat.le_of_ble_eq_true rfl) ⟨Nat.le_of_ble_eq_true rfl, Nat.le_of_ble_eq_true rfl⟩ ⟨Nat.zero_le _, Nat.zero_le _⟩ ⟨rfl, rfl⟩ ?_
  refine g_aload_n0 rfl d_X11_when_4 ?_
  refine g_iload_n1 rfl d_X11_when_5 ?_
  refine g_iconst 0 d_X11_when_6 (by decide) ?_
  refine g_iconst 3 d_X11_when_7 (by decide) ?_
  refine g_callV1 (c_X11_why (m_X11_good I) x1 0 3) w_X11_why l_X11_295 d_X11_when_8 rfl (Nat.le_of_ble_eq_true rfl) rfl rfl (Nat.le_of_ble_eq_true rfl) ⟨Nat.le_of_ble_eq_true rfl, Nat.le_of_ble_eq_true rfl⟩ ⟨Nat.zero_le _, Nat.zero_le _⟩ ⟨rfl, rfl⟩ ?_
  refine g_isn2 rfl d_X11_when_11 ?_
  refine g_iload_n2 rfl d_X11_when_12 ?_
  refine g_if_eq 22 d_X11_when_13 (by decide) (fun h3 => ?_) (fun h3 => ?_)
  · skip
    rw [if_pos h3] at hok
    refine g_aload_n0 rfl d_X11_when_22 ?_
    obtain ⟨ho1, hok⟩ := hok
    refine g_callV0 (c_X11_begin (m_X11_good I)  ho1) w_X11_begin l_X11_285 d_X11_when_23 rfl (Nat.le_of_ble_eq_true rfl) rfl rfl (Nat.le_of_ble_eq_true rfl) ⟨Nat.le_of_ble_eq_true rfl, Nat.le_of_ble_eq_true rfl⟩ ⟨Nat.zero_le _, Nat.zero_le _⟩ ⟨rfl, rfl⟩ ?_
    refine g_iconst 0 d_X11_when_26 (by decide) ?_
    refine g_isn3 rfl d_X11_when_27 ?_
    exact k_lp_X11_when_28 x1 (f_X11_why (m_X11_good I) x1 0 3) _ 0 (m_X11_begin (m_X11_good I)) (Nat.lt_succ_self _) hok ⟨by simp only [f_X11_when, m_X11_when, if_pos h3, opv_eq, if_true, if_false, Bool.false_eq_true, reduceCtorEq, b2i_t, b2i_f], by simp only [f_X11_when, m_X11_when, if_pos h3, opv_eq, if_true, if_false, Bool.false_eq_true, reduceCtorEq, b2i_t, b2i_f]⟩
  · skip
    refine g_aload_n0 rfl d_X11_when_16 ?_
    refine g_iload_n2 rfl d_X11_when_17 ?_
    refine g_callV1 (c_X11_no (m_X11_good I) (f_X11_why (m_X11_good I) x1 0 3)) w_X11_no l_X11_171 d_X11_when_18 rfl (Nat.le_of_ble_eq_true rfl) rfl rfl (Nat.le_of_ble_eq_true rfl) ⟨Nat.le_of_ble_eq_true rfl, Nat.le_of_ble_eq_true rfl⟩ ⟨Nat.zero_le _, Nat.zero_le _⟩ ⟨rfl, rfl⟩ ?_
    exact g_iret rfl d_X11_when_21 ⟨by simp only [f_X11_when, m_X11_when, if_neg h3, opv_eq, if_true, if_false, Bool.false_eq_true, reduceCtorEq, b2i_t, b2i_f], by simp only [f_X11_when, m_X11_when, if_neg h3, opv_eq, if_true, if_false, Bool.false_eq_true, reduceCtorEq, b2i_t, b2i_f]⟩ (Nat.le_refl _) (Nat.le_refl _)
noncomputable def lp_X11_round_19  : Nat → Int32 → (Nat → Nat → Int32) → Int32 × (Nat → Nat → Int32)
  | 0, l1, I1 => (l1, I1)
  | n + 1, l1, I1 => (if 1919 ≤ l1 then (l1, I1) else (lp_X11_round_19  n (l1 + 1) (va_up I1 74 (upd (I1 74) l1.toNatClampNeg 0))))
def oklp_X11_round_19  : Nat → Int32 → (Nat → Nat → Int32) → Prop
  | 0, l1, I1 => True
  | n + 1, l1, I1 => (if 1919 ≤ l1 then True else (vp_in l1 (sz 74) ∧ oklp_X11_round_19  n (l1 + 1) (va_up I1 74 (upd (I1 74) l1.toNatClampNeg 0))))
set_option maxHeartbeats 800000 in
set_option maxRecDepth 4000 in
theorem k_lp_X11_round_19 {k : KT} {ex : Bool} {J : Nat → Nat → Int64} {w : Bool}  {F : FinT} : ∀ (n : Nat) (l1 : Int32) (I1 : (Nat → Nat → Int32)), mu_up 1919 l1 < n → oklp_X11_round_19  n l1 I1 → G k mX11_round (roomOf 5 0 0) F 0 0 39 [some (.ref (ka k 65)), some (.int ((lp_X11_round_19  n l1 I1).1)), none] [] (81, ex, (lp_X11_round_19  n l1 I1).2, J, Pw w) → G k mX11_round (roomOf 5 0 0) F 0 0 19 [some (.ref (ka k 65)), some (.int l1), none] [] (81, ex, I1, J, Pw w) := by
  intro n
  induction n with
  | zero => intro l1 I1 hmu hok hj; exact absurd hmu (Nat.not_lt_zero _)
  | succ n ih =>
    intro l1 I1 hmu hok hj
    rw [oklp_X11_round_19] at hok
    refine g_iload_n1 rfl d_X11_round_19 ?_
    refine g_sipush 1919 d_X11_round_20 (by decide) ?_
    refine g_icmp_ge 39 d_X11_round_23 (by decide) (fun h1 => ?_) (fun h1 => ?_)
    · skip
      (try simp only [lp_X11_round_19, if_pos h1, opv_eq, if_true, if_false, Bool.false_eq_true, reduceCtorEq, b2i_t, b2i_f] at hj); exact hj
    · skip
      rw [if_neg h1] at hok
      refine g_aload_n0 rfl d_X11_round_26 ?_
      refine g_getP (b := 74) f_X11_38 d_X11_round_27 rfl (Nat.le_of_ble_eq_true rfl) rfl rfl ?_
      refine g_iload_n1 rfl d_X11_round_30 ?_
      refine g_iconst 0 d_X11_round_31 (by decide) ?_
      obtain ⟨ho1, hok⟩ := hok
      refine g_iast d_X11_round_32 rfl (Nat.le_of_ble_eq_true rfl) ho1 ?_
      refine g_ic1 (l1 + 1) rfl rfl d_X11_round_33 ?_
      refine g_goto 19 d_X11_round_36 (by decide) ?_
      exact ih (l1 + 1) (va_up I1 74 (upd (I1 74) l1.toNatClampNeg 0)) (Nat.lt_of_lt_of_le (mu_up_lt h1) (Nat.le_of_lt_succ hmu)) (by (try simp only [if_neg h1, opv_eq, if_true, if_false, Bool.false_eq_true, reduceCtorEq, b2i_t, b2i_f] at hok); exact hok) (by (try simp only [lp_X11_round_19, if_neg h1, opv_eq, if_true, if_false, Bool.false_eq_true, reduceCtorEq, b2i_t, b2i_f] at hj); exact hj)
noncomputable def u0_X11_round (I : Nat → Nat → Int32) : Nat → Nat → Int32 := opv (m_X11_begin ((lp_X11_round_19  (mu_up 1919 0 + 1) 0 (m_X11_good I)).2))
noncomputable def lp_X11_round_45  : Nat → Int32 → (Nat → Nat → Int32) → Int32 × (Nat → Nat → Int32)
  | 0, l1, I1 => (0, I1)
  | n + 1, l1, I1 => (if ((m_X11_dayOf I1 73) 74 ((101 * (((m_X11_dayOf I1 73) 73 0) + 9)) + ((m_X11_dayOf I1 73) 73 1)).toNatClampNeg) ≤ 0 then (lp_X11_round_45  n (l1 + 1) (va_up (m_X11_dayOf I1 73) 74 (upd ((m_X11_dayOf I1 73) 74) ((101 * (((m_X11_dayOf I1 73) 73 0) + 9)) + ((m_X11_dayOf I1 73) 73 1)).toNatClampNeg (l1 + 1)))) else (((10000 * (l1 + 1)) + (l1 + 1)) - ((m_X11_dayOf I1 73) 74 ((101 * (((m_X11_dayOf I1 73) 73 0) + 9)) + ((m_X11_dayOf I1 73) 73 1)).toNatClampNeg), (m_X11_dayOf I1 73)))
def oklp_X11_round_45  : Nat → Int32 → (Nat → Nat → Int32) → Prop
  | 0, l1, I1 => False
  | n + 1, l1, I1 => (ok_X11_dayOf I1 73 ∧ (vp_in ((101 * (((m_X11_dayOf I1 73) 73 0) + 9)) + ((m_X11_dayOf I1 73) 73 1)) (sz 74) ∧ (if ((m_X11_dayOf I1 73) 74 ((101 * (((m_X11_dayOf I1 73) 73 0) + 9)) + ((m_X11_dayOf I1 73) 73 1)).toNatClampNeg) ≤ 0 then (vp_in ((101 * (((m_X11_dayOf I1 73) 73 0) + 9)) + ((m_X11_dayOf I1 73) 73 1)) (sz 74) ∧ oklp_X11_round_45  n (l1 + 1) (va_up (m_X11_dayOf I1 73) 74 (upd ((m_X11_dayOf I1 73) 74) ((101 * (((m_X11_dayOf I1 73) 73 0) + 9)) + ((m_X11_dayOf I1 73) 73 1)).toNatClampNeg (l1 + 1)))) else vp_in ((101 * (((m_X11_dayOf I1 73) 73 0) + 9)) + ((m_X11_dayOf I1 73) 73 1)) (sz 74))))
set_option maxHeartbeats 800000 in
set_option maxRecDepth 4000 in
theorem k_lp_X11_round_45 {k : KT} {ex : Bool} {J : Nat → Nat → Int64} {w : Bool}  {Q : Option Value → MM → Prop} : ∀ (n : Nat) (l1 : Int32) (I1 : (Nat → Nat → Int32)), oklp_X11_round_45  n l1 I1 → Q (some (.int (lp_X11_round_45  n l1 I1).1)) (81, ex, (lp_X11_round_45  n l1 I1).2, J, Pw w) → G k mX11_round (roomOf 5 0 0) (FinM k Q 0 0) 0 0 45 [some (.ref (ka k 65)), some (.int l1), none] [] (81, ex, I1, J, Pw w) := by
  intro n
  induction n with
  | zero => intro l1 I1 hok hq; exact absurd hok (by rw [oklp_X11_round_45]; exact id)
  | succ n ih =>
    intro l1 I1 hok hq
    rw [oklp_X11_round_45] at hok
    refine g_aload_n0 rfl d_X11_round_45 ?_
    refine g_aload_n0 rfl d_X11_round_46 ?_
    refine g_getP (b := 73) f_X11_35 d_X11_round_47 rfl (Nat.le_of_ble_eq_true rfl) rfl rfl ?_
    obtain ⟨ho3, hok⟩ := hok
    refine g_callV0 (c_X11_dayOf I1 73 rfl (by decide) ho3) w_X11_dayOf l_X11_288 d_X11_round_50 rfl (Nat.le_of_ble_eq_true rfl) rfl rfl (Nat.le_of_ble_eq_true rfl) ⟨Nat.le_of_ble_eq_true rfl, Nat.le_of_ble_eq_true rfl⟩ ⟨Nat.zero_le _, Nat.zero_le _⟩ ⟨rfl, rfl⟩ ?_
    refine g_ic1 (l1 + 1) rfl rfl d_X11_round_53 ?_
    refine g_bipush 101 d_X11_round_56 (by decide) ?_
    refine g_aload_n0 rfl d_X11_round_58 ?_
    refine g_getP (b := 73) f_X11_35 d_X11_round_59 rfl (Nat.le_of_ble_eq_true rfl) rfl rfl ?_
    refine g_iconst 0 d_X11_round_62 (by decide) ?_
    refine g_ialdv ((m_X11_dayOf I1 73) 73 0) rfl d_X11_round_63 rfl (Nat.le_of_ble_eq_true rfl) (vp_c (by decide +kernel)) ?_
    refine g_bipush 9 d_X11_round_64 (by decide) ?_
    refine g_iadd d_X11_round_66 ?_
    refine g_imul d_X11_round_67 ?_
    refine g_aload_n0 rfl d_X11_round_68 ?_
    refine g_getP (b := 73) f_X11_35 d_X11_round_69 rfl (Nat.le_of_ble_eq_true rfl) rfl rfl ?_
    refine g_iconst 1 d_X11_round_72 (by decide) ?_
    refine g_ialdv ((m_X11_dayOf I1 73) 73 1) rfl d_X11_round_73 rfl (Nat.le_of_ble_eq_true rfl) (vp_c (by decide +kernel)) ?_
    refine g_iadd d_X11_round_74 ?_
    refine g_isn2 rfl d_X11_round_75 ?_
    refine g_aload_n0 rfl d_X11_round_76 ?_
    refine g_getP (b := 74) f_X11_38 d_X11_round_77 rfl (Nat.le_of_ble_eq_true rfl) rfl rfl ?_
    refine g_iload_n2 rfl d_X11_round_80 ?_
    obtain ⟨ho4, hok⟩ := hok
    refine g_iald d_X11_round_81 rfl (Nat.le_of_ble_eq_true rfl) ho4 ?_
    refine g_if_le 100 d_X11_round_82 (by decide) (fun h2 => ?_) (fun h2 => ?_)
    · skip
      rw [if_pos h2] at hok
      refine g_aload_n0 rfl d_X11_round_100 ?_
      refine g_getP (b := 74) f_X11_38 d_X11_round_101 rfl (Nat.le_of_ble_eq_true rfl) rfl rfl ?_
      refine g_iload_n2 rfl d_X11_round_104 ?_
      refine g_iload_n1 rfl d_X11_round_105 ?_
      obtain ⟨ho6, hok⟩ := hok
      refine g_iast d_X11_round_106 rfl (Nat.le_of_ble_eq_true rfl) ho6 ?_
      refine g_goto 45 d_X11_round_107 (by decide) ?_
      refine G.weak (wks (wks (wkn wk0))) ?_; exact ih (l1 + 1) (va_up (m_X11_dayOf I1 73) 74 (upd ((m_X11_dayOf I1 73) 74) ((101 * (((m_X11_dayOf I1 73) 73 0) + 9)) + ((m_X11_dayOf I1 73) 73 1)).toNatClampNeg (l1 + 1))) (by (try simp only [if_pos h2, opv_eq, if_true, if_false, Bool.false_eq_true, reduceCtorEq, b2i_t, b2i_f] at hok); exact hok) (by (try simp only [lp_X11_round_45, if_pos h2, opv_eq, if_true, if_false, Bool.false_eq_true, reduceCtorEq, b2i_t, b2i_f] at hq); exact hq)
    · skip
      rw [if_neg h2] at hok
      refine g_sipush 10000 d_X11_round_85 (by decide) ?_
      refine g_iload_n1 rfl d_X11_round_88 ?_
      refine g_imul d_X11_round_89 ?_
      refine g_iload_n1 rfl d_X11_round_90 ?_
      refine g_iadd d_X11_round_91 ?_
      refine g_aload_n0 rfl d_X11_round_92 ?_
      refine g_getP (b := 74) f_X11_38 d_X11_round_93 rfl (Nat.le_of_ble_eq_true rfl) rfl rfl ?_
      refine g_iload_n2 rfl d_X11_round_96 ?_
      have ho7 := hok
      refine g_iald d_X11_round_97 rfl (Nat.le_of_ble_eq_true rfl) ho7 ?_
      refine g_isub d_X11_round_98 ?_
      exact g_iret rfl d_X11_round_99 (by (try simp only [lp_X11_round_45, if_neg h2, opv_eq, if_true, if_false, Bool.false_eq_true, reduceCtorEq, b2i_t, b2i_f] at hq); exact hq) (Nat.le_refl _) (Nat.le_refl _)
noncomputable def f_X11_round (I : Nat → Nat → Int32)  : Int32 := opv (if ((m_X11_good I) 65 14) = 0 then f_X11_no (m_X11_good I) 1 else (lp_X11_round_45  (opq 3000) 0 (u0_X11_round I)).1)
noncomputable def m_X11_round (I : Nat → Nat → Int32)  : Nat → Nat → Int32 := opv (if ((m_X11_good I) 65 14) = 0 then (m_X11_no (m_X11_good I) 1) else (lp_X11_round_45  (opq 3000) 0 (u0_X11_round I)).2)
noncomputable def ok_X11_round (I : Nat → Nat → Int32)  : Prop := opv (if ((m_X11_good I) 65 14) = 0 then True else (oklp_X11_round_19  (mu_up 1919 0 + 1) 0 (m_X11_good I) ∧ (ok_X11_begin ((lp_X11_round_19  (mu_up 1919 0 + 1) 0 (m_X11_good I)).2) ∧ oklp_X11_round_45  (opq 3000) 0 (u0_X11_round I))))
set_option maxHeartbeats 800000 in
set_option maxRecDepth 4000 in
theorem c_X11_round {k : KT} {ex : Bool} {J : Nat → Nat → Int64} {w : Bool} (I : Nat → Nat → Int32)   (hok : ok_X11_round I) : Cx k mX11_round 5 [.ref (ka k 65)] (81, ex, I, J, Pw w) (some (.int (f_X11_round I))) (81, ex, m_X11_round I, J, Pw w) := by
  refine Ct.of rfl [some (.ref (ka k 65)), none, none] rfl rfl (Nat.le_of_ble_eq_true rfl) ?_
  rw [ok_X11_round, opv_eq] at hok
  refine g_aload_n0 rfl d_X11_round_0 ?_
  refine g_callV0 (c_X11_good I ) w_X11_good l_X11_168 d_X11_round_1 rfl (Nat.le_of_ble_eq_true rfl) rfl rfl (Nat.le_of_ble_eq_true rfl) ⟨Nat.le_of_ble_eq_true rfl, Nat.le_of_ble_eq_true rfl⟩ ⟨Nat.zero_le _, Nat.zero_le _⟩ ⟨rfl, rfl⟩ ?_
  refine g_aload_n0 rfl d_X11_round_4 ?_
  refine g_getI f_X11_185 d_X11_round_5 rfl (Nat.le_of_ble_eq_true rfl) rfl ?_
  refine g_if_ne 17 d_X11_round_8 (by decide) (fun h3 => ?_) (fun h3 => ?_)
  · skip
    rw [if_neg h3] at hok
    refine g_iconst 0 d_X11_round_17 (by decide) ?_
    refine g_isn1 rfl d_X11_round_18 ?_
    obtain ⟨hol, hok⟩ := hok
    refine k_lp_X11_round_19  _ 0 (m_X11_good I) (Nat.lt_succ_self _) hol ?_
    refine g_aload_n0 rfl d_X11_round_39 ?_
    obtain ⟨ho2, hok⟩ := hok
    refine g_callV0 (c_X11_begin ((lp_X11_round_19  (mu_up 1919 0 + 1) 0 (m_X11_good I)).2)  ho2) w_X11_begin l_X11_285 d_X11_round_40 rfl (Nat.le_of_ble_eq_true rfl) rfl rfl (Nat.le_of_ble_eq_true rfl) ⟨Nat.le_of_ble_eq_true rfl, Nat.le_of_ble_eq_true rfl⟩ ⟨Nat.zero_le _, Nat.zero_le _⟩ ⟨rfl, rfl⟩ ?_
    refine G.toI (I' := (u0_X11_round I)) (by rw [u0_X11_round, opv_eq]) ?_
    refine g_iconst 0 d_X11_round_43 (by decide) ?_
    refine g_isn1 rfl d_X11_round_44 ?_
    exact k_lp_X11_round_45  _ 0 (u0_X11_round I) hok ⟨by simp only [f_X11_round, m_X11_round, if_neg h3, opv_eq, if_true, if_false, Bool.false_eq_true, reduceCtorEq, b2i_t, b2i_f], by simp only [f_X11_round, m_X11_round, if_neg h3, opv_eq, if_true, if_false, Bool.false_eq_true, reduceCtorEq, b2i_t, b2i_f]⟩
  · skip
    refine g_aload_n0 rfl d_X11_round_11 ?_
    refine g_iconst 1 d_X11_round_12 (by decide) ?_
    refine g_callV1 (c_X11_no (m_X11_good I) 1) w_X11_no l_X11_171 d_X11_round_13 rfl (Nat.le_of_ble_eq_true rfl) rfl rfl (Nat.le_of_ble_eq_true rfl) ⟨Nat.le_of_ble_eq_true rfl, Nat.le_of_ble_eq_true rfl⟩ ⟨Nat.zero_le _, Nat.zero_le _⟩ ⟨rfl, rfl⟩ ?_
    exact g_iret rfl d_X11_round_16 ⟨by simp only [f_X11_round, m_X11_round, if_pos h3, opv_eq, if_true, if_false, Bool.false_eq_true, reduceCtorEq, b2i_t, b2i_f], by simp only [f_X11_round, m_X11_round, if_pos h3, opv_eq, if_true, if_false, Bool.false_eq_true, reduceCtorEq, b2i_t, b2i_f]⟩ (Nat.le_refl _) (Nat.le_refl _)
noncomputable def f_X11_kept (I : Nat → Nat → Int32) (x1 : Int32) : Int32 := opv (if (f_X11_why (m_X11_good I) x1 0 60) = 0 then f_X11_worthsOf (m_X11_goOver (m_X11_good I) x1) 73 ((m_X11_goOver (m_X11_good I) x1) 70 4) (((m_X11_goOver (m_X11_good I) x1) 70 4) + x1) else f_X11_no (m_X11_good I) (f_X11_why (m_X11_good I) x1 0 60))
noncomputable def m_X11_kept (I : Nat → Nat → Int32) (x1 : Int32) : Nat → Nat → Int32 := opv (if (f_X11_why (m_X11_good I) x1 0 60) = 0 then (m_X11_goOver (m_X11_good I) x1) else (m_X11_no (m_X11_good I) (f_X11_why (m_X11_good I) x1 0 60)))
noncomputable def ok_X11_kept (I : Nat → Nat → Int32) (x1 : Int32) : Prop := opv (if (f_X11_why (m_X11_good I) x1 0 60) = 0 then (ok_X11_goOver (m_X11_good I) x1 ∧ ok_X11_worthsOf (m_X11_goOver (m_X11_good I) x1) 73 ((m_X11_goOver (m_X11_good I) x1) 70 4) (((m_X11_goOver (m_X11_good I) x1) 70 4) + x1)) else True)
set_option maxHeartbeats 800000 in
set_option maxRecDepth 4000 in
theorem c_X11_kept {k : KT} {ex : Bool} {J : Nat → Nat → Int64} {w : Bool} (I : Nat → Nat → Int32) (x1 : Int32)  (hok : ok_X11_kept I x1) : Cx k mX11_kept 6 [.ref (ka k 65), .int x1] (81, ex, I, J, Pw w) (some (.int (f_X11_kept I x1))) (81, ex, m_X11_kept I x1, J, Pw w) := by
  refine Ct.of rfl [some (.ref (ka k 65)), some (.int x1), none] rfl rfl (Nat.le_of_ble_eq_true rfl) ?_
  rw [ok_X11_kept, opv_eq] at hok
  refine g_aload_n0 rfl d_X11_kept_0 ?_
  refine g_callV0 (c_X11_good I ) w_X11_good l_X11_168 d_X11_kept_1 rfl (Nat.le_of_ble_eq_true rfl) rfl rfl (Nat.le_of_ble_eq_true rfl) ⟨Nat.le_of_ble_eq_true rfl, Nat.le_of_ble_eq_true rfl⟩ ⟨Nat.zero_le _, Nat.zero_le _⟩ ⟨rfl, rfl⟩ ?_
  refine g_aload_n0 rfl d_X11_kept_4 ?_
  refine g_iload_n1 rfl d_X11_kept_5 ?_
  refine g_iconst 0 d_X11_kept_6 (by decide) ?_
  refine g_bipush 60 d_X11_kept_7 (by decide) ?_
  refine g_callV1 (c_X11_why (m_X11_good I) x1 0 60) w_X11_why l_X11_295 d_X11_kept_9 rfl (Nat.le_of_ble_eq_true rfl) rfl rfl (Nat.le_of_ble_eq_true rfl) ⟨Nat.le_of_ble_eq_true rfl, Nat.le_of_ble_eq_true rfl⟩ ⟨Nat.zero_le _, Nat.zero_le _⟩ ⟨rfl, rfl⟩ ?_
  refine g_isn2 rfl d_X11_kept_12 ?_
  refine g_iload_n2 rfl d_X11_kept_13 ?_
  refine g_if_eq 23 d_X11_kept_14 (by decide) (fun h1 => ?_) (fun h1 => ?_)
  · skip
    rw [if_pos h1] at hok
    refine g_aload_n0 rfl d_X11_kept_23 ?_
    refine g_iload_n1 rfl d_X11_kept_24 ?_
    obtain ⟨ho1, hok⟩ := hok
    refine g_callV0 (c_X11_goOver (m_X11_good I) x1 ho1) w_X11_goOver l_X11_298 d_X11_kept_25 rfl (Nat.le_of_ble_eq_true rfl) rfl rfl (Nat.le_of_ble_eq_true rfl) ⟨Nat.le_of_ble_eq_true rfl, Nat.le_of_ble_eq_true rfl⟩ ⟨Nat.zero_le _, Nat.zero_le _⟩ ⟨rfl, rfl⟩ ?_
    refine g_aload_n0 rfl d_X11_kept_28 ?_
    refine g_aload_n0 rfl d_X11_kept_29 ?_
    refine g_getP (b := 73) f_X11_35 d_X11_kept_30 rfl (Nat.le_of_ble_eq_true rfl) rfl rfl ?_
    refine g_aload_n0 rfl d_X11_kept_33 ?_
    refine g_getP (b := 70) f_X11_26 d_X11_kept_34 rfl (Nat.le_of_ble_eq_true rfl) rfl rfl ?_
    refine g_iconst 4 d_X11_kept_37 (by decide) ?_
    refine g_ialdv ((m_X11_goOver (m_X11_good I) x1) 70 4) rfl d_X11_kept_38 rfl (Nat.le_of_ble_eq_true rfl) (vp_c (by decide +kernel)) ?_
    refine g_aload_n0 rfl d_X11_kept_39 ?_
    refine g_getP (b := 70) f_X11_26 d_X11_kept_40 rfl (Nat.le_of_ble_eq_true rfl) rfl rfl ?_
    refine g_iconst 4 d_X11_kept_43 (by decide) ?_
    refine g_ialdv ((m_X11_goOver (m_X11_good I) x1) 70 4) rfl d_X11_kept_44 rfl (Nat.le_of_ble_eq_true rfl) (vp_c (by decide +kernel)) ?_
    refine g_iload_n1 rfl d_X11_kept_45 ?_
    refine g_iadd d_X11_kept_46 ?_
    have ho2 := hok
    refine g_callV1 (c_X11_worthsOf (m_X11_goOver (m_X11_good I) x1) 73 rfl ((m_X11_goOver (m_X11_good I) x1) 70 4) (((m_X11_goOver (m_X11_good I) x1) 70 4) + x1) ho2) w_X11_worthsOf l_X11_301 d_X11_kept_47 rfl (Nat.le_of_ble_eq_true rfl) rfl rfl (Nat.le_of_ble_eq_true rfl) ⟨Nat.le_of_ble_eq_true rfl, Nat.le_of_ble_eq_true rfl⟩ ⟨Nat.zero_le _, Nat.zero_le _⟩ ⟨rfl, rfl⟩ ?_
    exact g_iret rfl d_X11_kept_50 ⟨by simp only [f_X11_kept, m_X11_kept, if_pos h1, opv_eq, if_true, if_false, Bool.false_eq_true, reduceCtorEq, b2i_t, b2i_f], by simp only [f_X11_kept, m_X11_kept, if_pos h1, opv_eq, if_true, if_false, Bool.false_eq_true, reduceCtorEq, b2i_t, b2i_f]⟩ (Nat.le_refl _) (Nat.le_refl _)
  · skip
    refine g_aload_n0 rfl d_X11_kept_17 ?_
    refine g_iload_n2 rfl d_X11_kept_18 ?_
    refine g_callV1 (c_X11_no (m_X11_good I) (f_X11_why (m_X11_good I) x1 0 60)) w_X11_no l_X11_171 d_X11_kept_19 rfl (Nat.le_of_ble_eq_true rfl) rfl rfl (Nat.le_of_ble_eq_true rfl) ⟨Nat.le_of_ble_eq_true rfl, Nat.le_of_ble_eq_true rfl⟩ ⟨Nat.zero_le _, Nat.zero_le _⟩ ⟨rfl, rfl⟩ ?_
    exact g_iret rfl d_X11_kept_22 ⟨by simp only [f_X11_kept, m_X11_kept, if_neg h1, opv_eq, if_true, if_false, Bool.false_eq_true, reduceCtorEq, b2i_t, b2i_f], by simp only [f_X11_kept, m_X11_kept, if_neg h1, opv_eq, if_true, if_false, Bool.false_eq_true, reduceCtorEq, b2i_t, b2i_f]⟩ (Nat.le_refl _) (Nat.le_refl _)
