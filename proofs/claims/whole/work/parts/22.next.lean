noncomputable def lp_X11_next_5 (I : Nat → Nat → Int32) : Nat → Int32 → Int32
  | 0, l1 => l1
  | n + 1, l1 => (if (f_X11_see I l1) = 32 then (lp_X11_next_5 I n (l1 + 1)) else l1)
def oklp_X11_next_5 (I : Nat → Nat → Int32) : Nat → Int32 → Prop
  | 0, l1 => True
  | n + 1, l1 => (ok_X11_see I l1 ∧ (if (f_X11_see I l1) = 32 then oklp_X11_next_5 I n (l1 + 1) else True))
set_option maxHeartbeats 800000 in
set_option maxRecDepth 4000 in
theorem k_lp_X11_next_5 {k : KT} {ex : Bool} {J : Nat → Nat → Int64} {w : Bool} (I : Nat → Nat → Int32) {F : FinT} : ∀ (n : Nat) (l1 : Int32), mu_up (I 65 3) l1 < n → oklp_X11_next_5 I n l1 → G k mX11_next (roomOf 2 0 0) F 0 0 21 [some (.ref (ka k 65)), some (.int (lp_X11_next_5 I n l1)), none, none] [] (81, ex, I, J, Pw w) → G k mX11_next (roomOf 2 0 0) F 0 0 5 [some (.ref (ka k 65)), some (.int l1), none, none] [] (81, ex, I, J, Pw w) := by
  intro n
  induction n with
  | zero => intro l1 hmu hok hj; exact absurd hmu (Nat.not_lt_zero _)
  | succ n ih =>
    intro l1 hmu hok hj
    rw [oklp_X11_next_5] at hok
    refine g_aload_n0 rfl d_X11_next_5 ?_
    refine g_iload_n1 rfl d_X11_next_6 ?_
    obtain ⟨ho1, hok⟩ := hok
    refine g_callV1 (c_X11_see I l1 ho1) w_X11_see l_X11_75 d_X11_next_7 rfl (Nat.le_of_ble_eq_true rfl) rfl rfl (Nat.le_of_ble_eq_true rfl) ⟨Nat.le_of_ble_eq_true rfl, Nat.le_of_ble_eq_true rfl⟩ ⟨Nat.zero_le _, Nat.zero_le _⟩ ⟨rfl, rfl⟩ ?_
    refine g_bipush 32 d_X11_next_10 (by decide) ?_
    refine g_icmp_ne 21 d_X11_next_12 (by decide) (fun h1 => ?_) (fun h1 => ?_)
    · skip
      (try simp only [lp_X11_next_5, if_neg h1, opv_eq, if_true, if_false, Bool.false_eq_true, reduceCtorEq, b2i_t, b2i_f] at hj); exact hj
    · skip
      rw [if_pos h1] at hok
      refine g_ic1 (l1 + 1) rfl rfl d_X11_next_15 ?_
      refine g_goto 5 d_X11_next_18 (by decide) ?_
      exact ih (l1 + 1) (Nat.lt_of_lt_of_le (mu_up_lt (see_32 h1)) (Nat.le_of_lt_succ hmu)) (by (try simp only [if_pos h1, opv_eq, if_true, if_false, Bool.false_eq_true, reduceCtorEq, b2i_t, b2i_f] at hok); exact hok) (by (try simp only [lp_X11_next_5, if_pos h1, opv_eq, if_true, if_false, Bool.false_eq_true, reduceCtorEq, b2i_t, b2i_f] at hj); exact hj)
noncomputable def u0_X11_next (I : Nat → Nat → Int32) : Int32 := opv (if (f_X11_see (st2 I 65 4 (lp_X11_next_5 I (mu_up (I 65 3) (I 65 5) + 1) (I 65 5))) (lp_X11_next_5 I (mu_up (I 65 3) (I 65 5) + 1) (I 65 5))) = 59 then f_X11_see (st2 I 65 4 (lp_X11_next_5 I (mu_up (I 65 3) (I 65 5) + 1) (I 65 5))) (lp_X11_next_5 I (mu_up (I 65 3) (I 65 5) + 1) (I 65 5)) else 1)
noncomputable def u1_X11_next (l1 : Int32) (l3 : Int32) (I1 : Nat → Nat → Int32) : Nat → Nat → Int32 := opv (if 3 ≤ l3 then I1 else (st2 I1 65 7 (((10 * (I1 65 7)) + (f_X11_see I1 l1)) - 48)))
noncomputable def lp_X11_next_152 (l2 : Int32) : Nat → Int32 → Int32 → (Nat → Nat → Int32) → Int32 × Int32 × (Nat → Nat → Int32)
  | 0, l1, l3, I1 => (l1, l3, I1)
  | n + 1, l1, l3, I1 => (if (f_X11_isDigit I1 (f_X11_see I1 l1)) = true then (lp_X11_next_152 l2 n (l1 + 1) (l3 + 1) (u1_X11_next l1 l3 I1)) else (l1, l3, I1))
def oklp_X11_next_152 (l2 : Int32) : Nat → Int32 → Int32 → (Nat → Nat → Int32) → Prop
  | 0, l1, l3, I1 => True
  | n + 1, l1, l3, I1 => (ok_X11_see I1 l1 ∧ (if (f_X11_isDigit I1 (f_X11_see I1 l1)) = true then ((if 3 ≤ l3 then True else ok_X11_see I1 l1) ∧ oklp_X11_next_152 l2 n (l1 + 1) (l3 + 1) (u1_X11_next l1 l3 I1)) else True))
set_option maxHeartbeats 800000 in
set_option maxRecDepth 4000 in
theorem k_lp_X11_next_152 {k : KT} {ex : Bool} {J : Nat → Nat → Int64} {w : Bool} (l2 : Int32) {F : FinT} : ∀ (n : Nat) (l1 : Int32) (l3 : Int32) (I1 : (Nat → Nat → Int32)), mu_up (I1 65 3) l1 < n → oklp_X11_next_152 l2 n l1 l3 I1 → G k mX11_next (roomOf 2 0 0) F 0 0 197 [some (.ref (ka k 65)), some (.int ((lp_X11_next_152 l2 n l1 l3 I1).1)), some (.int l2), some (.int ((lp_X11_next_152 l2 n l1 l3 I1).2.1))] [] (81, ex, (lp_X11_next_152 l2 n l1 l3 I1).2.2, J, Pw w) → G k mX11_next (roomOf 2 0 0) F 0 0 152 [some (.ref (ka k 65)), some (.int l1), some (.int l2), some (.int l3)] [] (81, ex, I1, J, Pw w) := by
  intro n
  induction n with
  | zero => intro l1 l3 I1 hmu hok hj; exact absurd hmu (Nat.not_lt_zero _)
  | succ n ih =>
    intro l1 l3 I1 hmu hok hj
    rw [oklp_X11_next_152] at hok
    refine g_aload_n0 rfl d_X11_next_152 ?_
    refine g_iload_n1 rfl d_X11_next_153 ?_
    obtain ⟨ho3, hok⟩ := hok
    refine g_callV1 (c_X11_see I1 l1 ho3) w_X11_see l_X11_75 d_X11_next_154 rfl (Nat.le_of_ble_eq_true rfl) rfl rfl (Nat.le_of_ble_eq_true rfl) ⟨Nat.le_of_ble_eq_true rfl, Nat.le_of_ble_eq_true rfl⟩ ⟨Nat.zero_le _, Nat.zero_le _⟩ ⟨rfl, rfl⟩ ?_
    refine g_callS1 (c_X11_isDigit I1 (f_X11_see I1 l1)) w_X11_isDigit l_X11_95 d_X11_next_157 rfl rfl (Nat.le_of_ble_eq_true rfl) ⟨Nat.le_of_ble_eq_true rfl, Nat.le_of_ble_eq_true rfl⟩ ⟨Nat.zero_le _, Nat.zero_le _⟩ ⟨rfl, rfl⟩ ?_
    refine g_ifz 197 d_X11_next_160 (by decide) (fun h2 => ?_) (fun h2 => ?_)
    · skip
      (try simp only [lp_X11_next_152, if_neg (nb h2), opv_eq, if_true, if_false, Bool.false_eq_true, reduceCtorEq, b2i_t, b2i_f] at hj); exact hj
    · skip
      rw [if_pos h2] at hok
      refine g_iload_n3 rfl d_X11_next_163 ?_
      refine g_iconst 3 d_X11_next_164 (by decide) ?_
      obtain ⟨hoa, hob⟩ := hok
      refine g_cut (pc' := 188) (vs' := [some (.ref (ka k 65)), some (.int l1), some (.int l2), some (.int l3)]) (st' := []) (M' := (81, ex, (u1_X11_next l1 l3 I1), J, Pw w)) (fun hj => ?_) ?_
      · skip
        refine g_icmp_ge 188 d_X11_next_165 (by decide) (fun h3 => ?_) (fun h3 => ?_)
        · skip
          (try simp only [if_pos h3, opv_eq, if_true, if_false, Bool.false_eq_true, reduceCtorEq, b2i_t, b2i_f, u1_X11_next] at hj); exact hj
        · skip
          rw [if_neg h3] at hoa
          refine g_aload_n0 rfl d_X11_next_168 ?_
          refine g_bipush 10 d_X11_next_169 (by decide) ?_
          refine g_aload_n0 rfl d_X11_next_171 ?_
          refine g_getI f_X11_85 d_X11_next_172 rfl (Nat.le_of_ble_eq_true rfl) rfl ?_
          refine g_imul d_X11_next_175 ?_
          refine g_aload_n0 rfl d_X11_next_176 ?_
          refine g_iload_n1 rfl d_X11_next_177 ?_
          have ho4 := hoa
          refine g_callV1 (c_X11_see I1 l1 ho4) w_X11_see l_X11_75 d_X11_next_178 rfl (Nat.le_of_ble_eq_true rfl) rfl rfl (Nat.le_of_ble_eq_true rfl) ⟨Nat.le_of_ble_eq_true rfl, Nat.le_of_ble_eq_true rfl⟩ ⟨Nat.zero_le _, Nat.zero_le _⟩ ⟨rfl, rfl⟩ ?_
          refine g_iadd d_X11_next_181 ?_
          refine g_bipush 48 d_X11_next_182 (by decide) ?_
          refine g_isub d_X11_next_184 ?_
          refine g_putI f_X11_85 d_X11_next_185 rfl (Nat.le_of_ble_eq_true rfl) rfl rfl rfl ?_
          (try simp only [if_neg h3, opv_eq, if_true, if_false, Bool.false_eq_true, reduceCtorEq, b2i_t, b2i_f, u1_X11_next] at hj); exact hj
      · skip
        refine g_ic3 (l3 + 1) rfl rfl d_X11_next_188 ?_
        refine g_ic1 (l1 + 1) rfl rfl d_X11_next_191 ?_
        refine g_goto 152 d_X11_next_194 (by decide) ?_
        exact ih (l1 + 1) (l3 + 1) (u1_X11_next l1 l3 I1) (Nat.lt_of_lt_of_le (by simp only [u0_X11_next, u1_X11_next, opv_eq]; (split <;> simpa [st2, va_up] using mu_up_lt (see_dg h2))) (Nat.le_of_lt_succ hmu)) (by (try simp only [if_pos h2, opv_eq, if_true, if_false, Bool.false_eq_true, reduceCtorEq, b2i_t, b2i_f] at hob); exact hob) (by (try simp only [lp_X11_next_152, if_pos h2, opv_eq, if_true, if_false, Bool.false_eq_true, reduceCtorEq, b2i_t, b2i_f] at hj); exact hj)
noncomputable def u2_X11_next (I : Nat → Nat → Int32) : Int32 := opv (if ((lp_X11_next_152 (f_X11_see (st2 I 65 4 (lp_X11_next_5 I (mu_up (I 65 3) (I 65 5) + 1) (I 65 5))) (lp_X11_next_5 I (mu_up (I 65 3) (I 65 5) + 1) (I 65 5))) (mu_up ((st2 (st2 (st2 I 65 4 (lp_X11_next_5 I (mu_up (I 65 3) (I 65 5) + 1) (I 65 5))) 65 8 0) 65 7 0) 65 3) (lp_X11_next_5 I (mu_up (I 65 3) (I 65 5) + 1) (I 65 5)) + 1) (lp_X11_next_5 I (mu_up (I 65 3) (I 65 5) + 1) (I 65 5)) 0 (st2 (st2 (st2 I 65 4 (lp_X11_next_5 I (mu_up (I 65 3) (I 65 5) + 1) (I 65 5))) 65 8 0) 65 7 0)).2.1) ≤ 3 then 3 else 1)
noncomputable def u3_X11_next (l1 : Int32) (I1 : Nat → Nat → Int32) : Nat → Nat → Int32 := opv (if 8 ≤ (I1 65 8) then I1 else (va_up I1 67 (upd (I1 67) (I1 65 8).toNatClampNeg (f_X11_see I1 l1))))
noncomputable def lp_X11_next_67 (l2 : Int32) : Nat → Int32 → (Nat → Nat → Int32) → Int32 × (Nat → Nat → Int32)
  | 0, l1, I1 => (l1, I1)
  | n + 1, l1, I1 => (if (f_X11_isSmall I1 (f_X11_see I1 l1)) = true then (lp_X11_next_67 l2 n (l1 + 1) (st2 (u3_X11_next l1 I1) 65 8 (((u3_X11_next l1 I1) 65 8) + 1))) else (l1, I1))
def oklp_X11_next_67 (l2 : Int32) : Nat → Int32 → (Nat → Nat → Int32) → Prop
  | 0, l1, I1 => True
  | n + 1, l1, I1 => (ok_X11_see I1 l1 ∧ (if (f_X11_isSmall I1 (f_X11_see I1 l1)) = true then ((if 8 ≤ (I1 65 8) then True else (ok_X11_see I1 l1 ∧ vp_in (I1 65 8) (sz 67))) ∧ oklp_X11_next_67 l2 n (l1 + 1) (st2 (u3_X11_next l1 I1) 65 8 (((u3_X11_next l1 I1) 65 8) + 1))) else True))
set_option maxHeartbeats 800000 in
set_option maxRecDepth 4000 in
theorem k_lp_X11_next_67 {k : KT} {ex : Bool} {J : Nat → Nat → Int64} {w : Bool} (l2 : Int32) {F : FinT} : ∀ (n : Nat) (l1 : Int32) (I1 : (Nat → Nat → Int32)), mu_up (I1 65 3) l1 < n → oklp_X11_next_67 l2 n l1 I1 → G k mX11_next (roomOf 2 0 0) F 0 0 117 [some (.ref (ka k 65)), some (.int ((lp_X11_next_67 l2 n l1 I1).1)), some (.int l2), none] [] (81, ex, (lp_X11_next_67 l2 n l1 I1).2, J, Pw w) → G k mX11_next (roomOf 2 0 0) F 0 0 67 [some (.ref (ka k 65)), some (.int l1), some (.int l2), none] [] (81, ex, I1, J, Pw w) := by
  intro n
  induction n with
  | zero => intro l1 I1 hmu hok hj; exact absurd hmu (Nat.not_lt_zero _)
  | succ n ih =>
    intro l1 I1 hmu hok hj
    rw [oklp_X11_next_67] at hok
    refine g_aload_n0 rfl d_X11_next_67 ?_
    refine g_iload_n1 rfl d_X11_next_68 ?_
    obtain ⟨ho5, hok⟩ := hok
    refine g_callV1 (c_X11_see I1 l1 ho5) w_X11_see l_X11_75 d_X11_next_69 rfl (Nat.le_of_ble_eq_true rfl) rfl rfl (Nat.le_of_ble_eq_true rfl) ⟨Nat.le_of_ble_eq_true rfl, Nat.le_of_ble_eq_true rfl⟩ ⟨Nat.zero_le _, Nat.zero_le _⟩ ⟨rfl, rfl⟩ ?_
    refine g_callS1 (c_X11_isSmall I1 (f_X11_see I1 l1)) w_X11_isSmall l_X11_91 d_X11_next_72 rfl rfl (Nat.le_of_ble_eq_true rfl) ⟨Nat.le_of_ble_eq_true rfl, Nat.le_of_ble_eq_true rfl⟩ ⟨Nat.zero_le _, Nat.zero_le _⟩ ⟨rfl, rfl⟩ ?_
    refine g_ifz 117 d_X11_next_75 (by decide) (fun h4 => ?_) (fun h4 => ?_)
    · skip
      (try simp only [lp_X11_next_67, if_neg (nb h4), opv_eq, if_true, if_false, Bool.false_eq_true, reduceCtorEq, b2i_t, b2i_f] at hj); exact hj
    · skip
      rw [if_pos h4] at hok
      refine g_aload_n0 rfl d_X11_next_78 ?_
      refine g_getI f_X11_82 d_X11_next_79 rfl (Nat.le_of_ble_eq_true rfl) rfl ?_
      refine g_bipush 8 d_X11_next_82 (by decide) ?_
      obtain ⟨hoa, hob⟩ := hok
      refine g_cut (pc' := 101) (vs' := [some (.ref (ka k 65)), some (.int l1), some (.int l2), none]) (st' := []) (M' := (81, ex, (u3_X11_next l1 I1), J, Pw w)) (fun hj => ?_) ?_
      · skip
        refine g_icmp_ge 101 d_X11_next_84 (by decide) (fun h5 => ?_) (fun h5 => ?_)
        · skip
          (try simp only [if_pos h5, opv_eq, if_true, if_false, Bool.false_eq_true, reduceCtorEq, b2i_t, b2i_f, u3_X11_next] at hj); exact hj
        · skip
          rw [if_neg h5] at hoa
          refine g_aload_n0 rfl d_X11_next_87 ?_
          refine g_getP (b := 67) f_X11_17 d_X11_next_88 rfl (Nat.le_of_ble_eq_true rfl) rfl rfl ?_
          refine g_aload_n0 rfl d_X11_next_91 ?_
          refine g_getI f_X11_82 d_X11_next_92 rfl (Nat.le_of_ble_eq_true rfl) rfl ?_
          refine g_aload_n0 rfl d_X11_next_95 ?_
          refine g_iload_n1 rfl d_X11_next_96 ?_
          obtain ⟨ho6, hok⟩ := hoa
          refine g_callV1 (c_X11_see I1 l1 ho6) w_X11_see l_X11_75 d_X11_next_97 rfl (Nat.le_of_ble_eq_true rfl) rfl rfl (Nat.le_of_ble_eq_true rfl) ⟨Nat.le_of_ble_eq_true rfl, Nat.le_of_ble_eq_true rfl⟩ ⟨Nat.zero_le _, Nat.zero_le _⟩ ⟨rfl, rfl⟩ ?_
          have ho7 := hok
          refine g_iast d_X11_next_100 rfl (Nat.le_of_ble_eq_true rfl) ho7 ?_
          (try simp only [if_neg h5, opv_eq, if_true, if_false, Bool.false_eq_true, reduceCtorEq, b2i_t, b2i_f, u3_X11_next] at hj); exact hj
      · skip
        refine g_aload_n0 rfl d_X11_next_101 ?_
        refine g_dup rfl d_X11_next_102 ?_
        refine g_getI f_X11_82 d_X11_next_103 rfl (Nat.le_of_ble_eq_true rfl) rfl ?_
        refine g_iconst 1 d_X11_next_106 (by decide) ?_
        refine g_iadd d_X11_next_107 ?_
        refine g_putI f_X11_82 d_X11_next_108 rfl (Nat.le_of_ble_eq_true rfl) rfl rfl rfl ?_
        refine g_ic1 (l1 + 1) rfl rfl d_X11_next_111 ?_
        refine g_goto 67 d_X11_next_114 (by decide) ?_
        exact ih (l1 + 1) (st2 (u3_X11_next l1 I1) 65 8 (((u3_X11_next l1 I1) 65 8) + 1)) (Nat.lt_of_lt_of_le (by simp only [u0_X11_next, u1_X11_next, u2_X11_next, u3_X11_next, opv_eq]; (split <;> simpa [st2, va_up] using mu_up_lt (see_sm h4))) (Nat.le_of_lt_succ hmu)) (by (try simp only [if_pos h4, opv_eq, if_true, if_false, Bool.false_eq_true, reduceCtorEq, b2i_t, b2i_f] at hob); exact hob) (by (try simp only [lp_X11_next_67, if_pos h4, opv_eq, if_true, if_false, Bool.false_eq_true, reduceCtorEq, b2i_t, b2i_f] at hj); exact hj)
noncomputable def u4_X11_next (I : Nat → Nat → Int32) : Int32 := opv (if (((lp_X11_next_67 (f_X11_see (st2 I 65 4 (lp_X11_next_5 I (mu_up (I 65 3) (I 65 5) + 1) (I 65 5))) (lp_X11_next_5 I (mu_up (I 65 3) (I 65 5) + 1) (I 65 5))) (mu_up ((st2 (st2 (st2 I 65 4 (lp_X11_next_5 I (mu_up (I 65 3) (I 65 5) + 1) (I 65 5))) 65 8 0) 65 7 0) 65 3) (lp_X11_next_5 I (mu_up (I 65 3) (I 65 5) + 1) (I 65 5)) + 1) (lp_X11_next_5 I (mu_up (I 65 3) (I 65 5) + 1) (I 65 5)) (st2 (st2 (st2 I 65 4 (lp_X11_next_5 I (mu_up (I 65 3) (I 65 5) + 1) (I 65 5))) 65 8 0) 65 7 0)).2) 65 8) ≤ 8 then 2 else 1)
noncomputable def u5_X11_next (I : Nat → Nat → Int32) : Int32 := opv (if (f_X11_see (st2 I 65 4 (lp_X11_next_5 I (mu_up (I 65 3) (I 65 5) + 1) (I 65 5))) (lp_X11_next_5 I (mu_up (I 65 3) (I 65 5) + 1) (I 65 5))) = (-1) then (lp_X11_next_5 I (mu_up (I 65 3) (I 65 5) + 1) (I 65 5)) else (if (f_X11_isSmall (st2 (st2 (st2 I 65 4 (lp_X11_next_5 I (mu_up (I 65 3) (I 65 5) + 1) (I 65 5))) 65 8 0) 65 7 0) (f_X11_see (st2 I 65 4 (lp_X11_next_5 I (mu_up (I 65 3) (I 65 5) + 1) (I 65 5))) (lp_X11_next_5 I (mu_up (I 65 3) (I 65 5) + 1) (I 65 5)))) = true then (lp_X11_next_67 (f_X11_see (st2 I 65 4 (lp_X11_next_5 I (mu_up (I 65 3) (I 65 5) + 1) (I 65 5))) (lp_X11_next_5 I (mu_up (I 65 3) (I 65 5) + 1) (I 65 5))) (mu_up ((st2 (st2 (st2 I 65 4 (lp_X11_next_5 I (mu_up (I 65 3) (I 65 5) + 1) (I 65 5))) 65 8 0) 65 7 0) 65 3) (lp_X11_next_5 I (mu_up (I 65 3) (I 65 5) + 1) (I 65 5)) + 1) (lp_X11_next_5 I (mu_up (I 65 3) (I 65 5) + 1) (I 65 5)) (st2 (st2 (st2 I 65 4 (lp_X11_next_5 I (mu_up (I 65 3) (I 65 5) + 1) (I 65 5))) 65 8 0) 65 7 0)).1 else (if (f_X11_isDigit (st2 (st2 (st2 I 65 4 (lp_X11_next_5 I (mu_up (I 65 3) (I 65 5) + 1) (I 65 5))) 65 8 0) 65 7 0) (f_X11_see (st2 I 65 4 (lp_X11_next_5 I (mu_up (I 65 3) (I 65 5) + 1) (I 65 5))) (lp_X11_next_5 I (mu_up (I 65 3) (I 65 5) + 1) (I 65 5)))) = true then (lp_X11_next_152 (f_X11_see (st2 I 65 4 (lp_X11_next_5 I (mu_up (I 65 3) (I 65 5) + 1) (I 65 5))) (lp_X11_next_5 I (mu_up (I 65 3) (I 65 5) + 1) (I 65 5))) (mu_up ((st2 (st2 (st2 I 65 4 (lp_X11_next_5 I (mu_up (I 65 3) (I 65 5) + 1) (I 65 5))) 65 8 0) 65 7 0) 65 3) (lp_X11_next_5 I (mu_up (I 65 3) (I 65 5) + 1) (I 65 5)) + 1) (lp_X11_next_5 I (mu_up (I 65 3) (I 65 5) + 1) (I 65 5)) 0 (st2 (st2 (st2 I 65 4 (lp_X11_next_5 I (mu_up (I 65 3) (I 65 5) + 1) (I 65 5))) 65 8 0) 65 7 0)).1 else (lp_X11_next_5 I (mu_up (I 65 3) (I 65 5) + 1) (I 65 5)))))
noncomputable def u6_X11_next (I : Nat → Nat → Int32) : Nat → Nat → Int32 := opv (if (f_X11_see (st2 I 65 4 (lp_X11_next_5 I (mu_up (I 65 3) (I 65 5) + 1) (I 65 5))) (lp_X11_next_5 I (mu_up (I 65 3) (I 65 5) + 1) (I 65 5))) = (-1) then (st2 (st2 (st2 (st2 (st2 I 65 4 (lp_X11_next_5 I (mu_up (I 65 3) (I 65 5) + 1) (I 65 5))) 65 8 0) 65 7 0) 65 6 0) 65 5 (lp_X11_next_5 I (mu_up (I 65 3) (I 65 5) + 1) (I 65 5))) else (if (f_X11_isSmall (st2 (st2 (st2 I 65 4 (lp_X11_next_5 I (mu_up (I 65 3) (I 65 5) + 1) (I 65 5))) 65 8 0) 65 7 0) (f_X11_see (st2 I 65 4 (lp_X11_next_5 I (mu_up (I 65 3) (I 65 5) + 1) (I 65 5))) (lp_X11_next_5 I (mu_up (I 65 3) (I 65 5) + 1) (I 65 5)))) = true then (st2 (st2 ((lp_X11_next_67 (f_X11_see (st2 I 65 4 (lp_X11_next_5 I (mu_up (I 65 3) (I 65 5) + 1) (I 65 5))) (lp_X11_next_5 I (mu_up (I 65 3) (I 65 5) + 1) (I 65 5))) (mu_up ((st2 (st2 (st2 I 65 4 (lp_X11_next_5 I (mu_up (I 65 3) (I 65 5) + 1) (I 65 5))) 65 8 0) 65 7 0) 65 3) (lp_X11_next_5 I (mu_up (I 65 3) (I 65 5) + 1) (I 65 5)) + 1) (lp_X11_next_5 I (mu_up (I 65 3) (I 65 5) + 1) (I 65 5)) (st2 (st2 (st2 I 65 4 (lp_X11_next_5 I (mu_up (I 65 3) (I 65 5) + 1) (I 65 5))) 65 8 0) 65 7 0)).2) 65 5 ((lp_X11_next_67 (f_X11_see (st2 I 65 4 (lp_X11_next_5 I (mu_up (I 65 3) (I 65 5) + 1) (I 65 5))) (lp_X11_next_5 I (mu_up (I 65 3) (I 65 5) + 1) (I 65 5))) (mu_up ((st2 (st2 (st2 I 65 4 (lp_X11_next_5 I (mu_up (I 65 3) (I 65 5) + 1) (I 65 5))) 65 8 0) 65 7 0) 65 3) (lp_X11_next_5 I (mu_up (I 65 3) (I 65 5) + 1) (I 65 5)) + 1) (lp_X11_next_5 I (mu_up (I 65 3) (I 65 5) + 1) (I 65 5)) (st2 (st2 (st2 I 65 4 (lp_X11_next_5 I (mu_up (I 65 3) (I 65 5) + 1) (I 65 5))) 65 8 0) 65 7 0)).1)) 65 6 (u4_X11_next I)) else (if (f_X11_isDigit (st2 (st2 (st2 I 65 4 (lp_X11_next_5 I (mu_up (I 65 3) (I 65 5) + 1) (I 65 5))) 65 8 0) 65 7 0) (f_X11_see (st2 I 65 4 (lp_X11_next_5 I (mu_up (I 65 3) (I 65 5) + 1) (I 65 5))) (lp_X11_next_5 I (mu_up (I 65 3) (I 65 5) + 1) (I 65 5)))) = true then (st2 (st2 ((lp_X11_next_152 (f_X11_see (st2 I 65 4 (lp_X11_next_5 I (mu_up (I 65 3) (I 65 5) + 1) (I 65 5))) (lp_X11_next_5 I (mu_up (I 65 3) (I 65 5) + 1) (I 65 5))) (mu_up ((st2 (st2 (st2 I 65 4 (lp_X11_next_5 I (mu_up (I 65 3) (I 65 5) + 1) (I 65 5))) 65 8 0) 65 7 0) 65 3) (lp_X11_next_5 I (mu_up (I 65 3) (I 65 5) + 1) (I 65 5)) + 1) (lp_X11_next_5 I (mu_up (I 65 3) (I 65 5) + 1) (I 65 5)) 0 (st2 (st2 (st2 I 65 4 (lp_X11_next_5 I (mu_up (I 65 3) (I 65 5) + 1) (I 65 5))) 65 8 0) 65 7 0)).2.2) 65 5 ((lp_X11_next_152 (f_X11_see (st2 I 65 4 (lp_X11_next_5 I (mu_up (I 65 3) (I 65 5) + 1) (I 65 5))) (lp_X11_next_5 I (mu_up (I 65 3) (I 65 5) + 1) (I 65 5))) (mu_up ((st2 (st2 (st2 I 65 4 (lp_X11_next_5 I (mu_up (I 65 3) (I 65 5) + 1) (I 65 5))) 65 8 0) 65 7 0) 65 3) (lp_X11_next_5 I (mu_up (I 65 3) (I 65 5) + 1) (I 65 5)) + 1) (lp_X11_next_5 I (mu_up (I 65 3) (I 65 5) + 1) (I 65 5)) 0 (st2 (st2 (st2 I 65 4 (lp_X11_next_5 I (mu_up (I 65 3) (I 65 5) + 1) (I 65 5))) 65 8 0) 65 7 0)).1)) 65 6 (u2_X11_next I)) else (st2 (st2 (st2 (st2 (st2 I 65 4 (lp_X11_next_5 I (mu_up (I 65 3) (I 65 5) + 1) (I 65 5))) 65 8 0) 65 7 0) 65 5 ((lp_X11_next_5 I (mu_up (I 65 3) (I 65 5) + 1) (I 65 5)) + 1)) 65 6 (u0_X11_next I)))))
noncomputable def m_X11_next (I : Nat → Nat → Int32)  : Nat → Nat → Int32 := opv (u6_X11_next I)
noncomputable def ok_X11_next (I : Nat → Nat → Int32)  : Prop := opv (oklp_X11_next_5 I (mu_up (I 65 3) (I 65 5) + 1) (I 65 5) ∧ (ok_X11_see (st2 I 65 4 (lp_X11_next_5 I (mu_up (I 65 3) (I 65 5) + 1) (I 65 5))) (lp_X11_next_5 I (mu_up (I 65 3) (I 65 5) + 1) (I 65 5)) ∧ (if (f_X11_see (st2 I 65 4 (lp_X11_next_5 I (mu_up (I 65 3) (I 65 5) + 1) (I 65 5))) (lp_X11_next_5 I (mu_up (I 65 3) (I 65 5) + 1) (I 65 5))) = (-1) then True else (if (f_X11_isSmall (st2 (st2 (st2 I 65 4 (lp_X11_next_5 I (mu_up (I 65 3) (I 65 5) + 1) (I 65 5))) 65 8 0) 65 7 0) (f_X11_see (st2 I 65 4 (lp_X11_next_5 I (mu_up (I 65 3) (I 65 5) + 1) (I 65 5))) (lp_X11_next_5 I (mu_up (I 65 3) (I 65 5) + 1) (I 65 5)))) = true then oklp_X11_next_67 (f_X11_see (st2 I 65 4 (lp_X11_next_5 I (mu_up (I 65 3) (I 65 5) + 1) (I 65 5))) (lp_X11_next_5 I (mu_up (I 65 3) (I 65 5) + 1) (I 65 5))) (mu_up ((st2 (st2 (st2 I 65 4 (lp_X11_next_5 I (mu_up (I 65 3) (I 65 5) + 1) (I 65 5))) 65 8 0) 65 7 0) 65 3) (lp_X11_next_5 I (mu_up (I 65 3) (I 65 5) + 1) (I 65 5)) + 1) (lp_X11_next_5 I (mu_up (I 65 3) (I 65 5) + 1) (I 65 5)) (st2 (st2 (st2 I 65 4 (lp_X11_next_5 I (mu_up (I 65 3) (I 65 5) + 1) (I 65 5))) 65 8 0) 65 7 0) else (if (f_X11_isDigit (st2 (st2 (st2 I 65 4 (lp_X11_next_5 I (mu_up (I 65 3) (I 65 5) + 1) (I 65 5))) 65 8 0) 65 7 0) (f_X11_see (st2 I 65 4 (lp_X11_next_5 I (mu_up (I 65 3) (I 65 5) + 1) (I 65 5))) (lp_X11_next_5 I (mu_up (I 65 3) (I 65 5) + 1) (I 65 5)))) = true then oklp_X11_next_152 (f_X11_see (st2 I 65 4 (lp_X11_next_5 I (mu_up (I 65 3) (I 65 5) + 1) (I 65 5))) (lp_X11_next_5 I (mu_up (I 65 3) (I 65 5) + 1) (I 65 5))) (mu_up ((st2 (st2 (st2 I 65 4 (lp_X11_next_5 I (mu_up (I 65 3) (I 65 5) + 1) (I 65 5))) 65 8 0) 65 7 0) 65 3) (lp_X11_next_5 I (mu_up (I 65 3) (I 65 5) + 1) (I 65 5)) + 1) (lp_X11_next_5 I (mu_up (I 65 3) (I 65 5) + 1) (I 65 5)) 0 (st2 (st2 (st2 I 65 4 (lp_X11_next_5 I (mu_up (I 65 3) (I 65 5) + 1) (I 65 5))) 65 8 0) 65 7 0) else True)))))
set_option maxHeartbeats 800000 in
set_option maxRecDepth 4000 in
theorem c_X11_next {k : KT} {ex : Bool} {J : Nat → Nat → Int64} {w : Bool} (I : Nat → Nat → Int32)   (hok : ok_X11_next I) : Cx k mX11_next 2 [.ref (ka k 65)] (81, ex, I, J, Pw w) none (81, ex, m_X11_next I, J, Pw w) := by
  refine Ct.of rfl [some (.ref (ka k 65)), none, none, none] rfl rfl (Nat.le_of_ble_eq_true rfl) ?_
  rw [ok_X11_next, opv_eq] at hok
  refine g_aload_n0 rfl d_X11_next_0 ?_
  refine g_getI f_X11_72 d_X11_next_1 rfl (Nat.le_of_ble_eq_true rfl) rfl ?_
  refine g_isn1 rfl d_X11_next_4 ?_
  obtain ⟨hol, hok⟩ := hok
  refine k_lp_X11_next_5 I _ (I 65 5) (Nat.lt_succ_self _) hol ?_
  refine g_aload_n0 rfl d_X11_next_21 ?_
  refine g_iload_n1 rfl d_X11_next_22 ?_
  refine g_putI f_X11_79 d_X11_next_23 rfl (Nat.le_of_ble_eq_true rfl) rfl rfl rfl ?_
  refine g_aload_n0 rfl d_X11_next_26 ?_
  refine g_iload_n1 rfl d_X11_next_27 ?_
  obtain ⟨ho2, hok⟩ := hok
  refine g_callV1 (c_X11_see (st2 I 65 4 (lp_X11_next_5 I (mu_up (I 65 3) (I 65 5) + 1) (I 65 5))) (lp_X11_next_5 I (mu_up (I 65 3) (I 65 5) + 1) (I 65 5)) ho2) w_X11_see l_X11_75 d_X11_next_28 rfl (Nat.le_of_ble_eq_true rfl) rfl rfl (Nat.le_of_ble_eq_true rfl) ⟨Nat.le_of_ble_eq_true rfl, Nat.le_of_ble_eq_true rfl⟩ ⟨Nat.zero_le _, Nat.zero_le _⟩ ⟨rfl, rfl⟩ ?_
  refine g_isn2 rfl d_X11_next_31 ?_
  refine g_aload_n0 rfl d_X11_next_32 ?_
  refine g_iconst 0 d_X11_next_33 (by decide) ?_
  refine g_putI f_X11_82 d_X11_next_34 rfl (Nat.le_of_ble_eq_true rfl) rfl rfl rfl ?_
  refine g_aload_n0 rfl d_X11_next_37 ?_
  refine g_iconst 0 d_X11_next_38 (by decide) ?_
  refine g_putI f_X11_85 d_X11_next_39 rfl (Nat.le_of_ble_eq_true rfl) rfl rfl rfl ?_
  refine g_iload_n2 rfl d_X11_next_42 ?_
  refine g_iconst (-1) d_X11_next_43 (by decide) ?_
  refine g_cut (pc' := 241) (vs' := [some (.ref (ka k 65)), some (.int (u5_X11_next I)), some (.int (f_X11_see (st2 I 65 4 (lp_X11_next_5 I (mu_up (I 65 3) (I 65 5) + 1) (I 65 5))) (lp_X11_next_5 I (mu_up (I 65 3) (I 65 5) + 1) (I 65 5)))), none]) (st' := []) (M' := (81, ex, (u6_X11_next I), J, Pw w)) (fun hj => ?_) ?_
  · skip
    refine g_icmp_ne 60 d_X11_next_44 (by decide) (fun h6 => ?_) (fun h6 => ?_)
    · skip
      rw [if_neg h6] at hok
      refine g_iload_n2 rfl d_X11_next_60 ?_
      refine g_callS1 (c_X11_isSmall (st2 (st2 (st2 I 65 4 (lp_X11_next_5 I (mu_up (I 65 3) (I 65 5) + 1) (I 65 5))) 65 8 0) 65 7 0) (f_X11_see (st2 I 65 4 (lp_X11_next_5 I (mu_up (I 65 3) (I 65 5) + 1) (I 65 5))) (lp_X11_next_5 I (mu_up (I 65 3) (I 65 5) + 1) (I 65 5)))) w_X11_isSmall l_X11_91 d_X11_next_61 rfl rfl (Nat.le_of_ble_eq_true rfl) ⟨Nat.le_of_ble_eq_true rfl, Nat.le_of_ble_eq_true rfl⟩ ⟨Nat.zero_le _, Nat.zero_le _⟩ ⟨rfl, rfl⟩ ?_
      refine g_ifz 143 d_X11_next_64 (by decide) (fun h7 => ?_) (fun h7 => ?_)
      · skip
        rw [if_neg (nb h7)] at hok
        refine g_iload_n2 rfl d_X11_next_143 ?_
        refine g_callS1 (c_X11_isDigit (st2 (st2 (st2 I 65 4 (lp_X11_next_5 I (mu_up (I 65 3) (I 65 5) + 1) (I 65 5))) 65 8 0) 65 7 0) (f_X11_see (st2 I 65 4 (lp_X11_next_5 I (mu_up (I 65 3) (I 65 5) + 1) (I 65 5))) (lp_X11_next_5 I (mu_up (I 65 3) (I 65 5) + 1) (I 65 5)))) w_X11_isDigit l_X11_95 d_X11_next_144 rfl rfl (Nat.le_of_ble_eq_true rfl) ⟨Nat.le_of_ble_eq_true rfl, Nat.le_of_ble_eq_true rfl⟩ ⟨Nat.zero_le _, Nat.zero_le _⟩ ⟨rfl, rfl⟩ ?_
        refine g_ifz 219 d_X11_next_147 (by decide) (fun h8 => ?_) (fun h8 => ?_)
        · skip
          refine g_aload_n0 rfl d_X11_next_219 ?_
          refine g_iload_n1 rfl d_X11_next_220 ?_
          refine g_iconst 1 d_X11_next_221 (by decide) ?_
          refine g_iadd d_X11_next_222 ?_
          refine g_putI f_X11_72 d_X11_next_223 rfl (Nat.le_of_ble_eq_true rfl) rfl rfl rfl ?_
          refine g_aload_n0 rfl d_X11_next_226 ?_
          refine g_iload_n2 rfl d_X11_next_227 ?_
          refine g_bipush 59 d_X11_next_228 (by decide) ?_
          refine g_cut (pc' := 238) (vs' := [some (.ref (ka k 65)), some (.int (lp_X11_next_5 I (mu_up (I 65 3) (I 65 5) + 1) (I 65 5))), some (.int (f_X11_see (st2 I 65 4 (lp_X11_next_5 I (mu_up (I 65 3) (I 65 5) + 1) (I 65 5))) (lp_X11_next_5 I (mu_up (I 65 3) (I 65 5) + 1) (I 65 5)))), none]) (st' := [.int (u0_X11_next I), .ref (ka k 65)]) (M' := (81, ex, (st2 (st2 (st2 (st2 I 65 4 (lp_X11_next_5 I (mu_up (I 65 3) (I 65 5) + 1) (I 65 5))) 65 8 0) 65 7 0) 65 5 ((lp_X11_next_5 I (mu_up (I 65 3) (I 65 5) + 1) (I 65 5)) + 1)), J, Pw w)) (fun hj => ?_) ?_
          · skip
            refine g_icmp_ne 237 d_X11_next_230 (by decide) (fun h9 => ?_) (fun h9 => ?_)
            · skip
              refine g_iconst 1 d_X11_next_237 (by decide) ?_
              (try simp only [if_neg h9, opv_eq, if_true, if_false, Bool.false_eq_true, reduceCtorEq, b2i_t, b2i_f, u0_X11_next] at hj); exact hj
            · skip
              refine g_iload_n2 rfl d_X11_next_233 ?_
              refine g_goto 238 d_X11_next_234 (by decide) ?_
              (try simp only [if_pos h9, opv_eq, if_true, if_false, Bool.false_eq_true, reduceCtorEq, b2i_t, b2i_f, u0_X11_next] at hj); exact hj
          · skip
            refine g_putI f_X11_88 d_X11_next_238 rfl (Nat.le_of_ble_eq_true rfl) rfl rfl rfl ?_
            (try simp only [if_neg h6, if_neg (nb h7), if_neg (nb h8), opv_eq, if_true, if_false, Bool.false_eq_true, reduceCtorEq, b2i_t, b2i_f, u5_X11_next, u6_X11_next] at hj); exact hj
        · skip
          rw [if_pos h8] at hok
          refine g_iconst 0 d_X11_next_150 (by decide) ?_
          refine g_isn3 rfl d_X11_next_151 ?_
          refine k_lp_X11_next_152 (f_X11_see (st2 I 65 4 (lp_X11_next_5 I (mu_up (I 65 3) (I 65 5) + 1) (I 65 5))) (lp_X11_next_5 I (mu_up (I 65 3) (I 65 5) + 1) (I 65 5))) _ (lp_X11_next_5 I (mu_up (I 65 3) (I 65 5) + 1) (I 65 5)) 0 (st2 (st2 (st2 I 65 4 (lp_X11_next_5 I (mu_up (I 65 3) (I 65 5) + 1) (I 65 5))) 65 8 0) 65 7 0) (Nat.lt_succ_self _) hok ?_
          refine g_aload_n0 rfl d_X11_next_197 ?_
          refine g_iload_n1 rfl d_X11_next_198 ?_
          refine g_putI f_X11_72 d_X11_next_199 rfl (Nat.le_of_ble_eq_true rfl) rfl rfl rfl ?_
          refine g_aload_n0 rfl d_X11_next_202 ?_
          refine g_iload_n3 rfl d_X11_next_203 ?_
          refine g_iconst 3 d_X11_next_204 (by decide) ?_
          refine g_cut (pc' := 213) (vs' := [some (.ref (ka k 65)), some (.int ((lp_X11_next_152 (f_X11_see (st2 I 65 4 (lp_X11_next_5 I (mu_up (I 65 3) (I 65 5) + 1) (I 65 5))) (lp_X11_next_5 I (mu_up (I 65 3) (I 65 5) + 1) (I 65 5))) (mu_up ((st2 (st2 (st2 I 65 4 (lp_X11_next_5 I (mu_up (I 65 3) (I 65 5) + 1) (I 65 5))) 65 8 0) 65 7 0) 65 3) (lp_X11_next_5 I (mu_up (I 65 3) (I 65 5) + 1) (I 65 5)) + 1) (lp_X11_next_5 I (mu_up (I 65 3) (I 65 5) + 1) (I 65 5)) 0 (st2 (st2 (st2 I 65 4 (lp_X11_next_5 I (mu_up (I 65 3) (I 65 5) + 1) (I 65 5))) 65 8 0) 65 7 0)).1)), some (.int (f_X11_see (st2 I 65 4 (lp_X11_next_5 I (mu_up (I 65 3) (I 65 5) + 1) (I 65 5))) (lp_X11_next_5 I (mu_up (I 65 3) (I 65 5) + 1) (I 65 5)))), some (.int ((lp_X11_next_152 (f_X11_see (st2 I 65 4 (lp_X11_next_5 I (mu_up (I 65 3) (I 65 5) + 1) (I 65 5))) (lp_X11_next_5 I (mu_up (I 65 3) (I 65 5) + 1) (I 65 5))) (mu_up ((st2 (st2 (st2 I 65 4 (lp_X11_next_5 I (mu_up (I 65 3) (I 65 5) + 1) (I 65 5))) 65 8 0) 65 7 0) 65 3) (lp_X11_next_5 I (mu_up (I 65 3) (I 65 5) + 1) (I 65 5)) + 1) (lp_X11_next_5 I (mu_up (I 65 3) (I 65 5) + 1) (I 65 5)) 0 (st2 (st2 (st2 I 65 4 (lp_X11_next_5 I (mu_up (I 65 3) (I 65 5) + 1) (I 65 5))) 65 8 0) 65 7 0)).2.1))]) (st' := [.int (u2_X11_next I), .ref (ka k 65)]) (M' := (81, ex, (st2 ((lp_X11_next_152 (f_X11_see (st2 I 65 4 (lp_X11_next_5 I (mu_up (I 65 3) (I 65 5) + 1) (I 65 5))) (lp_X11_next_5 I (mu_up (I 65 3) (I 65 5) + 1) (I 65 5))) (mu_up ((st2 (st2 (st2 I 65 4 (lp_X11_next_5 I (mu_up (I 65 3) (I 65 5) + 1) (I 65 5))) 65 8 0) 65 7 0) 65 3) (lp_X11_next_5 I (mu_up (I 65 3) (I 65 5) + 1) (I 65 5)) + 1) (lp_X11_next_5 I (mu_up (I 65 3) (I 65 5) + 1) (I 65 5)) 0 (st2 (st2 (st2 I 65 4 (lp_X11_next_5 I (mu_up (I 65 3) (I 65 5) + 1) (I 65 5))) 65 8 0) 65 7 0)).2.2) 65 5 ((lp_X11_next_152 (f_X11_see (st2 I 65 4 (lp_X11_next_5 I (mu_up (I 65 3) (I 65 5) + 1) (I 65 5))) (lp_X11_next_5 I (mu_up (I 65 3) (I 65 5) + 1) (I 65 5))) (mu_up ((st2 (st2 (st2 I 65 4 (lp_X11_next_5 I (mu_up (I 65 3) (I 65 5) + 1) (I 65 5))) 65 8 0) 65 7 0) 65 3) (lp_X11_next_5 I (mu_up (I 65 3) (I 65 5) + 1) (I 65 5)) + 1) (lp_X11_next_5 I (mu_up (I 65 3) (I 65 5) + 1) (I 65 5)) 0 (st2 (st2 (st2 I 65 4 (lp_X11_next_5 I (mu_up (I 65 3) (I 65 5) + 1) (I 65 5))) 65 8 0) 65 7 0)).1)), J, Pw w)) (fun hj => ?_) ?_
          · skip
            refine g_icmp_le 212 d_X11_next_205 (by decide) (fun h10 => ?_) (fun h10 => ?_)
            · skip
              refine g_iconst 3 d_X11_next_212 (by decide) ?_
              (try simp only [if_pos h10, opv_eq, if_true, if_false, Bool.false_eq_true, reduceCtorEq, b2i_t, b2i_f, u2_X11_next] at hj); exact hj
            · skip
              refine g_iconst 1 d_X11_next_208 (by decide) ?_
              refine g_goto 213 d_X11_next_209 (by decide) ?_
              (try simp only [if_neg h10, opv_eq, if_true, if_false, Bool.false_eq_true, reduceCtorEq, b2i_t, b2i_f, u2_X11_next] at hj); exact hj
          · skip
            refine g_putI f_X11_88 d_X11_next_213 rfl (Nat.le_of_ble_eq_true rfl) rfl rfl rfl ?_
            refine g_goto 241 d_X11_next_216 (by decide) ?_
            refine G.weak (wks (wks (wks (wkn wk0)))) ?_; (try simp only [if_neg h6, if_neg (nb h7), if_pos h8, opv_eq, if_true, if_false, Bool.false_eq_true, reduceCtorEq, b2i_t, b2i_f, u5_X11_next, u6_X11_next] at hj); exact hj
      · skip
        rw [if_pos h7] at hok
        refine k_lp_X11_next_67 (f_X11_see (st2 I 65 4 (lp_X11_next_5 I (mu_up (I 65 3) (I 65 5) + 1) (I 65 5))) (lp_X11_next_5 I (mu_up (I 65 3) (I 65 5) + 1) (I 65 5))) _ (lp_X11_next_5 I (mu_up (I 65 3) (I 65 5) + 1) (I 65 5)) (st2 (st2 (st2 I 65 4 (lp_X11_next_5 I (mu_up (I 65 3) (I 65 5) + 1) (I 65 5))) 65 8 0) 65 7 0) (Nat.lt_succ_self _) hok ?_
        refine g_aload_n0 rfl d_X11_next_117 ?_
        refine g_iload_n1 rfl d_X11_next_118 ?_
        refine g_putI f_X11_72 d_X11_next_119 rfl (Nat.le_of_ble_eq_true rfl) rfl rfl rfl ?_
        refine g_aload_n0 rfl d_X11_next_122 ?_
        refine g_aload_n0 rfl d_X11_next_123 ?_
        refine g_getIv (((lp_X11_next_67 (f_X11_see (st2 I 65 4 (lp_X11_next_5 I (mu_up (I 65 3) (I 65 5) + 1) (I 65 5))) (lp_X11_next_5 I (mu_up (I 65 3) (I 65 5) + 1) (I 65 5))) (mu_up ((st2 (st2 (st2 I 65 4 (lp_X11_next_5 I (mu_up (I 65 3) (I 65 5) + 1) (I 65 5))) 65 8 0) 65 7 0) 65 3) (lp_X11_next_5 I (mu_up (I 65 3) (I 65 5) + 1) (I 65 5)) + 1) (lp_X11_next_5 I (mu_up (I 65 3) (I 65 5) + 1) (I 65 5)) (st2 (st2 (st2 I 65 4 (lp_X11_next_5 I (mu_up (I 65 3) (I 65 5) + 1) (I 65 5))) 65 8 0) 65 7 0)).2) 65 8) (st2_o _ _ _ (by decide)) f_X11_82 d_X11_next_124 rfl (Nat.le_of_ble_eq_true rfl) rfl ?_
        refine g_bipush 8 d_X11_next_127 (by decide) ?_
        refine g_cut (pc' := 137) (vs' := [some (.ref (ka k 65)), some (.int ((lp_X11_next_67 (f_X11_see (st2 I 65 4 (lp_X11_next_5 I (mu_up (I 65 3) (I 65 5) + 1) (I 65 5))) (lp_X11_next_5 I (mu_up (I 65 3) (I 65 5) + 1) (I 65 5))) (mu_up ((st2 (st2 (st2 I 65 4 (lp_X11_next_5 I (mu_up (I 65 3) (I 65 5) + 1) (I 65 5))) 65 8 0) 65 7 0) 65 3) (lp_X11_next_5 I (mu_up (I 65 3) (I 65 5) + 1) (I 65 5)) + 1) (lp_X11_next_5 I (mu_up (I 65 3) (I 65 5) + 1) (I 65 5)) (st2 (st2 (st2 I 65 4 (lp_X11_next_5 I (mu_up (I 65 3) (I 65 5) + 1) (I 65 5))) 65 8 0) 65 7 0)).1)), some (.int (f_X11_see (st2 I 65 4 (lp_X11_next_5 I (mu_up (I 65 3) (I 65 5) + 1) (I 65 5))) (lp_X11_next_5 I (mu_up (I 65 3) (I 65 5) + 1) (I 65 5)))), none]) (st' := [.int (u4_X11_next I), .ref (ka k 65)]) (M' := (81, ex, (st2 ((lp_X11_next_67 (f_X11_see (st2 I 65 4 (lp_X11_next_5 I (mu_up (I 65 3) (I 65 5) + 1) (I 65 5))) (lp_X11_next_5 I (mu_up (I 65 3) (I 65 5) + 1) (I 65 5))) (mu_up ((st2 (st2 (st2 I 65 4 (lp_X11_next_5 I (mu_up (I 65 3) (I 65 5) + 1) (I 65 5))) 65 8 0) 65 7 0) 65 3) (lp_X11_next_5 I (mu_up (I 65 3) (I 65 5) + 1) (I 65 5)) + 1) (lp_X11_next_5 I (mu_up (I 65 3) (I 65 5) + 1) (I 65 5)) (st2 (st2 (st2 I 65 4 (lp_X11_next_5 I (mu_up (I 65 3) (I 65 5) + 1) (I 65 5))) 65 8 0) 65 7 0)).2) 65 5 ((lp_X11_next_67 (f_X11_see (st2 I 65 4 (lp_X11_next_5 I (mu_up (I 65 3) (I 65 5) + 1) (I 65 5))) (lp_X11_next_5 I (mu_up (I 65 3) (I 65 5) + 1) (I 65 5))) (mu_up ((st2 (st2 (st2 I 65 4 (lp_X11_next_5 I (mu_up (I 65 3) (I 65 5) + 1) (I 65 5))) 65 8 0) 65 7 0) 65 3) (lp_X11_next_5 I (mu_up (I 65 3) (I 65 5) + 1) (I 65 5)) + 1) (lp_X11_next_5 I (mu_up (I 65 3) (I 65 5) + 1) (I 65 5)) (st2 (st2 (st2 I 65 4 (lp_X11_next_5 I (mu_up (I 65 3) (I 65 5) + 1) (I 65 5))) 65 8 0) 65 7 0)).1)), J, Pw w)) (fun hj => ?_) ?_
        · skip
          refine g_icmp_le 136 d_X11_next_129 (by decide) (fun h11 => ?_) (fun h11 => ?_)
          · skip
            refine g_iconst 2 d_X11_next_136 (by decide) ?_
            (try simp only [if_pos h11, opv_eq, if_true, if_false, Bool.false_eq_true, reduceCtorEq, b2i_t, b2i_f, u4_X11_next] at hj); exact hj
          · skip
            refine g_iconst 1 d_X11_next_132 (by decide) ?_
            refine g_goto 137 d_X11_next_133 (by decide) ?_
            (try simp only [if_neg h11, opv_eq, if_true, if_false, Bool.false_eq_true, reduceCtorEq, b2i_t, b2i_f, u4_X11_next] at hj); exact hj
        · skip
          refine g_putI f_X11_88 d_X11_next_137 rfl (Nat.le_of_ble_eq_true rfl) rfl rfl rfl ?_
          refine g_goto 241 d_X11_next_140 (by decide) ?_
          (try simp only [if_neg h6, if_pos h7, opv_eq, if_true, if_false, Bool.false_eq_true, reduceCtorEq, b2i_t, b2i_f, u5_X11_next, u6_X11_next] at hj); exact hj
    · skip
      refine g_aload_n0 rfl d_X11_next_47 ?_
      refine g_iconst 0 d_X11_next_48 (by decide) ?_
      refine g_putI f_X11_88 d_X11_next_49 rfl (Nat.le_of_ble_eq_true rfl) rfl rfl rfl ?_
      refine g_aload_n0 rfl d_X11_next_52 ?_
      refine g_iload_n1 rfl d_X11_next_53 ?_
      refine g_putI f_X11_72 d_X11_next_54 rfl (Nat.le_of_ble_eq_true rfl) rfl rfl rfl ?_
      refine g_goto 241 d_X11_next_57 (by decide) ?_
      (try simp only [if_pos h6, opv_eq, if_true, if_false, Bool.false_eq_true, reduceCtorEq, b2i_t, b2i_f, u5_X11_next, u6_X11_next] at hj); exact hj
  · skip
    exact g_vret rfl d_X11_next_241 ⟨rfl, by simp only [m_X11_next, opv_eq, if_true, if_false, Bool.false_eq_true, reduceCtorEq, b2i_t, b2i_f]⟩ (Nat.le_refl _) (Nat.le_refl _)
