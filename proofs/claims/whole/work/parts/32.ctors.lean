theorem wob1 : Cond.instanceMethod Lib.objectInit ∈ BIG := in1 29 (by decide +kernel) rfl
theorem wob2 : Cond.code Lib.objectInit ⟨#[0xb1]⟩ 1 none ∈ BIG := in1 30 (by decide +kernel) rfl
theorem def_X0 : ∀ j, j < 9 → defaultValue (tyX0 j) = (if ft 0 j = 0 then Value.int 0 else if ft 0 j = 1 then Value.long 0 else if ft 0 j = 3 then Value.int 0 else Value.null) := by decide +kernel
theorem def_X2 : ∀ j, j < 2 → defaultValue (tyX2 j) = (if ft 1 j = 0 then Value.int 0 else if ft 1 j = 1 then Value.long 0 else if ft 1 j = 3 then Value.int 0 else Value.null) := by decide +kernel
theorem def_X3 : ∀ j, j < 4 → defaultValue (tyX3 j) = (if ft 2 j = 0 then Value.int 0 else if ft 2 j = 1 then Value.long 0 else if ft 2 j = 3 then Value.int 0 else Value.null) := by decide +kernel
theorem def_X4 : ∀ j, j < 8 → defaultValue (tyX4 j) = (if ft 3 j = 0 then Value.int 0 else if ft 3 j = 1 then Value.long 0 else if ft 3 j = 3 then Value.int 0 else Value.null) := by decide +kernel
theorem def_X5 : ∀ j, j < 5 → defaultValue (tyX5 j) = (if ft 4 j = 0 then Value.int 0 else if ft 4 j = 1 then Value.long 0 else if ft 4 j = 3 then Value.int 0 else Value.null) := by decide +kernel
theorem def_X6 : ∀ j, j < 16 → defaultValue (tyX6 j) = (if ft 5 j = 0 then Value.int 0 else if ft 5 j = 1 then Value.long 0 else if ft 5 j = 3 then Value.int 0 else Value.null) := by decide +kernel
theorem def_X7 : ∀ j, j < 4 → defaultValue (tyX7 j) = (if ft 6 j = 0 then Value.int 0 else if ft 6 j = 1 then Value.long 0 else if ft 6 j = 3 then Value.int 0 else Value.null) := by decide +kernel
theorem def_X8 : ∀ j, j < 11 → defaultValue (tyX8 j) = (if ft 7 j = 0 then Value.int 0 else if ft 7 j = 1 then Value.long 0 else if ft 7 j = 3 then Value.int 0 else Value.null) := by decide +kernel
theorem def_X9 : ∀ j, j < 5 → defaultValue (tyX9 j) = (if ft 8 j = 0 then Value.int 0 else if ft 8 j = 1 then Value.long 0 else if ft 8 j = 3 then Value.int 0 else Value.null) := by decide +kernel
theorem def_X10 : ∀ j, j < 12 → defaultValue (tyX10 j) = (if ft 9 j = 0 then Value.int 0 else if ft 9 j = 1 then Value.long 0 else if ft 9 j = 3 then Value.int 0 else Value.null) := by decide +kernel
theorem def_X11 : ∀ j, j < 40 → defaultValue (tyX11 j) = (if ft 10 j = 0 then Value.int 0 else if ft 10 j = 1 then Value.long 0 else if ft 10 j = 3 then Value.int 0 else Value.null) := by decide +kernel
theorem n_X0 {k : KT} {M : MM} (a : Nat) : Ct k mX0_init 1 0 0 [.ref (ka k a)] M (fun v M' => v = none ∧ M' = M) := by
  refine Ct.of rfl [some (.ref (ka k a))] rfl rfl (Nat.le_of_ble_eq_true rfl) ?_
  refine g_aload_n0 rfl d_X0_init_0 ?_
  refine g_obj (in1 197 (by decide +kernel) rfl) wob1 wob2 d_X0_init_1 ⟨(Nat.le_of_ble_eq_true rfl), (Nat.le_of_ble_eq_true rfl)⟩ ?_
  exact g_vret rfl d_X0_init_4 ⟨rfl, rfl⟩ (Nat.le_of_ble_eq_true rfl) (Nat.le_of_ble_eq_true rfl)
def nI_tb4 (I : Nat → Nat → Int32) : Nat → Nat → Int32 := (nwI (st2 (st2 I 4 0 4) 4 1 3) 5)
def nJ_tb4 (J : Nat → Nat → Int64) : Nat → Nat → Int64 := (nwJ J 5)
def nP_tb4 (P : Nat → Nat → Option Nat) : Nat → Nat → Option Nat := (stP (nwP P 5) 4 2 (some 5))
set_option maxHeartbeats 800000 in
set_option maxRecDepth 8000 in
theorem n_tb4 {k : KT} (I : Nat → Nat → Int32) (J : Nat → Nat → Int64) (P : Nat → Nat → Option Nat) : Ct k mX7_init 1 1 12 [.ref (ka k 4), .int 4, .int 3] (4, true, I, J, P) (fun v M' => v = none ∧ M' = (5, true, nI_tb4 I, nJ_tb4 J, nP_tb4 P)) := by
  refine Ct.of rfl [some (.ref (ka k 4)), some (.int 4), some (.int 3)] rfl rfl (Nat.le_of_ble_eq_true rfl) ?_
  refine g_aload_n0 rfl d_X7_init_0 ?_
  refine g_obj (in1 48 (by decide +kernel) rfl) wob1 wob2 d_X7_init_1 ⟨(Nat.le_of_ble_eq_true rfl), (Nat.le_of_ble_eq_true rfl)⟩ ?_
  refine g_aload_n0 rfl d_X7_init_4 ?_
  refine g_iload_n1 rfl d_X7_init_5 ?_
  refine g_if_le 13 d_X7_init_6 (by decide) (fun h => absurd h (by decide +kernel)) (fun _ => ?_)
  refine g_iload_n1 rfl d_X7_init_9 ?_
  refine g_goto 14 d_X7_init_10 (by decide) ?_
  refine g_putIF f_X7_7 rfl (fun q hq => by cases hq; rfl) d_X7_init_14 rfl (Nat.le_of_ble_eq_true rfl) rfl rfl rfl ?_
  refine g_aload_n0 rfl d_X7_init_17 ?_
  refine g_iload_n2 rfl d_X7_init_18 ?_
  refine g_if_le 26 d_X7_init_19 (by decide) (fun h => absurd h (by decide +kernel)) (fun _ => ?_)
  refine g_iload_n2 rfl d_X7_init_22 ?_
  refine g_goto 27 d_X7_init_23 (by decide) ?_
  refine g_putIF f_X7_13 rfl (fun q hq => by cases hq; rfl) d_X7_init_27 rfl (Nat.le_of_ble_eq_true rfl) rfl rfl rfl ?_
  refine g_aload_n0 rfl d_X7_init_30 ?_
  refine g_aload_n0 rfl d_X7_init_31 ?_
  refine g_getIv 4 ((st2_o _ _ _ (by decide)).trans (st2_s _ _ _ _)) f_X7_7 d_X7_init_32 rfl (Nat.le_of_ble_eq_true rfl) rfl ?_
  refine g_aload_n0 rfl d_X7_init_35 ?_
  refine g_getIv 3 (st2_s _ _ _ _) f_X7_13 d_X7_init_36 rfl (Nat.le_of_ble_eq_true rfl) rfl ?_
  refine g_imul d_X7_init_39 ?_
  refine g_newa_i (v := 5) (L := 12) rfl (in1 67 (by decide +kernel) rfl) rfl (by decide +kernel) (by decide +kernel) (by decide +kernel) (by decide) d_X7_init_40 (Nat.le_of_ble_eq_true rfl) (Nat.le_of_ble_eq_true rfl) ?_
  refine g_putPF f_X7_16 rfl (fun q hq => by cases hq; rfl) d_X7_init_42 rfl (Nat.le_of_ble_eq_true rfl) rfl rfl rfl ?_
  exact g_vret rfl d_X7_init_45 ⟨rfl, rfl⟩ (Nat.le_of_ble_eq_true rfl) (Nat.le_of_ble_eq_true rfl)
def nI_tb6 (I : Nat → Nat → Int32) : Nat → Nat → Int32 := (nwI (st2 (st2 I 6 0 6) 6 1 3) 7)
def nJ_tb6 (J : Nat → Nat → Int64) : Nat → Nat → Int64 := (nwJ J 7)
def nP_tb6 (P : Nat → Nat → Option Nat) : Nat → Nat → Option Nat := (stP (nwP P 7) 6 2 (some 7))
set_option maxHeartbeats 800000 in
set_option maxRecDepth 8000 in
theorem n_tb6 {k : KT} (I : Nat → Nat → Int32) (J : Nat → Nat → Int64) (P : Nat → Nat → Option Nat) : Ct k mX7_init 1 1 18 [.ref (ka k 6), .int 6, .int 3] (6, true, I, J, P) (fun v M' => v = none ∧ M' = (7, true, nI_tb6 I, nJ_tb6 J, nP_tb6 P)) := by
  refine Ct.of rfl [some (.ref (ka k 6)), some (.int 6), some (.int 3)] rfl rfl (Nat.le_of_ble_eq_true rfl) ?_
  refine g_aload_n0 rfl d_X7_init_0 ?_
  refine g_obj (in1 48 (by decide +kernel) rfl) wob1 wob2 d_X7_init_1 ⟨(Nat.le_of_ble_eq_true rfl), (Nat.le_of_ble_eq_true rfl)⟩ ?_
  refine g_aload_n0 rfl d_X7_init_4 ?_
  refine g_iload_n1 rfl d_X7_init_5 ?_
  refine g_if_le 13 d_X7_init_6 (by decide) (fun h => absurd h (by decide +kernel)) (fun _ => ?_)
  refine g_iload_n1 rfl d_X7_init_9 ?_
  refine g_goto 14 d_X7_init_10 (by decide) ?_
  refine g_putIF f_X7_7 rfl (fun q hq => by cases hq; rfl) d_X7_init_14 rfl (Nat.le_of_ble_eq_true rfl) rfl rfl rfl ?_
  refine g_aload_n0 rfl d_X7_init_17 ?_
  refine g_iload_n2 rfl d_X7_init_18 ?_
  refine g_if_le 26 d_X7_init_19 (by decide) (fun h => absurd h (by decide +kernel)) (fun _ => ?_)
  refine g_iload_n2 rfl d_X7_init_22 ?_
  refine g_goto 27 d_X7_init_23 (by decide) ?_
  refine g_putIF f_X7_13 rfl (fun q hq => by cases hq; rfl) d_X7_init_27 rfl (Nat.le_of_ble_eq_true rfl) rfl rfl rfl ?_
  refine g_aload_n0 rfl d_X7_init_30 ?_
  refine g_aload_n0 rfl d_X7_init_31 ?_
  refine g_getIv 6 ((st2_o _ _ _ (by decide)).trans (st2_s _ _ _ _)) f_X7_7 d_X7_init_32 rfl (Nat.le_of_ble_eq_true rfl) rfl ?_
  refine g_aload_n0 rfl d_X7_init_35 ?_
  refine g_getIv 3 (st2_s _ _ _ _) f_X7_13 d_X7_init_36 rfl (Nat.le_of_ble_eq_true rfl) rfl ?_
  refine g_imul d_X7_init_39 ?_
  refine g_newa_i (v := 7) (L := 18) rfl (in1 67 (by decide +kernel) rfl) rfl (by decide +kernel) (by decide +kernel) (by decide +kernel) (by decide) d_X7_init_40 (Nat.le_of_ble_eq_true rfl) (Nat.le_of_ble_eq_true rfl) ?_
  refine g_putPF f_X7_16 rfl (fun q hq => by cases hq; rfl) d_X7_init_42 rfl (Nat.le_of_ble_eq_true rfl) rfl rfl rfl ?_
  exact g_vret rfl d_X7_init_45 ⟨rfl, rfl⟩ (Nat.le_of_ble_eq_true rfl) (Nat.le_of_ble_eq_true rfl)
def nI_tb8 (I : Nat → Nat → Int32) : Nat → Nat → Int32 := (nwI (st2 (st2 I 8 0 5) 8 1 2) 9)
def nJ_tb8 (J : Nat → Nat → Int64) : Nat → Nat → Int64 := (nwJ J 9)
def nP_tb8 (P : Nat → Nat → Option Nat) : Nat → Nat → Option Nat := (stP (nwP P 9) 8 2 (some 9))
set_option maxHeartbeats 800000 in
set_option maxRecDepth 8000 in
theorem n_tb8 {k : KT} (I : Nat → Nat → Int32) (J : Nat → Nat → Int64) (P : Nat → Nat → Option Nat) : Ct k mX7_init 1 1 10 [.ref (ka k 8), .int 5, .int 2] (8, true, I, J, P) (fun v M' => v = none ∧ M' = (9, true, nI_tb8 I, nJ_tb8 J, nP_tb8 P)) := by
  refine Ct.of rfl [some (.ref (ka k 8)), some (.int 5), some (.int 2)] rfl rfl (Nat.le_of_ble_eq_true rfl) ?_
  refine g_aload_n0 rfl d_X7_init_0 ?_
  refine g_obj (in1 48 (by decide +kernel) rfl) wob1 wob2 d_X7_init_1 ⟨(Nat.le_of_ble_eq_true rfl), (Nat.le_of_ble_eq_true rfl)⟩ ?_
  refine g_aload_n0 rfl d_X7_init_4 ?_
  refine g_iload_n1 rfl d_X7_init_5 ?_
  refine g_if_le 13 d_X7_init_6 (by decide) (fun h => absurd h (by decide +kernel)) (fun _ => ?_)
  refine g_iload_n1 rfl d_X7_init_9 ?_
  refine g_goto 14 d_X7_init_10 (by decide) ?_
  refine g_putIF f_X7_7 rfl (fun q hq => by cases hq; rfl) d_X7_init_14 rfl (Nat.le_of_ble_eq_true rfl) rfl rfl rfl ?_
  refine g_aload_n0 rfl d_X7_init_17 ?_
  refine g_iload_n2 rfl d_X7_init_18 ?_
  refine g_if_le 26 d_X7_init_19 (by decide) (fun h => absurd h (by decide +kernel)) (fun _ => ?_)
  refine g_iload_n2 rfl d_X7_init_22 ?_
  refine g_goto 27 d_X7_init_23 (by decide) ?_
  refine g_putIF f_X7_13 rfl (fun q hq => by cases hq; rfl) d_X7_init_27 rfl (Nat.le_of_ble_eq_true rfl) rfl rfl rfl ?_
  refine g_aload_n0 rfl d_X7_init_30 ?_
  refine g_aload_n0 rfl d_X7_init_31 ?_
  refine g_getIv 5 ((st2_o _ _ _ (by decide)).trans (st2_s _ _ _ _)) f_X7_7 d_X7_init_32 rfl (Nat.le_of_ble_eq_true rfl) rfl ?_
  refine g_aload_n0 rfl d_X7_init_35 ?_
  refine g_getIv 2 (st2_s _ _ _ _) f_X7_13 d_X7_init_36 rfl (Nat.le_of_ble_eq_true rfl) rfl ?_
  refine g_imul d_X7_init_39 ?_
  refine g_newa_i (v := 9) (L := 10) rfl (in1 67 (by decide +kernel) rfl) rfl (by decide +kernel) (by decide +kernel) (by decide +kernel) (by decide) d_X7_init_40 (Nat.le_of_ble_eq_true rfl) (Nat.le_of_ble_eq_true rfl) ?_
  refine g_putPF f_X7_16 rfl (fun q hq => by cases hq; rfl) d_X7_init_42 rfl (Nat.le_of_ble_eq_true rfl) rfl rfl rfl ?_
  exact g_vret rfl d_X7_init_45 ⟨rfl, rfl⟩ (Nat.le_of_ble_eq_true rfl) (Nat.le_of_ble_eq_true rfl)
def nI_tb10 (I : Nat → Nat → Int32) : Nat → Nat → Int32 := (nwI (st2 (st2 I 10 0 9) 10 1 3) 11)
def nJ_tb10 (J : Nat → Nat → Int64) : Nat → Nat → Int64 := (nwJ J 11)
def nP_tb10 (P : Nat → Nat → Option Nat) : Nat → Nat → Option Nat := (stP (nwP P 11) 10 2 (some 11))
set_option maxHeartbeats 800000 in
set_option maxRecDepth 8000 in
theorem n_tb10 {k : KT} (I : Nat → Nat → Int32) (J : Nat → Nat → Int64) (P : Nat → Nat → Option Nat) : Ct k mX7_init 1 1 27 [.ref (ka k 10), .int 9, .int 3] (10, true, I, J, P) (fun v M' => v = none ∧ M' = (11, true, nI_tb10 I, nJ_tb10 J, nP_tb10 P)) := by
  refine Ct.of rfl [some (.ref (ka k 10)), some (.int 9), some (.int 3)] rfl rfl (Nat.le_of_ble_eq_true rfl) ?_
  refine g_aload_n0 rfl d_X7_init_0 ?_
  refine g_obj (in1 48 (by decide +kernel) rfl) wob1 wob2 d_X7_init_1 ⟨(Nat.le_of_ble_eq_true rfl), (Nat.le_of_ble_eq_true rfl)⟩ ?_
  refine g_aload_n0 rfl d_X7_init_4 ?_
  refine g_iload_n1 rfl d_X7_init_5 ?_
  refine g_if_le 13 d_X7_init_6 (by decide) (fun h => absurd h (by decide +kernel)) (fun _ => ?_)
  refine g_iload_n1 rfl d_X7_init_9 ?_
  refine g_goto 14 d_X7_init_10 (by decide) ?_
  refine g_putIF f_X7_7 rfl (fun q hq => by cases hq; rfl) d_X7_init_14 rfl (Nat.le_of_ble_eq_true rfl) rfl rfl rfl ?_
  refine g_aload_n0 rfl d_X7_init_17 ?_
  refine g_iload_n2 rfl d_X7_init_18 ?_
  refine g_if_le 26 d_X7_init_19 (by decide) (fun h => absurd h (by decide +kernel)) (fun _ => ?_)
  refine g_iload_n2 rfl d_X7_init_22 ?_
  refine g_goto 27 d_X7_init_23 (by decide) ?_
  refine g_putIF f_X7_13 rfl (fun q hq => by cases hq; rfl) d_X7_init_27 rfl (Nat.le_of_ble_eq_true rfl) rfl rfl rfl ?_
  refine g_aload_n0 rfl d_X7_init_30 ?_
  refine g_aload_n0 rfl d_X7_init_31 ?_
  refine g_getIv 9 ((st2_o _ _ _ (by decide)).trans (st2_s _ _ _ _)) f_X7_7 d_X7_init_32 rfl (Nat.le_of_ble_eq_true rfl) rfl ?_
  refine g_aload_n0 rfl d_X7_init_35 ?_
  refine g_getIv 3 (st2_s _ _ _ _) f_X7_13 d_X7_init_36 rfl (Nat.le_of_ble_eq_true rfl) rfl ?_
  refine g_imul d_X7_init_39 ?_
  refine g_newa_i (v := 11) (L := 27) rfl (in1 67 (by decide +kernel) rfl) rfl (by decide +kernel) (by decide +kernel) (by decide +kernel) (by decide) d_X7_init_40 (Nat.le_of_ble_eq_true rfl) (Nat.le_of_ble_eq_true rfl) ?_
  refine g_putPF f_X7_16 rfl (fun q hq => by cases hq; rfl) d_X7_init_42 rfl (Nat.le_of_ble_eq_true rfl) rfl rfl rfl ?_
  exact g_vret rfl d_X7_init_45 ⟨rfl, rfl⟩ (Nat.le_of_ble_eq_true rfl) (Nat.le_of_ble_eq_true rfl)
def nI_to3 (I : Nat → Nat → Int32) : Nat → Nat → Int32 := (nI_tb10 (nwI (nI_tb8 (nwI (nI_tb6 (nwI (nI_tb4 (nwI I 4)) 6)) 8)) 10))
def nJ_to3 (J : Nat → Nat → Int64) : Nat → Nat → Int64 := (nJ_tb10 (nwJ (nJ_tb8 (nwJ (nJ_tb6 (nwJ (nJ_tb4 (nwJ J 4)) 6)) 8)) 10))
def nP_to3 (P : Nat → Nat → Option Nat) : Nat → Nat → Option Nat := (stP (nP_tb10 (nwP (stP (nP_tb8 (nwP (stP (nP_tb6 (nwP (stP (nP_tb4 (nwP P 4)) 3 7 (some 4)) 6)) 3 8 (some 6)) 8)) 3 9 (some 8)) 10)) 3 10 (some 10))
set_option maxHeartbeats 800000 in
set_option maxRecDepth 8000 in
theorem n_to3 {k : KT} (I : Nat → Nat → Int32) (J : Nat → Nat → Int64) (P : Nat → Nat → Option Nat) : Ct k mX8_init 2 8 83 [.ref (ka k 3)] (3, true, I, J, P) (fun v M' => v = none ∧ M' = (11, true, nI_to3 I, nJ_to3 J, nP_to3 P)) := by
  refine Ct.of rfl [some (.ref (ka k 3))] rfl rfl (Nat.le_of_ble_eq_true rfl) ?_
  refine g_aload_n0 rfl d_X8_init_0 ?_
  refine g_obj (in1 42 (by decide +kernel) rfl) wob1 wob2 d_X8_init_1 ⟨(Nat.le_of_ble_eq_true rfl), (Nat.le_of_ble_eq_true rfl)⟩ ?_
  refine g_aload_n0 rfl d_X8_init_4 ?_
  refine g_new (v := 4) (ci := 6) (C := RX7) (T := TX7) (n := 4) rfl tyX7 tyX7_ok inX7 rfl (in1 43 (by decide +kernel) rfl) (in1 44 (by decide +kernel) rfl) (in1 4 (by decide +kernel) rfl) def_X7 rfl d_X8_init_5 (Nat.le_of_ble_eq_true rfl) (Nat.le_of_ble_eq_true rfl) ?_
  refine g_dup rfl d_X8_init_8 ?_
  refine g_iconst 4 d_X8_init_9 (by decide) ?_
  refine g_iconst 3 d_X8_init_10 (by decide) ?_
  refine g_callI0 (n_tb4 (nwI I 4) (nwJ J 4) (nwP P 4)) rfl w_X7_init l_X8_11 d_X8_init_11 rfl rfl (Nat.le_of_ble_eq_true rfl) ⟨(Nat.le_of_ble_eq_true rfl), (Nat.le_of_ble_eq_true rfl)⟩ ⟨(Nat.le_of_ble_eq_true rfl), (Nat.le_of_ble_eq_true rfl)⟩ (fun _ => ⟨rfl, rfl⟩) ?_
  refine g_putPF f_X8_14 rfl (fun q hq => by cases hq; rfl) d_X8_init_14 rfl (Nat.le_of_ble_eq_true rfl) rfl rfl rfl ?_
  refine g_aload_n0 rfl d_X8_init_17 ?_
  refine g_new (v := 6) (ci := 6) (C := RX7) (T := TX7) (n := 4) rfl tyX7 tyX7_ok inX7 rfl (in1 43 (by decide +kernel) rfl) (in1 44 (by decide +kernel) rfl) (in1 4 (by decide +kernel) rfl) def_X7 rfl d_X8_init_18 (Nat.le_of_ble_eq_true rfl) (Nat.le_of_ble_eq_true rfl) ?_
  refine g_dup rfl d_X8_init_21 ?_
  refine g_bipush 6 d_X8_init_22 (by decide) ?_
  refine g_iconst 3 d_X8_init_24 (by decide) ?_
  refine g_callI0 (n_tb6 (nwI (nI_tb4 (nwI I 4)) 6) (nwJ (nJ_tb4 (nwJ J 4)) 6) (nwP (stP (nP_tb4 (nwP P 4)) 3 7 (some 4)) 6)) rfl w_X7_init l_X8_11 d_X8_init_25 rfl rfl (Nat.le_of_ble_eq_true rfl) ⟨(Nat.le_of_ble_eq_true rfl), (Nat.le_of_ble_eq_true rfl)⟩ ⟨(Nat.le_of_ble_eq_true rfl), (Nat.le_of_ble_eq_true rfl)⟩ (fun _ => ⟨rfl, rfl⟩) ?_
  refine g_putPF f_X8_20 rfl (fun q hq => by cases hq; rfl) d_X8_init_28 rfl (Nat.le_of_ble_eq_true rfl) rfl rfl rfl ?_
  refine g_aload_n0 rfl d_X8_init_31 ?_
  refine g_new (v := 8) (ci := 6) (C := RX7) (T := TX7) (n := 4) rfl tyX7 tyX7_ok inX7 rfl (in1 43 (by decide +kernel) rfl) (in1 44 (by decide +kernel) rfl) (in1 4 (by decide +kernel) rfl) def_X7 rfl d_X8_init_32 (Nat.le_of_ble_eq_true rfl) (Nat.le_of_ble_eq_true rfl) ?_
  refine g_dup rfl d_X8_init_35 ?_
  refine g_iconst 5 d_X8_init_36 (by decide) ?_
  refine g_iconst 2 d_X8_init_37 (by decide) ?_
  refine g_callI0 (n_tb8 (nwI (nI_tb6 (nwI (nI_tb4 (nwI I 4)) 6)) 8) (nwJ (nJ_tb6 (nwJ (nJ_tb4 (nwJ J 4)) 6)) 8) (nwP (stP (nP_tb6 (nwP (stP (nP_tb4 (nwP P 4)) 3 7 (some 4)) 6)) 3 8 (some 6)) 8)) rfl w_X7_init l_X8_11 d_X8_init_38 rfl rfl (Nat.le_of_ble_eq_true rfl) ⟨(Nat.le_of_ble_eq_true rfl), (Nat.le_of_ble_eq_true rfl)⟩ ⟨(Nat.le_of_ble_eq_true rfl), (Nat.le_of_ble_eq_true rfl)⟩ (fun _ => ⟨rfl, rfl⟩) ?_
  refine g_putPF f_X8_23 rfl (fun q hq => by cases hq; rfl) d_X8_init_41 rfl (Nat.le_of_ble_eq_true rfl) rfl rfl rfl ?_
  refine g_aload_n0 rfl d_X8_init_44 ?_
  refine g_new (v := 10) (ci := 6) (C := RX7) (T := TX7) (n := 4) rfl tyX7 tyX7_ok inX7 rfl (in1 43 (by decide +kernel) rfl) (in1 44 (by decide +kernel) rfl) (in1 4 (by decide +kernel) rfl) def_X7 rfl d_X8_init_45 (Nat.le_of_ble_eq_true rfl) (Nat.le_of_ble_eq_true rfl) ?_
  refine g_dup rfl d_X8_init_48 ?_
  refine g_bipush 9 d_X8_init_49 (by decide) ?_
  refine g_iconst 3 d_X8_init_51 (by decide) ?_
  refine g_callI0 (n_tb10 (nwI (nI_tb8 (nwI (nI_tb6 (nwI (nI_tb4 (nwI I 4)) 6)) 8)) 10) (nwJ (nJ_tb8 (nwJ (nJ_tb6 (nwJ (nJ_tb4 (nwJ J 4)) 6)) 8)) 10) (nwP (stP (nP_tb8 (nwP (stP (nP_tb6 (nwP (stP (nP_tb4 (nwP P 4)) 3 7 (some 4)) 6)) 3 8 (some 6)) 8)) 3 9 (some 8)) 10)) rfl w_X7_init l_X8_11 d_X8_init_52 rfl rfl (Nat.le_of_ble_eq_true rfl) ⟨(Nat.le_of_ble_eq_true rfl), (Nat.le_of_ble_eq_true rfl)⟩ ⟨(Nat.le_of_ble_eq_true rfl), (Nat.le_of_ble_eq_true rfl)⟩ (fun _ => ⟨rfl, rfl⟩) ?_
  refine g_putPF f_X8_26 rfl (fun q hq => by cases hq; rfl) d_X8_init_55 rfl (Nat.le_of_ble_eq_true rfl) rfl rfl rfl ?_
  exact g_vret rfl d_X8_init_58 ⟨rfl, rfl⟩ (Nat.le_of_ble_eq_true rfl) (Nat.le_of_ble_eq_true rfl)
def nI_tb15 (I : Nat → Nat → Int32) : Nat → Nat → Int32 := (nwI (st2 (st2 I 15 0 4) 15 1 3) 16)
def nJ_tb15 (J : Nat → Nat → Int64) : Nat → Nat → Int64 := (nwJ J 16)
def nP_tb15 (P : Nat → Nat → Option Nat) : Nat → Nat → Option Nat := (stP (nwP P 16) 15 2 (some 16))
set_option maxHeartbeats 800000 in
set_option maxRecDepth 8000 in
theorem n_tb15 {k : KT} (I : Nat → Nat → Int32) (J : Nat → Nat → Int64) (P : Nat → Nat → Option Nat) : Ct k mX7_init 1 1 12 [.ref (ka k 15), .int 4, .int 3] (16, true, I, J, P) (fun v M' => v = none ∧ M' = (17, true, nI_tb15 I, nJ_tb15 J, nP_tb15 P)) := by
  refine Ct.of rfl [some (.ref (ka k 15)), some (.int 4), some (.int 3)] rfl rfl (Nat.le_of_ble_eq_true rfl) ?_
  refine g_aload_n0 rfl d_X7_init_0 ?_
  refine g_obj (in1 48 (by decide +kernel) rfl) wob1 wob2 d_X7_init_1 ⟨(Nat.le_of_ble_eq_true rfl), (Nat.le_of_ble_eq_true rfl)⟩ ?_
  refine g_aload_n0 rfl d_X7_init_4 ?_
  refine g_iload_n1 rfl d_X7_init_5 ?_
  refine g_if_le 13 d_X7_init_6 (by decide) (fun h => absurd h (by decide +kernel)) (fun _ => ?_)
  refine g_iload_n1 rfl d_X7_init_9 ?_
  refine g_goto 14 d_X7_init_10 (by decide) ?_
  refine g_putIF f_X7_7 rfl (fun q hq => by cases hq; rfl) d_X7_init_14 rfl (Nat.le_of_ble_eq_true rfl) rfl rfl rfl ?_
  refine g_aload_n0 rfl d_X7_init_17 ?_
  refine g_iload_n2 rfl d_X7_init_18 ?_
  refine g_if_le 26 d_X7_init_19 (by decide) (fun h => absurd h (by decide +kernel)) (fun _ => ?_)
  refine g_iload_n2 rfl d_X7_init_22 ?_
  refine g_goto 27 d_X7_init_23 (by decide) ?_
  refine g_putIF f_X7_13 rfl (fun q hq => by cases hq; rfl) d_X7_init_27 rfl (Nat.le_of_ble_eq_true rfl) rfl rfl rfl ?_
  refine g_aload_n0 rfl d_X7_init_30 ?_
  refine g_aload_n0 rfl d_X7_init_31 ?_
  refine g_getIv 4 ((st2_o _ _ _ (by decide)).trans (st2_s _ _ _ _)) f_X7_7 d_X7_init_32 rfl (Nat.le_of_ble_eq_true rfl) rfl ?_
  refine g_aload_n0 rfl d_X7_init_35 ?_
  refine g_getIv 3 (st2_s _ _ _ _) f_X7_13 d_X7_init_36 rfl (Nat.le_of_ble_eq_true rfl) rfl ?_
  refine g_imul d_X7_init_39 ?_
  refine g_newa_i (v := 16) (L := 12) rfl (in1 67 (by decide +kernel) rfl) rfl (by decide +kernel) (by decide +kernel) (by decide +kernel) (by decide) d_X7_init_40 (Nat.le_of_ble_eq_true rfl) (Nat.le_of_ble_eq_true rfl) ?_
  refine g_putPF f_X7_16 rfl (fun q hq => by cases hq; rfl) d_X7_init_42 rfl (Nat.le_of_ble_eq_true rfl) rfl rfl rfl ?_
  exact g_vret rfl d_X7_init_45 ⟨rfl, rfl⟩ (Nat.le_of_ble_eq_true rfl) (Nat.le_of_ble_eq_true rfl)
def nI_tb17 (I : Nat → Nat → Int32) : Nat → Nat → Int32 := (nwI (st2 (st2 I 17 0 6) 17 1 3) 18)
def nJ_tb17 (J : Nat → Nat → Int64) : Nat → Nat → Int64 := (nwJ J 18)
def nP_tb17 (P : Nat → Nat → Option Nat) : Nat → Nat → Option Nat := (stP (nwP P 18) 17 2 (some 18))
set_option maxHeartbeats 800000 in
set_option maxRecDepth 8000 in
theorem n_tb17 {k : KT} (I : Nat → Nat → Int32) (J : Nat → Nat → Int64) (P : Nat → Nat → Option Nat) : Ct k mX7_init 1 1 18 [.ref (ka k 17), .int 6, .int 3] (18, true, I, J, P) (fun v M' => v = none ∧ M' = (19, true, nI_tb17 I, nJ_tb17 J, nP_tb17 P)) := by
  refine Ct.of rfl [some (.ref (ka k 17)), some (.int 6), some (.int 3)] rfl rfl (Nat.le_of_ble_eq_true rfl) ?_
  refine g_aload_n0 rfl d_X7_init_0 ?_
  refine g_obj (in1 48 (by decide +kernel) rfl) wob1 wob2 d_X7_init_1 ⟨(Nat.le_of_ble_eq_true rfl), (Nat.le_of_ble_eq_true rfl)⟩ ?_
  refine g_aload_n0 rfl d_X7_init_4 ?_
  refine g_iload_n1 rfl d_X7_init_5 ?_
  refine g_if_le 13 d_X7_init_6 (by decide) (fun h => absurd h (by decide +kernel)) (fun _ => ?_)
  refine g_iload_n1 rfl d_X7_init_9 ?_
  refine g_goto 14 d_X7_init_10 (by decide) ?_
  refine g_putIF f_X7_7 rfl (fun q hq => by cases hq; rfl) d_X7_init_14 rfl (Nat.le_of_ble_eq_true rfl) rfl rfl rfl ?_
  refine g_aload_n0 rfl d_X7_init_17 ?_
  refine g_iload_n2 rfl d_X7_init_18 ?_
  refine g_if_le 26 d_X7_init_19 (by decide) (fun h => absurd h (by decide +kernel)) (fun _ => ?_)
  refine g_iload_n2 rfl d_X7_init_22 ?_
  refine g_goto 27 d_X7_init_23 (by decide) ?_
  refine g_putIF f_X7_13 rfl (fun q hq => by cases hq; rfl) d_X7_init_27 rfl (Nat.le_of_ble_eq_true rfl) rfl rfl rfl ?_
  refine g_aload_n0 rfl d_X7_init_30 ?_
  refine g_aload_n0 rfl d_X7_init_31 ?_
  refine g_getIv 6 ((st2_o _ _ _ (by decide)).trans (st2_s _ _ _ _)) f_X7_7 d_X7_init_32 rfl (Nat.le_of_ble_eq_true rfl) rfl ?_
  refine g_aload_n0 rfl d_X7_init_35 ?_
  refine g_getIv 3 (st2_s _ _ _ _) f_X7_13 d_X7_init_36 rfl (Nat.le_of_ble_eq_true rfl) rfl ?_
  refine g_imul d_X7_init_39 ?_
  refine g_newa_i (v := 18) (L := 18) rfl (in1 67 (by decide +kernel) rfl) rfl (by decide +kernel) (by decide +kernel) (by decide +kernel) (by decide) d_X7_init_40 (Nat.le_of_ble_eq_true rfl) (Nat.le_of_ble_eq_true rfl) ?_
  refine g_putPF f_X7_16 rfl (fun q hq => by cases hq; rfl) d_X7_init_42 rfl (Nat.le_of_ble_eq_true rfl) rfl rfl rfl ?_
  exact g_vret rfl d_X7_init_45 ⟨rfl, rfl⟩ (Nat.le_of_ble_eq_true rfl) (Nat.le_of_ble_eq_true rfl)
def nI_tb19 (I : Nat → Nat → Int32) : Nat → Nat → Int32 := (nwI (st2 (st2 I 19 0 5) 19 1 2) 20)
def nJ_tb19 (J : Nat → Nat → Int64) : Nat → Nat → Int64 := (nwJ J 20)
def nP_tb19 (P : Nat → Nat → Option Nat) : Nat → Nat → Option Nat := (stP (nwP P 20) 19 2 (some 20))
set_option maxHeartbeats 800000 in
set_option maxRecDepth 8000 in
theorem n_tb19 {k : KT} (I : Nat → Nat → Int32) (J : Nat → Nat → Int64) (P : Nat → Nat → Option Nat) : Ct k mX7_init 1 1 10 [.ref (ka k 19), .int 5, .int 2] (20, true, I, J, P) (fun v M' => v = none ∧ M' = (21, true, nI_tb19 I, nJ_tb19 J, nP_tb19 P)) := by
  refine Ct.of rfl [some (.ref (ka k 19)), some (.int 5), some (.int 2)] rfl rfl (Nat.le_of_ble_eq_true rfl) ?_
  refine g_aload_n0 rfl d_X7_init_0 ?_
  refine g_obj (in1 48 (by decide +kernel) rfl) wob1 wob2 d_X7_init_1 ⟨(Nat.le_of_ble_eq_true rfl), (Nat.le_of_ble_eq_true rfl)⟩ ?_
  refine g_aload_n0 rfl d_X7_init_4 ?_
  refine g_iload_n1 rfl d_X7_init_5 ?_
  refine g_if_le 13 d_X7_init_6 (by decide) (fun h => absurd h (by decide +kernel)) (fun _ => ?_)
  refine g_iload_n1 rfl d_X7_init_9 ?_
  refine g_goto 14 d_X7_init_10 (by decide) ?_
  refine g_putIF f_X7_7 rfl (fun q hq => by cases hq; rfl) d_X7_init_14 rfl (Nat.le_of_ble_eq_true rfl) rfl rfl rfl ?_
  refine g_aload_n0 rfl d_X7_init_17 ?_
  refine g_iload_n2 rfl d_X7_init_18 ?_
  refine g_if_le 26 d_X7_init_19 (by decide) (fun h => absurd h (by decide +kernel)) (fun _ => ?_)
  refine g_iload_n2 rfl d_X7_init_22 ?_
  refine g_goto 27 d_X7_init_23 (by decide) ?_
  refine g_putIF f_X7_13 rfl (fun q hq => by cases hq; rfl) d_X7_init_27 rfl (Nat.le_of_ble_eq_true rfl) rfl rfl rfl ?_
  refine g_aload_n0 rfl d_X7_init_30 ?_
  refine g_aload_n0 rfl d_X7_init_31 ?_
  refine g_getIv 5 ((st2_o _ _ _ (by decide)).trans (st2_s _ _ _ _)) f_X7_7 d_X7_init_32 rfl (Nat.le_of_ble_eq_true rfl) rfl ?_
  refine g_aload_n0 rfl d_X7_init_35 ?_
  refine g_getIv 2 (st2_s _ _ _ _) f_X7_13 d_X7_init_36 rfl (Nat.le_of_ble_eq_true rfl) rfl ?_
  refine g_imul d_X7_init_39 ?_
  refine g_newa_i (v := 20) (L := 10) rfl (in1 67 (by decide +kernel) rfl) rfl (by decide +kernel) (by decide +kernel) (by decide +kernel) (by decide) d_X7_init_40 (Nat.le_of_ble_eq_true rfl) (Nat.le_of_ble_eq_true rfl) ?_
  refine g_putPF f_X7_16 rfl (fun q hq => by cases hq; rfl) d_X7_init_42 rfl (Nat.le_of_ble_eq_true rfl) rfl rfl rfl ?_
  exact g_vret rfl d_X7_init_45 ⟨rfl, rfl⟩ (Nat.le_of_ble_eq_true rfl) (Nat.le_of_ble_eq_true rfl)
def nI_tb21 (I : Nat → Nat → Int32) : Nat → Nat → Int32 := (nwI (st2 (st2 I 21 0 9) 21 1 3) 22)
def nJ_tb21 (J : Nat → Nat → Int64) : Nat → Nat → Int64 := (nwJ J 22)
def nP_tb21 (P : Nat → Nat → Option Nat) : Nat → Nat → Option Nat := (stP (nwP P 22) 21 2 (some 22))
set_option maxHeartbeats 800000 in
set_option maxRecDepth 8000 in
theorem n_tb21 {k : KT} (I : Nat → Nat → Int32) (J : Nat → Nat → Int64) (P : Nat → Nat → Option Nat) : Ct k mX7_init 1 1 27 [.ref (ka k 21), .int 9, .int 3] (22, true, I, J, P) (fun v M' => v = none ∧ M' = (23, true, nI_tb21 I, nJ_tb21 J, nP_tb21 P)) := by
  refine Ct.of rfl [some (.ref (ka k 21)), some (.int 9), some (.int 3)] rfl rfl (Nat.le_of_ble_eq_true rfl) ?_
  refine g_aload_n0 rfl d_X7_init_0 ?_
  refine g_obj (in1 48 (by decide +kernel) rfl) wob1 wob2 d_X7_init_1 ⟨(Nat.le_of_ble_eq_true rfl), (Nat.le_of_ble_eq_true rfl)⟩ ?_
  refine g_aload_n0 rfl d_X7_init_4 ?_
  refine g_iload_n1 rfl d_X7_init_5 ?_
  refine g_if_le 13 d_X7_init_6 (by decide) (fun h => absurd h (by decide +kernel)) (fun _ => ?_)
  refine g_iload_n1 rfl d_X7_init_9 ?_
  refine g_goto 14 d_X7_init_10 (by decide) ?_
  refine g_putIF f_X7_7 rfl (fun q hq => by cases hq; rfl) d_X7_init_14 rfl (Nat.le_of_ble_eq_true rfl) rfl rfl rfl ?_
  refine g_aload_n0 rfl d_X7_init_17 ?_
  refine g_iload_n2 rfl d_X7_init_18 ?_
  refine g_if_le 26 d_X7_init_19 (by decide) (fun h => absurd h (by decide +kernel)) (fun _ => ?_)
  refine g_iload_n2 rfl d_X7_init_22 ?_
  refine g_goto 27 d_X7_init_23 (by decide) ?_
  refine g_putIF f_X7_13 rfl (fun q hq => by cases hq; rfl) d_X7_init_27 rfl (Nat.le_of_ble_eq_true rfl) rfl rfl rfl ?_
  refine g_aload_n0 rfl d_X7_init_30 ?_
  refine g_aload_n0 rfl d_X7_init_31 ?_
  refine g_getIv 9 ((st2_o _ _ _ (by decide)).trans (st2_s _ _ _ _)) f_X7_7 d_X7_init_32 rfl (Nat.le_of_ble_eq_true rfl) rfl ?_
  refine g_aload_n0 rfl d_X7_init_35 ?_
  refine g_getIv 3 (st2_s _ _ _ _) f_X7_13 d_X7_init_36 rfl (Nat.le_of_ble_eq_true rfl) rfl ?_
  refine g_imul d_X7_init_39 ?_
  refine g_newa_i (v := 22) (L := 27) rfl (in1 67 (by decide +kernel) rfl) rfl (by decide +kernel) (by decide +kernel) (by decide +kernel) (by decide) d_X7_init_40 (Nat.le_of_ble_eq_true rfl) (Nat.le_of_ble_eq_true rfl) ?_
  refine g_putPF f_X7_16 rfl (fun q hq => by cases hq; rfl) d_X7_init_42 rfl (Nat.le_of_ble_eq_true rfl) rfl rfl rfl ?_
  exact g_vret rfl d_X7_init_45 ⟨rfl, rfl⟩ (Nat.le_of_ble_eq_true rfl) (Nat.le_of_ble_eq_true rfl)
def nI_to14 (I : Nat → Nat → Int32) : Nat → Nat → Int32 := (nI_tb21 (nwI (nI_tb19 (nwI (nI_tb17 (nwI (nI_tb15 (nwI I 15)) 17)) 19)) 21))
def nJ_to14 (J : Nat → Nat → Int64) : Nat → Nat → Int64 := (nJ_tb21 (nwJ (nJ_tb19 (nwJ (nJ_tb17 (nwJ (nJ_tb15 (nwJ J 15)) 17)) 19)) 21))
def nP_to14 (P : Nat → Nat → Option Nat) : Nat → Nat → Option Nat := (stP (nP_tb21 (nwP (stP (nP_tb19 (nwP (stP (nP_tb17 (nwP (stP (nP_tb15 (nwP P 15)) 14 7 (some 15)) 17)) 14 8 (some 17)) 19)) 14 9 (some 19)) 21)) 14 10 (some 21))
set_option maxHeartbeats 800000 in
set_option maxRecDepth 8000 in
theorem n_to14 {k : KT} (I : Nat → Nat → Int32) (J : Nat → Nat → Int64) (P : Nat → Nat → Option Nat) : Ct k mX8_init 2 8 83 [.ref (ka k 14)] (15, true, I, J, P) (fun v M' => v = none ∧ M' = (23, true, nI_to14 I, nJ_to14 J, nP_to14 P)) := by
  refine Ct.of rfl [some (.ref (ka k 14))] rfl rfl (Nat.le_of_ble_eq_true rfl) ?_
  refine g_aload_n0 rfl d_X8_init_0 ?_
  refine g_obj (in1 42 (by decide +kernel) rfl) wob1 wob2 d_X8_init_1 ⟨(Nat.le_of_ble_eq_true rfl), (Nat.le_of_ble_eq_true rfl)⟩ ?_
  refine g_aload_n0 rfl d_X8_init_4 ?_
  refine g_new (v := 15) (ci := 6) (C := RX7) (T := TX7) (n := 4) rfl tyX7 tyX7_ok inX7 rfl (in1 43 (by decide +kernel) rfl) (in1 44 (by decide +kernel) rfl) (in1 4 (by decide +kernel) rfl) def_X7 rfl d_X8_init_5 (Nat.le_of_ble_eq_true rfl) (Nat.le_of_ble_eq_true rfl) ?_
  refine g_dup rfl d_X8_init_8 ?_
  refine g_iconst 4 d_X8_init_9 (by decide) ?_
  refine g_iconst 3 d_X8_init_10 (by decide) ?_
  refine g_callI0 (n_tb15 (nwI I 15) (nwJ J 15) (nwP P 15)) rfl w_X7_init l_X8_11 d_X8_init_11 rfl rfl (Nat.le_of_ble_eq_true rfl) ⟨(Nat.le_of_ble_eq_true rfl), (Nat.le_of_ble_eq_true rfl)⟩ ⟨(Nat.le_of_ble_eq_true rfl), (Nat.le_of_ble_eq_true rfl)⟩ (fun _ => ⟨rfl, rfl⟩) ?_
  refine g_putPF f_X8_14 rfl (fun q hq => by cases hq; rfl) d_X8_init_14 rfl (Nat.le_of_ble_eq_true rfl) rfl rfl rfl ?_
  refine g_aload_n0 rfl d_X8_init_17 ?_
  refine g_new (v := 17) (ci := 6) (C := RX7) (T := TX7) (n := 4) rfl tyX7 tyX7_ok inX7 rfl (in1 43 (by decide +kernel) rfl) (in1 44 (by decide +kernel) rfl) (in1 4 (by decide +kernel) rfl) def_X7 rfl d_X8_init_18 (Nat.le_of_ble_eq_true rfl) (Nat.le_of_ble_eq_true rfl) ?_
  refine g_dup rfl d_X8_init_21 ?_
  refine g_bipush 6 d_X8_init_22 (by decide) ?_
  refine g_iconst 3 d_X8_init_24 (by decide) ?_
  refine g_callI0 (n_tb17 (nwI (nI_tb15 (nwI I 15)) 17) (nwJ (nJ_tb15 (nwJ J 15)) 17) (nwP (stP (nP_tb15 (nwP P 15)) 14 7 (some 15)) 17)) rfl w_X7_init l_X8_11 d_X8_init_25 rfl rfl (Nat.le_of_ble_eq_true rfl) ⟨(Nat.le_of_ble_eq_true rfl), (Nat.le_of_ble_eq_true rfl)⟩ ⟨(Nat.le_of_ble_eq_true rfl), (Nat.le_of_ble_eq_true rfl)⟩ (fun _ => ⟨rfl, rfl⟩) ?_
  refine g_putPF f_X8_20 rfl (fun q hq => by cases hq; rfl) d_X8_init_28 rfl (Nat.le_of_ble_eq_true rfl) rfl rfl rfl ?_
  refine g_aload_n0 rfl d_X8_init_31 ?_
  refine g_new (v := 19) (ci := 6) (C := RX7) (T := TX7) (n := 4) rfl tyX7 tyX7_ok inX7 rfl (in1 43 (by decide +kernel) rfl) (in1 44 (by decide +kernel) rfl) (in1 4 (by decide +kernel) rfl) def_X7 rfl d_X8_init_32 (Nat.le_of_ble_eq_true rfl) (Nat.le_of_ble_eq_true rfl) ?_
  refine g_dup rfl d_X8_init_35 ?_
  refine g_iconst 5 d_X8_init_36 (by decide) ?_
  refine g_iconst 2 d_X8_init_37 (by decide) ?_
  refine g_callI0 (n_tb19 (nwI (nI_tb17 (nwI (nI_tb15 (nwI I 15)) 17)) 19) (nwJ (nJ_tb17 (nwJ (nJ_tb15 (nwJ J 15)) 17)) 19) (nwP (stP (nP_tb17 (nwP (stP (nP_tb15 (nwP P 15)) 14 7 (some 15)) 17)) 14 8 (some 17)) 19)) rfl w_X7_init l_X8_11 d_X8_init_38 rfl rfl (Nat.le_of_ble_eq_true rfl) ⟨(Nat.le_of_ble_eq_true rfl), (Nat.le_of_ble_eq_true rfl)⟩ ⟨(Nat.le_of_ble_eq_true rfl), (Nat.le_of_ble_eq_true rfl)⟩ (fun _ => ⟨rfl, rfl⟩) ?_
  refine g_putPF f_X8_23 rfl (fun q hq => by cases hq; rfl) d_X8_init_41 rfl (Nat.le_of_ble_eq_true rfl) rfl rfl rfl ?_
  refine g_aload_n0 rfl d_X8_init_44 ?_
  refine g_new (v := 21) (ci := 6) (C := RX7) (T := TX7) (n := 4) rfl tyX7 tyX7_ok inX7 rfl (in1 43 (by decide +kernel) rfl) (in1 44 (by decide +kernel) rfl) (in1 4 (by decide +kernel) rfl) def_X7 rfl d_X8_init_45 (Nat.le_of_ble_eq_true rfl) (Nat.le_of_ble_eq_true rfl) ?_
  refine g_dup rfl d_X8_init_48 ?_
  refine g_bipush 9 d_X8_init_49 (by decide) ?_
  refine g_iconst 3 d_X8_init_51 (by decide) ?_
  refine g_callI0 (n_tb21 (nwI (nI_tb19 (nwI (nI_tb17 (nwI (nI_tb15 (nwI I 15)) 17)) 19)) 21) (nwJ (nJ_tb19 (nwJ (nJ_tb17 (nwJ (nJ_tb15 (nwJ J 15)) 17)) 19)) 21) (nwP (stP (nP_tb19 (nwP (stP (nP_tb17 (nwP (stP (nP_tb15 (nwP P 15)) 14 7 (some 15)) 17)) 14 8 (some 17)) 19)) 14 9 (some 19)) 21)) rfl w_X7_init l_X8_11 d_X8_init_52 rfl rfl (Nat.le_of_ble_eq_true rfl) ⟨(Nat.le_of_ble_eq_true rfl), (Nat.le_of_ble_eq_true rfl)⟩ ⟨(Nat.le_of_ble_eq_true rfl), (Nat.le_of_ble_eq_true rfl)⟩ (fun _ => ⟨rfl, rfl⟩) ?_
  refine g_putPF f_X8_26 rfl (fun q hq => by cases hq; rfl) d_X8_init_55 rfl (Nat.le_of_ble_eq_true rfl) rfl rfl rfl ?_
  exact g_vret rfl d_X8_init_58 ⟨rfl, rfl⟩ (Nat.le_of_ble_eq_true rfl) (Nat.le_of_ble_eq_true rfl)
def nI_rd (I : Nat → Nat → Int32) : Nat → Nat → Int32 := (nwI (nwI (nwI (nI_to3 (nwI I 3)) 1) 12) 13)
def nJ_rd (J : Nat → Nat → Int64) : Nat → Nat → Int64 := (nwJ (nwJ (nwJ (nJ_to3 (nwJ J 3)) 1) 12) 13)
def nP_rd (P : Nat → Nat → Option Nat) : Nat → Nat → Option Nat := (stP (nwP (stP (nwP (stP (nwP (stP (nP_to3 (nwP P 3)) 2 2 (some 3)) 1) 2 3 (some 1)) 12) 2 12 (some 12)) 13) 2 13 (some 13))
set_option maxHeartbeats 800000 in
set_option maxRecDepth 8000 in
theorem n_rd {k : KT} (I : Nat → Nat → Int32) (J : Nat → Nat → Int64) (P : Nat → Nat → Option Nat) : Ct k mX6_init 3 12 1026 [.ref (ka k 2)] (2, true, I, J, P) (fun v M' => v = none ∧ M' = (14, true, nI_rd I, nJ_rd J, nP_rd P)) := by
  refine Ct.of rfl [some (.ref (ka k 2))] rfl rfl (Nat.le_of_ble_eq_true rfl) ?_
  refine g_aload_n0 rfl d_X6_init_0 ?_
  refine g_obj (in1 36 (by decide +kernel) rfl) wob1 wob2 d_X6_init_1 ⟨(Nat.le_of_ble_eq_true rfl), (Nat.le_of_ble_eq_true rfl)⟩ ?_
  refine g_aload_n0 rfl d_X6_init_4 ?_
  refine g_new (v := 3) (ci := 7) (C := RX8) (T := TX8) (n := 11) rfl tyX8 tyX8_ok inX8 rfl (in1 37 (by decide +kernel) rfl) (in1 38 (by decide +kernel) rfl) (in1 3 (by decide +kernel) rfl) def_X8 rfl d_X6_init_5 (Nat.le_of_ble_eq_true rfl) (Nat.le_of_ble_eq_true rfl) ?_
  refine g_dup rfl d_X6_init_8 ?_
  refine g_callI0 (n_to3 (nwI I 3) (nwJ J 3) (nwP P 3)) rfl w_X8_init l_X6_11 d_X6_init_9 rfl rfl (Nat.le_of_ble_eq_true rfl) ⟨(Nat.le_of_ble_eq_true rfl), (Nat.le_of_ble_eq_true rfl)⟩ ⟨(Nat.le_of_ble_eq_true rfl), (Nat.le_of_ble_eq_true rfl)⟩ (fun _ => ⟨rfl, rfl⟩) ?_
  refine g_putP f_X6_12 d_X6_init_12 rfl (Nat.le_of_ble_eq_true rfl) rfl rfl rfl ?_
  refine g_aload_n0 rfl d_X6_init_15 ?_
  refine g_sipush 900 d_X6_init_16 (by decide) ?_
  refine g_newa_b (v := 1) (L := 900) rfl (in1 188 (by decide +kernel) rfl) rfl (by decide +kernel) (by decide +kernel) (by decide +kernel) (by decide) d_X6_init_19 (Nat.le_of_ble_eq_true rfl) (Nat.le_of_ble_eq_true rfl) ?_
  refine g_putPF f_X6_18 rfl (fun q hq => by cases hq; rfl) d_X6_init_21 rfl (Nat.le_of_ble_eq_true rfl) rfl rfl rfl ?_
  refine g_aload_n0 rfl d_X6_init_24 ?_
  refine g_bipush 16 d_X6_init_25 (by decide) ?_
  refine g_newa_j (v := 12) (L := 16) rfl (in1 189 (by decide +kernel) rfl) rfl (by decide +kernel) (by decide +kernel) (by decide +kernel) (by decide) d_X6_init_27 (Nat.le_of_ble_eq_true rfl) (Nat.le_of_ble_eq_true rfl) ?_
  refine g_putPF f_X6_22 rfl (fun q hq => by cases hq; rfl) d_X6_init_29 rfl (Nat.le_of_ble_eq_true rfl) rfl rfl rfl ?_
  refine g_aload_n0 rfl d_X6_init_32 ?_
  refine g_bipush 16 d_X6_init_33 (by decide) ?_
  refine g_newa_i (v := 13) (L := 16) rfl (in1 67 (by decide +kernel) rfl) rfl (by decide +kernel) (by decide +kernel) (by decide +kernel) (by decide) d_X6_init_35 (Nat.le_of_ble_eq_true rfl) (Nat.le_of_ble_eq_true rfl) ?_
  refine g_putPF f_X6_26 rfl (fun q hq => by cases hq; rfl) d_X6_init_37 rfl (Nat.le_of_ble_eq_true rfl) rfl rfl rfl ?_
  exact g_vret rfl d_X6_init_40 ⟨rfl, rfl⟩ (Nat.le_of_ble_eq_true rfl) (Nat.le_of_ble_eq_true rfl)
def nI_pa (I : Nat → Nat → Int32) : Nat → Nat → Int32 := (nwI (nwI (nwI (nwI (nwI (nwI (nwI (nwI (nwI (nwI (nwI (nwI (nwI (nwI (nwI (nwI (nwI (nwI (nwI (nwI (nwI I 25) 26) 27) 28) 29) 30) 31) 32) 33) 34) 35) 36) 37) 38) 39) 40) 41) 42) 43) 44) 45)
def nJ_pa (J : Nat → Nat → Int64) : Nat → Nat → Int64 := (nwJ (nwJ (nwJ (nwJ (nwJ (nwJ (nwJ (nwJ (nwJ (nwJ (nwJ (nwJ (nwJ (nwJ (nwJ (nwJ (nwJ (nwJ (nwJ (nwJ (nwJ J 25) 26) 27) 28) 29) 30) 31) 32) 33) 34) 35) 36) 37) 38) 39) 40) 41) 42) 43) 44) 45)
def nP_pa (P : Nat → Nat → Option Nat) : Nat → Nat → Option Nat := (stP (nwP (stP (nwP (stP (nwP (stP (nwP (stP (nwP (stP (nwP (stP (nwP (stP (nwP (stP (nwP (stP (nwP (stP (nwP (stP (nwP (stP (nwP (stP (nwP (stP (nwP (stP (nwP (stP (nwP (stP (nwP (stP (nwP (stP (nwP (stP (nwP P 25) 24 3 (some 25)) 26) 24 4 (some 26)) 27) 25 (0 : Int32).toNatClampNeg (some 27)) 28) 25 (1 : Int32).toNatClampNeg (some 28)) 29) 25 (2 : Int32).toNatClampNeg (some 29)) 30) 25 (3 : Int32).toNatClampNeg (some 30)) 31) 25 (4 : Int32).toNatClampNeg (some 31)) 32) 25 (5 : Int32).toNatClampNeg (some 32)) 33) 25 (6 : Int32).toNatClampNeg (some 33)) 34) 25 (7 : Int32).toNatClampNeg (some 34)) 35) 25 (8 : Int32).toNatClampNeg (some 35)) 36) 25 (9 : Int32).toNatClampNeg (some 36)) 37) 25 (10 : Int32).toNatClampNeg (some 37)) 38) 25 (11 : Int32).toNatClampNeg (some 38)) 39) 25 (12 : Int32).toNatClampNeg (some 39)) 40) 25 (13 : Int32).toNatClampNeg (some 40)) 41) 25 (14 : Int32).toNatClampNeg (some 41)) 42) 25 (15 : Int32).toNatClampNeg (some 42)) 43) 26 (0 : Int32).toNatClampNeg (some 43)) 44) 26 (1 : Int32).toNatClampNeg (some 44)) 45) 26 (2 : Int32).toNatClampNeg (some 45))
set_option maxHeartbeats 800000 in
set_option maxRecDepth 8000 in
theorem n_pa {k : KT} (I : Nat → Nat → Int32) (J : Nat → Nat → Int64) (P : Nat → Nat → Option Nat) : Ct k mX5_init 2 21 190 [.ref (ka k 24)] (25, true, I, J, P) (fun v M' => v = none ∧ M' = (46, true, nI_pa I, nJ_pa J, nP_pa P)) := by
  refine Ct.of rfl [some (.ref (ka k 24)), none] rfl rfl (Nat.le_of_ble_eq_true rfl) ?_
  refine g_aload_n0 rfl d_X5_init_0 ?_
  refine g_obj (in2 5 (by decide +kernel) rfl) wob1 wob2 d_X5_init_1 ⟨(Nat.le_of_ble_eq_true rfl), (Nat.le_of_ble_eq_true rfl)⟩ ?_
  refine g_aload_n0 rfl d_X5_init_4 ?_
  refine g_bipush 16 d_X5_init_5 (by decide) ?_
  refine g_anew (v := 25) (L := 16) rfl (in2 6 (by decide +kernel) rfl) rfl (by decide +kernel) (by decide +kernel) (by decide +kernel) (by decide) d_X5_init_7 (Nat.le_of_ble_eq_true rfl) (Nat.le_of_ble_eq_true rfl) ?_
  refine g_putPF f_X5_13 rfl (fun q hq => by cases hq; rfl) d_X5_init_10 rfl (Nat.le_of_ble_eq_true rfl) rfl rfl rfl ?_
  refine g_aload_n0 rfl d_X5_init_13 ?_
  refine g_iconst 3 d_X5_init_14 (by decide) ?_
  refine g_anew (v := 26) (L := 3) rfl (in2 6 (by decide +kernel) rfl) rfl (by decide +kernel) (by decide +kernel) (by decide +kernel) (by decide) d_X5_init_15 (Nat.le_of_ble_eq_true rfl) (Nat.le_of_ble_eq_true rfl) ?_
  refine g_putPF f_X5_17 rfl (fun q hq => by cases hq; rfl) d_X5_init_18 rfl (Nat.le_of_ble_eq_true rfl) rfl rfl rfl ?_
  refine g_iconst 0 d_X5_init_21 (by decide) ?_
  refine g_isn1 rfl d_X5_init_22 ?_
  refine g_iload_n1 rfl d_X5_init_23 ?_
  refine g_aload_n0 rfl d_X5_init_24 ?_
  refine g_getP (b := 25) f_X5_13 d_X5_init_25 rfl (Nat.le_of_ble_eq_true rfl) rfl rfl ?_
  refine g_alen14 d_X5_init_28 rfl (Nat.le_of_ble_eq_true rfl) ?_
  refine g_icmp_ge 51 d_X5_init_29 (by decide) (fun h => absurd h (by decide +kernel)) (fun _ => ?_)
  refine g_aload_n0 rfl d_X5_init_32 ?_
  refine g_getP (b := 25) f_X5_13 d_X5_init_33 rfl (Nat.le_of_ble_eq_true rfl) rfl rfl ?_
  refine g_iload_n1 rfl d_X5_init_36 ?_
  refine g_new (v := 27) (ci := 0) (C := RX0) (T := TX0) (n := 9) rfl tyX0 tyX0_ok inX0 rfl (in2 6 (by decide +kernel) rfl) (in1 193 (by decide +kernel) rfl) (in1 5 (by decide +kernel) rfl) def_X0 rfl d_X5_init_37 (Nat.le_of_ble_eq_true rfl) (Nat.le_of_ble_eq_true rfl) ?_
  refine g_dup rfl d_X5_init_40 ?_
  refine g_callI0 (n_X0 27) rfl w_X0_init l_X5_20 d_X5_init_41 rfl rfl (Nat.le_of_ble_eq_true rfl) ⟨(Nat.le_of_ble_eq_true rfl), (Nat.le_of_ble_eq_true rfl)⟩ ⟨(Nat.le_of_ble_eq_true rfl), (Nat.le_of_ble_eq_true rfl)⟩ (fun _ => ⟨rfl, rfl⟩) ?_
  refine g_aast d_X5_init_44 rfl (Nat.le_of_ble_eq_true rfl) rfl (Nat.le_of_ble_eq_true rfl) (vp_c (by decide +kernel)) ?_
  refine g_ic1 1 (by decide) rfl d_X5_init_45 ?_
  refine g_goto 23 d_X5_init_48 (by decide) ?_
  refine g_iload_n1 rfl d_X5_init_23 ?_
  refine g_aload_n0 rfl d_X5_init_24 ?_
  refine g_getP (b := 25) f_X5_13 d_X5_init_25 rfl (Nat.le_of_ble_eq_true rfl) rfl rfl ?_
  refine g_alen14 d_X5_init_28 rfl (Nat.le_of_ble_eq_true rfl) ?_
  refine g_icmp_ge 51 d_X5_init_29 (by decide) (fun h => absurd h (by decide +kernel)) (fun _ => ?_)
  refine g_aload_n0 rfl d_X5_init_32 ?_
  refine g_getP (b := 25) f_X5_13 d_X5_init_33 rfl (Nat.le_of_ble_eq_true rfl) rfl rfl ?_
  refine g_iload_n1 rfl d_X5_init_36 ?_
  refine g_new (v := 28) (ci := 0) (C := RX0) (T := TX0) (n := 9) rfl tyX0 tyX0_ok inX0 rfl (in2 6 (by decide +kernel) rfl) (in1 193 (by decide +kernel) rfl) (in1 5 (by decide +kernel) rfl) def_X0 rfl d_X5_init_37 (Nat.le_of_ble_eq_true rfl) (Nat.le_of_ble_eq_true rfl) ?_
  refine g_dup rfl d_X5_init_40 ?_
  refine g_callI0 (n_X0 28) rfl w_X0_init l_X5_20 d_X5_init_41 rfl rfl (Nat.le_of_ble_eq_true rfl) ⟨(Nat.le_of_ble_eq_true rfl), (Nat.le_of_ble_eq_true rfl)⟩ ⟨(Nat.le_of_ble_eq_true rfl), (Nat.le_of_ble_eq_true rfl)⟩ (fun _ => ⟨rfl, rfl⟩) ?_
  refine g_aast d_X5_init_44 rfl (Nat.le_of_ble_eq_true rfl) rfl (Nat.le_of_ble_eq_true rfl) (vp_c (by decide +kernel)) ?_
  refine g_ic1 2 (by decide) rfl d_X5_init_45 ?_
  refine g_goto 23 d_X5_init_48 (by decide) ?_
  refine g_iload_n1 rfl d_X5_init_23 ?_
  refine g_aload_n0 rfl d_X5_init_24 ?_
  refine g_getP (b := 25) f_X5_13 d_X5_init_25 rfl (Nat.le_of_ble_eq_true rfl) rfl rfl ?_
  refine g_alen14 d_X5_init_28 rfl (Nat.le_of_ble_eq_true rfl) ?_
  refine g_icmp_ge 51 d_X5_init_29 (by decide) (fun h => absurd h (by decide +kernel)) (fun _ => ?_)
  refine g_aload_n0 rfl d_X5_init_32 ?_
  refine g_getP (b := 25) f_X5_13 d_X5_init_33 rfl (Nat.le_of_ble_eq_true rfl) rfl rfl ?_
  refine g_iload_n1 rfl d_X5_init_36 ?_
  refine g_new (v := 29) (ci := 0) (C := RX0) (T := TX0) (n := 9) rfl tyX0 tyX0_ok inX0 rfl (in2 6 (by decide +kernel) rfl) (in1 193 (by decide +kernel) rfl) (in1 5 (by decide +kernel) rfl) def_X0 rfl d_X5_init_37 (Nat.le_of_ble_eq_true rfl) (Nat.le_of_ble_eq_true rfl) ?_
  refine g_dup rfl d_X5_init_40 ?_
  refine g_callI0 (n_X0 29) rfl w_X0_init l_X5_20 d_X5_init_41 rfl rfl (Nat.le_of_ble_eq_true rfl) ⟨(Nat.le_of_ble_eq_true rfl), (Nat.le_of_ble_eq_true rfl)⟩ ⟨(Nat.le_of_ble_eq_true rfl), (Nat.le_of_ble_eq_true rfl)⟩ (fun _ => ⟨rfl, rfl⟩) ?_
  refine g_aast d_X5_init_44 rfl (Nat.le_of_ble_eq_true rfl) rfl (Nat.le_of_ble_eq_true rfl) (vp_c (by decide +kernel)) ?_
  refine g_ic1 3 (by decide) rfl d_X5_init_45 ?_
  refine g_goto 23 d_X5_init_48 (by decide) ?_
  refine g_iload_n1 rfl d_X5_init_23 ?_
  refine g_aload_n0 rfl d_X5_init_24 ?_
  refine g_getP (b := 25) f_X5_13 d_X5_init_25 rfl (Nat.le_of_ble_eq_true rfl) rfl rfl ?_
  refine g_alen14 d_X5_init_28 rfl (Nat.le_of_ble_eq_true rfl) ?_
  refine g_icmp_ge 51 d_X5_init_29 (by decide) (fun h => absurd h (by decide +kernel)) (fun _ => ?_)
  refine g_aload_n0 rfl d_X5_init_32 ?_
  refine g_getP (b := 25) f_X5_13 d_X5_init_33 rfl (Nat.le_of_ble_eq_true rfl) rfl rfl ?_
  refine g_iload_n1 rfl d_X5_init_36 ?_
  refine g_new (v := 30) (ci := 0) (C := RX0) (T := TX0) (n := 9) rfl tyX0 tyX0_ok inX0 rfl (in2 6 (by decide +kernel) rfl) (in1 193 (by decide +kernel) rfl) (in1 5 (by decide +kernel) rfl) def_X0 rfl d_X5_init_37 (Nat.le_of_ble_eq_true rfl) (Nat.le_of_ble_eq_true rfl) ?_
  refine g_dup rfl d_X5_init_40 ?_
  refine g_callI0 (n_X0 30) rfl w_X0_init l_X5_20 d_X5_init_41 rfl rfl (Nat.le_of_ble_eq_true rfl) ⟨(Nat.le_of_ble_eq_true rfl), (Nat.le_of_ble_eq_true rfl)⟩ ⟨(Nat.le_of_ble_eq_true rfl), (Nat.le_of_ble_eq_true rfl)⟩ (fun _ => ⟨rfl, rfl⟩) ?_
  refine g_aast d_X5_init_44 rfl (Nat.le_of_ble_eq_true rfl) rfl (Nat.le_of_ble_eq_true rfl) (vp_c (by decide +kernel)) ?_
  refine g_ic1 4 (by decide) rfl d_X5_init_45 ?_
  refine g_goto 23 d_X5_init_48 (by decide) ?_
  refine g_iload_n1 rfl d_X5_init_23 ?_
  refine g_aload_n0 rfl d_X5_init_24 ?_
  refine g_getP (b := 25) f_X5_13 d_X5_init_25 rfl (Nat.le_of_ble_eq_true rfl) rfl rfl ?_
  refine g_alen14 d_X5_init_28 rfl (Nat.le_of_ble_eq_true rfl) ?_
  refine g_icmp_ge 51 d_X5_init_29 (by decide) (fun h => absurd h (by decide +kernel)) (fun _ => ?_)
  refine g_aload_n0 rfl d_X5_init_32 ?_
  refine g_getP (b := 25) f_X5_13 d_X5_init_33 rfl (Nat.le_of_ble_eq_true rfl) rfl rfl ?_
  refine g_iload_n1 rfl d_X5_init_36 ?_
  refine g_new (v := 31) (ci := 0) (C := RX0) (T := TX0) (n := 9) rfl tyX0 tyX0_ok inX0 rfl (in2 6 (by decide +kernel) rfl) (in1 193 (by decide +kernel) rfl) (in1 5 (by decide +kernel) rfl) def_X0 rfl d_X5_init_37 (Nat.le_of_ble_eq_true rfl) (Nat.le_of_ble_eq_true rfl) ?_
  refine g_dup rfl d_X5_init_40 ?_
  refine g_callI0 (n_X0 31) rfl w_X0_init l_X5_20 d_X5_init_41 rfl rfl (Nat.le_of_ble_eq_true rfl) ⟨(Nat.le_of_ble_eq_true rfl), (Nat.le_of_ble_eq_true rfl)⟩ ⟨(Nat.le_of_ble_eq_true rfl), (Nat.le_of_ble_eq_true rfl)⟩ (fun _ => ⟨rfl, rfl⟩) ?_
  refine g_aast d_X5_init_44 rfl (Nat.le_of_ble_eq_true rfl) rfl (Nat.le_of_ble_eq_true rfl) (vp_c (by decide +kernel)) ?_
  refine g_ic1 5 (by decide) rfl d_X5_init_45 ?_
  refine g_goto 23 d_X5_init_48 (by decide) ?_
  refine g_iload_n1 rfl d_X5_init_23 ?_
  refine g_aload_n0 rfl d_X5_init_24 ?_
  refine g_getP (b := 25) f_X5_13 d_X5_init_25 rfl (Nat.le_of_ble_eq_true rfl) rfl rfl ?_
  refine g_alen14 d_X5_init_28 rfl (Nat.le_of_ble_eq_true rfl) ?_
  refine g_icmp_ge 51 d_X5_init_29 (by decide) (fun h => absurd h (by decide +kernel)) (fun _ => ?_)
  refine g_aload_n0 rfl d_X5_init_32 ?_
  refine g_getP (b := 25) f_X5_13 d_X5_init_33 rfl (Nat.le_of_ble_eq_true rfl) rfl rfl ?_
  refine g_iload_n1 rfl d_X5_init_36 ?_
  refine g_new (v := 32) (ci := 0) (C := RX0) (T := TX0) (n := 9) rfl tyX0 tyX0_ok inX0 rfl (in2 6 (by decide +kernel) rfl) (in1 193 (by decide +kernel) rfl) (in1 5 (by decide +kernel) rfl) def_X0 rfl d_X5_init_37 (Nat.le_of_ble_eq_true rfl) (Nat.le_of_ble_eq_true rfl) ?_
  refine g_dup rfl d_X5_init_40 ?_
  refine g_callI0 (n_X0 32) rfl w_X0_init l_X5_20 d_X5_init_41 rfl rfl (Nat.le_of_ble_eq_true rfl) ⟨(Nat.le_of_ble_eq_true rfl), (Nat.le_of_ble_eq_true rfl)⟩ ⟨(Nat.le_of_ble_eq_true rfl), (Nat.le_of_ble_eq_true rfl)⟩ (fun _ => ⟨rfl, rfl⟩) ?_
  refine g_aast d_X5_init_44 rfl (Nat.le_of_ble_eq_true rfl) rfl (Nat.le_of_ble_eq_true rfl) (vp_c (by decide +kernel)) ?_
  refine g_ic1 6 (by decide) rfl d_X5_init_45 ?_
  refine g_goto 23 d_X5_init_48 (by decide) ?_
  refine g_iload_n1 rfl d_X5_init_23 ?_
  refine g_aload_n0 rfl d_X5_init_24 ?_
  refine g_getP (b := 25) f_X5_13 d_X5_init_25 rfl (Nat.le_of_ble_eq_true rfl) rfl rfl ?_
  refine g_alen14 d_X5_init_28 rfl (Nat.le_of_ble_eq_true rfl) ?_
  refine g_icmp_ge 51 d_X5_init_29 (by decide) (fun h => absurd h (by decide +kernel)) (fun _ => ?_)
  refine g_aload_n0 rfl d_X5_init_32 ?_
  refine g_getP (b := 25) f_X5_13 d_X5_init_33 rfl (Nat.le_of_ble_eq_true rfl) rfl rfl ?_
  refine g_iload_n1 rfl d_X5_init_36 ?_
  refine g_new (v := 33) (ci := 0) (C := RX0) (T := TX0) (n := 9) rfl tyX0 tyX0_ok inX0 rfl (in2 6 (by decide +kernel) rfl) (in1 193 (by decide +kernel) rfl) (in1 5 (by decide +kernel) rfl) def_X0 rfl d_X5_init_37 (Nat.le_of_ble_eq_true rfl) (Nat.le_of_ble_eq_true rfl) ?_
  refine g_dup rfl d_X5_init_40 ?_
  refine g_callI0 (n_X0 33) rfl w_X0_init l_X5_20 d_X5_init_41 rfl rfl (Nat.le_of_ble_eq_true rfl) ⟨(Nat.le_of_ble_eq_true rfl), (Nat.le_of_ble_eq_true rfl)⟩ ⟨(Nat.le_of_ble_eq_true rfl), (Nat.le_of_ble_eq_true rfl)⟩ (fun _ => ⟨rfl, rfl⟩) ?_
  refine g_aast d_X5_init_44 rfl (Nat.le_of_ble_eq_true rfl) rfl (Nat.le_of_ble_eq_true rfl) (vp_c (by decide +kernel)) ?_
  refine g_ic1 7 (by decide) rfl d_X5_init_45 ?_
  refine g_goto 23 d_X5_init_48 (by decide) ?_
  refine g_iload_n1 rfl d_X5_init_23 ?_
  refine g_aload_n0 rfl d_X5_init_24 ?_
  refine g_getP (b := 25) f_X5_13 d_X5_init_25 rfl (Nat.le_of_ble_eq_true rfl) rfl rfl ?_
  refine g_alen14 d_X5_init_28 rfl (Nat.le_of_ble_eq_true rfl) ?_
  refine g_icmp_ge 51 d_X5_init_29 (by decide) (fun h => absurd h (by decide +kernel)) (fun _ => ?_)
  refine g_aload_n0 rfl d_X5_init_32 ?_
  refine g_getP (b := 25) f_X5_13 d_X5_init_33 rfl (Nat.le_of_ble_eq_true rfl) rfl rfl ?_
  refine g_iload_n1 rfl d_X5_init_36 ?_
  refine g_new (v := 34) (ci := 0) (C := RX0) (T := TX0) (n := 9) rfl tyX0 tyX0_ok inX0 rfl (in2 6 (by decide +kernel) rfl) (in1 193 (by decide +kernel) rfl) (in1 5 (by decide +kernel) rfl) def_X0 rfl d_X5_init_37 (Nat.le_of_ble_eq_true rfl) (Nat.le_of_ble_eq_true rfl) ?_
  refine g_dup rfl d_X5_init_40 ?_
  refine g_callI0 (n_X0 34) rfl w_X0_init l_X5_20 d_X5_init_41 rfl rfl (Nat.le_of_ble_eq_true rfl) ⟨(Nat.le_of_ble_eq_true rfl), (Nat.le_of_ble_eq_true rfl)⟩ ⟨(Nat.le_of_ble_eq_true rfl), (Nat.le_of_ble_eq_true rfl)⟩ (fun _ => ⟨rfl, rfl⟩) ?_
  refine g_aast d_X5_init_44 rfl (Nat.le_of_ble_eq_true rfl) rfl (Nat.le_of_ble_eq_true rfl) (vp_c (by decide +kernel)) ?_
  refine g_ic1 8 (by decide) rfl d_X5_init_45 ?_
  refine g_goto 23 d_X5_init_48 (by decide) ?_
  refine g_iload_n1 rfl d_X5_init_23 ?_
  refine g_aload_n0 rfl d_X5_init_24 ?_
  refine g_getP (b := 25) f_X5_13 d_X5_init_25 rfl (Nat.le_of_ble_eq_true rfl) rfl rfl ?_
  refine g_alen14 d_X5_init_28 rfl (Nat.le_of_ble_eq_true rfl) ?_
  refine g_icmp_ge 51 d_X5_init_29 (by decide) (fun h => absurd h (by decide +kernel)) (fun _ => ?_)
  refine g_aload_n0 rfl d_X5_init_32 ?_
  refine g_getP (b := 25) f_X5_13 d_X5_init_33 rfl (Nat.le_of_ble_eq_true rfl) rfl rfl ?_
  refine g_iload_n1 rfl d_X5_init_36 ?_
  refine g_new (v := 35) (ci := 0) (C := RX0) (T := TX0) (n := 9) rfl tyX0 tyX0_ok inX0 rfl (in2 6 (by decide +kernel) rfl) (in1 193 (by decide +kernel) rfl) (in1 5 (by decide +kernel) rfl) def_X0 rfl d_X5_init_37 (Nat.le_of_ble_eq_true rfl) (Nat.le_of_ble_eq_true rfl) ?_
  refine g_dup rfl d_X5_init_40 ?_
  refine g_callI0 (n_X0 35) rfl w_X0_init l_X5_20 d_X5_init_41 rfl rfl (Nat.le_of_ble_eq_true rfl) ⟨(Nat.le_of_ble_eq_true rfl), (Nat.le_of_ble_eq_true rfl)⟩ ⟨(Nat.le_of_ble_eq_true rfl), (Nat.le_of_ble_eq_true rfl)⟩ (fun _ => ⟨rfl, rfl⟩) ?_
  refine g_aast d_X5_init_44 rfl (Nat.le_of_ble_eq_true rfl) rfl (Nat.le_of_ble_eq_true rfl) (vp_c (by decide +kernel)) ?_
  refine g_ic1 9 (by decide) rfl d_X5_init_45 ?_
  refine g_goto 23 d_X5_init_48 (by decide) ?_
  refine g_iload_n1 rfl d_X5_init_23 ?_
  refine g_aload_n0 rfl d_X5_init_24 ?_
  refine g_getP (b := 25) f_X5_13 d_X5_init_25 rfl (Nat.le_of_ble_eq_true rfl) rfl rfl ?_
  refine g_alen14 d_X5_init_28 rfl (Nat.le_of_ble_eq_true rfl) ?_
  refine g_icmp_ge 51 d_X5_init_29 (by decide) (fun h => absurd h (by decide +kernel)) (fun _ => ?_)
  refine g_aload_n0 rfl d_X5_init_32 ?_
  refine g_getP (b := 25) f_X5_13 d_X5_init_33 rfl (Nat.le_of_ble_eq_true rfl) rfl rfl ?_
  refine g_iload_n1 rfl d_X5_init_36 ?_
  refine g_new (v := 36) (ci := 0) (C := RX0) (T := TX0) (n := 9) rfl tyX0 tyX0_ok inX0 rfl (in2 6 (by decide +kernel) rfl) (in1 193 (by decide +kernel) rfl) (in1 5 (by decide +kernel) rfl) def_X0 rfl d_X5_init_37 (Nat.le_of_ble_eq_true rfl) (Nat.le_of_ble_eq_true rfl) ?_
  refine g_dup rfl d_X5_init_40 ?_
  refine g_callI0 (n_X0 36) rfl w_X0_init l_X5_20 d_X5_init_41 rfl rfl (Nat.le_of_ble_eq_true rfl) ⟨(Nat.le_of_ble_eq_true rfl), (Nat.le_of_ble_eq_true rfl)⟩ ⟨(Nat.le_of_ble_eq_true rfl), (Nat.le_of_ble_eq_true rfl)⟩ (fun _ => ⟨rfl, rfl⟩) ?_
  refine g_aast d_X5_init_44 rfl (Nat.le_of_ble_eq_true rfl) rfl (Nat.le_of_ble_eq_true rfl) (vp_c (by decide +kernel)) ?_
  refine g_ic1 10 (by decide) rfl d_X5_init_45 ?_
  refine g_goto 23 d_X5_init_48 (by decide) ?_
  refine g_iload_n1 rfl d_X5_init_23 ?_
  refine g_aload_n0 rfl d_X5_init_24 ?_
  refine g_getP (b := 25) f_X5_13 d_X5_init_25 rfl (Nat.le_of_ble_eq_true rfl) rfl rfl ?_
  refine g_alen14 d_X5_init_28 rfl (Nat.le_of_ble_eq_true rfl) ?_
  refine g_icmp_ge 51 d_X5_init_29 (by decide) (fun h => absurd h (by decide +kernel)) (fun _ => ?_)
  refine g_aload_n0 rfl d_X5_init_32 ?_
  refine g_getP (b := 25) f_X5_13 d_X5_init_33 rfl (Nat.le_of_ble_eq_true rfl) rfl rfl ?_
  refine g_iload_n1 rfl d_X5_init_36 ?_
  refine g_new (v := 37) (ci := 0) (C := RX0) (T := TX0) (n := 9) rfl tyX0 tyX0_ok inX0 rfl (in2 6 (by decide +kernel) rfl) (in1 193 (by decide +kernel) rfl) (in1 5 (by decide +kernel) rfl) def_X0 rfl d_X5_init_37 (Nat.le_of_ble_eq_true rfl) (Nat.le_of_ble_eq_true rfl) ?_
  refine g_dup rfl d_X5_init_40 ?_
  refine g_callI0 (n_X0 37) rfl w_X0_init l_X5_20 d_X5_init_41 rfl rfl (Nat.le_of_ble_eq_true rfl) ⟨(Nat.le_of_ble_eq_true rfl), (Nat.le_of_ble_eq_true rfl)⟩ ⟨(Nat.le_of_ble_eq_true rfl), (Nat.le_of_ble_eq_true rfl)⟩ (fun _ => ⟨rfl, rfl⟩) ?_
  refine g_aast d_X5_init_44 rfl (Nat.le_of_ble_eq_true rfl) rfl (Nat.le_of_ble_eq_true rfl) (vp_c (by decide +kernel)) ?_
  refine g_ic1 11 (by decide) rfl d_X5_init_45 ?_
  refine g_goto 23 d_X5_init_48 (by decide) ?_
  refine g_iload_n1 rfl d_X5_init_23 ?_
  refine g_aload_n0 rfl d_X5_init_24 ?_
  refine g_getP (b := 25) f_X5_13 d_X5_init_25 rfl (Nat.le_of_ble_eq_true rfl) rfl rfl ?_
  refine g_alen14 d_X5_init_28 rfl (Nat.le_of_ble_eq_true rfl) ?_
  refine g_icmp_ge 51 d_X5_init_29 (by decide) (fun h => absurd h (by decide +kernel)) (fun _ => ?_)
  refine g_aload_n0 rfl d_X5_init_32 ?_
  refine g_getP (b := 25) f_X5_13 d_X5_init_33 rfl (Nat.le_of_ble_eq_true rfl) rfl rfl ?_
  refine g_iload_n1 rfl d_X5_init_36 ?_
  refine g_new (v := 38) (ci := 0) (C := RX0) (T := TX0) (n := 9) rfl tyX0 tyX0_ok inX0 rfl (in2 6 (by decide +kernel) rfl) (in1 193 (by decide +kernel) rfl) (in1 5 (by decide +kernel) rfl) def_X0 rfl d_X5_init_37 (Nat.le_of_ble_eq_true rfl) (Nat.le_of_ble_eq_true rfl) ?_
  refine g_dup rfl d_X5_init_40 ?_
  refine g_callI0 (n_X0 38) rfl w_X0_init l_X5_20 d_X5_init_41 rfl rfl (Nat.le_of_ble_eq_true rfl) ⟨(Nat.le_of_ble_eq_true rfl), (Nat.le_of_ble_eq_true rfl)⟩ ⟨(Nat.le_of_ble_eq_true rfl), (Nat.le_of_ble_eq_true rfl)⟩ (fun _ => ⟨rfl, rfl⟩) ?_
  refine g_aast d_X5_init_44 rfl (Nat.le_of_ble_eq_true rfl) rfl (Nat.le_of_ble_eq_true rfl) (vp_c (by decide +kernel)) ?_
  refine g_ic1 12 (by decide) rfl d_X5_init_45 ?_
  refine g_goto 23 d_X5_init_48 (by decide) ?_
  refine g_iload_n1 rfl d_X5_init_23 ?_
  refine g_aload_n0 rfl d_X5_init_24 ?_
  refine g_getP (b := 25) f_X5_13 d_X5_init_25 rfl (Nat.le_of_ble_eq_true rfl) rfl rfl ?_
  refine g_alen14 d_X5_init_28 rfl (Nat.le_of_ble_eq_true rfl) ?_
  refine g_icmp_ge 51 d_X5_init_29 (by decide) (fun h => absurd h (by decide +kernel)) (fun _ => ?_)
  refine g_aload_n0 rfl d_X5_init_32 ?_
  refine g_getP (b := 25) f_X5_13 d_X5_init_33 rfl (Nat.le_of_ble_eq_true rfl) rfl rfl ?_
  refine g_iload_n1 rfl d_X5_init_36 ?_
  refine g_new (v := 39) (ci := 0) (C := RX0) (T := TX0) (n := 9) rfl tyX0 tyX0_ok inX0 rfl (in2 6 (by decide +kernel) rfl) (in1 193 (by decide +kernel) rfl) (in1 5 (by decide +kernel) rfl) def_X0 rfl d_X5_init_37 (Nat.le_of_ble_eq_true rfl) (Nat.le_of_ble_eq_true rfl) ?_
  refine g_dup rfl d_X5_init_40 ?_
  refine g_callI0 (n_X0 39) rfl w_X0_init l_X5_20 d_X5_init_41 rfl rfl (Nat.le_of_ble_eq_true rfl) ⟨(Nat.le_of_ble_eq_true rfl), (Nat.le_of_ble_eq_true rfl)⟩ ⟨(Nat.le_of_ble_eq_true rfl), (Nat.le_of_ble_eq_true rfl)⟩ (fun _ => ⟨rfl, rfl⟩) ?_
  refine g_aast d_X5_init_44 rfl (Nat.le_of_ble_eq_true rfl) rfl (Nat.le_of_ble_eq_true rfl) (vp_c (by decide +kernel)) ?_
  refine g_ic1 13 (by decide) rfl d_X5_init_45 ?_
  refine g_goto 23 d_X5_init_48 (by decide) ?_
  refine g_iload_n1 rfl d_X5_init_23 ?_
  refine g_aload_n0 rfl d_X5_init_24 ?_
  refine g_getP (b := 25) f_X5_13 d_X5_init_25 rfl (Nat.le_of_ble_eq_true rfl) rfl rfl ?_
  refine g_alen14 d_X5_init_28 rfl (Nat.le_of_ble_eq_true rfl) ?_
  refine g_icmp_ge 51 d_X5_init_29 (by decide) (fun h => absurd h (by decide +kernel)) (fun _ => ?_)
  refine g_aload_n0 rfl d_X5_init_32 ?_
  refine g_getP (b := 25) f_X5_13 d_X5_init_33 rfl (Nat.le_of_ble_eq_true rfl) rfl rfl ?_
  refine g_iload_n1 rfl d_X5_init_36 ?_
  refine g_new (v := 40) (ci := 0) (C := RX0) (T := TX0) (n := 9) rfl tyX0 tyX0_ok inX0 rfl (in2 6 (by decide +kernel) rfl) (in1 193 (by decide +kernel) rfl) (in1 5 (by decide +kernel) rfl) def_X0 rfl d_X5_init_37 (Nat.le_of_ble_eq_true rfl) (Nat.le_of_ble_eq_true rfl) ?_
  refine g_dup rfl d_X5_init_40 ?_
  refine g_callI0 (n_X0 40) rfl w_X0_init l_X5_20 d_X5_init_41 rfl rfl (Nat.le_of_ble_eq_true rfl) ⟨(Nat.le_of_ble_eq_true rfl), (Nat.le_of_ble_eq_true rfl)⟩ ⟨(Nat.le_of_ble_eq_true rfl), (Nat.le_of_ble_eq_true rfl)⟩ (fun _ => ⟨rfl, rfl⟩) ?_
  refine g_aast d_X5_init_44 rfl (Nat.le_of_ble_eq_true rfl) rfl (Nat.le_of_ble_eq_true rfl) (vp_c (by decide +kernel)) ?_
  refine g_ic1 14 (by decide) rfl d_X5_init_45 ?_
  refine g_goto 23 d_X5_init_48 (by decide) ?_
  refine g_iload_n1 rfl d_X5_init_23 ?_
  refine g_aload_n0 rfl d_X5_init_24 ?_
  refine g_getP (b := 25) f_X5_13 d_X5_init_25 rfl (Nat.le_of_ble_eq_true rfl) rfl rfl ?_
  refine g_alen14 d_X5_init_28 rfl (Nat.le_of_ble_eq_true rfl) ?_
  refine g_icmp_ge 51 d_X5_init_29 (by decide) (fun h => absurd h (by decide +kernel)) (fun _ => ?_)
  refine g_aload_n0 rfl d_X5_init_32 ?_
  refine g_getP (b := 25) f_X5_13 d_X5_init_33 rfl (Nat.le_of_ble_eq_true rfl) rfl rfl ?_
  refine g_iload_n1 rfl d_X5_init_36 ?_
  refine g_new (v := 41) (ci := 0) (C := RX0) (T := TX0) (n := 9) rfl tyX0 tyX0_ok inX0 rfl (in2 6 (by decide +kernel) rfl) (in1 193 (by decide +kernel) rfl) (in1 5 (by decide +kernel) rfl) def_X0 rfl d_X5_init_37 (Nat.le_of_ble_eq_true rfl) (Nat.le_of_ble_eq_true rfl) ?_
  refine g_dup rfl d_X5_init_40 ?_
  refine g_callI0 (n_X0 41) rfl w_X0_init l_X5_20 d_X5_init_41 rfl rfl (Nat.le_of_ble_eq_true rfl) ⟨(Nat.le_of_ble_eq_true rfl), (Nat.le_of_ble_eq_true rfl)⟩ ⟨(Nat.le_of_ble_eq_true rfl), (Nat.le_of_ble_eq_true rfl)⟩ (fun _ => ⟨rfl, rfl⟩) ?_
  refine g_aast d_X5_init_44 rfl (Nat.le_of_ble_eq_true rfl) rfl (Nat.le_of_ble_eq_true rfl) (vp_c (by decide +kernel)) ?_
  refine g_ic1 15 (by decide) rfl d_X5_init_45 ?_
  refine g_goto 23 d_X5_init_48 (by decide) ?_
  refine g_iload_n1 rfl d_X5_init_23 ?_
  refine g_aload_n0 rfl d_X5_init_24 ?_
  refine g_getP (b := 25) f_X5_13 d_X5_init_25 rfl (Nat.le_of_ble_eq_true rfl) rfl rfl ?_
  refine g_alen14 d_X5_init_28 rfl (Nat.le_of_ble_eq_true rfl) ?_
  refine g_icmp_ge 51 d_X5_init_29 (by decide) (fun h => absurd h (by decide +kernel)) (fun _ => ?_)
  refine g_aload_n0 rfl d_X5_init_32 ?_
  refine g_getP (b := 25) f_X5_13 d_X5_init_33 rfl (Nat.le_of_ble_eq_true rfl) rfl rfl ?_
  refine g_iload_n1 rfl d_X5_init_36 ?_
  refine g_new (v := 42) (ci := 0) (C := RX0) (T := TX0) (n := 9) rfl tyX0 tyX0_ok inX0 rfl (in2 6 (by decide +kernel) rfl) (in1 193 (by decide +kernel) rfl) (in1 5 (by decide +kernel) rfl) def_X0 rfl d_X5_init_37 (Nat.le_of_ble_eq_true rfl) (Nat.le_of_ble_eq_true rfl) ?_
  refine g_dup rfl d_X5_init_40 ?_
  refine g_callI0 (n_X0 42) rfl w_X0_init l_X5_20 d_X5_init_41 rfl rfl (Nat.le_of_ble_eq_true rfl) ⟨(Nat.le_of_ble_eq_true rfl), (Nat.le_of_ble_eq_true rfl)⟩ ⟨(Nat.le_of_ble_eq_true rfl), (Nat.le_of_ble_eq_true rfl)⟩ (fun _ => ⟨rfl, rfl⟩) ?_
  refine g_aast d_X5_init_44 rfl (Nat.le_of_ble_eq_true rfl) rfl (Nat.le_of_ble_eq_true rfl) (vp_c (by decide +kernel)) ?_
  refine g_ic1 16 (by decide) rfl d_X5_init_45 ?_
  refine g_goto 23 d_X5_init_48 (by decide) ?_
  refine g_iload_n1 rfl d_X5_init_23 ?_
  refine g_aload_n0 rfl d_X5_init_24 ?_
  refine g_getP (b := 25) f_X5_13 d_X5_init_25 rfl (Nat.le_of_ble_eq_true rfl) rfl rfl ?_
  refine g_alen14 d_X5_init_28 rfl (Nat.le_of_ble_eq_true rfl) ?_
  refine g_icmp_ge 51 d_X5_init_29 (by decide) (fun _ => ?_) (fun h => absurd (by decide +kernel) h)
  refine g_iconst 0 d_X5_init_51 (by decide) ?_
  refine g_isn1 rfl d_X5_init_52 ?_
  refine g_iload_n1 rfl d_X5_init_53 ?_
  refine g_aload_n0 rfl d_X5_init_54 ?_
  refine g_getP (b := 26) f_X5_17 d_X5_init_55 rfl (Nat.le_of_ble_eq_true rfl) rfl rfl ?_
  refine g_alen14 d_X5_init_58 rfl (Nat.le_of_ble_eq_true rfl) ?_
  refine g_icmp_ge 81 d_X5_init_59 (by decide) (fun h => absurd h (by decide +kernel)) (fun _ => ?_)
  refine g_aload_n0 rfl d_X5_init_62 ?_
  refine g_getP (b := 26) f_X5_17 d_X5_init_63 rfl (Nat.le_of_ble_eq_true rfl) rfl rfl ?_
  refine g_iload_n1 rfl d_X5_init_66 ?_
  refine g_new (v := 43) (ci := 0) (C := RX0) (T := TX0) (n := 9) rfl tyX0 tyX0_ok inX0 rfl (in2 6 (by decide +kernel) rfl) (in1 193 (by decide +kernel) rfl) (in1 5 (by decide +kernel) rfl) def_X0 rfl d_X5_init_67 (Nat.le_of_ble_eq_true rfl) (Nat.le_of_ble_eq_true rfl) ?_
  refine g_dup rfl d_X5_init_70 ?_
  refine g_callI0 (n_X0 43) rfl w_X0_init l_X5_20 d_X5_init_71 rfl rfl (Nat.le_of_ble_eq_true rfl) ⟨(Nat.le_of_ble_eq_true rfl), (Nat.le_of_ble_eq_true rfl)⟩ ⟨(Nat.le_of_ble_eq_true rfl), (Nat.le_of_ble_eq_true rfl)⟩ (fun _ => ⟨rfl, rfl⟩) ?_
  refine g_aast d_X5_init_74 rfl (Nat.le_of_ble_eq_true rfl) rfl (Nat.le_of_ble_eq_true rfl) (vp_c (by decide +kernel)) ?_
  refine g_ic1 1 (by decide) rfl d_X5_init_75 ?_
  refine g_goto 53 d_X5_init_78 (by decide) ?_
  refine g_iload_n1 rfl d_X5_init_53 ?_
  refine g_aload_n0 rfl d_X5_init_54 ?_
  refine g_getP (b := 26) f_X5_17 d_X5_init_55 rfl (Nat.le_of_ble_eq_true rfl) rfl rfl ?_
  refine g_alen14 d_X5_init_58 rfl (Nat.le_of_ble_eq_true rfl) ?_
  refine g_icmp_ge 81 d_X5_init_59 (by decide) (fun h => absurd h (by decide +kernel)) (fun _ => ?_)
  refine g_aload_n0 rfl d_X5_init_62 ?_
  refine g_getP (b := 26) f_X5_17 d_X5_init_63 rfl (Nat.le_of_ble_eq_true rfl) rfl rfl ?_
  refine g_iload_n1 rfl d_X5_init_66 ?_
  refine g_new (v := 44) (ci := 0) (C := RX0) (T := TX0) (n := 9) rfl tyX0 tyX0_ok inX0 rfl (in2 6 (by decide +kernel) rfl) (in1 193 (by decide +kernel) rfl) (in1 5 (by decide +kernel) rfl) def_X0 rfl d_X5_init_67 (Nat.le_of_ble_eq_true rfl) (Nat.le_of_ble_eq_true rfl) ?_
  refine g_dup rfl d_X5_init_70 ?_
  refine g_callI0 (n_X0 44) rfl w_X0_init l_X5_20 d_X5_init_71 rfl rfl (Nat.le_of_ble_eq_true rfl) ⟨(Nat.le_of_ble_eq_true rfl), (Nat.le_of_ble_eq_true rfl)⟩ ⟨(Nat.le_of_ble_eq_true rfl), (Nat.le_of_ble_eq_true rfl)⟩ (fun _ => ⟨rfl, rfl⟩) ?_
  refine g_aast d_X5_init_74 rfl (Nat.le_of_ble_eq_true rfl) rfl (Nat.le_of_ble_eq_true rfl) (vp_c (by decide +kernel)) ?_
  refine g_ic1 2 (by decide) rfl d_X5_init_75 ?_
  refine g_goto 53 d_X5_init_78 (by decide) ?_
  refine g_iload_n1 rfl d_X5_init_53 ?_
  refine g_aload_n0 rfl d_X5_init_54 ?_
  refine g_getP (b := 26) f_X5_17 d_X5_init_55 rfl (Nat.le_of_ble_eq_true rfl) rfl rfl ?_
  refine g_alen14 d_X5_init_58 rfl (Nat.le_of_ble_eq_true rfl) ?_
  refine g_icmp_ge 81 d_X5_init_59 (by decide) (fun h => absurd h (by decide +kernel)) (fun _ => ?_)
  refine g_aload_n0 rfl d_X5_init_62 ?_
  refine g_getP (b := 26) f_X5_17 d_X5_init_63 rfl (Nat.le_of_ble_eq_true rfl) rfl rfl ?_
  refine g_iload_n1 rfl d_X5_init_66 ?_
  refine g_new (v := 45) (ci := 0) (C := RX0) (T := TX0) (n := 9) rfl tyX0 tyX0_ok inX0 rfl (in2 6 (by decide +kernel) rfl) (in1 193 (by decide +kernel) rfl) (in1 5 (by decide +kernel) rfl) def_X0 rfl d_X5_init_67 (Nat.le_of_ble_eq_true rfl) (Nat.le_of_ble_eq_true rfl) ?_
  refine g_dup rfl d_X5_init_70 ?_
  refine g_callI0 (n_X0 45) rfl w_X0_init l_X5_20 d_X5_init_71 rfl rfl (Nat.le_of_ble_eq_true rfl) ⟨(Nat.le_of_ble_eq_true rfl), (Nat.le_of_ble_eq_true rfl)⟩ ⟨(Nat.le_of_ble_eq_true rfl), (Nat.le_of_ble_eq_true rfl)⟩ (fun _ => ⟨rfl, rfl⟩) ?_
  refine g_aast d_X5_init_74 rfl (Nat.le_of_ble_eq_true rfl) rfl (Nat.le_of_ble_eq_true rfl) (vp_c (by decide +kernel)) ?_
  refine g_ic1 3 (by decide) rfl d_X5_init_75 ?_
  refine g_goto 53 d_X5_init_78 (by decide) ?_
  refine g_iload_n1 rfl d_X5_init_53 ?_
  refine g_aload_n0 rfl d_X5_init_54 ?_
  refine g_getP (b := 26) f_X5_17 d_X5_init_55 rfl (Nat.le_of_ble_eq_true rfl) rfl rfl ?_
  refine g_alen14 d_X5_init_58 rfl (Nat.le_of_ble_eq_true rfl) ?_
  refine g_icmp_ge 81 d_X5_init_59 (by decide) (fun _ => ?_) (fun h => absurd (by decide +kernel) h)
  exact g_vret rfl d_X5_init_81 ⟨rfl, rfl⟩ (Nat.le_of_ble_eq_true rfl) (Nat.le_of_ble_eq_true rfl)
def nI_fc (I : Nat → Nat → Int32) : Nat → Nat → Int32 := (nwI (nwI I 47) 48)
def nJ_fc (J : Nat → Nat → Int64) : Nat → Nat → Int64 := (nwJ (nwJ J 47) 48)
def nP_fc (P : Nat → Nat → Option Nat) : Nat → Nat → Option Nat := (stP (nwP (stP (nwP P 47) 46 0 (some 47)) 48) 46 1 (some 48))
set_option maxHeartbeats 800000 in
set_option maxRecDepth 8000 in
theorem n_fc {k : KT} (I : Nat → Nat → Int32) (J : Nat → Nat → Int64) (P : Nat → Nat → Option Nat) : Ct k mX2_init 2 2 1928 [.ref (ka k 46)] (47, true, I, J, P) (fun v M' => v = none ∧ M' = (49, true, nI_fc I, nJ_fc J, nP_fc P)) := by
  refine Ct.of rfl [some (.ref (ka k 46))] rfl rfl (Nat.le_of_ble_eq_true rfl) ?_
  refine g_aload_n0 rfl d_X2_init_0 ?_
  refine g_obj (in2 32 (by decide +kernel) rfl) wob1 wob2 d_X2_init_1 ⟨(Nat.le_of_ble_eq_true rfl), (Nat.le_of_ble_eq_true rfl)⟩ ?_
  refine g_aload_n0 rfl d_X2_init_4 ?_
  refine g_new (v := 47) (ci := 0) (C := RX0) (T := TX0) (n := 9) rfl tyX0 tyX0_ok inX0 rfl (in2 33 (by decide +kernel) rfl) (in1 193 (by decide +kernel) rfl) (in1 5 (by decide +kernel) rfl) def_X0 rfl d_X2_init_5 (Nat.le_of_ble_eq_true rfl) (Nat.le_of_ble_eq_true rfl) ?_
  refine g_dup rfl d_X2_init_8 ?_
  refine g_callI0 (n_X0 47) rfl w_X0_init l_X2_13 d_X2_init_9 rfl rfl (Nat.le_of_ble_eq_true rfl) ⟨(Nat.le_of_ble_eq_true rfl), (Nat.le_of_ble_eq_true rfl)⟩ ⟨(Nat.le_of_ble_eq_true rfl), (Nat.le_of_ble_eq_true rfl)⟩ (fun _ => ⟨rfl, rfl⟩) ?_
  refine g_putPF f_X2_14 rfl (fun q hq => by cases hq; rfl) d_X2_init_12 rfl (Nat.le_of_ble_eq_true rfl) rfl rfl rfl ?_
  refine g_aload_n0 rfl d_X2_init_15 ?_
  refine g_sipush 1919 d_X2_init_16 (by decide) ?_
  refine g_newa_i (v := 48) (L := 1919) rfl (in1 67 (by decide +kernel) rfl) rfl (by decide +kernel) (by decide +kernel) (by decide +kernel) (by decide) d_X2_init_19 (Nat.le_of_ble_eq_true rfl) (Nat.le_of_ble_eq_true rfl) ?_
  refine g_putPF f_X2_18 rfl (fun q hq => by cases hq; rfl) d_X2_init_21 rfl (Nat.le_of_ble_eq_true rfl) rfl rfl rfl ?_
  exact g_vret rfl d_X2_init_24 ⟨rfl, rfl⟩ (Nat.le_of_ble_eq_true rfl) (Nat.le_of_ble_eq_true rfl)
def nI_vr (I : Nat → Nat → Int32) : Nat → Nat → Int32 := (nwI (nwI (nwI (nwI (nwI (nwI (nwI (nwI I 50) 51) 52) 53) 54) 55) 56) 57)
def nJ_vr (J : Nat → Nat → Int64) : Nat → Nat → Int64 := (nwJ (nwJ (nwJ (nwJ (nwJ (nwJ (nwJ (nwJ J 50) 51) 52) 53) 54) 55) 56) 57)
def nP_vr (P : Nat → Nat → Option Nat) : Nat → Nat → Option Nat := (stP (nwP (stP (nwP (stP (nwP (stP (nwP (stP (nwP (stP (nwP (stP (nwP (stP (nwP P 50) 49 2 (some 50)) 51) 49 3 (some 51)) 52) 49 4 (some 52)) 53) 52 (0 : Int32).toNatClampNeg (some 53)) 54) 52 (1 : Int32).toNatClampNeg (some 54)) 55) 52 (2 : Int32).toNatClampNeg (some 55)) 56) 52 (3 : Int32).toNatClampNeg (some 56)) 57) 52 (4 : Int32).toNatClampNeg (some 57))
set_option maxHeartbeats 800000 in
set_option maxRecDepth 8000 in
theorem n_vr {k : KT} (I : Nat → Nat → Int32) (J : Nat → Nat → Int64) (P : Nat → Nat → Option Nat) : Ct k mX9_init 2 8 59 [.ref (ka k 49)] (50, true, I, J, P) (fun v M' => v = none ∧ M' = (58, true, nI_vr I, nJ_vr J, nP_vr P)) := by
  refine Ct.of rfl [some (.ref (ka k 49)), none] rfl rfl (Nat.le_of_ble_eq_true rfl) ?_
  refine g_aload_n0 rfl d_X9_init_0 ?_
  refine g_obj (in2 47 (by decide +kernel) rfl) wob1 wob2 d_X9_init_1 ⟨(Nat.le_of_ble_eq_true rfl), (Nat.le_of_ble_eq_true rfl)⟩ ?_
  refine g_aload_n0 rfl d_X9_init_4 ?_
  refine g_iconst 4 d_X9_init_5 (by decide) ?_
  refine g_newa_i (v := 50) (L := 4) rfl (in1 67 (by decide +kernel) rfl) rfl (by decide +kernel) (by decide +kernel) (by decide +kernel) (by decide) d_X9_init_6 (Nat.le_of_ble_eq_true rfl) (Nat.le_of_ble_eq_true rfl) ?_
  refine g_putPF f_X9_11 rfl (fun q hq => by cases hq; rfl) d_X9_init_8 rfl (Nat.le_of_ble_eq_true rfl) rfl rfl rfl ?_
  refine g_aload_n0 rfl d_X9_init_11 ?_
  refine g_iconst 5 d_X9_init_12 (by decide) ?_
  refine g_newa_i (v := 51) (L := 5) rfl (in1 67 (by decide +kernel) rfl) rfl (by decide +kernel) (by decide +kernel) (by decide +kernel) (by decide) d_X9_init_13 (Nat.le_of_ble_eq_true rfl) (Nat.le_of_ble_eq_true rfl) ?_
  refine g_putPF f_X9_17 rfl (fun q hq => by cases hq; rfl) d_X9_init_15 rfl (Nat.le_of_ble_eq_true rfl) rfl rfl rfl ?_
  refine g_aload_n0 rfl d_X9_init_18 ?_
  refine g_iconst 5 d_X9_init_19 (by decide) ?_
  refine g_anew (v := 52) (L := 5) rfl (in2 48 (by decide +kernel) rfl) rfl (by decide +kernel) (by decide +kernel) (by decide +kernel) (by decide) d_X9_init_20 (Nat.le_of_ble_eq_true rfl) (Nat.le_of_ble_eq_true rfl) ?_
  refine g_putPF f_X9_22 rfl (fun q hq => by cases hq; rfl) d_X9_init_23 rfl (Nat.le_of_ble_eq_true rfl) rfl rfl rfl ?_
  refine g_iconst 0 d_X9_init_26 (by decide) ?_
  refine g_isn1 rfl d_X9_init_27 ?_
  refine g_iload_n1 rfl d_X9_init_28 ?_
  refine g_aload_n0 rfl d_X9_init_29 ?_
  refine g_getP (b := 52) f_X9_22 d_X9_init_30 rfl (Nat.le_of_ble_eq_true rfl) rfl rfl ?_
  refine g_alen14 d_X9_init_33 rfl (Nat.le_of_ble_eq_true rfl) ?_
  refine g_icmp_ge 56 d_X9_init_34 (by decide) (fun h => absurd h (by decide +kernel)) (fun _ => ?_)
  refine g_aload_n0 rfl d_X9_init_37 ?_
  refine g_getP (b := 52) f_X9_22 d_X9_init_38 rfl (Nat.le_of_ble_eq_true rfl) rfl rfl ?_
  refine g_iload_n1 rfl d_X9_init_41 ?_
  refine g_new (v := 53) (ci := 0) (C := RX0) (T := TX0) (n := 9) rfl tyX0 tyX0_ok inX0 rfl (in2 48 (by decide +kernel) rfl) (in1 193 (by decide +kernel) rfl) (in1 5 (by decide +kernel) rfl) def_X0 rfl d_X9_init_42 (Nat.le_of_ble_eq_true rfl) (Nat.le_of_ble_eq_true rfl) ?_
  refine g_dup rfl d_X9_init_45 ?_
  refine g_callI0 (n_X0 53) rfl w_X0_init l_X9_26 d_X9_init_46 rfl rfl (Nat.le_of_ble_eq_true rfl) ⟨(Nat.le_of_ble_eq_true rfl), (Nat.le_of_ble_eq_true rfl)⟩ ⟨(Nat.le_of_ble_eq_true rfl), (Nat.le_of_ble_eq_true rfl)⟩ (fun _ => ⟨rfl, rfl⟩) ?_
  refine g_aast d_X9_init_49 rfl (Nat.le_of_ble_eq_true rfl) rfl (Nat.le_of_ble_eq_true rfl) (vp_c (by decide +kernel)) ?_
  refine g_ic1 1 (by decide) rfl d_X9_init_50 ?_
  refine g_goto 28 d_X9_init_53 (by decide) ?_
  refine g_iload_n1 rfl d_X9_init_28 ?_
  refine g_aload_n0 rfl d_X9_init_29 ?_
  refine g_getP (b := 52) f_X9_22 d_X9_init_30 rfl (Nat.le_of_ble_eq_true rfl) rfl rfl ?_
  refine g_alen14 d_X9_init_33 rfl (Nat.le_of_ble_eq_true rfl) ?_
  refine g_icmp_ge 56 d_X9_init_34 (by decide) (fun h => absurd h (by decide +kernel)) (fun _ => ?_)
  refine g_aload_n0 rfl d_X9_init_37 ?_
  refine g_getP (b := 52) f_X9_22 d_X9_init_38 rfl (Nat.le_of_ble_eq_true rfl) rfl rfl ?_
  refine g_iload_n1 rfl d_X9_init_41 ?_
  refine g_new (v := 54) (ci := 0) (C := RX0) (T := TX0) (n := 9) rfl tyX0 tyX0_ok inX0 rfl (in2 48 (by decide +kernel) rfl) (in1 193 (by decide +kernel) rfl) (in1 5 (by decide +kernel) rfl) def_X0 rfl d_X9_init_42 (Nat.le_of_ble_eq_true rfl) (Nat.le_of_ble_eq_true rfl) ?_
  refine g_dup rfl d_X9_init_45 ?_
  refine g_callI0 (n_X0 54) rfl w_X0_init l_X9_26 d_X9_init_46 rfl rfl (Nat.le_of_ble_eq_true rfl) ⟨(Nat.le_of_ble_eq_true rfl), (Nat.le_of_ble_eq_true rfl)⟩ ⟨(Nat.le_of_ble_eq_true rfl), (Nat.le_of_ble_eq_true rfl)⟩ (fun _ => ⟨rfl, rfl⟩) ?_
  refine g_aast d_X9_init_49 rfl (Nat.le_of_ble_eq_true rfl) rfl (Nat.le_of_ble_eq_true rfl) (vp_c (by decide +kernel)) ?_
  refine g_ic1 2 (by decide) rfl d_X9_init_50 ?_
  refine g_goto 28 d_X9_init_53 (by decide) ?_
  refine g_iload_n1 rfl d_X9_init_28 ?_
  refine g_aload_n0 rfl d_X9_init_29 ?_
  refine g_getP (b := 52) f_X9_22 d_X9_init_30 rfl (Nat.le_of_ble_eq_true rfl) rfl rfl ?_
  refine g_alen14 d_X9_init_33 rfl (Nat.le_of_ble_eq_true rfl) ?_
  refine g_icmp_ge 56 d_X9_init_34 (by decide) (fun h => absurd h (by decide +kernel)) (fun _ => ?_)
  refine g_aload_n0 rfl d_X9_init_37 ?_
  refine g_getP (b := 52) f_X9_22 d_X9_init_38 rfl (Nat.le_of_ble_eq_true rfl) rfl rfl ?_
  refine g_iload_n1 rfl d_X9_init_41 ?_
  refine g_new (v := 55) (ci := 0) (C := RX0) (T := TX0) (n := 9) rfl tyX0 tyX0_ok inX0 rfl (in2 48 (by decide +kernel) rfl) (in1 193 (by decide +kernel) rfl) (in1 5 (by decide +kernel) rfl) def_X0 rfl d_X9_init_42 (Nat.le_of_ble_eq_true rfl) (Nat.le_of_ble_eq_true rfl) ?_
  refine g_dup rfl d_X9_init_45 ?_
  refine g_callI0 (n_X0 55) rfl w_X0_init l_X9_26 d_X9_init_46 rfl rfl (Nat.le_of_ble_eq_true rfl) ⟨(Nat.le_of_ble_eq_true rfl), (Nat.le_of_ble_eq_true rfl)⟩ ⟨(Nat.le_of_ble_eq_true rfl), (Nat.le_of_ble_eq_true rfl)⟩ (fun _ => ⟨rfl, rfl⟩) ?_
  refine g_aast d_X9_init_49 rfl (Nat.le_of_ble_eq_true rfl) rfl (Nat.le_of_ble_eq_true rfl) (vp_c (by decide +kernel)) ?_
  refine g_ic1 3 (by decide) rfl d_X9_init_50 ?_
  refine g_goto 28 d_X9_init_53 (by decide) ?_
  refine g_iload_n1 rfl d_X9_init_28 ?_
  refine g_aload_n0 rfl d_X9_init_29 ?_
  refine g_getP (b := 52) f_X9_22 d_X9_init_30 rfl (Nat.le_of_ble_eq_true rfl) rfl rfl ?_
  refine g_alen14 d_X9_init_33 rfl (Nat.le_of_ble_eq_true rfl) ?_
  refine g_icmp_ge 56 d_X9_init_34 (by decide) (fun h => absurd h (by decide +kernel)) (fun _ => ?_)
  refine g_aload_n0 rfl d_X9_init_37 ?_
  refine g_getP (b := 52) f_X9_22 d_X9_init_38 rfl (Nat.le_of_ble_eq_true rfl) rfl rfl ?_
  refine g_iload_n1 rfl d_X9_init_41 ?_
  refine g_new (v := 56) (ci := 0) (C := RX0) (T := TX0) (n := 9) rfl tyX0 tyX0_ok inX0 rfl (in2 48 (by decide +kernel) rfl) (in1 193 (by decide +kernel) rfl) (in1 5 (by decide +kernel) rfl) def_X0 rfl d_X9_init_42 (Nat.le_of_ble_eq_true rfl) (Nat.le_of_ble_eq_true rfl) ?_
  refine g_dup rfl d_X9_init_45 ?_
  refine g_callI0 (n_X0 56) rfl w_X0_init l_X9_26 d_X9_init_46 rfl rfl (Nat.le_of_ble_eq_true rfl) ⟨(Nat.le_of_ble_eq_true rfl), (Nat.le_of_ble_eq_true rfl)⟩ ⟨(Nat.le_of_ble_eq_true rfl), (Nat.le_of_ble_eq_true rfl)⟩ (fun _ => ⟨rfl, rfl⟩) ?_
  refine g_aast d_X9_init_49 rfl (Nat.le_of_ble_eq_true rfl) rfl (Nat.le_of_ble_eq_true rfl) (vp_c (by decide +kernel)) ?_
  refine g_ic1 4 (by decide) rfl d_X9_init_50 ?_
  refine g_goto 28 d_X9_init_53 (by decide) ?_
  refine g_iload_n1 rfl d_X9_init_28 ?_
  refine g_aload_n0 rfl d_X9_init_29 ?_
  refine g_getP (b := 52) f_X9_22 d_X9_init_30 rfl (Nat.le_of_ble_eq_true rfl) rfl rfl ?_
  refine g_alen14 d_X9_init_33 rfl (Nat.le_of_ble_eq_true rfl) ?_
  refine g_icmp_ge 56 d_X9_init_34 (by decide) (fun h => absurd h (by decide +kernel)) (fun _ => ?_)
  refine g_aload_n0 rfl d_X9_init_37 ?_
  refine g_getP (b := 52) f_X9_22 d_X9_init_38 rfl (Nat.le_of_ble_eq_true rfl) rfl rfl ?_
  refine g_iload_n1 rfl d_X9_init_41 ?_
  refine g_new (v := 57) (ci := 0) (C := RX0) (T := TX0) (n := 9) rfl tyX0 tyX0_ok inX0 rfl (in2 48 (by decide +kernel) rfl) (in1 193 (by decide +kernel) rfl) (in1 5 (by decide +kernel) rfl) def_X0 rfl d_X9_init_42 (Nat.le_of_ble_eq_true rfl) (Nat.le_of_ble_eq_true rfl) ?_
  refine g_dup rfl d_X9_init_45 ?_
  refine g_callI0 (n_X0 57) rfl w_X0_init l_X9_26 d_X9_init_46 rfl rfl (Nat.le_of_ble_eq_true rfl) ⟨(Nat.le_of_ble_eq_true rfl), (Nat.le_of_ble_eq_true rfl)⟩ ⟨(Nat.le_of_ble_eq_true rfl), (Nat.le_of_ble_eq_true rfl)⟩ (fun _ => ⟨rfl, rfl⟩) ?_
  refine g_aast d_X9_init_49 rfl (Nat.le_of_ble_eq_true rfl) rfl (Nat.le_of_ble_eq_true rfl) (vp_c (by decide +kernel)) ?_
  refine g_ic1 5 (by decide) rfl d_X9_init_50 ?_
  refine g_goto 28 d_X9_init_53 (by decide) ?_
  refine g_iload_n1 rfl d_X9_init_28 ?_
  refine g_aload_n0 rfl d_X9_init_29 ?_
  refine g_getP (b := 52) f_X9_22 d_X9_init_30 rfl (Nat.le_of_ble_eq_true rfl) rfl rfl ?_
  refine g_alen14 d_X9_init_33 rfl (Nat.le_of_ble_eq_true rfl) ?_
  refine g_icmp_ge 56 d_X9_init_34 (by decide) (fun _ => ?_) (fun h => absurd (by decide +kernel) h)
  exact g_vret rfl d_X9_init_56 ⟨rfl, rfl⟩ (Nat.le_of_ble_eq_true rfl) (Nat.le_of_ble_eq_true rfl)
def nI_mk (I : Nat → Nat → Int32) : Nat → Nat → Int32 := (nwI (nwI (nwI (nwI I 59) 60) 61) 62)
def nJ_mk (J : Nat → Nat → Int64) : Nat → Nat → Int64 := (nwJ (nwJ (nwJ (nwJ J 59) 60) 61) 62)
def nP_mk (P : Nat → Nat → Option Nat) : Nat → Nat → Option Nat := (stP (nwP (stP (nwP (stP (nwP (stP (nwP P 59) 58 3 (some 59)) 60) 58 5 (some 60)) 61) 58 6 (some 61)) 62) 58 7 (some 62))
set_option maxHeartbeats 800000 in
set_option maxRecDepth 8000 in
theorem n_mk {k : KT} (I : Nat → Nat → Int32) (J : Nat → Nat → Int64) (P : Nat → Nat → Option Nat) : Ct k mX4_init 2 4 154 [.ref (ka k 58)] (59, true, I, J, P) (fun v M' => v = none ∧ M' = (63, true, nI_mk I, nJ_mk J, nP_mk P)) := by
  refine Ct.of rfl [some (.ref (ka k 58))] rfl rfl (Nat.le_of_ble_eq_true rfl) ?_
  refine g_aload_n0 rfl d_X4_init_0 ?_
  refine g_obj (in2 73 (by decide +kernel) rfl) wob1 wob2 d_X4_init_1 ⟨(Nat.le_of_ble_eq_true rfl), (Nat.le_of_ble_eq_true rfl)⟩ ?_
  refine g_aload_n0 rfl d_X4_init_4 ?_
  refine g_bipush 40 d_X4_init_5 (by decide) ?_
  refine g_newa_i (v := 59) (L := 40) rfl (in1 67 (by decide +kernel) rfl) rfl (by decide +kernel) (by decide +kernel) (by decide +kernel) (by decide) d_X4_init_7 (Nat.le_of_ble_eq_true rfl) (Nat.le_of_ble_eq_true rfl) ?_
  refine g_putPF f_X4_11 rfl (fun q hq => by cases hq; rfl) d_X4_init_9 rfl (Nat.le_of_ble_eq_true rfl) rfl rfl rfl ?_
  refine g_aload_n0 rfl d_X4_init_12 ?_
  refine g_new (v := 60) (ci := 0) (C := RX0) (T := TX0) (n := 9) rfl tyX0 tyX0_ok inX0 rfl (in2 74 (by decide +kernel) rfl) (in1 193 (by decide +kernel) rfl) (in1 5 (by decide +kernel) rfl) def_X0 rfl d_X4_init_13 (Nat.le_of_ble_eq_true rfl) (Nat.le_of_ble_eq_true rfl) ?_
  refine g_dup rfl d_X4_init_16 ?_
  refine g_callI0 (n_X0 60) rfl w_X0_init l_X4_17 d_X4_init_17 rfl rfl (Nat.le_of_ble_eq_true rfl) ⟨(Nat.le_of_ble_eq_true rfl), (Nat.le_of_ble_eq_true rfl)⟩ ⟨(Nat.le_of_ble_eq_true rfl), (Nat.le_of_ble_eq_true rfl)⟩ (fun _ => ⟨rfl, rfl⟩) ?_
  refine g_putPF f_X4_18 rfl (fun q hq => by cases hq; rfl) d_X4_init_20 rfl (Nat.le_of_ble_eq_true rfl) rfl rfl rfl ?_
  refine g_aload_n0 rfl d_X4_init_23 ?_
  refine g_bipush 21 d_X4_init_24 (by decide) ?_
  refine g_newa_i (v := 61) (L := 21) rfl (in1 67 (by decide +kernel) rfl) rfl (by decide +kernel) (by decide +kernel) (by decide +kernel) (by decide) d_X4_init_26 (Nat.le_of_ble_eq_true rfl) (Nat.le_of_ble_eq_true rfl) ?_
  refine g_putPF f_X4_22 rfl (fun q hq => by cases hq; rfl) d_X4_init_28 rfl (Nat.le_of_ble_eq_true rfl) rfl rfl rfl ?_
  refine g_aload_n0 rfl d_X4_init_31 ?_
  refine g_bipush 84 d_X4_init_32 (by decide) ?_
  refine g_newa_i (v := 62) (L := 84) rfl (in1 67 (by decide +kernel) rfl) rfl (by decide +kernel) (by decide +kernel) (by decide +kernel) (by decide) d_X4_init_34 (Nat.le_of_ble_eq_true rfl) (Nat.le_of_ble_eq_true rfl) ?_
  refine g_putPF f_X4_25 rfl (fun q hq => by cases hq; rfl) d_X4_init_36 rfl (Nat.le_of_ble_eq_true rfl) rfl rfl rfl ?_
  exact g_vret rfl d_X4_init_39 ⟨rfl, rfl⟩ (Nat.le_of_ble_eq_true rfl) (Nat.le_of_ble_eq_true rfl)
def nI_gu (I : Nat → Nat → Int32) : Nat → Nat → Int32 := (nwI I 64)
def nJ_gu (J : Nat → Nat → Int64) : Nat → Nat → Int64 := (nwJ J 64)
def nP_gu (P : Nat → Nat → Option Nat) : Nat → Nat → Option Nat := (stP (nwP P 64) 63 3 (some 64))
set_option maxHeartbeats 800000 in
set_option maxRecDepth 8000 in
theorem n_gu {k : KT} (I : Nat → Nat → Int32) (J : Nat → Nat → Int64) (P : Nat → Nat → Option Nat) : Ct k mX3_init 2 1 9 [.ref (ka k 63)] (64, true, I, J, P) (fun v M' => v = none ∧ M' = (65, true, nI_gu I, nJ_gu J, nP_gu P)) := by
  refine Ct.of rfl [some (.ref (ka k 63))] rfl rfl (Nat.le_of_ble_eq_true rfl) ?_
  refine g_aload_n0 rfl d_X3_init_0 ?_
  refine g_obj (in2 109 (by decide +kernel) rfl) wob1 wob2 d_X3_init_1 ⟨(Nat.le_of_ble_eq_true rfl), (Nat.le_of_ble_eq_true rfl)⟩ ?_
  refine g_aload_n0 rfl d_X3_init_4 ?_
  refine g_new (v := 64) (ci := 0) (C := RX0) (T := TX0) (n := 9) rfl tyX0 tyX0_ok inX0 rfl (in2 110 (by decide +kernel) rfl) (in1 193 (by decide +kernel) rfl) (in1 5 (by decide +kernel) rfl) def_X0 rfl d_X3_init_5 (Nat.le_of_ble_eq_true rfl) (Nat.le_of_ble_eq_true rfl) ?_
  refine g_dup rfl d_X3_init_8 ?_
  refine g_callI0 (n_X0 64) rfl w_X0_init l_X3_11 d_X3_init_9 rfl rfl (Nat.le_of_ble_eq_true rfl) ⟨(Nat.le_of_ble_eq_true rfl), (Nat.le_of_ble_eq_true rfl)⟩ ⟨(Nat.le_of_ble_eq_true rfl), (Nat.le_of_ble_eq_true rfl)⟩ (fun _ => ⟨rfl, rfl⟩) ?_
  refine g_putPF f_X3_12 rfl (fun q hq => by cases hq; rfl) d_X3_init_12 rfl (Nat.le_of_ble_eq_true rfl) rfl rfl rfl ?_
  exact g_vret rfl d_X3_init_15 ⟨rfl, rfl⟩ (Nat.le_of_ble_eq_true rfl) (Nat.le_of_ble_eq_true rfl)
def nI_x (I : Nat → Nat → Int32) : Nat → Nat → Int32 := (nI_gu (nwI (nI_mk (nwI (nI_vr (nwI (nI_fc (nwI (nI_pa (nwI (nwI (nI_to14 (nwI (nI_rd (nwI I 2)) 14)) 23) 24)) 46)) 49)) 58)) 63))
def nJ_x (J : Nat → Nat → Int64) : Nat → Nat → Int64 := (nJ_gu (nwJ (nJ_mk (nwJ (nJ_vr (nwJ (nJ_fc (nwJ (nJ_pa (nwJ (nwJ (nJ_to14 (nwJ (nJ_rd (nwJ J 2)) 14)) 23) 24)) 46)) 49)) 58)) 63))
def nP_x (P : Nat → Nat → Option Nat) : Nat → Nat → Option Nat := (stP (nP_gu (nwP (stP (nP_mk (nwP (stP (nP_vr (nwP (stP (nP_fc (nwP (stP (nP_pa (nwP (stP (nwP (stP (nP_to14 (nwP (stP (nP_rd (nwP P 2)) 0 2 (some 2)) 14)) 0 3 (some 14)) 23) 0 8 (some 23)) 24)) 0 9 (some 24)) 46)) 0 10 (some 46)) 49)) 0 11 (some 49)) 58)) 0 0 (some 58)) 63)) 0 1 (some 63))
set_option maxHeartbeats 800000 in
set_option maxRecDepth 8000 in
theorem n_x {k : KT} (I : Nat → Nat → Int32) (J : Nat → Nat → Int64) (P : Nat → Nat → Option Nat) : Ct k mX10_init 4 64 3509 [.ref (ka k 0)] (1, true, I, J, P) (fun v M' => v = none ∧ M' = (65, true, nI_x I, nJ_x J, nP_x P)) := by
  refine Ct.of rfl [some (.ref (ka k 0))] rfl rfl (Nat.le_of_ble_eq_true rfl) ?_
  refine g_aload_n0 rfl d_X10_init_0 ?_
  refine g_obj (in1 28 (by decide +kernel) rfl) wob1 wob2 d_X10_init_1 ⟨(Nat.le_of_ble_eq_true rfl), (Nat.le_of_ble_eq_true rfl)⟩ ?_
  refine g_aload_n0 rfl d_X10_init_4 ?_
  refine g_new (v := 2) (ci := 5) (C := RX6) (T := TX6) (n := 16) rfl tyX6 tyX6_ok inX6 rfl (in1 31 (by decide +kernel) rfl) (in1 32 (by decide +kernel) rfl) (in1 2 (by decide +kernel) rfl) def_X6 rfl d_X10_init_5 (Nat.le_of_ble_eq_true rfl) (Nat.le_of_ble_eq_true rfl) ?_
  refine g_dup rfl d_X10_init_8 ?_
  refine g_callI0 (n_rd (nwI I 2) (nwJ J 2) (nwP P 2)) rfl w_X6_init l_X10_11 d_X10_init_9 rfl rfl (Nat.le_of_ble_eq_true rfl) ⟨(Nat.le_of_ble_eq_true rfl), (Nat.le_of_ble_eq_true rfl)⟩ ⟨(Nat.le_of_ble_eq_true rfl), (Nat.le_of_ble_eq_true rfl)⟩ (fun _ => ⟨rfl, rfl⟩) ?_
  refine g_putPF f_X10_12 rfl (fun q hq => by cases hq; rfl) d_X10_init_12 rfl (Nat.le_of_ble_eq_true rfl) rfl rfl rfl ?_
  refine g_aload_n0 rfl d_X10_init_15 ?_
  refine g_new (v := 14) (ci := 7) (C := RX8) (T := TX8) (n := 11) rfl tyX8 tyX8_ok inX8 rfl (in1 190 (by decide +kernel) rfl) (in1 38 (by decide +kernel) rfl) (in1 3 (by decide +kernel) rfl) def_X8 rfl d_X10_init_16 (Nat.le_of_ble_eq_true rfl) (Nat.le_of_ble_eq_true rfl) ?_
  refine g_dup rfl d_X10_init_19 ?_
  refine g_callI0 (n_to14 (nwI (nI_rd (nwI I 2)) 14) (nwJ (nJ_rd (nwJ J 2)) 14) (nwP (stP (nP_rd (nwP P 2)) 0 2 (some 2)) 14)) rfl w_X8_init l_X10_18 d_X10_init_20 rfl rfl (Nat.le_of_ble_eq_true rfl) ⟨(Nat.le_of_ble_eq_true rfl), (Nat.le_of_ble_eq_true rfl)⟩ ⟨(Nat.le_of_ble_eq_true rfl), (Nat.le_of_ble_eq_true rfl)⟩ (fun _ => ⟨rfl, rfl⟩) ?_
  refine g_putP f_X10_19 d_X10_init_23 rfl (Nat.le_of_ble_eq_true rfl) rfl rfl rfl ?_
  refine g_aload_n0 rfl d_X10_init_26 ?_
  refine g_new (v := 23) (ci := 0) (C := RX0) (T := TX0) (n := 9) rfl tyX0 tyX0_ok inX0 rfl (in1 192 (by decide +kernel) rfl) (in1 193 (by decide +kernel) rfl) (in1 5 (by decide +kernel) rfl) def_X0 rfl d_X10_init_27 (Nat.le_of_ble_eq_true rfl) (Nat.le_of_ble_eq_true rfl) ?_
  refine g_dup rfl d_X10_init_30 ?_
  refine g_callI0 (n_X0 23) rfl w_X0_init l_X10_25 d_X10_init_31 rfl rfl (Nat.le_of_ble_eq_true rfl) ⟨(Nat.le_of_ble_eq_true rfl), (Nat.le_of_ble_eq_true rfl)⟩ ⟨(Nat.le_of_ble_eq_true rfl), (Nat.le_of_ble_eq_true rfl)⟩ (fun _ => ⟨rfl, rfl⟩) ?_
  refine g_putPF f_X10_26 rfl (fun q hq => by cases hq; rfl) d_X10_init_34 rfl (Nat.le_of_ble_eq_true rfl) rfl rfl rfl ?_
  refine g_aload_n0 rfl d_X10_init_37 ?_
  refine g_new (v := 24) (ci := 4) (C := RX5) (T := TX5) (n := 5) rfl tyX5 tyX5_ok inX5 rfl (in2 0 (by decide +kernel) rfl) (in2 1 (by decide +kernel) rfl) (in1 6 (by decide +kernel) rfl) def_X5 rfl d_X10_init_38 (Nat.le_of_ble_eq_true rfl) (Nat.le_of_ble_eq_true rfl) ?_
  refine g_dup rfl d_X10_init_41 ?_
  refine g_callI0 (n_pa (nwI (nwI (nI_to14 (nwI (nI_rd (nwI I 2)) 14)) 23) 24) (nwJ (nwJ (nJ_to14 (nwJ (nJ_rd (nwJ J 2)) 14)) 23) 24) (nwP (stP (nwP (stP (nP_to14 (nwP (stP (nP_rd (nwP P 2)) 0 2 (some 2)) 14)) 0 3 (some 14)) 23) 0 8 (some 23)) 24)) rfl w_X5_init l_X10_32 d_X10_init_42 rfl rfl (Nat.le_of_ble_eq_true rfl) ⟨(Nat.le_of_ble_eq_true rfl), (Nat.le_of_ble_eq_true rfl)⟩ ⟨(Nat.le_of_ble_eq_true rfl), (Nat.le_of_ble_eq_true rfl)⟩ (fun _ => ⟨rfl, rfl⟩) ?_
  refine g_putPF f_X10_33 rfl (fun q hq => by cases hq; rfl) d_X10_init_45 rfl (Nat.le_of_ble_eq_true rfl) rfl rfl rfl ?_
  refine g_aload_n0 rfl d_X10_init_48 ?_
  refine g_new (v := 46) (ci := 1) (C := RX2) (T := TX2) (n := 2) rfl tyX2 tyX2_ok inX2 rfl (in2 27 (by decide +kernel) rfl) (in2 28 (by decide +kernel) rfl) (in1 7 (by decide +kernel) rfl) def_X2 rfl d_X10_init_49 (Nat.le_of_ble_eq_true rfl) (Nat.le_of_ble_eq_true rfl) ?_
  refine g_dup rfl d_X10_init_52 ?_
  refine g_callI0 (n_fc (nwI (nI_pa (nwI (nwI (nI_to14 (nwI (nI_rd (nwI I 2)) 14)) 23) 24)) 46) (nwJ (nJ_pa (nwJ (nwJ (nJ_to14 (nwJ (nJ_rd (nwJ J 2)) 14)) 23) 24)) 46) (nwP (stP (nP_pa (nwP (stP (nwP (stP (nP_to14 (nwP (stP (nP_rd (nwP P 2)) 0 2 (some 2)) 14)) 0 3 (some 14)) 23) 0 8 (some 23)) 24)) 0 9 (some 24)) 46)) rfl w_X2_init l_X10_39 d_X10_init_53 rfl rfl (Nat.le_of_ble_eq_true rfl) ⟨(Nat.le_of_ble_eq_true rfl), (Nat.le_of_ble_eq_true rfl)⟩ ⟨(Nat.le_of_ble_eq_true rfl), (Nat.le_of_ble_eq_true rfl)⟩ (fun _ => ⟨rfl, rfl⟩) ?_
  refine g_putPF f_X10_40 rfl (fun q hq => by cases hq; rfl) d_X10_init_56 rfl (Nat.le_of_ble_eq_true rfl) rfl rfl rfl ?_
  refine g_aload_n0 rfl d_X10_init_59 ?_
  refine g_new (v := 49) (ci := 8) (C := RX9) (T := TX9) (n := 5) rfl tyX9 tyX9_ok inX9 rfl (in2 42 (by decide +kernel) rfl) (in2 43 (by decide +kernel) rfl) (in1 8 (by decide +kernel) rfl) def_X9 rfl d_X10_init_60 (Nat.le_of_ble_eq_true rfl) (Nat.le_of_ble_eq_true rfl) ?_
  refine g_dup rfl d_X10_init_63 ?_
  refine g_callI0 (n_vr (nwI (nI_fc (nwI (nI_pa (nwI (nwI (nI_to14 (nwI (nI_rd (nwI I 2)) 14)) 23) 24)) 46)) 49) (nwJ (nJ_fc (nwJ (nJ_pa (nwJ (nwJ (nJ_to14 (nwJ (nJ_rd (nwJ J 2)) 14)) 23) 24)) 46)) 49) (nwP (stP (nP_fc (nwP (stP (nP_pa (nwP (stP (nwP (stP (nP_to14 (nwP (stP (nP_rd (nwP P 2)) 0 2 (some 2)) 14)) 0 3 (some 14)) 23) 0 8 (some 23)) 24)) 0 9 (some 24)) 46)) 0 10 (some 46)) 49)) rfl w_X9_init l_X10_46 d_X10_init_64 rfl rfl (Nat.le_of_ble_eq_true rfl) ⟨(Nat.le_of_ble_eq_true rfl), (Nat.le_of_ble_eq_true rfl)⟩ ⟨(Nat.le_of_ble_eq_true rfl), (Nat.le_of_ble_eq_true rfl)⟩ (fun _ => ⟨rfl, rfl⟩) ?_
  refine g_putPF f_X10_47 rfl (fun q hq => by cases hq; rfl) d_X10_init_67 rfl (Nat.le_of_ble_eq_true rfl) rfl rfl rfl ?_
  refine g_aload_n0 rfl d_X10_init_70 ?_
  refine g_new (v := 58) (ci := 3) (C := RX4) (T := TX4) (n := 8) rfl tyX4 tyX4_ok inX4 rfl (in2 68 (by decide +kernel) rfl) (in2 69 (by decide +kernel) rfl) (in1 9 (by decide +kernel) rfl) def_X4 rfl d_X10_init_71 (Nat.le_of_ble_eq_true rfl) (Nat.le_of_ble_eq_true rfl) ?_
  refine g_dup rfl d_X10_init_74 ?_
  refine g_callI0 (n_mk (nwI (nI_vr (nwI (nI_fc (nwI (nI_pa (nwI (nwI (nI_to14 (nwI (nI_rd (nwI I 2)) 14)) 23) 24)) 46)) 49)) 58) (nwJ (nJ_vr (nwJ (nJ_fc (nwJ (nJ_pa (nwJ (nwJ (nJ_to14 (nwJ (nJ_rd (nwJ J 2)) 14)) 23) 24)) 46)) 49)) 58) (nwP (stP (nP_vr (nwP (stP (nP_fc (nwP (stP (nP_pa (nwP (stP (nwP (stP (nP_to14 (nwP (stP (nP_rd (nwP P 2)) 0 2 (some 2)) 14)) 0 3 (some 14)) 23) 0 8 (some 23)) 24)) 0 9 (some 24)) 46)) 0 10 (some 46)) 49)) 0 11 (some 49)) 58)) rfl w_X4_init l_X10_53 d_X10_init_75 rfl rfl (Nat.le_of_ble_eq_true rfl) ⟨(Nat.le_of_ble_eq_true rfl), (Nat.le_of_ble_eq_true rfl)⟩ ⟨(Nat.le_of_ble_eq_true rfl), (Nat.le_of_ble_eq_true rfl)⟩ (fun _ => ⟨rfl, rfl⟩) ?_
  refine g_putPF f_X10_54 rfl (fun q hq => by cases hq; rfl) d_X10_init_78 rfl (Nat.le_of_ble_eq_true rfl) rfl rfl rfl ?_
  refine g_aload_n0 rfl d_X10_init_81 ?_
  refine g_new (v := 63) (ci := 2) (C := RX3) (T := TX3) (n := 4) rfl tyX3 tyX3_ok inX3 rfl (in2 104 (by decide +kernel) rfl) (in2 105 (by decide +kernel) rfl) (in1 10 (by decide +kernel) rfl) def_X3 rfl d_X10_init_82 (Nat.le_of_ble_eq_true rfl) (Nat.le_of_ble_eq_true rfl) ?_
  refine g_dup rfl d_X10_init_85 ?_
  refine g_callI0 (n_gu (nwI (nI_mk (nwI (nI_vr (nwI (nI_fc (nwI (nI_pa (nwI (nwI (nI_to14 (nwI (nI_rd (nwI I 2)) 14)) 23) 24)) 46)) 49)) 58)) 63) (nwJ (nJ_mk (nwJ (nJ_vr (nwJ (nJ_fc (nwJ (nJ_pa (nwJ (nwJ (nJ_to14 (nwJ (nJ_rd (nwJ J 2)) 14)) 23) 24)) 46)) 49)) 58)) 63) (nwP (stP (nP_mk (nwP (stP (nP_vr (nwP (stP (nP_fc (nwP (stP (nP_pa (nwP (stP (nwP (stP (nP_to14 (nwP (stP (nP_rd (nwP P 2)) 0 2 (some 2)) 14)) 0 3 (some 14)) 23) 0 8 (some 23)) 24)) 0 9 (some 24)) 46)) 0 10 (some 46)) 49)) 0 11 (some 49)) 58)) 0 0 (some 58)) 63)) rfl w_X3_init l_X10_60 d_X10_init_86 rfl rfl (Nat.le_of_ble_eq_true rfl) ⟨(Nat.le_of_ble_eq_true rfl), (Nat.le_of_ble_eq_true rfl)⟩ ⟨(Nat.le_of_ble_eq_true rfl), (Nat.le_of_ble_eq_true rfl)⟩ (fun _ => ⟨rfl, rfl⟩) ?_
  refine g_putPF f_X10_61 rfl (fun q hq => by cases hq; rfl) d_X10_init_89 rfl (Nat.le_of_ble_eq_true rfl) rfl rfl rfl ?_
  exact g_vret rfl d_X10_init_92 ⟨rfl, rfl⟩ (Nat.le_of_ble_eq_true rfl) (Nat.le_of_ble_eq_true rfl)
def nI_m (I : Nat → Nat → Int32) : Nat → Nat → Int32 := (nwI (st2 (nwI (nwI (nwI (nwI (nwI (nwI (nwI (nwI (nwI (nwI (nwI (nwI (st2 (nwI I 66) 65 10 (-1)) 67) 68) 69) 70) 71) 72) 73) 74) 75) 76) 77) 78) 65 34 (-1)) 79)
def nJ_m (J : Nat → Nat → Int64) : Nat → Nat → Int64 := (nwJ (nwJ (nwJ (nwJ (nwJ (nwJ (nwJ (nwJ (nwJ (nwJ (nwJ (nwJ (nwJ (nwJ J 66) 67) 68) 69) 70) 71) 72) 73) 74) 75) 76) 77) 78) 79)
def nP_m (P : Nat → Nat → Option Nat) : Nat → Nat → Option Nat := (stP (nwP (stP (nwP (stP (nwP (stP (nwP (stP (nwP (stP (nwP (stP (nwP (stP (nwP (stP (nwP (stP (nwP (stP (nwP (stP (nwP (stP (nwP (stP (nwP P 66) 65 1 (some 66)) 67) 65 12 (some 67)) 68) 65 15 (some 68)) 69) 65 16 (some 69)) 70) 65 17 (some 70)) 71) 65 18 (some 71)) 72) 65 19 (some 72)) 73) 65 22 (some 73)) 74) 65 23 (some 74)) 75) 65 26 (some 75)) 76) 65 27 (some 76)) 77) 65 32 (some 77)) 78) 65 33 (some 78)) 79) 65 36 (some 79))
set_option maxHeartbeats 800000 in
set_option maxRecDepth 8000 in
theorem n_m {k : KT} (I : Nat → Nat → Int32) (J : Nat → Nat → Int64) (P : Nat → Nat → Option Nat) : Ct k mX11_init 1 14 3573 [.ref (ka k 65)] (66, true, I, J, P) (fun v M' => v = none ∧ M' = (80, true, nI_m I, nJ_m J, nP_m P)) := by
  refine Ct.of rfl [some (.ref (ka k 65))] rfl rfl (Nat.le_of_ble_eq_true rfl) ?_
  refine g_aload_n0 rfl d_X11_init_0 ?_
  refine g_obj (in5 228 (by decide +kernel) rfl) wob1 wob2 d_X11_init_1 ⟨(Nat.le_of_ble_eq_true rfl), (Nat.le_of_ble_eq_true rfl)⟩ ?_
  refine g_aload_n0 rfl d_X11_init_4 ?_
  refine g_sipush 900 d_X11_init_5 (by decide) ?_
  refine g_newa_i (v := 66) (L := 900) rfl (in1 67 (by decide +kernel) rfl) rfl (by decide +kernel) (by decide +kernel) (by decide +kernel) (by decide) d_X11_init_8 (Nat.le_of_ble_eq_true rfl) (Nat.le_of_ble_eq_true rfl) ?_
  refine g_putPF f_X11_7 rfl (fun q hq => by cases hq; rfl) d_X11_init_10 rfl (Nat.le_of_ble_eq_true rfl) rfl rfl rfl ?_
  refine g_aload_n0 rfl d_X11_init_13 ?_
  refine g_iconst (-1) d_X11_init_14 (by decide) ?_
  refine g_putI f_X11_13 d_X11_init_15 rfl (Nat.le_of_ble_eq_true rfl) rfl rfl rfl ?_
  refine g_aload_n0 rfl d_X11_init_18 ?_
  refine g_bipush 8 d_X11_init_19 (by decide) ?_
  refine g_newa_i (v := 67) (L := 8) rfl (in1 67 (by decide +kernel) rfl) rfl (by decide +kernel) (by decide +kernel) (by decide +kernel) (by decide) d_X11_init_21 (Nat.le_of_ble_eq_true rfl) (Nat.le_of_ble_eq_true rfl) ?_
  refine g_putPF f_X11_17 rfl (fun q hq => by cases hq; rfl) d_X11_init_23 rfl (Nat.le_of_ble_eq_true rfl) rfl rfl rfl ?_
  refine g_aload_n0 rfl d_X11_init_26 ?_
  refine g_sipush 224 d_X11_init_27 (by decide) ?_
  refine g_newa_i (v := 68) (L := 224) rfl (in1 67 (by decide +kernel) rfl) rfl (by decide +kernel) (by decide +kernel) (by decide +kernel) (by decide) d_X11_init_30 (Nat.le_of_ble_eq_true rfl) (Nat.le_of_ble_eq_true rfl) ?_
  refine g_putPF f_X11_20 rfl (fun q hq => by cases hq; rfl) d_X11_init_32 rfl (Nat.le_of_ble_eq_true rfl) rfl rfl rfl ?_
  refine g_aload_n0 rfl d_X11_init_35 ?_
  refine g_sipush 224 d_X11_init_36 (by decide) ?_
  refine g_newa_i (v := 69) (L := 224) rfl (in1 67 (by decide +kernel) rfl) rfl (by decide +kernel) (by decide +kernel) (by decide +kernel) (by decide) d_X11_init_39 (Nat.le_of_ble_eq_true rfl) (Nat.le_of_ble_eq_true rfl) ?_
  refine g_putPF f_X11_23 rfl (fun q hq => by cases hq; rfl) d_X11_init_41 rfl (Nat.le_of_ble_eq_true rfl) rfl rfl rfl ?_
  refine g_aload_n0 rfl d_X11_init_44 ?_
  refine g_bipush 7 d_X11_init_45 (by decide) ?_
  refine g_newa_i (v := 70) (L := 7) rfl (in1 67 (by decide +kernel) rfl) rfl (by decide +kernel) (by decide +kernel) (by decide +kernel) (by decide) d_X11_init_47 (Nat.le_of_ble_eq_true rfl) (Nat.le_of_ble_eq_true rfl) ?_
  refine g_putPF f_X11_26 rfl (fun q hq => by cases hq; rfl) d_X11_init_49 rfl (Nat.le_of_ble_eq_true rfl) rfl rfl rfl ?_
  refine g_aload_n0 rfl d_X11_init_52 ?_
  refine g_bipush 112 d_X11_init_53 (by decide) ?_
  refine g_newa_i (v := 71) (L := 112) rfl (in1 67 (by decide +kernel) rfl) rfl (by decide +kernel) (by decide +kernel) (by decide +kernel) (by decide) d_X11_init_55 (Nat.le_of_ble_eq_true rfl) (Nat.le_of_ble_eq_true rfl) ?_
  refine g_putPF f_X11_29 rfl (fun q hq => by cases hq; rfl) d_X11_init_57 rfl (Nat.le_of_ble_eq_true rfl) rfl rfl rfl ?_
  refine g_aload_n0 rfl d_X11_init_60 ?_
  refine g_bipush 21 d_X11_init_61 (by decide) ?_
  refine g_newa_i (v := 72) (L := 21) rfl (in1 67 (by decide +kernel) rfl) rfl (by decide +kernel) (by decide +kernel) (by decide +kernel) (by decide) d_X11_init_63 (Nat.le_of_ble_eq_true rfl) (Nat.le_of_ble_eq_true rfl) ?_
  refine g_putPF f_X11_32 rfl (fun q hq => by cases hq; rfl) d_X11_init_65 rfl (Nat.le_of_ble_eq_true rfl) rfl rfl rfl ?_
  refine g_aload_n0 rfl d_X11_init_68 ?_
  refine g_bipush 7 d_X11_init_69 (by decide) ?_
  refine g_newa_i (v := 73) (L := 7) rfl (in1 67 (by decide +kernel) rfl) rfl (by decide +kernel) (by decide +kernel) (by decide +kernel) (by decide) d_X11_init_71 (Nat.le_of_ble_eq_true rfl) (Nat.le_of_ble_eq_true rfl) ?_
  refine g_putPF f_X11_35 rfl (fun q hq => by cases hq; rfl) d_X11_init_73 rfl (Nat.le_of_ble_eq_true rfl) rfl rfl rfl ?_
  refine g_aload_n0 rfl d_X11_init_76 ?_
  refine g_sipush 1919 d_X11_init_77 (by decide) ?_
  refine g_newa_i (v := 74) (L := 1919) rfl (in1 67 (by decide +kernel) rfl) rfl (by decide +kernel) (by decide +kernel) (by decide +kernel) (by decide) d_X11_init_80 (Nat.le_of_ble_eq_true rfl) (Nat.le_of_ble_eq_true rfl) ?_
  refine g_putPF f_X11_38 rfl (fun q hq => by cases hq; rfl) d_X11_init_82 rfl (Nat.le_of_ble_eq_true rfl) rfl rfl rfl ?_
  refine g_aload_n0 rfl d_X11_init_85 ?_
  refine g_bipush 21 d_X11_init_86 (by decide) ?_
  refine g_newa_i (v := 75) (L := 21) rfl (in1 67 (by decide +kernel) rfl) rfl (by decide +kernel) (by decide +kernel) (by decide +kernel) (by decide) d_X11_init_88 (Nat.le_of_ble_eq_true rfl) (Nat.le_of_ble_eq_true rfl) ?_
  refine g_putPF f_X11_41 rfl (fun q hq => by cases hq; rfl) d_X11_init_90 rfl (Nat.le_of_ble_eq_true rfl) rfl rfl rfl ?_
  refine g_aload_n0 rfl d_X11_init_93 ?_
  refine g_bipush 84 d_X11_init_94 (by decide) ?_
  refine g_newa_i (v := 76) (L := 84) rfl (in1 67 (by decide +kernel) rfl) rfl (by decide +kernel) (by decide +kernel) (by decide +kernel) (by decide) d_X11_init_96 (Nat.le_of_ble_eq_true rfl) (Nat.le_of_ble_eq_true rfl) ?_
  refine g_putPF f_X11_44 rfl (fun q hq => by cases hq; rfl) d_X11_init_98 rfl (Nat.le_of_ble_eq_true rfl) rfl rfl rfl ?_
  refine g_aload_n0 rfl d_X11_init_101 ?_
  refine g_bipush 35 d_X11_init_102 (by decide) ?_
  refine g_newa_i (v := 77) (L := 35) rfl (in1 67 (by decide +kernel) rfl) rfl (by decide +kernel) (by decide +kernel) (by decide +kernel) (by decide) d_X11_init_104 (Nat.le_of_ble_eq_true rfl) (Nat.le_of_ble_eq_true rfl) ?_
  refine g_putPF f_X11_47 rfl (fun q hq => by cases hq; rfl) d_X11_init_106 rfl (Nat.le_of_ble_eq_true rfl) rfl rfl rfl ?_
  refine g_aload_n0 rfl d_X11_init_109 ?_
  refine g_bipush 7 d_X11_init_110 (by decide) ?_
  refine g_newa_i (v := 78) (L := 7) rfl (in1 67 (by decide +kernel) rfl) rfl (by decide +kernel) (by decide +kernel) (by decide +kernel) (by decide) d_X11_init_112 (Nat.le_of_ble_eq_true rfl) (Nat.le_of_ble_eq_true rfl) ?_
  refine g_putPF f_X11_50 rfl (fun q hq => by cases hq; rfl) d_X11_init_114 rfl (Nat.le_of_ble_eq_true rfl) rfl rfl rfl ?_
  refine g_aload_n0 rfl d_X11_init_117 ?_
  refine g_iconst (-1) d_X11_init_118 (by decide) ?_
  refine g_putI f_X11_53 d_X11_init_119 rfl (Nat.le_of_ble_eq_true rfl) rfl rfl rfl ?_
  refine g_aload_n0 rfl d_X11_init_122 ?_
  refine g_iconst 4 d_X11_init_123 (by decide) ?_
  refine g_newa_j (v := 79) (L := 4) rfl (in1 189 (by decide +kernel) rfl) rfl (by decide +kernel) (by decide +kernel) (by decide +kernel) (by decide) d_X11_init_124 (Nat.le_of_ble_eq_true rfl) (Nat.le_of_ble_eq_true rfl) ?_
  refine g_putPF f_X11_56 rfl (fun q hq => by cases hq; rfl) d_X11_init_126 rfl (Nat.le_of_ble_eq_true rfl) rfl rfl rfl ?_
  exact g_vret rfl d_X11_init_129 ⟨rfl, rfl⟩ (Nat.le_of_ble_eq_true rfl) (Nat.le_of_ble_eq_true rfl)
