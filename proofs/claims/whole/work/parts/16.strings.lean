theorem wS38 : Cond.fieldLink RJ0 38 "java/lang/String" "COMPACT_STRINGS" "Z" ∈ BIG := in2 234 (by decide +kernel) rfl
theorem wS1053 : Cond.fieldLink RJ0 1053 "jdk/internal/util/Preconditions" "SIOOBE_FORMATTER" "Ljava/util/function/BiFunction;" ∈ BIG := in3 10 (by decide +kernel) rfl
theorem wS9 : Cond.fieldLink RJ0 9 "java/lang/String" "value" "[B" ∈ BIG := in8 132 (by decide +kernel) rfl
theorem wS15 : Cond.fieldLink RJ0 15 "java/lang/String" "coder" "B" ∈ BIG := in8 133 (by decide +kernel) rfl
section GS
variable {k : KT} {mi : MI} {R : Room} {F : FinT} {nc ns pc : Nat} {vs : List (Option Value)} {st : List Value} {M : MM}
theorem g_compact {idx : Nat} (hw : Cond.fieldLink mi.1.cls idx "java/lang/String" "COMPACT_STRINGS" "Z" ∈ BIG) (hd : decode (cd mi) pc = .ok (.getstatic idx, 3)) (h : G k mi R F nc ns (pc + 3) vs (.int 1 :: st) M) : G k mi R F nc ns pc vs st M := by
  intro p e s m args below meth c H locs ls hF hS hR hX hl
  obtain ⟨hx, hb, hml, hown, hts, hret, hlk, hnm, hE⟩ := id hF
  exact va_gets hx hb hE.2.2.2.1 hS hown (hts _ hw) (fun x hx => hx) hd (h p e s m args below meth c H locs ls hF hS hR hX hl)
theorem g_sioobe {idx : Nat} (hw : Cond.fieldLink mi.1.cls idx "jdk/internal/util/Preconditions" "SIOOBE_FORMATTER" "Ljava/util/function/BiFunction;" ∈ BIG) (hd : decode (cd mi) pc = .ok (.getstatic idx, 3)) (h : ∀ r : Option Nat, G k mi R F nc ns (pc + 3) vs (va_rf r :: st) M) : G k mi R F nc ns pc vs st M := by
  intro p e s m args below meth c H locs ls hF hS hR hX hl
  obtain ⟨hx, hb, hml, hown, hts, hret, hlk, hnm, hE⟩ := id hF
  rcases hE.2.2.2.2.2.2.2.2.2.1 with hz | ⟨t, hz⟩
  · exact va_gets hx hb hz hS hown (hts _ hw) (fun x hx => hx) hd (h none p e s m args below meth c H locs ls hF hS hR hX hl)
  · exact va_gets hx hb hz hS hown (hts _ hw) (fun x hx => hx) hd (h (some t) p e s m args below meth c H locs ls hF hS hR hX hl)
theorem g_strV {idx i : Nat} (hi : i < nStr) (hw : Cond.fieldLink mi.1.cls idx "java/lang/String" "value" "[B" ∈ BIG) (hd : decode (cd mi) pc = .ok (.getfield idx, 3)) (h : G k mi R F nc ns (pc + 3) vs (.ref (adV k i) :: st) M) : G k mi R F nc ns pc vs (.ref (adK k i) :: st) M := by
  intro p e s m args below meth c H locs ls hF hS hR hX hl
  obtain ⟨hx, hb, hml, hown, hts, hret, hlk, hnm, hE⟩ := id hF
  exact vk_getf hx hb (hE.2.1.1 i hi).2.2.1 hS hown (hts _ hw) (fun x hx => hx) hd (h p e s m args below meth c H locs ls hF hS hR hX hl)
theorem g_strC {idx i : Nat} (hi : i < nStr) (hw : Cond.fieldLink mi.1.cls idx "java/lang/String" "coder" "B" ∈ BIG) (hd : decode (cd mi) pc = .ok (.getfield idx, 3)) (h : G k mi R F nc ns (pc + 3) vs (.int 0 :: st) M) : G k mi R F nc ns pc vs (.ref (adK k i) :: st) M := by
  intro p e s m args below meth c H locs ls hF hS hR hX hl
  obtain ⟨hx, hb, hml, hown, hts, hret, hlk, hnm, hE⟩ := id hF
  exact vk_getf hx hb (hE.2.1.1 i hi).2.1 hS hown (hts _ hw) (fun x hx => hx) hd (h p e s m args below meth c H locs ls hF hS hR hX hl)
theorem g_slen {i : Nat} (hi : i < nStr) (hd : decode (cd mi) pc = .ok (.arraylength, 1)) (h : G k mi R F nc ns (pc + 1) vs (.int (Int32.ofNat (lenS.getD i 0)) :: st) M) : G k mi R F nc ns pc vs (.ref (adV k i) :: st) M := by
  intro p e s m args below meth c H locs ls hF hS hR hX hl
  obtain ⟨hx, hb, hml, hown, hts, hret, hlk, hnm, hE⟩ := id hF
  exact va_tlen hx hb (hE.2.1.1 i hi).2.2.2 hS rfl hd (h p e s m args below meth c H locs ls hF hS hR hX hl)
theorem g_sbald {i : Nat} {j : Int32} (hi : i < nStr) (hj : vp_in j (lenS.getD i 0)) (hd : decode (cd mi) pc = .ok (.baload, 1)) (h : G k mi R F nc ns (pc + 1) vs (.int ((bytS.getD i []).getD j.toNatClampNeg 0) :: st) M) : G k mi R F nc ns pc vs (.int j :: .ref (adV k i) :: st) M := by
  intro p e s m args below meth c H locs ls hF hS hR hX hl
  obtain ⟨hx, hb, hml, hown, hts, hret, hlk, hnm, hE⟩ := id hF
  exact va_tb hx hb (hE.2.1.1 i hi).2.2.2 hS hj rfl hd (h p e s m args below meth c H locs ls hF hS hR hX hl)
end GS
/-- a constant's length, and its letters -/
def sLen (i : Nat) : Int32 := Int32.ofNat (lenS.getD i 0)
def sCh (i : Nat) (j : Int32) : Int32 := (bytS.getD i []).getD j.toNatClampNeg 0
theorem s_all : ∀ i, i < 23 → (Int32.ofNat (lenS.getD i 0) >>> ((0 : Int32) &&& 31) = Int32.ofNat (lenS.getD i 0) ∧ lenS.getD i 0 < 2 ^ 31 ∧ ∀ j, j < lenS.getD i 0 → (((bytS.getD i []).getD j 0 &&& 255).toUInt32 % 65536).toInt32 = (bytS.getD i []).getD j 0 ∧ narrow .char (.int ((bytS.getD i []).getD j 0)) = .int ((bytS.getD i []).getD j 0)) := by decide +kernel
theorem c_J0_coder_7d493 {k : KT} {M : MM} (i : Nat) (hi : i < nStr) : Cx k mJ0_coder_7d493 1 [.ref (adK k i)] M (some (.int 0)) M := by
  refine Ct.of rfl [some (.ref (adK k i))] rfl rfl (Nat.le_of_ble_eq_true rfl) ?_
  refine g_compact wS38 d_J0_coder_7d493_0 ?_
  refine g_if_eq 13 d_J0_coder_7d493_3 (by decide) (fun h => absurd h (by decide)) (fun _ => ?_)
  refine g_aload_n0 rfl d_J0_coder_7d493_6 ?_
  refine g_strC hi wS15 d_J0_coder_7d493_7 ?_
  refine g_goto 14 d_J0_coder_7d493_10 (by decide) ?_
  exact g_zret rfl (by decide) d_J0_coder_7d493_14 ⟨rfl, rfl⟩ (Nat.le_refl _) (Nat.le_refl _)
theorem c_J0_isLatin1_aae02 {k : KT} {M : MM} (i : Nat) (hi : i < nStr) : Cx k mJ0_isLatin1_aae02 1 [.ref (adK k i)] M (some (.int 1)) M := by
  refine Ct.of rfl [some (.ref (adK k i))] rfl rfl (Nat.le_of_ble_eq_true rfl) ?_
  refine g_compact wS38 d_J0_isLatin1_aae02_0 ?_
  refine g_if_eq 17 d_J0_isLatin1_aae02_3 (by decide) (fun h => absurd h (by decide)) (fun _ => ?_)
  refine g_aload_n0 rfl d_J0_isLatin1_aae02_6 ?_
  refine g_strC hi wS15 d_J0_isLatin1_aae02_7 ?_
  refine g_if_ne 17 d_J0_isLatin1_aae02_10 (by decide) (fun h => absurd rfl h) (fun _ => ?_)
  refine g_iconst 1 d_J0_isLatin1_aae02_13 (by decide) ?_
  refine g_goto 18 d_J0_isLatin1_aae02_14 (by decide) ?_
  exact g_zret rfl (by decide) d_J0_isLatin1_aae02_18 ⟨rfl, rfl⟩ (Nat.le_refl _) (Nat.le_refl _)
theorem c_J0_length_8abf5 {k : KT} {M : MM} (i : Nat) (hi : i < nStr) : Cx k mJ0_length_8abf5 2 [.ref (adK k i)] M (some (.int (sLen i))) M := by
  refine Ct.of rfl [some (.ref (adK k i))] rfl rfl (Nat.le_of_ble_eq_true rfl) ?_
  refine g_aload_n0 rfl d_J0_length_8abf5_0 ?_
  refine g_strV hi wS9 d_J0_length_8abf5_1 ?_
  refine g_slen hi d_J0_length_8abf5_4 ?_
  refine g_aload_n0 rfl d_J0_length_8abf5_5 ?_
  refine g_callK1 (c_J0_coder_7d493 i hi) w_J0_coder_7d493 rfl hi l_J0_335 d_J0_length_8abf5_6 rfl rfl (Nat.le_of_ble_eq_true rfl) ⟨Nat.le_of_ble_eq_true rfl, Nat.le_of_ble_eq_true rfl⟩ ⟨Nat.zero_le _, Nat.zero_le _⟩ ⟨rfl, rfl⟩ ?_
  refine g_ishr d_J0_length_8abf5_9 ?_
  exact g_iret rfl d_J0_length_8abf5_10 ⟨by rw [(s_all i hi).1, sLen], rfl⟩ (Nat.le_refl _) (Nat.le_refl _)
theorem c_J3_checkIndex_8e157 {k : KT} {M : MM} (x n : Int32) (r : Option Nat) (h0 : ¬ x < 0) (h1 : x < n) : Cx k mJ3_checkIndex_8e157 1 [.int x, .int n, va_rf r] M (some (.int x)) M := by
  cases r
  · refine Ct.of rfl [some (.int x), some (.int n), some .null] rfl rfl (Nat.le_of_ble_eq_true rfl) ?_
    refine g_iload_n0 rfl d_J3_checkIndex_8e157_0 ?_
    refine g_if_lt 9 d_J3_checkIndex_8e157_1 (by decide) (fun h => absurd h h0) (fun _ => ?_)
    refine g_iload_n0 rfl d_J3_checkIndex_8e157_4 ?_
    refine g_iload_n1 rfl d_J3_checkIndex_8e157_5 ?_
    refine g_icmp_lt 16 d_J3_checkIndex_8e157_6 (by decide) (fun _ => ?_) (fun h => absurd h1 h)
    refine g_iload_n0 rfl d_J3_checkIndex_8e157_16 ?_
    exact g_iret rfl d_J3_checkIndex_8e157_17 ⟨rfl, rfl⟩ (Nat.le_refl _) (Nat.le_refl _)
  · rename_i t
    refine Ct.of rfl [some (.int x), some (.int n), some (.ref t)] rfl rfl (Nat.le_of_ble_eq_true rfl) ?_
    refine g_iload_n0 rfl d_J3_checkIndex_8e157_0 ?_
    refine g_if_lt 9 d_J3_checkIndex_8e157_1 (by decide) (fun h => absurd h h0) (fun _ => ?_)
    refine g_iload_n0 rfl d_J3_checkIndex_8e157_4 ?_
    refine g_iload_n1 rfl d_J3_checkIndex_8e157_5 ?_
    refine g_icmp_lt 16 d_J3_checkIndex_8e157_6 (by decide) (fun _ => ?_) (fun h => absurd h1 h)
    refine g_iload_n0 rfl d_J3_checkIndex_8e157_16 ?_
    exact g_iret rfl d_J3_checkIndex_8e157_17 ⟨rfl, rfl⟩ (Nat.le_refl _) (Nat.le_refl _)
theorem c_J0_checkIndex_df160 {k : KT} {M : MM} (x n : Int32) (h0 : ¬ x < 0) (h1 : x < n) : Cx k mJ0_checkIndex_df160 2 [.int x, .int n] M none M := by
  refine Ct.of rfl [some (.int x), some (.int n)] rfl rfl (Nat.le_of_ble_eq_true rfl) ?_
  refine g_iload_n0 rfl d_J0_checkIndex_df160_0 ?_
  refine g_iload_n1 rfl d_J0_checkIndex_df160_1 ?_
  refine g_sioobe wS1053 d_J0_checkIndex_df160_2 (fun r => ?_)
  refine g_callS1 (c_J3_checkIndex_8e157 x n r h0 h1) w_J3_checkIndex_8e157 l_J0_1059 d_J0_checkIndex_df160_5 rfl rfl (Nat.le_of_ble_eq_true rfl) ⟨Nat.le_of_ble_eq_true rfl, Nat.le_of_ble_eq_true rfl⟩ ⟨Nat.zero_le _, Nat.zero_le _⟩ ⟨rfl, rfl⟩ ?_
  refine g_pop rfl d_J0_checkIndex_df160_8 ?_
  exact g_vret rfl d_J0_checkIndex_df160_9 ⟨rfl, rfl⟩ (Nat.le_refl _) (Nat.le_refl _)
theorem vp_two {x : Int32} {n : Nat} (h : vp_in x n) (hn : n < 2 ^ 31) : ¬ x < 0 ∧ x < Int32.ofNat n := by
  obtain ⟨j, hj, rfl⟩ := vp_in_of h hn
  exact ⟨nI_pos (by omega), nI_lt hj hn⟩
theorem c_J1_charAt_3b067 {k : KT} {M : MM} (i : Nat) (hi : i < nStr) (j : Int32) (hj : vp_in j (lenS.getD i 0)) : Cx k mJ1_charAt_3b067 3 [.ref (adV k i), .int j] M (some (.int (sCh i j))) M := by
  obtain ⟨h0, h1⟩ := vp_two hj (s_all i hi).2.1
  have hc := (s_all i hi).2.2 j.toNatClampNeg (Nat.not_le.mp fun q => hj (Or.inr q))
  refine Ct.of rfl [some (.ref (adV k i)), some (.int j)] rfl rfl (Nat.le_of_ble_eq_true rfl) ?_
  refine g_iload_n1 rfl d_J1_charAt_3b067_0 ?_
  refine g_aload_n0 rfl d_J1_charAt_3b067_1 ?_
  refine g_slen hi d_J1_charAt_3b067_2 ?_
  refine g_callS0 (c_J0_checkIndex_df160 j _ h0 h1) w_J0_checkIndex_df160 l_J1_9 d_J1_charAt_3b067_3 rfl rfl (Nat.le_of_ble_eq_true rfl) ⟨Nat.le_of_ble_eq_true rfl, Nat.le_of_ble_eq_true rfl⟩ ⟨Nat.zero_le _, Nat.zero_le _⟩ ⟨rfl, rfl⟩ ?_
  refine g_aload_n0 rfl d_J1_charAt_3b067_6 ?_
  refine g_iload_n1 rfl d_J1_charAt_3b067_7 ?_
  refine g_sbald hi hj d_J1_charAt_3b067_8 ?_
  refine g_sipush 255 d_J1_charAt_3b067_9 (by decide) ?_
  refine g_iand d_J1_charAt_3b067_12 ?_
  refine g_i2c d_J1_charAt_3b067_13 ?_
  rw [hc.1]
  exact g_zret rfl hc.2 d_J1_charAt_3b067_14 ⟨rfl, rfl⟩ (Nat.le_refl _) (Nat.le_refl _)
theorem c_J0_charAt_5068e {k : KT} {M : MM} (i : Nat) (hi : i < nStr) (j : Int32) (hj : vp_in j (lenS.getD i 0)) : Cx k mJ0_charAt_5068e 4 [.ref (adK k i), .int j] M (some (.int (sCh i j))) M := by
  have hc := (s_all i hi).2.2 j.toNatClampNeg (Nat.not_le.mp fun q => hj (Or.inr q))
  refine Ct.of rfl [some (.ref (adK k i)), some (.int j)] rfl rfl (Nat.le_of_ble_eq_true rfl) ?_
  refine g_aload_n0 rfl d_J0_charAt_5068e_0 ?_
  refine g_callK1 (c_J0_isLatin1_aae02 i hi) w_J0_isLatin1_aae02 rfl hi l_J0_492 d_J0_charAt_5068e_1 rfl rfl (Nat.le_of_ble_eq_true rfl) ⟨Nat.le_of_ble_eq_true rfl, Nat.le_of_ble_eq_true rfl⟩ ⟨Nat.zero_le _, Nat.zero_le _⟩ ⟨rfl, rfl⟩ ?_
  refine g_if_eq 16 d_J0_charAt_5068e_4 (by decide) (fun h => absurd h (by decide)) (fun _ => ?_)
  refine g_aload_n0 rfl d_J0_charAt_5068e_7 ?_
  refine g_strV hi wS9 d_J0_charAt_5068e_8 ?_
  refine g_iload_n1 rfl d_J0_charAt_5068e_11 ?_
  refine g_callS1 (c_J1_charAt_3b067 i hi j hj) w_J1_charAt_3b067 l_J0_495 d_J0_charAt_5068e_12 rfl rfl (Nat.le_of_ble_eq_true rfl) ⟨Nat.le_of_ble_eq_true rfl, Nat.le_of_ble_eq_true rfl⟩ ⟨Nat.zero_le _, Nat.zero_le _⟩ ⟨rfl, rfl⟩ ?_
  exact g_zret rfl hc.2 d_J0_charAt_5068e_15 ⟨rfl, rfl⟩ (Nat.le_refl _) (Nat.le_refl _)

