/-! ===== the start ===== -/
def z0 : Vc := fun _ => 0
theorem i0_0 : I_0 0 = z0 := funext fun j => by
  show (if (2 : Nat) = 2 ∧ (0 : Nat) = 0 ∧ j = 1 then (0 : Int32) else 0) = 0
  split <;> rfl
theorem i0_14 : I_0 14 = z0 := rfl
theorem i0_23 : I_0 23 = z0 := rfl
theorem i0_24 : I_0 24 = z0 := rfl
theorem i0_51 : I_0 51 = z0 := rfl
theorem i0_58 : I_0 58 = z0 := rfl
theorem i0_68 : I_0 68 = z0 := rfl
theorem i0_70 : I_0 70 = z0 := rfl
theorem i0_tab : (List.range 8).all (fun i => decide (I_0 (if i < 4 then 4 + 2 * i else 7 + 2 * i) 3 = 0) && decide (I_0 (if i < 4 then 4 + 2 * i else 7 + 2 * i) 0 = nI ([4, 6, 5, 9].getD (i % 4) 0)) && decide (I_0 (if i < 4 then 4 + 2 * i else 7 + 2 * i) 1 = nI ([3, 3, 2, 3].getD (i % 4) 0))) = true := by decide +kernel
theorem i0_t {i : Nat} (h : i < 8) : I_0 (if i < 4 then 4 + 2 * i else 7 + 2 * i) 3 = 0 ∧ I_0 (if i < 4 then 4 + 2 * i else 7 + 2 * i) 0 = nI ([4, 6, 5, 9].getD (i % 4) 0) ∧ I_0 (if i < 4 then 4 + 2 * i else 7 + 2 * i) 1 = nI ([3, 3, 2, 3].getD (i % 4) 0) := by
  have k := List.all_eq_true.mp i0_tab i (List.mem_range.mpr h)
  simp only [Bool.and_eq_true, decide_eq_true_eq] at k
  exact ⟨k.1.1, k.1.2, k.2⟩
theorem i0_65 : (List.range 40).all (fun j => decide (I_0 65 j = if j = 10 ∨ j = 34 then -1 else 0)) = true := by decide +kernel
theorem i0_m {j : Nat} (h : j < 40) (h1 : ¬ (j = 10 ∨ j = 34)) : I_0 65 j = 0 := by
  have k := List.all_eq_true.mp i0_65 j (List.mem_range.mpr h)
  simp only [decide_eq_true_eq] at k
  rw [k, if_neg h1]
theorem z0_b (j : Nat) {hi : Nat} (hh : hi < 2 ^ 31) : bw (z0 j) 0 hi := bw_of (n := 0) (lo := 0) (hi := hi) (by omega) (by omega) hh
theorem z0_c (j : Nat) : (z0 j).toNatClampNeg = 0 := rfl
theorem z0_rb : RB z0 := by
  refine ⟨z0_b 0 (hi := 9) (by omega), z0_b 1 (hi := 3) (by omega), z0_b 2 (hi := 100) (by omega), z0_b 3 (hi := 30) (by omega), z0_b 4 (hi := 30) (by omega), z0_b 5 (hi := 4) (by omega), z0_b 6 (hi := 6) (by omega), z0_b 7 (hi := 5) (by omega), z0_b 8 (hi := 6) (by omega), z0_b 9 (hi := 9) (by omega), z0_b 10 (hi := 100) (by omega), ?_, ?_, ?_, ?_⟩
  · intro k hk; rw [z0_c] at hk; omega
  · intro k hk; rw [z0_c] at hk; omega
  · intro k hk; rw [z0_c] at hk; omega
  · intro k hk; rw [z0_c] at hk; omega
theorem z0_br : BR z0 (z0 0) 999 z0 z0 := by
  refine ⟨rfl, rfl, rfl, rfl, rfl, rfl, rfl, ⟨by decide, by decide⟩, z0_b 1 (hi := 100) (by omega), z0_b 3 (hi := 3) (by omega), z0_b 6 (hi := 999) (by omega), z0_b 5 (hi := 2) (by omega), ?_, ?_⟩
  · intro k hk
    rw [z0_c] at hk
    omega
  · intro d _ _
    have e : bt (0 : Int32) d = false := by unfold bt; simp
    exact ⟨e, e⟩
theorem sim_0 : Sim I_0 J_0 false := by
  have ts := tsz (t := 14) (Or.inr rfl)
  have a4 := i0_t (i := 4) (by omega)
  have a5 := i0_t (i := 5) (by omega)
  have a6 := i0_t (i := 6) (by omega)
  have a7 := i0_t (i := 7) (by omega)
  have a0 := i0_t (i := 0) (by omega)
  have a1 := i0_t (i := 1) (by omega)
  have a2 := i0_t (i := 2) (by omega)
  have a3 := i0_t (i := 3) (by omega)
  refine ⟨⟨by rw [i0_68]; exact z0_rb, ?_, ?_, ?_, ?_, ?_, ?_, ?_, ?_, ?_, ?_, ?_, ?_⟩, ?_, ?_⟩
  · rw [i0_68]
    show TR I_0 z0 14
    refine ⟨Or.inr rfl, by rw [i0_14]; rfl, by rw [i0_14]; rfl, by rw [i0_14]; rfl, by rw [i0_14]; rfl, by rw [i0_14]; rfl, by rw [i0_14]; rfl, by rw [i0_14]; rfl, ?_, ?_, ?_, ?_⟩
    · exact ⟨a4.2.1, a4.2.2, a4.1, Nat.zero_le _, ts.1.1, ts.1.2, fun j hj => by rw [z0_c] at hj; omega⟩
    · exact ⟨a5.2.1, a5.2.2, a5.1, Nat.zero_le _, ts.2.1.1, ts.2.1.2, fun j hj => by rw [z0_c] at hj; omega⟩
    · exact ⟨a6.2.1, a6.2.2, a6.1, Nat.zero_le _, ts.2.2.1.1, ts.2.2.1.2, fun j hj => by rw [z0_c] at hj; omega⟩
    · exact ⟨a7.2.1, a7.2.2, a7.1, Nat.zero_le _, ts.2.2.2.1, ts.2.2.2.2, fun j hj => by rw [z0_c] at hj; omega⟩
  · show DR I_0 3
    exact ⟨a0.2.1, a0.2.2, a1.2.1, a1.2.2, a2.2.1, a2.2.2, a3.2.1, a3.2.2⟩
  · rw [i0_0, i0_m (j := 14) (by omega) (by omega)]
    exact ⟨rfl, Or.inl rfl⟩
  · unfold TP
    rw [i0_0, i0_m (j := 2) (by omega) (by omega)]
    exact ⟨rfl, z0_b 1 (hi := 900) (by omega), fun i hi => by rw [z0_c] at hi; omega⟩
  · rw [i0_0, i0_m (j := 9) (by omega) (by omega)]; rfl
  · rw [i0_68, i0_23, i0_70]; exact z0_br
  · unfold PR
    rw [i0_24, i0_m (j := 20) (by omega) (by omega)]
    exact ⟨rfl, z0_b 0 (hi := 16) (by omega), z0_b 2 (hi := 15) (by omega), fun d hd => by rw [z0_c] at hd; omega⟩
  · unfold IR
    rw [i0_24, i0_m (j := 21) (by omega) (by omega)]
    exact ⟨rfl, z0_b 1 (hi := 3) (by omega), fun d hd => by rw [z0_c] at hd; omega⟩
  · intro _
    rw [i0_68, i0_70, i0_m (j := 20) (by omega) (by omega), i0_m (j := 21) (by omega) (by omega)]
    exact ⟨fun _ _ => rfl, rfl, rfl, rfl⟩
  · exact Or.inl (by rw [i0_58]; rfl)
  · have k := List.all_eq_true.mp i0_65 34 (List.mem_range.mpr (by omega))
    have k2 := of_decide_eq_true k
    exact k2
  · rw [i0_51]; rfl
  · rw [i0_0, i0_m (j := 11) (by omega) (by omega)]; rfl
  · intro q
    rw [i0_0] at q
    exact absurd q (by decide)
theorem all_st : AllSt Sim := ⟨st_feed, st_chalet, st_fault, st_where, st_beam, st_vent, st_plan, st_goes, st_stays, st_angleIn, st_dampIn, st_whoIn, st_daysOf, st_when, st_round, st_kept, st_worthOf, st_bestRow, st_bestWorth, st_sureRow, st_sureCoins, st_rowFor, st_makes, st_makeAt, st_could, st_surely, st_look, st_lookLeaves, st_judge, st_value, st_opens, st_flood, st_cut, st_floodIf, st_narrow, st_downhill, st_likely, st_mean, st_gusted, st_wetIn, st_open, st_oil, st_day, st_undo, st_image, st_back, st_size, st_trouble⟩
