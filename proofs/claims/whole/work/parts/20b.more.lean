noncomputable def mu_lg (y : Int64) : Nat := opq y.toInt.natAbs
theorem i64_rem (x y : Int64) (hy : y.toInt ≠ 0) : (x - x / y * y).toInt = x.toInt.tmod y.toInt := by
  have h1 := Int64.toInt_lt y
  have h2 := Int64.le_toInt y
  have h3 : (x.toInt.tmod y.toInt).natAbs < y.toInt.natAbs := by
    rw [Int.natAbs_tmod]
    exact Nat.mod_lt _ (by omega)
  have h4 : x.toInt - x.toInt.tdiv y.toInt * y.toInt = x.toInt.tmod y.toInt := by
    have := Int.tmod_add_tdiv_mul x.toInt y.toInt
    omega
  rw [Int64.toInt_sub, Int64.toInt_mul, Int64.toInt_div, Int.sub_bmod_bmod]
  have h5 : (x.toInt - (x.toInt.tdiv y.toInt).bmod (2 ^ 64) * y.toInt).bmod (2 ^ 64) = (x.toInt - x.toInt.tdiv y.toInt * y.toInt).bmod (2 ^ 64) := by
    rw [← Int.sub_bmod_bmod, Int.bmod_mul_bmod, Int.sub_bmod_bmod]
  rw [h5, h4]
  exact Int.bmod_eq_of_le (by omega) (by omega)
theorem lgne {x : Int64} (h : ¬ lg_cmp x 0 = 0) : ¬ x = 0 := by
  intro e
  subst e
  exact h (by decide)
theorem mu_lg_lt {x y : Int64} (h : ¬ lg_cmp y 0 = 0) : mu_lg (x - x / y * y) < mu_lg y := by
  have h0 : y.toInt ≠ 0 := by
    intro e
    exact lgne h (Int64.toInt_inj.mp (by rw [e]; rfl))
  unfold mu_lg
  rw [opq_eq, opq_eq, i64_rem x y h0, Int.natAbs_tmod]
  exact Nat.mod_lt _ (by omega)
theorem g_ldcSw {k : KT} {mi : MI} {R : Room} {F : FinT} {nc ns pc : Nat} {vs : List (Option Value)} {st : List Value} {M : MM} {i n : Nat} {tx : String} (hw : (mi.1.cls, i, tx, n) ∈ strTab) (hd : decode (cd mi) pc = .ok (.ldc_w i, 3)) (h : G k mi R F nc ns (pc + 3) vs (.ref (adK k n) :: st) M) : G k mi R F nc ns pc vs st M := by
  intro p e s m args below meth c H locs ls hF hS hR hX hl
  obtain ⟨hx, hb, hml, hown, hts, hret, hlk, hnm, hE⟩ := id hF
  have hz := hE.2.2.1 _ hw
  intro T hT X
  obtain ⟨t, a1, b1⟩ := h p e s m args below meth c H locs ls hF hS hR hX hl T hT X
  exact ⟨t, X.ldcStringW hx hown (text := tx) (a := adK k n) hz.1 hz.2 (g := F0 m pc ls st) rfl (by rw [hb]; exact hd) t a1, b1⟩
