abbrev RelT : Type := (Nat → Nat → Int32) → (Nat → Nat → Int64) → Bool → Prop
section LW
variable {k : KT} {mi : MI} {R : Room} {F : FinT} {nc ns pc : Nat} {vs : List (Option Value)} {st : List Value} {M : MM}
theorem g_sld {i : Int32} (hi : vp_in i (kS k).2.1) (hd : decode (cd mi) pc = .ok (.iaload, 1)) (h : G k mi R F nc ns (pc + 1) vs (.int ((kS k).2.2 i.toNatClampNeg) :: st) M) : G k mi R F nc ns pc vs (.int i :: .ref (kS k).1 :: st) M := by
  intro p e s m args below meth c H locs ls hF hS hR hX hl
  obtain ⟨hx, hb, hml, hown, hts, hret, hlk, hnm, hE⟩ := id hF
  exact va_sld hx hb hE.2.2.2.2.1 (Nat.lt_of_lt_of_le hE.2.2.2.2.2.1 hE.2.2.2.2.2.2.1) (fun q => Nat.not_le.mpr hE.2.2.2.2.2.1 q) hS hi hd (h p e s m args below meth c H locs ls hF hS hR hX hl)
theorem g_sle (hd : decode (cd mi) pc = .ok (.arraylength, 1)) (h : G k mi R F nc ns (pc + 1) vs (.int (Int32.ofNat (kS k).2.1) :: st) M) : G k mi R F nc ns pc vs (.ref (kS k).1 :: st) M := by
  intro p e s m args below meth c H locs ls hF hS hR hX hl
  obtain ⟨hx, hb, hml, hown, hts, hret, hlk, hnm, hE⟩ := id hF
  exact va_slen hx hb hE.2.2.2.2.1 (Nat.lt_of_lt_of_le hE.2.2.2.2.2.1 hE.2.2.2.2.2.2.1) (fun q => Nat.not_le.mpr hE.2.2.2.2.2.1 q) hS hd (h p e s m args below meth c H locs ls hF hS hR hX hl)
end LW
theorem lg_same {a b : Int64} (h : a = b) : lg_cmp a b = 0 := by subst h; simp [lg_cmp]
def St_feed (S : RelT) : Prop := ∀ (I : Nat → Nat → Int32) (J : Nat → Nat → Int64) (w : Bool) (x1 : Int32) (x2 : Int32) (x3 : Int32) (x4 : Int32) (x5 : Int32), S I J w → ok_X10_feed I x1 x2 x3 x4 x5 ∧ ok_X11_feed (m_X10_feed I x1 x2 x3 x4 x5) x1 x2 x3 x4 x5 ∧ f_X10_feed I x1 x2 x3 x4 x5 = f_X11_feed (m_X10_feed I x1 x2 x3 x4 x5) x1 x2 x3 x4 x5 ∧ S (m_X11_feed (m_X10_feed I x1 x2 x3 x4 x5) x1 x2 x3 x4 x5) J w
set_option maxHeartbeats 800000 in
theorem lc_feed {k : KT} {ex : Bool} {I : Nat → Nat → Int32} {J : Nat → Nat → Int64} {w : Bool} {F : FinT} {nc ns : Nat} {i : Int32} {S : RelT} (hS : S I J w) (hst : St_feed S) (hnc : nc ≤ room_1.cells) (hns : ns ≤ room_1.slots) (hv1 : vp_in (i + 1) (kS k).2.1) (hv2 : vp_in (i + 2) (kS k).2.1) (hv3 : vp_in (i + 3) (kS k).2.1) (hv4 : vp_in (i + 4) (kS k).2.1) (hv5 : vp_in (i + 5) (kS k).2.1) (next : ∀ (ex : Bool) (I : Nat → Nat → Int32) (J : Nat → Nat → Int64) (w : Bool), S I J w → G k mL_law room_1 F nc ns 1562 [some (.ref (kS k).1), some (.ref (ka k 0)), some (.ref (ka k 65)), some (.ref (ka k 80)), some (.int i), none, none] [] (81, ex, I, J, Pw w)) : G k mL_law room_1 F nc ns 252 [some (.ref (kS k).1), some (.ref (ka k 0)), some (.ref (ka k 65)), some (.ref (ka k 80)), some (.int i), none, none] [] (81, ex, I, J, Pw w) := by
  obtain ⟨hk1, hk2, heq, hS2⟩ := hst I J w ((kS k).2.2 (i + 1).toNatClampNeg) ((kS k).2.2 (i + 2).toNatClampNeg) ((kS k).2.2 (i + 3).toNatClampNeg) ((kS k).2.2 (i + 4).toNatClampNeg) ((kS k).2.2 (i + 5).toNatClampNeg) hS
  refine g_aload_n1 rfl d_L_law_252 ?_
  refine g_aload_n0 rfl d_L_law_253 ?_
  refine g_iload (i := 4) rfl d_L_law_254 ?_
  refine g_iconst 1 d_L_law_256 (by decide) ?_
  refine g_iadd d_L_law_257 ?_
  refine g_sld hv1 d_L_law_258 ?_
  refine g_aload_n0 rfl d_L_law_259 ?_
  refine g_iload (i := 4) rfl d_L_law_260 ?_
  refine g_iconst 2 d_L_law_262 (by decide) ?_
  refine g_iadd d_L_law_263 ?_
  refine g_sld hv2 d_L_law_264 ?_
  refine g_aload_n0 rfl d_L_law_265 ?_
  refine g_iload (i := 4) rfl d_L_law_266 ?_
  refine g_iconst 3 d_L_law_268 (by decide) ?_
  refine g_iadd d_L_law_269 ?_
  refine g_sld hv3 d_L_law_270 ?_
  refine g_aload_n0 rfl d_L_law_271 ?_
  refine g_iload (i := 4) rfl d_L_law_272 ?_
  refine g_iconst 4 d_L_law_274 (by decide) ?_
  refine g_iadd d_L_law_275 ?_
  refine g_sld hv4 d_L_law_276 ?_
  refine g_aload_n0 rfl d_L_law_277 ?_
  refine g_iload (i := 4) rfl d_L_law_278 ?_
  refine g_iconst 5 d_L_law_280 (by decide) ?_
  refine g_iadd d_L_law_281 ?_
  refine g_sld hv5 d_L_law_282 ?_
  refine g_callV1 (c_X10_feed I ((kS k).2.2 (i + 1).toNatClampNeg) ((kS k).2.2 (i + 2).toNatClampNeg) ((kS k).2.2 (i + 3).toNatClampNeg) ((kS k).2.2 (i + 4).toNatClampNeg) ((kS k).2.2 (i + 5).toNatClampNeg) hk1) w_X10_feed l_L_19 d_L_law_283 rfl (Nat.le_of_ble_eq_true rfl) rfl rfl (Nat.le_of_ble_eq_true rfl) ⟨Nat.le_of_ble_eq_true rfl, Nat.le_of_ble_eq_true rfl⟩ ⟨hnc, hns⟩ ⟨rfl, rfl⟩ ?_
  refine g_aload_n2 rfl d_L_law_286 ?_
  refine g_aload_n0 rfl d_L_law_287 ?_
  refine g_iload (i := 4) rfl d_L_law_288 ?_
  refine g_iconst 1 d_L_law_290 (by decide) ?_
  refine g_iadd d_L_law_291 ?_
  refine g_sld hv1 d_L_law_292 ?_
  refine g_aload_n0 rfl d_L_law_293 ?_
  refine g_iload (i := 4) rfl d_L_law_294 ?_
  refine g_iconst 2 d_L_law_296 (by decide) ?_
  refine g_iadd d_L_law_297 ?_
  refine g_sld hv2 d_L_law_298 ?_
  refine g_aload_n0 rfl d_L_law_299 ?_
  refine g_iload (i := 4) rfl d_L_law_300 ?_
  refine g_iconst 3 d_L_law_302 (by decide) ?_
  refine g_iadd d_L_law_303 ?_
  refine g_sld hv3 d_L_law_304 ?_
  refine g_aload_n0 rfl d_L_law_305 ?_
  refine g_iload (i := 4) rfl d_L_law_306 ?_
  refine g_iconst 4 d_L_law_308 (by decide) ?_
  refine g_iadd d_L_law_309 ?_
  refine g_sld hv4 d_L_law_310 ?_
  refine g_aload_n0 rfl d_L_law_311 ?_
  refine g_iload (i := 4) rfl d_L_law_312 ?_
  refine g_iconst 5 d_L_law_314 (by decide) ?_
  refine g_iadd d_L_law_315 ?_
  refine g_sld hv5 d_L_law_316 ?_
  refine g_callV1 (c_X11_feed (m_X10_feed I ((kS k).2.2 (i + 1).toNatClampNeg) ((kS k).2.2 (i + 2).toNatClampNeg) ((kS k).2.2 (i + 3).toNatClampNeg) ((kS k).2.2 (i + 4).toNatClampNeg) ((kS k).2.2 (i + 5).toNatClampNeg)) ((kS k).2.2 (i + 1).toNatClampNeg) ((kS k).2.2 (i + 2).toNatClampNeg) ((kS k).2.2 (i + 3).toNatClampNeg) ((kS k).2.2 (i + 4).toNatClampNeg) ((kS k).2.2 (i + 5).toNatClampNeg) hk2) w_X11_feed l_L_23 d_L_law_317 rfl (Nat.le_of_ble_eq_true rfl) rfl rfl (Nat.le_of_ble_eq_true rfl) ⟨Nat.le_of_ble_eq_true rfl, Nat.le_of_ble_eq_true rfl⟩ ⟨hnc, hns⟩ ⟨rfl, rfl⟩ ?_
  refine g_icmp_eq 1562 d_L_law_320 (by decide) (fun _ => ?_) (fun h => absurd heq h)
  exact next _ _ _ _ hS2
def St_chalet (S : RelT) : Prop := ∀ (I : Nat → Nat → Int32) (J : Nat → Nat → Int64) (w : Bool) (x1 : Int32), S I J w → ok_X10_chalet I J w x1 ∧ ok_X11_chalet (m_X10_chalet I J w x1) x1 ∧ f_X10_chalet I J w x1 = f_X11_chalet (m_X10_chalet I J w x1) x1 ∧ S (m_X11_chalet (m_X10_chalet I J w x1) x1) (j_X10_chalet I J w x1) (z_X10_chalet I J w x1)
set_option maxHeartbeats 800000 in
theorem lc_chalet {k : KT} {ex : Bool} {I : Nat → Nat → Int32} {J : Nat → Nat → Int64} {w : Bool} {F : FinT} {nc ns : Nat} {i : Int32} {S : RelT} (hS : S I J w) (hst : St_chalet S) (hnc : nc ≤ room_1.cells) (hns : ns ≤ room_1.slots) (hv1 : vp_in (i + 1) (kS k).2.1) (hv2 : vp_in (i + 2) (kS k).2.1) (hv3 : vp_in (i + 3) (kS k).2.1) (hv4 : vp_in (i + 4) (kS k).2.1) (hv5 : vp_in (i + 5) (kS k).2.1) (next : ∀ (ex : Bool) (I : Nat → Nat → Int32) (J : Nat → Nat → Int64) (w : Bool), S I J w → G k mL_law room_1 F nc ns 1562 [some (.ref (kS k).1), some (.ref (ka k 0)), some (.ref (ka k 65)), some (.ref (ka k 80)), some (.int i), none, none] [] (81, ex, I, J, Pw w)) : G k mL_law room_1 F nc ns 325 [some (.ref (kS k).1), some (.ref (ka k 0)), some (.ref (ka k 65)), some (.ref (ka k 80)), some (.int i), none, none] [] (81, ex, I, J, Pw w) := by
  obtain ⟨hk1, hk2, heq, hS2⟩ := hst I J w ((kS k).2.2 (i + 1).toNatClampNeg) hS
  refine g_aload_n1 rfl d_L_law_325 ?_
  refine g_aload_n0 rfl d_L_law_326 ?_
  refine g_iload (i := 4) rfl d_L_law_327 ?_
  refine g_iconst 1 d_L_law_329 (by decide) ?_
  refine g_iadd d_L_law_330 ?_
  refine g_sld hv1 d_L_law_331 ?_
  refine g_callV1 (c_X10_chalet I J w ((kS k).2.2 (i + 1).toNatClampNeg) hk1) w_X10_chalet l_L_24 d_L_law_332 rfl (Nat.le_of_ble_eq_true rfl) rfl rfl (Nat.le_of_ble_eq_true rfl) ⟨Nat.le_of_ble_eq_true rfl, Nat.le_of_ble_eq_true rfl⟩ ⟨hnc, hns⟩ ⟨rfl, rfl⟩ ?_
  refine g_aload_n2 rfl d_L_law_335 ?_
  refine g_aload_n0 rfl d_L_law_336 ?_
  refine g_iload (i := 4) rfl d_L_law_337 ?_
  refine g_iconst 1 d_L_law_339 (by decide) ?_
  refine g_iadd d_L_law_340 ?_
  refine g_sld hv1 d_L_law_341 ?_
  refine g_callV1 (c_X11_chalet (m_X10_chalet I J w ((kS k).2.2 (i + 1).toNatClampNeg)) ((kS k).2.2 (i + 1).toNatClampNeg) hk2) w_X11_chalet l_L_27 d_L_law_342 rfl (Nat.le_of_ble_eq_true rfl) rfl rfl (Nat.le_of_ble_eq_true rfl) ⟨Nat.le_of_ble_eq_true rfl, Nat.le_of_ble_eq_true rfl⟩ ⟨hnc, hns⟩ ⟨rfl, rfl⟩ ?_
  refine g_icmp_eq 1562 d_L_law_345 (by decide) (fun _ => ?_) (fun h => absurd heq h)
  exact next _ _ _ _ hS2
def St_fault (S : RelT) : Prop := ∀ (I : Nat → Nat → Int32) (J : Nat → Nat → Int64) (w : Bool) , S I J w → True ∧ True ∧ f_X10_fault I = f_X11_fault I ∧ S (m_X11_fault I) J w
set_option maxHeartbeats 800000 in
theorem lc_fault {k : KT} {ex : Bool} {I : Nat → Nat → Int32} {J : Nat → Nat → Int64} {w : Bool} {F : FinT} {nc ns : Nat} {i : Int32} {S : RelT} (hS : S I J w) (hst : St_fault S) (hnc : nc ≤ room_1.cells) (hns : ns ≤ room_1.slots) (hv1 : vp_in (i + 1) (kS k).2.1) (hv2 : vp_in (i + 2) (kS k).2.1) (hv3 : vp_in (i + 3) (kS k).2.1) (hv4 : vp_in (i + 4) (kS k).2.1) (hv5 : vp_in (i + 5) (kS k).2.1) (next : ∀ (ex : Bool) (I : Nat → Nat → Int32) (J : Nat → Nat → Int64) (w : Bool), S I J w → G k mL_law room_1 F nc ns 1562 [some (.ref (kS k).1), some (.ref (ka k 0)), some (.ref (ka k 65)), some (.ref (ka k 80)), some (.int i), none, none] [] (81, ex, I, J, Pw w)) : G k mL_law room_1 F nc ns 350 [some (.ref (kS k).1), some (.ref (ka k 0)), some (.ref (ka k 65)), some (.ref (ka k 80)), some (.int i), none, none] [] (81, ex, I, J, Pw w) := by
  obtain ⟨hk1, hk2, heq, hS2⟩ := hst I J w  hS
  refine g_aload_n1 rfl d_L_law_350 ?_
  refine g_callV1 (c_X10_fault I ) w_X10_fault l_L_28 d_L_law_351 rfl (Nat.le_of_ble_eq_true rfl) rfl rfl (Nat.le_of_ble_eq_true rfl) ⟨Nat.le_of_ble_eq_true rfl, Nat.le_of_ble_eq_true rfl⟩ ⟨hnc, hns⟩ ⟨rfl, rfl⟩ ?_
  refine g_aload_n2 rfl d_L_law_354 ?_
  refine g_callV1 (c_X11_fault I ) w_X11_fault l_L_32 d_L_law_355 rfl (Nat.le_of_ble_eq_true rfl) rfl rfl (Nat.le_of_ble_eq_true rfl) ⟨Nat.le_of_ble_eq_true rfl, Nat.le_of_ble_eq_true rfl⟩ ⟨hnc, hns⟩ ⟨rfl, rfl⟩ ?_
  refine g_icmp_eq 1562 d_L_law_358 (by decide) (fun _ => ?_) (fun h => absurd heq h)
  exact next _ _ _ _ hS2
def St_where (S : RelT) : Prop := ∀ (I : Nat → Nat → Int32) (J : Nat → Nat → Int64) (w : Bool) , S I J w → True ∧ True ∧ f_X10_where I = f_X11_where I ∧ S (m_X11_where I) J w
set_option maxHeartbeats 800000 in
theorem lc_where {k : KT} {ex : Bool} {I : Nat → Nat → Int32} {J : Nat → Nat → Int64} {w : Bool} {F : FinT} {nc ns : Nat} {i : Int32} {S : RelT} (hS : S I J w) (hst : St_where S) (hnc : nc ≤ room_1.cells) (hns : ns ≤ room_1.slots) (hv1 : vp_in (i + 1) (kS k).2.1) (hv2 : vp_in (i + 2) (kS k).2.1) (hv3 : vp_in (i + 3) (kS k).2.1) (hv4 : vp_in (i + 4) (kS k).2.1) (hv5 : vp_in (i + 5) (kS k).2.1) (next : ∀ (ex : Bool) (I : Nat → Nat → Int32) (J : Nat → Nat → Int64) (w : Bool), S I J w → G k mL_law room_1 F nc ns 1562 [some (.ref (kS k).1), some (.ref (ka k 0)), some (.ref (ka k 65)), some (.ref (ka k 80)), some (.int i), none, none] [] (81, ex, I, J, Pw w)) : G k mL_law room_1 F nc ns 363 [some (.ref (kS k).1), some (.ref (ka k 0)), some (.ref (ka k 65)), some (.ref (ka k 80)), some (.int i), none, none] [] (81, ex, I, J, Pw w) := by
  obtain ⟨hk1, hk2, heq, hS2⟩ := hst I J w  hS
  refine g_aload_n1 rfl d_L_law_363 ?_
  refine g_callV1 (c_X10_where I ) w_X10_where l_L_33 d_L_law_364 rfl (Nat.le_of_ble_eq_true rfl) rfl rfl (Nat.le_of_ble_eq_true rfl) ⟨Nat.le_of_ble_eq_true rfl, Nat.le_of_ble_eq_true rfl⟩ ⟨hnc, hns⟩ ⟨rfl, rfl⟩ ?_
  refine g_aload_n2 rfl d_L_law_367 ?_
  refine g_callV1 (c_X11_where I ) w_X11_where l_L_36 d_L_law_368 rfl (Nat.le_of_ble_eq_true rfl) rfl rfl (Nat.le_of_ble_eq_true rfl) ⟨Nat.le_of_ble_eq_true rfl, Nat.le_of_ble_eq_true rfl⟩ ⟨hnc, hns⟩ ⟨rfl, rfl⟩ ?_
  refine g_icmp_eq 1562 d_L_law_371 (by decide) (fun _ => ?_) (fun h => absurd heq h)
  exact next _ _ _ _ hS2
def St_beam (S : RelT) : Prop := ∀ (I : Nat → Nat → Int32) (J : Nat → Nat → Int64) (w : Bool) (x1 : Int32), S I J w → True ∧ ok_X11_beam (m_X10_beam I x1) x1 ∧ f_X10_beam I x1 = f_X11_beam (m_X10_beam I x1) x1 ∧ S (m_X11_beam (m_X10_beam I x1) x1) J w
set_option maxHeartbeats 800000 in
theorem lc_beam {k : KT} {ex : Bool} {I : Nat → Nat → Int32} {J : Nat → Nat → Int64} {w : Bool} {F : FinT} {nc ns : Nat} {i : Int32} {S : RelT} (hS : S I J w) (hst : St_beam S) (hnc : nc ≤ room_1.cells) (hns : ns ≤ room_1.slots) (hv1 : vp_in (i + 1) (kS k).2.1) (hv2 : vp_in (i + 2) (kS k).2.1) (hv3 : vp_in (i + 3) (kS k).2.1) (hv4 : vp_in (i + 4) (kS k).2.1) (hv5 : vp_in (i + 5) (kS k).2.1) (next : ∀ (ex : Bool) (I : Nat → Nat → Int32) (J : Nat → Nat → Int64) (w : Bool), S I J w → G k mL_law room_1 F nc ns 1562 [some (.ref (kS k).1), some (.ref (ka k 0)), some (.ref (ka k 65)), some (.ref (ka k 80)), some (.int i), none, none] [] (81, ex, I, J, Pw w)) : G k mL_law room_1 F nc ns 376 [some (.ref (kS k).1), some (.ref (ka k 0)), some (.ref (ka k 65)), some (.ref (ka k 80)), some (.int i), none, none] [] (81, ex, I, J, Pw w) := by
  obtain ⟨hk1, hk2, heq, hS2⟩ := hst I J w ((kS k).2.2 (i + 1).toNatClampNeg) hS
  refine g_aload_n1 rfl d_L_law_376 ?_
  refine g_aload_n0 rfl d_L_law_377 ?_
  refine g_iload (i := 4) rfl d_L_law_378 ?_
  refine g_iconst 1 d_L_law_380 (by decide) ?_
  refine g_iadd d_L_law_381 ?_
  refine g_sld hv1 d_L_law_382 ?_
  refine g_callV1 (c_X10_beam I ((kS k).2.2 (i + 1).toNatClampNeg) ) w_X10_beam l_L_37 d_L_law_383 rfl (Nat.le_of_ble_eq_true rfl) rfl rfl (Nat.le_of_ble_eq_true rfl) ⟨Nat.le_of_ble_eq_true rfl, Nat.le_of_ble_eq_true rfl⟩ ⟨hnc, hns⟩ ⟨rfl, rfl⟩ ?_
  refine g_aload_n2 rfl d_L_law_386 ?_
  refine g_aload_n0 rfl d_L_law_387 ?_
  refine g_iload (i := 4) rfl d_L_law_388 ?_
  refine g_iconst 1 d_L_law_390 (by decide) ?_
  refine g_iadd d_L_law_391 ?_
  refine g_sld hv1 d_L_law_392 ?_
  refine g_callV1 (c_X11_beam (m_X10_beam I ((kS k).2.2 (i + 1).toNatClampNeg)) ((kS k).2.2 (i + 1).toNatClampNeg) hk2) w_X11_beam l_L_40 d_L_law_393 rfl (Nat.le_of_ble_eq_true rfl) rfl rfl (Nat.le_of_ble_eq_true rfl) ⟨Nat.le_of_ble_eq_true rfl, Nat.le_of_ble_eq_true rfl⟩ ⟨hnc, hns⟩ ⟨rfl, rfl⟩ ?_
  refine g_icmp_eq 1562 d_L_law_396 (by decide) (fun _ => ?_) (fun h => absurd heq h)
  exact next _ _ _ _ hS2
def St_vent (S : RelT) : Prop := ∀ (I : Nat → Nat → Int32) (J : Nat → Nat → Int64) (w : Bool) (x1 : Int32) (x2 : Int32), S I J w → True ∧ ok_X11_vent (m_X10_vent I w x1 x2) x1 x2 ∧ f_X10_vent I w x1 x2 = f_X11_vent (m_X10_vent I w x1 x2) x1 x2 ∧ S (m_X11_vent (m_X10_vent I w x1 x2) x1 x2) J w
set_option maxHeartbeats 800000 in
theorem lc_vent {k : KT} {ex : Bool} {I : Nat → Nat → Int32} {J : Nat → Nat → Int64} {w : Bool} {F : FinT} {nc ns : Nat} {i : Int32} {S : RelT} (hS : S I J w) (hst : St_vent S) (hnc : nc ≤ room_1.cells) (hns : ns ≤ room_1.slots) (hv1 : vp_in (i + 1) (kS k).2.1) (hv2 : vp_in (i + 2) (kS k).2.1) (hv3 : vp_in (i + 3) (kS k).2.1) (hv4 : vp_in (i + 4) (kS k).2.1) (hv5 : vp_in (i + 5) (kS k).2.1) (next : ∀ (ex : Bool) (I : Nat → Nat → Int32) (J : Nat → Nat → Int64) (w : Bool), S I J w → G k mL_law room_1 F nc ns 1562 [some (.ref (kS k).1), some (.ref (ka k 0)), some (.ref (ka k 65)), some (.ref (ka k 80)), some (.int i), none, none] [] (81, ex, I, J, Pw w)) : G k mL_law room_1 F nc ns 401 [some (.ref (kS k).1), some (.ref (ka k 0)), some (.ref (ka k 65)), some (.ref (ka k 80)), some (.int i), none, none] [] (81, ex, I, J, Pw w) := by
  obtain ⟨hk1, hk2, heq, hS2⟩ := hst I J w ((kS k).2.2 (i + 1).toNatClampNeg) ((kS k).2.2 (i + 2).toNatClampNeg) hS
  refine g_aload_n1 rfl d_L_law_401 ?_
  refine g_aload_n0 rfl d_L_law_402 ?_
  refine g_iload (i := 4) rfl d_L_law_403 ?_
  refine g_iconst 1 d_L_law_405 (by decide) ?_
  refine g_iadd d_L_law_406 ?_
  refine g_sld hv1 d_L_law_407 ?_
  refine g_aload_n0 rfl d_L_law_408 ?_
  refine g_iload (i := 4) rfl d_L_law_409 ?_
  refine g_iconst 2 d_L_law_411 (by decide) ?_
  refine g_iadd d_L_law_412 ?_
  refine g_sld hv2 d_L_law_413 ?_
  refine g_callV1 (c_X10_vent I w ((kS k).2.2 (i + 1).toNatClampNeg) ((kS k).2.2 (i + 2).toNatClampNeg) ) w_X10_vent l_L_41 d_L_law_414 rfl (Nat.le_of_ble_eq_true rfl) rfl rfl (Nat.le_of_ble_eq_true rfl) ⟨Nat.le_of_ble_eq_true rfl, Nat.le_of_ble_eq_true rfl⟩ ⟨hnc, hns⟩ ⟨rfl, rfl⟩ ?_
  refine g_aload_n2 rfl d_L_law_417 ?_
  refine g_aload_n0 rfl d_L_law_418 ?_
  refine g_iload (i := 4) rfl d_L_law_419 ?_
  refine g_iconst 1 d_L_law_421 (by decide) ?_
  refine g_iadd d_L_law_422 ?_
  refine g_sld hv1 d_L_law_423 ?_
  refine g_aload_n0 rfl d_L_law_424 ?_
  refine g_iload (i := 4) rfl d_L_law_425 ?_
  refine g_iconst 2 d_L_law_427 (by decide) ?_
  refine g_iadd d_L_law_428 ?_
  refine g_sld hv2 d_L_law_429 ?_
  refine g_callV1 (c_X11_vent (m_X10_vent I w ((kS k).2.2 (i + 1).toNatClampNeg) ((kS k).2.2 (i + 2).toNatClampNeg)) ((kS k).2.2 (i + 1).toNatClampNeg) ((kS k).2.2 (i + 2).toNatClampNeg) hk2) w_X11_vent l_L_45 d_L_law_430 rfl (Nat.le_of_ble_eq_true rfl) rfl rfl (Nat.le_of_ble_eq_true rfl) ⟨Nat.le_of_ble_eq_true rfl, Nat.le_of_ble_eq_true rfl⟩ ⟨hnc, hns⟩ ⟨rfl, rfl⟩ ?_
  refine g_icmp_eq 1562 d_L_law_433 (by decide) (fun _ => ?_) (fun h => absurd heq h)
  exact next _ _ _ _ hS2
def St_plan (S : RelT) : Prop := ∀ (I : Nat → Nat → Int32) (J : Nat → Nat → Int64) (w : Bool) (x1 : Int32) (x2 : Int32), S I J w → ok_X10_plan I w x1 x2 ∧ ok_X11_plan (m_X10_plan I w x1 x2) x1 x2 ∧ f_X10_plan I w x1 x2 = f_X11_plan (m_X10_plan I w x1 x2) x1 x2 ∧ S (m_X11_plan (m_X10_plan I w x1 x2) x1 x2) J w
set_option maxHeartbeats 800000 in
theorem lc_plan {k : KT} {ex : Bool} {I : Nat → Nat → Int32} {J : Nat → Nat → Int64} {w : Bool} {F : FinT} {nc ns : Nat} {i : Int32} {S : RelT} (hS : S I J w) (hst : St_plan S) (hnc : nc ≤ room_1.cells) (hns : ns ≤ room_1.slots) (hv1 : vp_in (i + 1) (kS k).2.1) (hv2 : vp_in (i + 2) (kS k).2.1) (hv3 : vp_in (i + 3) (kS k).2.1) (hv4 : vp_in (i + 4) (kS k).2.1) (hv5 : vp_in (i + 5) (kS k).2.1) (next : ∀ (ex : Bool) (I : Nat → Nat → Int32) (J : Nat → Nat → Int64) (w : Bool), S I J w → G k mL_law room_1 F nc ns 1562 [some (.ref (kS k).1), some (.ref (ka k 0)), some (.ref (ka k 65)), some (.ref (ka k 80)), some (.int i), none, none] [] (81, ex, I, J, Pw w)) : G k mL_law room_1 F nc ns 438 [some (.ref (kS k).1), some (.ref (ka k 0)), some (.ref (ka k 65)), some (.ref (ka k 80)), some (.int i), none, none] [] (81, ex, I, J, Pw w) := by
  obtain ⟨hk1, hk2, heq, hS2⟩ := hst I J w ((kS k).2.2 (i + 1).toNatClampNeg) ((kS k).2.2 (i + 2).toNatClampNeg) hS
  refine g_aload_n1 rfl d_L_law_438 ?_
  refine g_aload_n0 rfl d_L_law_439 ?_
  refine g_iload (i := 4) rfl d_L_law_440 ?_
  refine g_iconst 1 d_L_law_442 (by decide) ?_
  refine g_iadd d_L_law_443 ?_
  refine g_sld hv1 d_L_law_444 ?_
  refine g_aload_n0 rfl d_L_law_445 ?_
  refine g_iload (i := 4) rfl d_L_law_446 ?_
  refine g_iconst 2 d_L_law_448 (by decide) ?_
  refine g_iadd d_L_law_449 ?_
  refine g_sld hv2 d_L_law_450 ?_
  refine g_callV1 (c_X10_plan I w ((kS k).2.2 (i + 1).toNatClampNeg) ((kS k).2.2 (i + 2).toNatClampNeg) hk1) w_X10_plan l_L_46 d_L_law_451 rfl (Nat.le_of_ble_eq_true rfl) rfl rfl (Nat.le_of_ble_eq_true rfl) ⟨Nat.le_of_ble_eq_true rfl, Nat.le_of_ble_eq_true rfl⟩ ⟨hnc, hns⟩ ⟨rfl, rfl⟩ ?_
  refine g_aload_n2 rfl d_L_law_454 ?_
  refine g_aload_n0 rfl d_L_law_455 ?_
  refine g_iload (i := 4) rfl d_L_law_456 ?_
  refine g_iconst 1 d_L_law_458 (by decide) ?_
  refine g_iadd d_L_law_459 ?_
  refine g_sld hv1 d_L_law_460 ?_
  refine g_aload_n0 rfl d_L_law_461 ?_
  refine g_iload (i := 4) rfl d_L_law_462 ?_
  refine g_iconst 2 d_L_law_464 (by decide) ?_
  refine g_iadd d_L_law_465 ?_
  refine g_sld hv2 d_L_law_466 ?_
  refine g_callV1 (c_X11_plan (m_X10_plan I w ((kS k).2.2 (i + 1).toNatClampNeg) ((kS k).2.2 (i + 2).toNatClampNeg)) ((kS k).2.2 (i + 1).toNatClampNeg) ((kS k).2.2 (i + 2).toNatClampNeg) hk2) w_X11_plan l_L_49 d_L_law_467 rfl (Nat.le_of_ble_eq_true rfl) rfl rfl (Nat.le_of_ble_eq_true rfl) ⟨Nat.le_of_ble_eq_true rfl, Nat.le_of_ble_eq_true rfl⟩ ⟨hnc, hns⟩ ⟨rfl, rfl⟩ ?_
  refine g_icmp_eq 1562 d_L_law_470 (by decide) (fun _ => ?_) (fun h => absurd heq h)
  exact next _ _ _ _ hS2
def St_goes (S : RelT) : Prop := ∀ (I : Nat → Nat → Int32) (J : Nat → Nat → Int64) (w : Bool) (x1 : Int32), S I J w → True ∧ True ∧ f_X10_goes I x1 = f_X11_goes (m_X10_goes I x1) x1 ∧ S (m_X11_goes (m_X10_goes I x1) x1) J w
set_option maxHeartbeats 800000 in
theorem lc_goes {k : KT} {ex : Bool} {I : Nat → Nat → Int32} {J : Nat → Nat → Int64} {w : Bool} {F : FinT} {nc ns : Nat} {i : Int32} {S : RelT} (hS : S I J w) (hst : St_goes S) (hnc : nc ≤ room_1.cells) (hns : ns ≤ room_1.slots) (hv1 : vp_in (i + 1) (kS k).2.1) (hv2 : vp_in (i + 2) (kS k).2.1) (hv3 : vp_in (i + 3) (kS k).2.1) (hv4 : vp_in (i + 4) (kS k).2.1) (hv5 : vp_in (i + 5) (kS k).2.1) (next : ∀ (ex : Bool) (I : Nat → Nat → Int32) (J : Nat → Nat → Int64) (w : Bool), S I J w → G k mL_law room_1 F nc ns 1562 [some (.ref (kS k).1), some (.ref (ka k 0)), some (.ref (ka k 65)), some (.ref (ka k 80)), some (.int i), none, none] [] (81, ex, I, J, Pw w)) : G k mL_law room_1 F nc ns 475 [some (.ref (kS k).1), some (.ref (ka k 0)), some (.ref (ka k 65)), some (.ref (ka k 80)), some (.int i), none, none] [] (81, ex, I, J, Pw w) := by
  obtain ⟨hk1, hk2, heq, hS2⟩ := hst I J w ((kS k).2.2 (i + 1).toNatClampNeg) hS
  refine g_aload_n1 rfl d_L_law_475 ?_
  refine g_aload_n0 rfl d_L_law_476 ?_
  refine g_iload (i := 4) rfl d_L_law_477 ?_
  refine g_iconst 1 d_L_law_479 (by decide) ?_
  refine g_iadd d_L_law_480 ?_
  refine g_sld hv1 d_L_law_481 ?_
  refine g_callV1 (c_X10_goes I ((kS k).2.2 (i + 1).toNatClampNeg) ) w_X10_goes l_L_50 d_L_law_482 rfl (Nat.le_of_ble_eq_true rfl) rfl rfl (Nat.le_of_ble_eq_true rfl) ⟨Nat.le_of_ble_eq_true rfl, Nat.le_of_ble_eq_true rfl⟩ ⟨hnc, hns⟩ ⟨rfl, rfl⟩ ?_
  refine g_aload_n2 rfl d_L_law_485 ?_
  refine g_aload_n0 rfl d_L_law_486 ?_
  refine g_iload (i := 4) rfl d_L_law_487 ?_
  refine g_iconst 1 d_L_law_489 (by decide) ?_
  refine g_iadd d_L_law_490 ?_
  refine g_sld hv1 d_L_law_491 ?_
  refine g_callV1 (c_X11_goes (m_X10_goes I ((kS k).2.2 (i + 1).toNatClampNeg)) ((kS k).2.2 (i + 1).toNatClampNeg) ) w_X11_goes l_L_53 d_L_law_492 rfl (Nat.le_of_ble_eq_true rfl) rfl rfl (Nat.le_of_ble_eq_true rfl) ⟨Nat.le_of_ble_eq_true rfl, Nat.le_of_ble_eq_true rfl⟩ ⟨hnc, hns⟩ ⟨rfl, rfl⟩ ?_
  refine g_icmp_eq 1562 d_L_law_495 (by decide) (fun _ => ?_) (fun h => absurd heq h)
  exact next _ _ _ _ hS2
def St_stays (S : RelT) : Prop := ∀ (I : Nat → Nat → Int32) (J : Nat → Nat → Int64) (w : Bool) , S I J w → True ∧ True ∧ f_X10_stays I = f_X11_stays (m_X10_stays I) ∧ S (m_X11_stays (m_X10_stays I)) J w
set_option maxHeartbeats 800000 in
theorem lc_stays {k : KT} {ex : Bool} {I : Nat → Nat → Int32} {J : Nat → Nat → Int64} {w : Bool} {F : FinT} {nc ns : Nat} {i : Int32} {S : RelT} (hS : S I J w) (hst : St_stays S) (hnc : nc ≤ room_1.cells) (hns : ns ≤ room_1.slots) (hv1 : vp_in (i + 1) (kS k).2.1) (hv2 : vp_in (i + 2) (kS k).2.1) (hv3 : vp_in (i + 3) (kS k).2.1) (hv4 : vp_in (i + 4) (kS k).2.1) (hv5 : vp_in (i + 5) (kS k).2.1) (next : ∀ (ex : Bool) (I : Nat → Nat → Int32) (J : Nat → Nat → Int64) (w : Bool), S I J w → G k mL_law room_1 F nc ns 1562 [some (.ref (kS k).1), some (.ref (ka k 0)), some (.ref (ka k 65)), some (.ref (ka k 80)), some (.int i), none, none] [] (81, ex, I, J, Pw w)) : G k mL_law room_1 F nc ns 500 [some (.ref (kS k).1), some (.ref (ka k 0)), some (.ref (ka k 65)), some (.ref (ka k 80)), some (.int i), none, none] [] (81, ex, I, J, Pw w) := by
  obtain ⟨hk1, hk2, heq, hS2⟩ := hst I J w  hS
  refine g_aload_n1 rfl d_L_law_500 ?_
  refine g_callV1 (c_X10_stays I ) w_X10_stays l_L_54 d_L_law_501 rfl (Nat.le_of_ble_eq_true rfl) rfl rfl (Nat.le_of_ble_eq_true rfl) ⟨Nat.le_of_ble_eq_true rfl, Nat.le_of_ble_eq_true rfl⟩ ⟨hnc, hns⟩ ⟨rfl, rfl⟩ ?_
  refine g_aload_n2 rfl d_L_law_504 ?_
  refine g_callV1 (c_X11_stays (m_X10_stays I) ) w_X11_stays l_L_57 d_L_law_505 rfl (Nat.le_of_ble_eq_true rfl) rfl rfl (Nat.le_of_ble_eq_true rfl) ⟨Nat.le_of_ble_eq_true rfl, Nat.le_of_ble_eq_true rfl⟩ ⟨hnc, hns⟩ ⟨rfl, rfl⟩ ?_
  refine g_icmp_eq 1562 d_L_law_508 (by decide) (fun _ => ?_) (fun h => absurd heq h)
  exact next _ _ _ _ hS2
def St_angleIn (S : RelT) : Prop := ∀ (I : Nat → Nat → Int32) (J : Nat → Nat → Int64) (w : Bool) (x1 : Int32), S I J w → ok_X10_angleIn I w x1 ∧ ok_X11_angleIn (m_X10_angleIn I w x1) x1 ∧ f_X10_angleIn I w x1 = f_X11_angleIn (m_X10_angleIn I w x1) x1 ∧ S (m_X11_angleIn (m_X10_angleIn I w x1) x1) J w
set_option maxHeartbeats 800000 in
theorem lc_angleIn {k : KT} {ex : Bool} {I : Nat → Nat → Int32} {J : Nat → Nat → Int64} {w : Bool} {F : FinT} {nc ns : Nat} {i : Int32} {S : RelT} (hS : S I J w) (hst : St_angleIn S) (hnc : nc ≤ room_1.cells) (hns : ns ≤ room_1.slots) (hv1 : vp_in (i + 1) (kS k).2.1) (hv2 : vp_in (i + 2) (kS k).2.1) (hv3 : vp_in (i + 3) (kS k).2.1) (hv4 : vp_in (i + 4) (kS k).2.1) (hv5 : vp_in (i + 5) (kS k).2.1) (next : ∀ (ex : Bool) (I : Nat → Nat → Int32) (J : Nat → Nat → Int64) (w : Bool), S I J w → G k mL_law room_1 F nc ns 1562 [some (.ref (kS k).1), some (.ref (ka k 0)), some (.ref (ka k 65)), some (.ref (ka k 80)), some (.int i), none, none] [] (81, ex, I, J, Pw w)) : G k mL_law room_1 F nc ns 513 [some (.ref (kS k).1), some (.ref (ka k 0)), some (.ref (ka k 65)), some (.ref (ka k 80)), some (.int i), none, none] [] (81, ex, I, J, Pw w) := by
  obtain ⟨hk1, hk2, heq, hS2⟩ := hst I J w ((kS k).2.2 (i + 1).toNatClampNeg) hS
  refine g_aload_n1 rfl d_L_law_513 ?_
  refine g_aload_n0 rfl d_L_law_514 ?_
  refine g_iload (i := 4) rfl d_L_law_515 ?_
  refine g_iconst 1 d_L_law_517 (by decide) ?_
  refine g_iadd d_L_law_518 ?_
  refine g_sld hv1 d_L_law_519 ?_
  refine g_callV1 (c_X10_angleIn I w ((kS k).2.2 (i + 1).toNatClampNeg) hk1) w_X10_angleIn l_L_58 d_L_law_520 rfl (Nat.le_of_ble_eq_true rfl) rfl rfl (Nat.le_of_ble_eq_true rfl) ⟨Nat.le_of_ble_eq_true rfl, Nat.le_of_ble_eq_true rfl⟩ ⟨hnc, hns⟩ ⟨rfl, rfl⟩ ?_
  refine g_aload_n2 rfl d_L_law_523 ?_
  refine g_aload_n0 rfl d_L_law_524 ?_
  refine g_iload (i := 4) rfl d_L_law_525 ?_
  refine g_iconst 1 d_L_law_527 (by decide) ?_
  refine g_iadd d_L_law_528 ?_
  refine g_sld hv1 d_L_law_529 ?_
  refine g_callV1 (c_X11_angleIn (m_X10_angleIn I w ((kS k).2.2 (i + 1).toNatClampNeg)) ((kS k).2.2 (i + 1).toNatClampNeg) hk2) w_X11_angleIn l_L_61 d_L_law_530 rfl (Nat.le_of_ble_eq_true rfl) rfl rfl (Nat.le_of_ble_eq_true rfl) ⟨Nat.le_of_ble_eq_true rfl, Nat.le_of_ble_eq_true rfl⟩ ⟨hnc, hns⟩ ⟨rfl, rfl⟩ ?_
  refine g_icmp_eq 1562 d_L_law_533 (by decide) (fun _ => ?_) (fun h => absurd heq h)
  exact next _ _ _ _ hS2
def St_dampIn (S : RelT) : Prop := ∀ (I : Nat → Nat → Int32) (J : Nat → Nat → Int64) (w : Bool) (x1 : Int32), S I J w → ok_X10_dampIn I w x1 ∧ ok_X11_dampIn (m_X10_dampIn I w x1) x1 ∧ f_X10_dampIn I w x1 = f_X11_dampIn (m_X10_dampIn I w x1) x1 ∧ S (m_X11_dampIn (m_X10_dampIn I w x1) x1) J w
set_option maxHeartbeats 800000 in
theorem lc_dampIn {k : KT} {ex : Bool} {I : Nat → Nat → Int32} {J : Nat → Nat → Int64} {w : Bool} {F : FinT} {nc ns : Nat} {i : Int32} {S : RelT} (hS : S I J w) (hst : St_dampIn S) (hnc : nc ≤ room_1.cells) (hns : ns ≤ room_1.slots) (hv1 : vp_in (i + 1) (kS k).2.1) (hv2 : vp_in (i + 2) (kS k).2.1) (hv3 : vp_in (i + 3) (kS k).2.1) (hv4 : vp_in (i + 4) (kS k).2.1) (hv5 : vp_in (i + 5) (kS k).2.1) (next : ∀ (ex : Bool) (I : Nat → Nat → Int32) (J : Nat → Nat → Int64) (w : Bool), S I J w → G k mL_law room_1 F nc ns 1562 [some (.ref (kS k).1), some (.ref (ka k 0)), some (.ref (ka k 65)), some (.ref (ka k 80)), some (.int i), none, none] [] (81, ex, I, J, Pw w)) : G k mL_law room_1 F nc ns 538 [some (.ref (kS k).1), some (.ref (ka k 0)), some (.ref (ka k 65)), some (.ref (ka k 80)), some (.int i), none, none] [] (81, ex, I, J, Pw w) := by
  obtain ⟨hk1, hk2, heq, hS2⟩ := hst I J w ((kS k).2.2 (i + 1).toNatClampNeg) hS
  refine g_aload_n1 rfl d_L_law_538 ?_
  refine g_aload_n0 rfl d_L_law_539 ?_
  refine g_iload (i := 4) rfl d_L_law_540 ?_
  refine g_iconst 1 d_L_law_542 (by decide) ?_
  refine g_iadd d_L_law_543 ?_
  refine g_sld hv1 d_L_law_544 ?_
  refine g_callV1 (c_X10_dampIn I w ((kS k).2.2 (i + 1).toNatClampNeg) hk1) w_X10_dampIn l_L_62 d_L_law_545 rfl (Nat.le_of_ble_eq_true rfl) rfl rfl (Nat.le_of_ble_eq_true rfl) ⟨Nat.le_of_ble_eq_true rfl, Nat.le_of_ble_eq_true rfl⟩ ⟨hnc, hns⟩ ⟨rfl, rfl⟩ ?_
  refine g_aload_n2 rfl d_L_law_548 ?_
  refine g_aload_n0 rfl d_L_law_549 ?_
  refine g_iload (i := 4) rfl d_L_law_550 ?_
  refine g_iconst 1 d_L_law_552 (by decide) ?_
  refine g_iadd d_L_law_553 ?_
  refine g_sld hv1 d_L_law_554 ?_
  refine g_callV1 (c_X11_dampIn (m_X10_dampIn I w ((kS k).2.2 (i + 1).toNatClampNeg)) ((kS k).2.2 (i + 1).toNatClampNeg) hk2) w_X11_dampIn l_L_65 d_L_law_555 rfl (Nat.le_of_ble_eq_true rfl) rfl rfl (Nat.le_of_ble_eq_true rfl) ⟨Nat.le_of_ble_eq_true rfl, Nat.le_of_ble_eq_true rfl⟩ ⟨hnc, hns⟩ ⟨rfl, rfl⟩ ?_
  refine g_icmp_eq 1562 d_L_law_558 (by decide) (fun _ => ?_) (fun h => absurd heq h)
  exact next _ _ _ _ hS2
def St_whoIn (S : RelT) : Prop := ∀ (I : Nat → Nat → Int32) (J : Nat → Nat → Int64) (w : Bool) (x1 : Int32), S I J w → ok_X10_whoIn I w x1 ∧ ok_X11_whoIn (m_X10_whoIn I w x1) x1 ∧ f_X10_whoIn I w x1 = f_X11_whoIn (m_X10_whoIn I w x1) x1 ∧ S (m_X11_whoIn (m_X10_whoIn I w x1) x1) J w
set_option maxHeartbeats 800000 in
theorem lc_whoIn {k : KT} {ex : Bool} {I : Nat → Nat → Int32} {J : Nat → Nat → Int64} {w : Bool} {F : FinT} {nc ns : Nat} {i : Int32} {S : RelT} (hS : S I J w) (hst : St_whoIn S) (hnc : nc ≤ room_1.cells) (hns : ns ≤ room_1.slots) (hv1 : vp_in (i + 1) (kS k).2.1) (hv2 : vp_in (i + 2) (kS k).2.1) (hv3 : vp_in (i + 3) (kS k).2.1) (hv4 : vp_in (i + 4) (kS k).2.1) (hv5 : vp_in (i + 5) (kS k).2.1) (next : ∀ (ex : Bool) (I : Nat → Nat → Int32) (J : Nat → Nat → Int64) (w : Bool), S I J w → G k mL_law room_1 F nc ns 1562 [some (.ref (kS k).1), some (.ref (ka k 0)), some (.ref (ka k 65)), some (.ref (ka k 80)), some (.int i), none, none] [] (81, ex, I, J, Pw w)) : G k mL_law room_1 F nc ns 563 [some (.ref (kS k).1), some (.ref (ka k 0)), some (.ref (ka k 65)), some (.ref (ka k 80)), some (.int i), none, none] [] (81, ex, I, J, Pw w) := by
  obtain ⟨hk1, hk2, heq, hS2⟩ := hst I J w ((kS k).2.2 (i + 1).toNatClampNeg) hS
  refine g_aload_n1 rfl d_L_law_563 ?_
  refine g_aload_n0 rfl d_L_law_564 ?_
  refine g_iload (i := 4) rfl d_L_law_565 ?_
  refine g_iconst 1 d_L_law_567 (by decide) ?_
  refine g_iadd d_L_law_568 ?_
  refine g_sld hv1 d_L_law_569 ?_
  refine g_callV1 (c_X10_whoIn I w ((kS k).2.2 (i + 1).toNatClampNeg) hk1) w_X10_whoIn l_L_66 d_L_law_570 rfl (Nat.le_of_ble_eq_true rfl) rfl rfl (Nat.le_of_ble_eq_true rfl) ⟨Nat.le_of_ble_eq_true rfl, Nat.le_of_ble_eq_true rfl⟩ ⟨hnc, hns⟩ ⟨rfl, rfl⟩ ?_
  refine g_aload_n2 rfl d_L_law_573 ?_
  refine g_aload_n0 rfl d_L_law_574 ?_
  refine g_iload (i := 4) rfl d_L_law_575 ?_
  refine g_iconst 1 d_L_law_577 (by decide) ?_
  refine g_iadd d_L_law_578 ?_
  refine g_sld hv1 d_L_law_579 ?_
  refine g_callV1 (c_X11_whoIn (m_X10_whoIn I w ((kS k).2.2 (i + 1).toNatClampNeg)) ((kS k).2.2 (i + 1).toNatClampNeg) hk2) w_X11_whoIn l_L_69 d_L_law_580 rfl (Nat.le_of_ble_eq_true rfl) rfl rfl (Nat.le_of_ble_eq_true rfl) ⟨Nat.le_of_ble_eq_true rfl, Nat.le_of_ble_eq_true rfl⟩ ⟨hnc, hns⟩ ⟨rfl, rfl⟩ ?_
  refine g_icmp_eq 1562 d_L_law_583 (by decide) (fun _ => ?_) (fun h => absurd heq h)
  exact next _ _ _ _ hS2
def St_daysOf (S : RelT) : Prop := ∀ (I : Nat → Nat → Int32) (J : Nat → Nat → Int64) (w : Bool) (x1 : Int32) (x2 : Int32), S I J w → ok_X10_daysOf I w x1 x2 ∧ ok_X11_daysOf (m_X10_daysOf I w x1 x2) x1 x2 ∧ f_X10_daysOf I w x1 x2 = f_X11_daysOf (m_X10_daysOf I w x1 x2) x1 x2 ∧ S (m_X11_daysOf (m_X10_daysOf I w x1 x2) x1 x2) J w
set_option maxHeartbeats 800000 in
theorem lc_daysOf {k : KT} {ex : Bool} {I : Nat → Nat → Int32} {J : Nat → Nat → Int64} {w : Bool} {F : FinT} {nc ns : Nat} {i : Int32} {S : RelT} (hS : S I J w) (hst : St_daysOf S) (hnc : nc ≤ room_1.cells) (hns : ns ≤ room_1.slots) (hv1 : vp_in (i + 1) (kS k).2.1) (hv2 : vp_in (i + 2) (kS k).2.1) (hv3 : vp_in (i + 3) (kS k).2.1) (hv4 : vp_in (i + 4) (kS k).2.1) (hv5 : vp_in (i + 5) (kS k).2.1) (next : ∀ (ex : Bool) (I : Nat → Nat → Int32) (J : Nat → Nat → Int64) (w : Bool), S I J w → G k mL_law room_1 F nc ns 1562 [some (.ref (kS k).1), some (.ref (ka k 0)), some (.ref (ka k 65)), some (.ref (ka k 80)), some (.int i), none, none] [] (81, ex, I, J, Pw w)) : G k mL_law room_1 F nc ns 588 [some (.ref (kS k).1), some (.ref (ka k 0)), some (.ref (ka k 65)), some (.ref (ka k 80)), some (.int i), none, none] [] (81, ex, I, J, Pw w) := by
  obtain ⟨hk1, hk2, heq, hS2⟩ := hst I J w ((kS k).2.2 (i + 1).toNatClampNeg) ((kS k).2.2 (i + 2).toNatClampNeg) hS
  refine g_aload_n1 rfl d_L_law_588 ?_
  refine g_aload_n0 rfl d_L_law_589 ?_
  refine g_iload (i := 4) rfl d_L_law_590 ?_
  refine g_iconst 1 d_L_law_592 (by decide) ?_
  refine g_iadd d_L_law_593 ?_
  refine g_sld hv1 d_L_law_594 ?_
  refine g_aload_n0 rfl d_L_law_595 ?_
  refine g_iload (i := 4) rfl d_L_law_596 ?_
  refine g_iconst 2 d_L_law_598 (by decide) ?_
  refine g_iadd d_L_law_599 ?_
  refine g_sld hv2 d_L_law_600 ?_
  refine g_callV1 (c_X10_daysOf I w ((kS k).2.2 (i + 1).toNatClampNeg) ((kS k).2.2 (i + 2).toNatClampNeg) hk1) w_X10_daysOf l_L_70 d_L_law_601 rfl (Nat.le_of_ble_eq_true rfl) rfl rfl (Nat.le_of_ble_eq_true rfl) ⟨Nat.le_of_ble_eq_true rfl, Nat.le_of_ble_eq_true rfl⟩ ⟨hnc, hns⟩ ⟨rfl, rfl⟩ ?_
  refine g_aload_n2 rfl d_L_law_604 ?_
  refine g_aload_n0 rfl d_L_law_605 ?_
  refine g_iload (i := 4) rfl d_L_law_606 ?_
  refine g_iconst 1 d_L_law_608 (by decide) ?_
  refine g_iadd d_L_law_609 ?_
  refine g_sld hv1 d_L_law_610 ?_
  refine g_aload_n0 rfl d_L_law_611 ?_
  refine g_iload (i := 4) rfl d_L_law_612 ?_
  refine g_iconst 2 d_L_law_614 (by decide) ?_
  refine g_iadd d_L_law_615 ?_
  refine g_sld hv2 d_L_law_616 ?_
  refine g_callV1 (c_X11_daysOf (m_X10_daysOf I w ((kS k).2.2 (i + 1).toNatClampNeg) ((kS k).2.2 (i + 2).toNatClampNeg)) ((kS k).2.2 (i + 1).toNatClampNeg) ((kS k).2.2 (i + 2).toNatClampNeg) hk2) w_X11_daysOf l_L_73 d_L_law_617 rfl (Nat.le_of_ble_eq_true rfl) rfl rfl (Nat.le_of_ble_eq_true rfl) ⟨Nat.le_of_ble_eq_true rfl, Nat.le_of_ble_eq_true rfl⟩ ⟨hnc, hns⟩ ⟨rfl, rfl⟩ ?_
  refine g_icmp_eq 1562 d_L_law_620 (by decide) (fun _ => ?_) (fun h => absurd heq h)
  exact next _ _ _ _ hS2
def St_when (S : RelT) : Prop := ∀ (I : Nat → Nat → Int32) (J : Nat → Nat → Int64) (w : Bool) (x1 : Int32), S I J w → ok_X10_when I w x1 ∧ ok_X11_when (m_X10_when I w x1) x1 ∧ f_X10_when I w x1 = f_X11_when (m_X10_when I w x1) x1 ∧ S (m_X11_when (m_X10_when I w x1) x1) J w
set_option maxHeartbeats 800000 in
theorem lc_when {k : KT} {ex : Bool} {I : Nat → Nat → Int32} {J : Nat → Nat → Int64} {w : Bool} {F : FinT} {nc ns : Nat} {i : Int32} {S : RelT} (hS : S I J w) (hst : St_when S) (hnc : nc ≤ room_1.cells) (hns : ns ≤ room_1.slots) (hv1 : vp_in (i + 1) (kS k).2.1) (hv2 : vp_in (i + 2) (kS k).2.1) (hv3 : vp_in (i + 3) (kS k).2.1) (hv4 : vp_in (i + 4) (kS k).2.1) (hv5 : vp_in (i + 5) (kS k).2.1) (next : ∀ (ex : Bool) (I : Nat → Nat → Int32) (J : Nat → Nat → Int64) (w : Bool), S I J w → G k mL_law room_1 F nc ns 1562 [some (.ref (kS k).1), some (.ref (ka k 0)), some (.ref (ka k 65)), some (.ref (ka k 80)), some (.int i), none, none] [] (81, ex, I, J, Pw w)) : G k mL_law room_1 F nc ns 625 [some (.ref (kS k).1), some (.ref (ka k 0)), some (.ref (ka k 65)), some (.ref (ka k 80)), some (.int i), none, none] [] (81, ex, I, J, Pw w) := by
  obtain ⟨hk1, hk2, heq, hS2⟩ := hst I J w ((kS k).2.2 (i + 1).toNatClampNeg) hS
  refine g_aload_n1 rfl d_L_law_625 ?_
  refine g_aload_n0 rfl d_L_law_626 ?_
  refine g_iload (i := 4) rfl d_L_law_627 ?_
  refine g_iconst 1 d_L_law_629 (by decide) ?_
  refine g_iadd d_L_law_630 ?_
  refine g_sld hv1 d_L_law_631 ?_
  refine g_callV1 (c_X10_when I w ((kS k).2.2 (i + 1).toNatClampNeg) hk1) w_X10_when l_L_74 d_L_law_632 rfl (Nat.le_of_ble_eq_true rfl) rfl rfl (Nat.le_of_ble_eq_true rfl) ⟨Nat.le_of_ble_eq_true rfl, Nat.le_of_ble_eq_true rfl⟩ ⟨hnc, hns⟩ ⟨rfl, rfl⟩ ?_
  refine g_aload_n2 rfl d_L_law_635 ?_
  refine g_aload_n0 rfl d_L_law_636 ?_
  refine g_iload (i := 4) rfl d_L_law_637 ?_
  refine g_iconst 1 d_L_law_639 (by decide) ?_
  refine g_iadd d_L_law_640 ?_
  refine g_sld hv1 d_L_law_641 ?_
  refine g_callV1 (c_X11_when (m_X10_when I w ((kS k).2.2 (i + 1).toNatClampNeg)) ((kS k).2.2 (i + 1).toNatClampNeg) hk2) w_X11_when l_L_77 d_L_law_642 rfl (Nat.le_of_ble_eq_true rfl) rfl rfl (Nat.le_of_ble_eq_true rfl) ⟨Nat.le_of_ble_eq_true rfl, Nat.le_of_ble_eq_true rfl⟩ ⟨hnc, hns⟩ ⟨rfl, rfl⟩ ?_
  refine g_icmp_eq 1562 d_L_law_645 (by decide) (fun _ => ?_) (fun h => absurd heq h)
  exact next _ _ _ _ hS2
def St_round (S : RelT) : Prop := ∀ (I : Nat → Nat → Int32) (J : Nat → Nat → Int64) (w : Bool) , S I J w → ok_X10_round I w ∧ ok_X11_round (m_X10_round I w) ∧ f_X10_round I w = f_X11_round (m_X10_round I w) ∧ S (m_X11_round (m_X10_round I w)) J w
set_option maxHeartbeats 800000 in
theorem lc_round {k : KT} {ex : Bool} {I : Nat → Nat → Int32} {J : Nat → Nat → Int64} {w : Bool} {F : FinT} {nc ns : Nat} {i : Int32} {S : RelT} (hS : S I J w) (hst : St_round S) (hnc : nc ≤ room_1.cells) (hns : ns ≤ room_1.slots) (hv1 : vp_in (i + 1) (kS k).2.1) (hv2 : vp_in (i + 2) (kS k).2.1) (hv3 : vp_in (i + 3) (kS k).2.1) (hv4 : vp_in (i + 4) (kS k).2.1) (hv5 : vp_in (i + 5) (kS k).2.1) (next : ∀ (ex : Bool) (I : Nat → Nat → Int32) (J : Nat → Nat → Int64) (w : Bool), S I J w → G k mL_law room_1 F nc ns 1562 [some (.ref (kS k).1), some (.ref (ka k 0)), some (.ref (ka k 65)), some (.ref (ka k 80)), some (.int i), none, none] [] (81, ex, I, J, Pw w)) : G k mL_law room_1 F nc ns 650 [some (.ref (kS k).1), some (.ref (ka k 0)), some (.ref (ka k 65)), some (.ref (ka k 80)), some (.int i), none, none] [] (81, ex, I, J, Pw w) := by
  obtain ⟨hk1, hk2, heq, hS2⟩ := hst I J w  hS
  refine g_aload_n1 rfl d_L_law_650 ?_
  refine g_callV1 (c_X10_round I w hk1) w_X10_round l_L_78 d_L_law_651 rfl (Nat.le_of_ble_eq_true rfl) rfl rfl (Nat.le_of_ble_eq_true rfl) ⟨Nat.le_of_ble_eq_true rfl, Nat.le_of_ble_eq_true rfl⟩ ⟨hnc, hns⟩ ⟨rfl, rfl⟩ ?_
  refine g_aload_n2 rfl d_L_law_654 ?_
  refine g_callV1 (c_X11_round (m_X10_round I w) hk2) w_X11_round l_L_81 d_L_law_655 rfl (Nat.le_of_ble_eq_true rfl) rfl rfl (Nat.le_of_ble_eq_true rfl) ⟨Nat.le_of_ble_eq_true rfl, Nat.le_of_ble_eq_true rfl⟩ ⟨hnc, hns⟩ ⟨rfl, rfl⟩ ?_
  refine g_icmp_eq 1562 d_L_law_658 (by decide) (fun _ => ?_) (fun h => absurd heq h)
  exact next _ _ _ _ hS2
def St_kept (S : RelT) : Prop := ∀ (I : Nat → Nat → Int32) (J : Nat → Nat → Int64) (w : Bool) (x1 : Int32), S I J w → ok_X10_kept I w x1 ∧ ok_X11_kept (m_X10_kept I w x1) x1 ∧ f_X10_kept I w x1 = f_X11_kept (m_X10_kept I w x1) x1 ∧ S (m_X11_kept (m_X10_kept I w x1) x1) J w
set_option maxHeartbeats 800000 in
theorem lc_kept {k : KT} {ex : Bool} {I : Nat → Nat → Int32} {J : Nat → Nat → Int64} {w : Bool} {F : FinT} {nc ns : Nat} {i : Int32} {S : RelT} (hS : S I J w) (hst : St_kept S) (hnc : nc ≤ room_1.cells) (hns : ns ≤ room_1.slots) (hv1 : vp_in (i + 1) (kS k).2.1) (hv2 : vp_in (i + 2) (kS k).2.1) (hv3 : vp_in (i + 3) (kS k).2.1) (hv4 : vp_in (i + 4) (kS k).2.1) (hv5 : vp_in (i + 5) (kS k).2.1) (next : ∀ (ex : Bool) (I : Nat → Nat → Int32) (J : Nat → Nat → Int64) (w : Bool), S I J w → G k mL_law room_1 F nc ns 1562 [some (.ref (kS k).1), some (.ref (ka k 0)), some (.ref (ka k 65)), some (.ref (ka k 80)), some (.int i), none, none] [] (81, ex, I, J, Pw w)) : G k mL_law room_1 F nc ns 663 [some (.ref (kS k).1), some (.ref (ka k 0)), some (.ref (ka k 65)), some (.ref (ka k 80)), some (.int i), none, none] [] (81, ex, I, J, Pw w) := by
  obtain ⟨hk1, hk2, heq, hS2⟩ := hst I J w ((kS k).2.2 (i + 1).toNatClampNeg) hS
  refine g_aload_n1 rfl d_L_law_663 ?_
  refine g_aload_n0 rfl d_L_law_664 ?_
  refine g_iload (i := 4) rfl d_L_law_665 ?_
  refine g_iconst 1 d_L_law_667 (by decide) ?_
  refine g_iadd d_L_law_668 ?_
  refine g_sld hv1 d_L_law_669 ?_
  refine g_callV1 (c_X10_kept I w ((kS k).2.2 (i + 1).toNatClampNeg) hk1) w_X10_kept l_L_82 d_L_law_670 rfl (Nat.le_of_ble_eq_true rfl) rfl rfl (Nat.le_of_ble_eq_true rfl) ⟨Nat.le_of_ble_eq_true rfl, Nat.le_of_ble_eq_true rfl⟩ ⟨hnc, hns⟩ ⟨rfl, rfl⟩ ?_
  refine g_aload_n2 rfl d_L_law_673 ?_
  refine g_aload_n0 rfl d_L_law_674 ?_
  refine g_iload (i := 4) rfl d_L_law_675 ?_
  refine g_iconst 1 d_L_law_677 (by decide) ?_
  refine g_iadd d_L_law_678 ?_
  refine g_sld hv1 d_L_law_679 ?_
  refine g_callV1 (c_X11_kept (m_X10_kept I w ((kS k).2.2 (i + 1).toNatClampNeg)) ((kS k).2.2 (i + 1).toNatClampNeg) hk2) w_X11_kept l_L_85 d_L_law_680 rfl (Nat.le_of_ble_eq_true rfl) rfl rfl (Nat.le_of_ble_eq_true rfl) ⟨Nat.le_of_ble_eq_true rfl, Nat.le_of_ble_eq_true rfl⟩ ⟨hnc, hns⟩ ⟨rfl, rfl⟩ ?_
  refine g_icmp_eq 1562 d_L_law_683 (by decide) (fun _ => ?_) (fun h => absurd heq h)
  exact next _ _ _ _ hS2
def St_worthOf (S : RelT) : Prop := ∀ (I : Nat → Nat → Int32) (J : Nat → Nat → Int64) (w : Bool) (x1 : Int32) (x2 : Int32), S I J w → ok_X10_worthOf I w x1 x2 ∧ ok_X11_worthOf (m_X10_worthOf I w x1 x2) x1 x2 ∧ f_X10_worthOf I w x1 x2 = f_X11_worthOf (m_X10_worthOf I w x1 x2) x1 x2 ∧ S (m_X11_worthOf (m_X10_worthOf I w x1 x2) x1 x2) J w
set_option maxHeartbeats 800000 in
theorem lc_worthOf {k : KT} {ex : Bool} {I : Nat → Nat → Int32} {J : Nat → Nat → Int64} {w : Bool} {F : FinT} {nc ns : Nat} {i : Int32} {S : RelT} (hS : S I J w) (hst : St_worthOf S) (hnc : nc ≤ room_1.cells) (hns : ns ≤ room_1.slots) (hv1 : vp_in (i + 1) (kS k).2.1) (hv2 : vp_in (i + 2) (kS k).2.1) (hv3 : vp_in (i + 3) (kS k).2.1) (hv4 : vp_in (i + 4) (kS k).2.1) (hv5 : vp_in (i + 5) (kS k).2.1) (next : ∀ (ex : Bool) (I : Nat → Nat → Int32) (J : Nat → Nat → Int64) (w : Bool), S I J w → G k mL_law room_1 F nc ns 1562 [some (.ref (kS k).1), some (.ref (ka k 0)), some (.ref (ka k 65)), some (.ref (ka k 80)), some (.int i), none, none] [] (81, ex, I, J, Pw w)) : G k mL_law room_1 F nc ns 688 [some (.ref (kS k).1), some (.ref (ka k 0)), some (.ref (ka k 65)), some (.ref (ka k 80)), some (.int i), none, none] [] (81, ex, I, J, Pw w) := by
  obtain ⟨hk1, hk2, heq, hS2⟩ := hst I J w ((kS k).2.2 (i + 1).toNatClampNeg) ((kS k).2.2 (i + 2).toNatClampNeg) hS
  refine g_aload_n1 rfl d_L_law_688 ?_
  refine g_aload_n0 rfl d_L_law_689 ?_
  refine g_iload (i := 4) rfl d_L_law_690 ?_
  refine g_iconst 1 d_L_law_692 (by decide) ?_
  refine g_iadd d_L_law_693 ?_
  refine g_sld hv1 d_L_law_694 ?_
  refine g_aload_n0 rfl d_L_law_695 ?_
  refine g_iload (i := 4) rfl d_L_law_696 ?_
  refine g_iconst 2 d_L_law_698 (by decide) ?_
  refine g_iadd d_L_law_699 ?_
  refine g_sld hv2 d_L_law_700 ?_
  refine g_callV1 (c_X10_worthOf I w ((kS k).2.2 (i + 1).toNatClampNeg) ((kS k).2.2 (i + 2).toNatClampNeg) hk1) w_X10_worthOf l_L_86 d_L_law_701 rfl (Nat.le_of_ble_eq_true rfl) rfl rfl (Nat.le_of_ble_eq_true rfl) ⟨Nat.le_of_ble_eq_true rfl, Nat.le_of_ble_eq_true rfl⟩ ⟨hnc, hns⟩ ⟨rfl, rfl⟩ ?_
  refine g_aload_n2 rfl d_L_law_704 ?_
  refine g_aload_n0 rfl d_L_law_705 ?_
  refine g_iload (i := 4) rfl d_L_law_706 ?_
  refine g_iconst 1 d_L_law_708 (by decide) ?_
  refine g_iadd d_L_law_709 ?_
  refine g_sld hv1 d_L_law_710 ?_
  refine g_aload_n0 rfl d_L_law_711 ?_
  refine g_iload (i := 4) rfl d_L_law_712 ?_
  refine g_iconst 2 d_L_law_714 (by decide) ?_
  refine g_iadd d_L_law_715 ?_
  refine g_sld hv2 d_L_law_716 ?_
  refine g_callV1 (c_X11_worthOf (m_X10_worthOf I w ((kS k).2.2 (i + 1).toNatClampNeg) ((kS k).2.2 (i + 2).toNatClampNeg)) ((kS k).2.2 (i + 1).toNatClampNeg) ((kS k).2.2 (i + 2).toNatClampNeg) hk2) w_X11_worthOf l_L_89 d_L_law_717 rfl (Nat.le_of_ble_eq_true rfl) rfl rfl (Nat.le_of_ble_eq_true rfl) ⟨Nat.le_of_ble_eq_true rfl, Nat.le_of_ble_eq_true rfl⟩ ⟨hnc, hns⟩ ⟨rfl, rfl⟩ ?_
  refine g_icmp_eq 1562 d_L_law_720 (by decide) (fun _ => ?_) (fun h => absurd heq h)
  exact next _ _ _ _ hS2
def St_bestRow (S : RelT) : Prop := ∀ (I : Nat → Nat → Int32) (J : Nat → Nat → Int64) (w : Bool) (x1 : Int32), S I J w → ok_X10_bestRow I w x1 ∧ ok_X11_bestRow (m_X10_bestRow I w x1) x1 ∧ f_X10_bestRow I w x1 = f_X11_bestRow (m_X10_bestRow I w x1) x1 ∧ S (m_X11_bestRow (m_X10_bestRow I w x1) x1) J w
set_option maxHeartbeats 800000 in
theorem lc_bestRow {k : KT} {ex : Bool} {I : Nat → Nat → Int32} {J : Nat → Nat → Int64} {w : Bool} {F : FinT} {nc ns : Nat} {i : Int32} {S : RelT} (hS : S I J w) (hst : St_bestRow S) (hnc : nc ≤ room_1.cells) (hns : ns ≤ room_1.slots) (hv1 : vp_in (i + 1) (kS k).2.1) (hv2 : vp_in (i + 2) (kS k).2.1) (hv3 : vp_in (i + 3) (kS k).2.1) (hv4 : vp_in (i + 4) (kS k).2.1) (hv5 : vp_in (i + 5) (kS k).2.1) (next : ∀ (ex : Bool) (I : Nat → Nat → Int32) (J : Nat → Nat → Int64) (w : Bool), S I J w → G k mL_law room_1 F nc ns 1562 [some (.ref (kS k).1), some (.ref (ka k 0)), some (.ref (ka k 65)), some (.ref (ka k 80)), some (.int i), none, none] [] (81, ex, I, J, Pw w)) : G k mL_law room_1 F nc ns 725 [some (.ref (kS k).1), some (.ref (ka k 0)), some (.ref (ka k 65)), some (.ref (ka k 80)), some (.int i), none, none] [] (81, ex, I, J, Pw w) := by
  obtain ⟨hk1, hk2, heq, hS2⟩ := hst I J w ((kS k).2.2 (i + 1).toNatClampNeg) hS
  refine g_aload_n1 rfl d_L_law_725 ?_
  refine g_aload_n0 rfl d_L_law_726 ?_
  refine g_iload (i := 4) rfl d_L_law_727 ?_
  refine g_iconst 1 d_L_law_729 (by decide) ?_
  refine g_iadd d_L_law_730 ?_
  refine g_sld hv1 d_L_law_731 ?_
  refine g_callV1 (c_X10_bestRow I w ((kS k).2.2 (i + 1).toNatClampNeg) hk1) w_X10_bestRow l_L_90 d_L_law_732 rfl (Nat.le_of_ble_eq_true rfl) rfl rfl (Nat.le_of_ble_eq_true rfl) ⟨Nat.le_of_ble_eq_true rfl, Nat.le_of_ble_eq_true rfl⟩ ⟨hnc, hns⟩ ⟨rfl, rfl⟩ ?_
  refine g_aload_n2 rfl d_L_law_735 ?_
  refine g_aload_n0 rfl d_L_law_736 ?_
  refine g_iload (i := 4) rfl d_L_law_737 ?_
  refine g_iconst 1 d_L_law_739 (by decide) ?_
  refine g_iadd d_L_law_740 ?_
  refine g_sld hv1 d_L_law_741 ?_
  refine g_callV1 (c_X11_bestRow (m_X10_bestRow I w ((kS k).2.2 (i + 1).toNatClampNeg)) ((kS k).2.2 (i + 1).toNatClampNeg) hk2) w_X11_bestRow l_L_93 d_L_law_742 rfl (Nat.le_of_ble_eq_true rfl) rfl rfl (Nat.le_of_ble_eq_true rfl) ⟨Nat.le_of_ble_eq_true rfl, Nat.le_of_ble_eq_true rfl⟩ ⟨hnc, hns⟩ ⟨rfl, rfl⟩ ?_
  refine g_icmp_eq 1562 d_L_law_745 (by decide) (fun _ => ?_) (fun h => absurd heq h)
  exact next _ _ _ _ hS2
def St_bestWorth (S : RelT) : Prop := ∀ (I : Nat → Nat → Int32) (J : Nat → Nat → Int64) (w : Bool) (x1 : Int32), S I J w → ok_X10_bestWorth I w x1 ∧ ok_X11_bestWorth (m_X10_bestWorth I w x1) x1 ∧ f_X10_bestWorth I w x1 = f_X11_bestWorth (m_X10_bestWorth I w x1) x1 ∧ S (m_X11_bestWorth (m_X10_bestWorth I w x1) x1) J w
set_option maxHeartbeats 800000 in
theorem lc_bestWorth {k : KT} {ex : Bool} {I : Nat → Nat → Int32} {J : Nat → Nat → Int64} {w : Bool} {F : FinT} {nc ns : Nat} {i : Int32} {S : RelT} (hS : S I J w) (hst : St_bestWorth S) (hnc : nc ≤ room_1.cells) (hns : ns ≤ room_1.slots) (hv1 : vp_in (i + 1) (kS k).2.1) (hv2 : vp_in (i + 2) (kS k).2.1) (hv3 : vp_in (i + 3) (kS k).2.1) (hv4 : vp_in (i + 4) (kS k).2.1) (hv5 : vp_in (i + 5) (kS k).2.1) (next : ∀ (ex : Bool) (I : Nat → Nat → Int32) (J : Nat → Nat → Int64) (w : Bool), S I J w → G k mL_law room_1 F nc ns 1562 [some (.ref (kS k).1), some (.ref (ka k 0)), some (.ref (ka k 65)), some (.ref (ka k 80)), some (.int i), none, none] [] (81, ex, I, J, Pw w)) : G k mL_law room_1 F nc ns 750 [some (.ref (kS k).1), some (.ref (ka k 0)), some (.ref (ka k 65)), some (.ref (ka k 80)), some (.int i), none, none] [] (81, ex, I, J, Pw w) := by
  obtain ⟨hk1, hk2, heq, hS2⟩ := hst I J w ((kS k).2.2 (i + 1).toNatClampNeg) hS
  refine g_aload_n1 rfl d_L_law_750 ?_
  refine g_aload_n0 rfl d_L_law_751 ?_
  refine g_iload (i := 4) rfl d_L_law_752 ?_
  refine g_iconst 1 d_L_law_754 (by decide) ?_
  refine g_iadd d_L_law_755 ?_
  refine g_sld hv1 d_L_law_756 ?_
  refine g_callV1 (c_X10_bestWorth I w ((kS k).2.2 (i + 1).toNatClampNeg) hk1) w_X10_bestWorth l_L_94 d_L_law_757 rfl (Nat.le_of_ble_eq_true rfl) rfl rfl (Nat.le_of_ble_eq_true rfl) ⟨Nat.le_of_ble_eq_true rfl, Nat.le_of_ble_eq_true rfl⟩ ⟨hnc, hns⟩ ⟨rfl, rfl⟩ ?_
  refine g_aload_n2 rfl d_L_law_760 ?_
  refine g_aload_n0 rfl d_L_law_761 ?_
  refine g_iload (i := 4) rfl d_L_law_762 ?_
  refine g_iconst 1 d_L_law_764 (by decide) ?_
  refine g_iadd d_L_law_765 ?_
  refine g_sld hv1 d_L_law_766 ?_
  refine g_callV1 (c_X11_bestWorth (m_X10_bestWorth I w ((kS k).2.2 (i + 1).toNatClampNeg)) ((kS k).2.2 (i + 1).toNatClampNeg) hk2) w_X11_bestWorth l_L_97 d_L_law_767 rfl (Nat.le_of_ble_eq_true rfl) rfl rfl (Nat.le_of_ble_eq_true rfl) ⟨Nat.le_of_ble_eq_true rfl, Nat.le_of_ble_eq_true rfl⟩ ⟨hnc, hns⟩ ⟨rfl, rfl⟩ ?_
  refine g_icmp_eq 1562 d_L_law_770 (by decide) (fun _ => ?_) (fun h => absurd heq h)
  exact next _ _ _ _ hS2
def St_sureRow (S : RelT) : Prop := ∀ (I : Nat → Nat → Int32) (J : Nat → Nat → Int64) (w : Bool) (x1 : Int32), S I J w → ok_X10_sureRow I w x1 ∧ ok_X11_sureRow (m_X10_sureRow I w x1) x1 ∧ f_X10_sureRow I w x1 = f_X11_sureRow (m_X10_sureRow I w x1) x1 ∧ S (m_X11_sureRow (m_X10_sureRow I w x1) x1) J w
set_option maxHeartbeats 800000 in
theorem lc_sureRow {k : KT} {ex : Bool} {I : Nat → Nat → Int32} {J : Nat → Nat → Int64} {w : Bool} {F : FinT} {nc ns : Nat} {i : Int32} {S : RelT} (hS : S I J w) (hst : St_sureRow S) (hnc : nc ≤ room_1.cells) (hns : ns ≤ room_1.slots) (hv1 : vp_in (i + 1) (kS k).2.1) (hv2 : vp_in (i + 2) (kS k).2.1) (hv3 : vp_in (i + 3) (kS k).2.1) (hv4 : vp_in (i + 4) (kS k).2.1) (hv5 : vp_in (i + 5) (kS k).2.1) (next : ∀ (ex : Bool) (I : Nat → Nat → Int32) (J : Nat → Nat → Int64) (w : Bool), S I J w → G k mL_law room_1 F nc ns 1562 [some (.ref (kS k).1), some (.ref (ka k 0)), some (.ref (ka k 65)), some (.ref (ka k 80)), some (.int i), none, none] [] (81, ex, I, J, Pw w)) : G k mL_law room_1 F nc ns 775 [some (.ref (kS k).1), some (.ref (ka k 0)), some (.ref (ka k 65)), some (.ref (ka k 80)), some (.int i), none, none] [] (81, ex, I, J, Pw w) := by
  obtain ⟨hk1, hk2, heq, hS2⟩ := hst I J w ((kS k).2.2 (i + 1).toNatClampNeg) hS
  refine g_aload_n1 rfl d_L_law_775 ?_
  refine g_aload_n0 rfl d_L_law_776 ?_
  refine g_iload (i := 4) rfl d_L_law_777 ?_
  refine g_iconst 1 d_L_law_779 (by decide) ?_
  refine g_iadd d_L_law_780 ?_
  refine g_sld hv1 d_L_law_781 ?_
  refine g_callV1 (c_X10_sureRow I w ((kS k).2.2 (i + 1).toNatClampNeg) hk1) w_X10_sureRow l_L_98 d_L_law_782 rfl (Nat.le_of_ble_eq_true rfl) rfl rfl (Nat.le_of_ble_eq_true rfl) ⟨Nat.le_of_ble_eq_true rfl, Nat.le_of_ble_eq_true rfl⟩ ⟨hnc, hns⟩ ⟨rfl, rfl⟩ ?_
  refine g_aload_n2 rfl d_L_law_785 ?_
  refine g_aload_n0 rfl d_L_law_786 ?_
  refine g_iload (i := 4) rfl d_L_law_787 ?_
  refine g_iconst 1 d_L_law_789 (by decide) ?_
  refine g_iadd d_L_law_790 ?_
  refine g_sld hv1 d_L_law_791 ?_
  refine g_callV1 (c_X11_sureRow (m_X10_sureRow I w ((kS k).2.2 (i + 1).toNatClampNeg)) ((kS k).2.2 (i + 1).toNatClampNeg) hk2) w_X11_sureRow l_L_101 d_L_law_792 rfl (Nat.le_of_ble_eq_true rfl) rfl rfl (Nat.le_of_ble_eq_true rfl) ⟨Nat.le_of_ble_eq_true rfl, Nat.le_of_ble_eq_true rfl⟩ ⟨hnc, hns⟩ ⟨rfl, rfl⟩ ?_
  refine g_icmp_eq 1562 d_L_law_795 (by decide) (fun _ => ?_) (fun h => absurd heq h)
  exact next _ _ _ _ hS2
def St_sureCoins (S : RelT) : Prop := ∀ (I : Nat → Nat → Int32) (J : Nat → Nat → Int64) (w : Bool) (x1 : Int32), S I J w → ok_X10_sureCoins I w x1 ∧ ok_X11_sureCoins (m_X10_sureCoins I w x1) x1 ∧ f_X10_sureCoins I w x1 = f_X11_sureCoins (m_X10_sureCoins I w x1) x1 ∧ S (m_X11_sureCoins (m_X10_sureCoins I w x1) x1) J w
set_option maxHeartbeats 800000 in
theorem lc_sureCoins {k : KT} {ex : Bool} {I : Nat → Nat → Int32} {J : Nat → Nat → Int64} {w : Bool} {F : FinT} {nc ns : Nat} {i : Int32} {S : RelT} (hS : S I J w) (hst : St_sureCoins S) (hnc : nc ≤ room_1.cells) (hns : ns ≤ room_1.slots) (hv1 : vp_in (i + 1) (kS k).2.1) (hv2 : vp_in (i + 2) (kS k).2.1) (hv3 : vp_in (i + 3) (kS k).2.1) (hv4 : vp_in (i + 4) (kS k).2.1) (hv5 : vp_in (i + 5) (kS k).2.1) (next : ∀ (ex : Bool) (I : Nat → Nat → Int32) (J : Nat → Nat → Int64) (w : Bool), S I J w → G k mL_law room_1 F nc ns 1562 [some (.ref (kS k).1), some (.ref (ka k 0)), some (.ref (ka k 65)), some (.ref (ka k 80)), some (.int i), none, none] [] (81, ex, I, J, Pw w)) : G k mL_law room_1 F nc ns 800 [some (.ref (kS k).1), some (.ref (ka k 0)), some (.ref (ka k 65)), some (.ref (ka k 80)), some (.int i), none, none] [] (81, ex, I, J, Pw w) := by
  obtain ⟨hk1, hk2, heq, hS2⟩ := hst I J w ((kS k).2.2 (i + 1).toNatClampNeg) hS
  refine g_aload_n1 rfl d_L_law_800 ?_
  refine g_aload_n0 rfl d_L_law_801 ?_
  refine g_iload (i := 4) rfl d_L_law_802 ?_
  refine g_iconst 1 d_L_law_804 (by decide) ?_
  refine g_iadd d_L_law_805 ?_
  refine g_sld hv1 d_L_law_806 ?_
  refine g_callV1 (c_X10_sureCoins I w ((kS k).2.2 (i + 1).toNatClampNeg) hk1) w_X10_sureCoins l_L_102 d_L_law_807 rfl (Nat.le_of_ble_eq_true rfl) rfl rfl (Nat.le_of_ble_eq_true rfl) ⟨Nat.le_of_ble_eq_true rfl, Nat.le_of_ble_eq_true rfl⟩ ⟨hnc, hns⟩ ⟨rfl, rfl⟩ ?_
  refine g_aload_n2 rfl d_L_law_810 ?_
  refine g_aload_n0 rfl d_L_law_811 ?_
  refine g_iload (i := 4) rfl d_L_law_812 ?_
  refine g_iconst 1 d_L_law_814 (by decide) ?_
  refine g_iadd d_L_law_815 ?_
  refine g_sld hv1 d_L_law_816 ?_
  refine g_callV1 (c_X11_sureCoins (m_X10_sureCoins I w ((kS k).2.2 (i + 1).toNatClampNeg)) ((kS k).2.2 (i + 1).toNatClampNeg) hk2) w_X11_sureCoins l_L_105 d_L_law_817 rfl (Nat.le_of_ble_eq_true rfl) rfl rfl (Nat.le_of_ble_eq_true rfl) ⟨Nat.le_of_ble_eq_true rfl, Nat.le_of_ble_eq_true rfl⟩ ⟨hnc, hns⟩ ⟨rfl, rfl⟩ ?_
  refine g_icmp_eq 1562 d_L_law_820 (by decide) (fun _ => ?_) (fun h => absurd heq h)
  exact next _ _ _ _ hS2
def St_rowFor (S : RelT) : Prop := ∀ (I : Nat → Nat → Int32) (J : Nat → Nat → Int64) (w : Bool) (x1 : Int32) (x2 : Int32), S I J w → ok_X10_rowFor I w x1 x2 ∧ ok_X11_rowFor (m_X10_rowFor I w x1 x2) x1 x2 ∧ f_X10_rowFor I w x1 x2 = f_X11_rowFor (m_X10_rowFor I w x1 x2) x1 x2 ∧ S (m_X11_rowFor (m_X10_rowFor I w x1 x2) x1 x2) J w
set_option maxHeartbeats 800000 in
theorem lc_rowFor {k : KT} {ex : Bool} {I : Nat → Nat → Int32} {J : Nat → Nat → Int64} {w : Bool} {F : FinT} {nc ns : Nat} {i : Int32} {S : RelT} (hS : S I J w) (hst : St_rowFor S) (hnc : nc ≤ room_1.cells) (hns : ns ≤ room_1.slots) (hv1 : vp_in (i + 1) (kS k).2.1) (hv2 : vp_in (i + 2) (kS k).2.1) (hv3 : vp_in (i + 3) (kS k).2.1) (hv4 : vp_in (i + 4) (kS k).2.1) (hv5 : vp_in (i + 5) (kS k).2.1) (next : ∀ (ex : Bool) (I : Nat → Nat → Int32) (J : Nat → Nat → Int64) (w : Bool), S I J w → G k mL_law room_1 F nc ns 1562 [some (.ref (kS k).1), some (.ref (ka k 0)), some (.ref (ka k 65)), some (.ref (ka k 80)), some (.int i), none, none] [] (81, ex, I, J, Pw w)) : G k mL_law room_1 F nc ns 825 [some (.ref (kS k).1), some (.ref (ka k 0)), some (.ref (ka k 65)), some (.ref (ka k 80)), some (.int i), none, none] [] (81, ex, I, J, Pw w) := by
  obtain ⟨hk1, hk2, heq, hS2⟩ := hst I J w ((kS k).2.2 (i + 1).toNatClampNeg) ((kS k).2.2 (i + 2).toNatClampNeg) hS
  refine g_aload_n1 rfl d_L_law_825 ?_
  refine g_aload_n0 rfl d_L_law_826 ?_
  refine g_iload (i := 4) rfl d_L_law_827 ?_
  refine g_iconst 1 d_L_law_829 (by decide) ?_
  refine g_iadd d_L_law_830 ?_
  refine g_sld hv1 d_L_law_831 ?_
  refine g_aload_n0 rfl d_L_law_832 ?_
  refine g_iload (i := 4) rfl d_L_law_833 ?_
  refine g_iconst 2 d_L_law_835 (by decide) ?_
  refine g_iadd d_L_law_836 ?_
  refine g_sld hv2 d_L_law_837 ?_
  refine g_callV1 (c_X10_rowFor I w ((kS k).2.2 (i + 1).toNatClampNeg) ((kS k).2.2 (i + 2).toNatClampNeg) hk1) w_X10_rowFor l_L_106 d_L_law_838 rfl (Nat.le_of_ble_eq_true rfl) rfl rfl (Nat.le_of_ble_eq_true rfl) ⟨Nat.le_of_ble_eq_true rfl, Nat.le_of_ble_eq_true rfl⟩ ⟨hnc, hns⟩ ⟨rfl, rfl⟩ ?_
  refine g_aload_n2 rfl d_L_law_841 ?_
  refine g_aload_n0 rfl d_L_law_842 ?_
  refine g_iload (i := 4) rfl d_L_law_843 ?_
  refine g_iconst 1 d_L_law_845 (by decide) ?_
  refine g_iadd d_L_law_846 ?_
  refine g_sld hv1 d_L_law_847 ?_
  refine g_aload_n0 rfl d_L_law_848 ?_
  refine g_iload (i := 4) rfl d_L_law_849 ?_
  refine g_iconst 2 d_L_law_851 (by decide) ?_
  refine g_iadd d_L_law_852 ?_
  refine g_sld hv2 d_L_law_853 ?_
  refine g_callV1 (c_X11_rowFor (m_X10_rowFor I w ((kS k).2.2 (i + 1).toNatClampNeg) ((kS k).2.2 (i + 2).toNatClampNeg)) ((kS k).2.2 (i + 1).toNatClampNeg) ((kS k).2.2 (i + 2).toNatClampNeg) hk2) w_X11_rowFor l_L_109 d_L_law_854 rfl (Nat.le_of_ble_eq_true rfl) rfl rfl (Nat.le_of_ble_eq_true rfl) ⟨Nat.le_of_ble_eq_true rfl, Nat.le_of_ble_eq_true rfl⟩ ⟨hnc, hns⟩ ⟨rfl, rfl⟩ ?_
  refine g_icmp_eq 1562 d_L_law_857 (by decide) (fun _ => ?_) (fun h => absurd heq h)
  exact next _ _ _ _ hS2
def St_makes (S : RelT) : Prop := ∀ (I : Nat → Nat → Int32) (J : Nat → Nat → Int64) (w : Bool) , S I J w → ok_X10_makes I w ∧ ok_X11_makes (m_X10_makes I w) ∧ f_X10_makes I w = f_X11_makes (m_X10_makes I w) ∧ S (m_X11_makes (m_X10_makes I w)) J w
set_option maxHeartbeats 800000 in
theorem lc_makes {k : KT} {ex : Bool} {I : Nat → Nat → Int32} {J : Nat → Nat → Int64} {w : Bool} {F : FinT} {nc ns : Nat} {i : Int32} {S : RelT} (hS : S I J w) (hst : St_makes S) (hnc : nc ≤ room_1.cells) (hns : ns ≤ room_1.slots) (hv1 : vp_in (i + 1) (kS k).2.1) (hv2 : vp_in (i + 2) (kS k).2.1) (hv3 : vp_in (i + 3) (kS k).2.1) (hv4 : vp_in (i + 4) (kS k).2.1) (hv5 : vp_in (i + 5) (kS k).2.1) (next : ∀ (ex : Bool) (I : Nat → Nat → Int32) (J : Nat → Nat → Int64) (w : Bool), S I J w → G k mL_law room_1 F nc ns 1562 [some (.ref (kS k).1), some (.ref (ka k 0)), some (.ref (ka k 65)), some (.ref (ka k 80)), some (.int i), none, none] [] (81, ex, I, J, Pw w)) : G k mL_law room_1 F nc ns 862 [some (.ref (kS k).1), some (.ref (ka k 0)), some (.ref (ka k 65)), some (.ref (ka k 80)), some (.int i), none, none] [] (81, ex, I, J, Pw w) := by
  obtain ⟨hk1, hk2, heq, hS2⟩ := hst I J w  hS
  refine g_aload_n1 rfl d_L_law_862 ?_
  refine g_callV1 (c_X10_makes I w hk1) w_X10_makes l_L_110 d_L_law_863 rfl (Nat.le_of_ble_eq_true rfl) rfl rfl (Nat.le_of_ble_eq_true rfl) ⟨Nat.le_of_ble_eq_true rfl, Nat.le_of_ble_eq_true rfl⟩ ⟨hnc, hns⟩ ⟨rfl, rfl⟩ ?_
  refine g_aload_n2 rfl d_L_law_866 ?_
  refine g_callV1 (c_X11_makes (m_X10_makes I w) hk2) w_X11_makes l_L_113 d_L_law_867 rfl (Nat.le_of_ble_eq_true rfl) rfl rfl (Nat.le_of_ble_eq_true rfl) ⟨Nat.le_of_ble_eq_true rfl, Nat.le_of_ble_eq_true rfl⟩ ⟨hnc, hns⟩ ⟨rfl, rfl⟩ ?_
  refine g_icmp_eq 1562 d_L_law_870 (by decide) (fun _ => ?_) (fun h => absurd heq h)
  exact next _ _ _ _ hS2
def St_makeAt (S : RelT) : Prop := ∀ (I : Nat → Nat → Int32) (J : Nat → Nat → Int64) (w : Bool) (x1 : Int32), S I J w → ok_X10_makeAt I w x1 ∧ ok_X11_makeAt (m_X10_makeAt I w x1) x1 ∧ f_X10_makeAt I w x1 = f_X11_makeAt (m_X10_makeAt I w x1) x1 ∧ S (m_X11_makeAt (m_X10_makeAt I w x1) x1) J w
set_option maxHeartbeats 800000 in
theorem lc_makeAt {k : KT} {ex : Bool} {I : Nat → Nat → Int32} {J : Nat → Nat → Int64} {w : Bool} {F : FinT} {nc ns : Nat} {i : Int32} {S : RelT} (hS : S I J w) (hst : St_makeAt S) (hnc : nc ≤ room_1.cells) (hns : ns ≤ room_1.slots) (hv1 : vp_in (i + 1) (kS k).2.1) (hv2 : vp_in (i + 2) (kS k).2.1) (hv3 : vp_in (i + 3) (kS k).2.1) (hv4 : vp_in (i + 4) (kS k).2.1) (hv5 : vp_in (i + 5) (kS k).2.1) (next : ∀ (ex : Bool) (I : Nat → Nat → Int32) (J : Nat → Nat → Int64) (w : Bool), S I J w → G k mL_law room_1 F nc ns 1562 [some (.ref (kS k).1), some (.ref (ka k 0)), some (.ref (ka k 65)), some (.ref (ka k 80)), some (.int i), none, none] [] (81, ex, I, J, Pw w)) : G k mL_law room_1 F nc ns 875 [some (.ref (kS k).1), some (.ref (ka k 0)), some (.ref (ka k 65)), some (.ref (ka k 80)), some (.int i), none, none] [] (81, ex, I, J, Pw w) := by
  obtain ⟨hk1, hk2, heq, hS2⟩ := hst I J w ((kS k).2.2 (i + 1).toNatClampNeg) hS
  refine g_aload_n1 rfl d_L_law_875 ?_
  refine g_aload_n0 rfl d_L_law_876 ?_
  refine g_iload (i := 4) rfl d_L_law_877 ?_
  refine g_iconst 1 d_L_law_879 (by decide) ?_
  refine g_iadd d_L_law_880 ?_
  refine g_sld hv1 d_L_law_881 ?_
  refine g_callV1 (c_X10_makeAt I w ((kS k).2.2 (i + 1).toNatClampNeg) hk1) w_X10_makeAt l_L_114 d_L_law_882 rfl (Nat.le_of_ble_eq_true rfl) rfl rfl (Nat.le_of_ble_eq_true rfl) ⟨Nat.le_of_ble_eq_true rfl, Nat.le_of_ble_eq_true rfl⟩ ⟨hnc, hns⟩ ⟨rfl, rfl⟩ ?_
  refine g_aload_n2 rfl d_L_law_885 ?_
  refine g_aload_n0 rfl d_L_law_886 ?_
  refine g_iload (i := 4) rfl d_L_law_887 ?_
  refine g_iconst 1 d_L_law_889 (by decide) ?_
  refine g_iadd d_L_law_890 ?_
  refine g_sld hv1 d_L_law_891 ?_
  refine g_callV1 (c_X11_makeAt (m_X10_makeAt I w ((kS k).2.2 (i + 1).toNatClampNeg)) ((kS k).2.2 (i + 1).toNatClampNeg) hk2) w_X11_makeAt l_L_117 d_L_law_892 rfl (Nat.le_of_ble_eq_true rfl) rfl rfl (Nat.le_of_ble_eq_true rfl) ⟨Nat.le_of_ble_eq_true rfl, Nat.le_of_ble_eq_true rfl⟩ ⟨hnc, hns⟩ ⟨rfl, rfl⟩ ?_
  refine g_icmp_eq 1562 d_L_law_895 (by decide) (fun _ => ?_) (fun h => absurd heq h)
  exact next _ _ _ _ hS2
def St_could (S : RelT) : Prop := ∀ (I : Nat → Nat → Int32) (J : Nat → Nat → Int64) (w : Bool) (x1 : Bool), S I J w → ok_X10_could I w x1 ∧ ok_X11_could (m_X10_could I w x1) x1 ∧ f_X10_could I w x1 = f_X11_could (m_X10_could I w x1) x1 ∧ S (m_X11_could (m_X10_could I w x1) x1) J w
set_option maxHeartbeats 800000 in
theorem lc_could {k : KT} {ex : Bool} {I : Nat → Nat → Int32} {J : Nat → Nat → Int64} {w : Bool} {F : FinT} {nc ns : Nat} {i : Int32} {S : RelT} (hS : S I J w) (hst : St_could S) (hnc : nc ≤ room_1.cells) (hns : ns ≤ room_1.slots) (hv1 : vp_in (i + 1) (kS k).2.1) (hv2 : vp_in (i + 2) (kS k).2.1) (hv3 : vp_in (i + 3) (kS k).2.1) (hv4 : vp_in (i + 4) (kS k).2.1) (hv5 : vp_in (i + 5) (kS k).2.1) (next : ∀ (ex : Bool) (I : Nat → Nat → Int32) (J : Nat → Nat → Int64) (w : Bool), S I J w → G k mL_law room_1 F nc ns 1562 [some (.ref (kS k).1), some (.ref (ka k 0)), some (.ref (ka k 65)), some (.ref (ka k 80)), some (.int i), none, none] [] (81, ex, I, J, Pw w)) : G k mL_law room_1 F nc ns 900 [some (.ref (kS k).1), some (.ref (ka k 0)), some (.ref (ka k 65)), some (.ref (ka k 80)), some (.int i), none, none] [] (81, ex, I, J, Pw w) := by
  obtain ⟨hk1, hk2, heq, hS2⟩ := hst I J w (if ((kS k).2.2 (i + 1).toNatClampNeg) = 0 then false else true) hS
  refine g_aload_n1 rfl d_L_law_900 ?_
  refine g_aload_n0 rfl d_L_law_901 ?_
  refine g_iload (i := 4) rfl d_L_law_902 ?_
  refine g_iconst 1 d_L_law_904 (by decide) ?_
  refine g_iadd d_L_law_905 ?_
  refine g_sld hv1 d_L_law_906 ?_
  refine g_cut (pc' := 915) (vs' := [some (.ref (kS k).1), some (.ref (ka k 0)), some (.ref (ka k 65)), some (.ref (ka k 80)), some (.int i), none, none]) (st' := [.int (b2i (if ((kS k).2.2 (i + 1).toNatClampNeg) = 0 then false else true)), .ref (ka k 0)]) (M' := (81, ex, I, J, Pw w)) (fun hj => ?_) ?_
  · refine g_if_eq 914 d_L_law_907 (by decide) (fun hq => ?_) (fun hq => ?_)
    · refine g_iconst 0 d_L_law_914 (by decide) ?_
      simp only [if_pos hq, b2i_f] at hj ⊢; exact hj
    · refine g_iconst 1 d_L_law_910 (by decide) ?_
      refine g_goto 915 d_L_law_911 (by decide) ?_
      simp only [if_neg hq, b2i_t] at hj ⊢; exact hj
  refine g_callV1 (c_X10_could I w (if ((kS k).2.2 (i + 1).toNatClampNeg) = 0 then false else true) hk1) w_X10_could l_L_118 d_L_law_915 rfl (Nat.le_of_ble_eq_true rfl) rfl rfl (Nat.le_of_ble_eq_true rfl) ⟨Nat.le_of_ble_eq_true rfl, Nat.le_of_ble_eq_true rfl⟩ ⟨hnc, hns⟩ ⟨rfl, rfl⟩ ?_
  refine g_aload_n2 rfl d_L_law_918 ?_
  refine g_aload_n0 rfl d_L_law_919 ?_
  refine g_iload (i := 4) rfl d_L_law_920 ?_
  refine g_iconst 1 d_L_law_922 (by decide) ?_
  refine g_iadd d_L_law_923 ?_
  refine g_sld hv1 d_L_law_924 ?_
  refine g_cut (pc' := 933) (vs' := [some (.ref (kS k).1), some (.ref (ka k 0)), some (.ref (ka k 65)), some (.ref (ka k 80)), some (.int i), none, none]) (st' := [.int (b2i (if ((kS k).2.2 (i + 1).toNatClampNeg) = 0 then false else true)), .ref (ka k 65), .int (f_X10_could I w (if ((kS k).2.2 (i + 1).toNatClampNeg) = 0 then false else true))]) (M' := (81, ex, (m_X10_could I w (if ((kS k).2.2 (i + 1).toNatClampNeg) = 0 then false else true)), J, Pw w)) (fun hj => ?_) ?_
  · refine g_if_eq 932 d_L_law_925 (by decide) (fun hq => ?_) (fun hq => ?_)
    · refine g_iconst 0 d_L_law_932 (by decide) ?_
      simp only [if_pos hq, b2i_f] at hj ⊢; exact hj
    · refine g_iconst 1 d_L_law_928 (by decide) ?_
      refine g_goto 933 d_L_law_929 (by decide) ?_
      simp only [if_neg hq, b2i_t] at hj ⊢; exact hj
  refine g_callV1 (c_X11_could (m_X10_could I w (if ((kS k).2.2 (i + 1).toNatClampNeg) = 0 then false else true)) (if ((kS k).2.2 (i + 1).toNatClampNeg) = 0 then false else true) hk2) w_X11_could l_L_122 d_L_law_933 rfl (Nat.le_of_ble_eq_true rfl) rfl rfl (Nat.le_of_ble_eq_true rfl) ⟨Nat.le_of_ble_eq_true rfl, Nat.le_of_ble_eq_true rfl⟩ ⟨hnc, hns⟩ ⟨rfl, rfl⟩ ?_
  refine g_icmp_eq 1562 d_L_law_936 (by decide) (fun _ => ?_) (fun h => absurd heq h)
  exact next _ _ _ _ hS2
def St_surely (S : RelT) : Prop := ∀ (I : Nat → Nat → Int32) (J : Nat → Nat → Int64) (w : Bool) (x1 : Bool), S I J w → ok_X10_surely I w x1 ∧ ok_X11_surely (m_X10_surely I w x1) x1 ∧ f_X10_surely I w x1 = f_X11_surely (m_X10_surely I w x1) x1 ∧ S (m_X11_surely (m_X10_surely I w x1) x1) J w
set_option maxHeartbeats 800000 in
theorem lc_surely {k : KT} {ex : Bool} {I : Nat → Nat → Int32} {J : Nat → Nat → Int64} {w : Bool} {F : FinT} {nc ns : Nat} {i : Int32} {S : RelT} (hS : S I J w) (hst : St_surely S) (hnc : nc ≤ room_1.cells) (hns : ns ≤ room_1.slots) (hv1 : vp_in (i + 1) (kS k).2.1) (hv2 : vp_in (i + 2) (kS k).2.1) (hv3 : vp_in (i + 3) (kS k).2.1) (hv4 : vp_in (i + 4) (kS k).2.1) (hv5 : vp_in (i + 5) (kS k).2.1) (next : ∀ (ex : Bool) (I : Nat → Nat → Int32) (J : Nat → Nat → Int64) (w : Bool), S I J w → G k mL_law room_1 F nc ns 1562 [some (.ref (kS k).1), some (.ref (ka k 0)), some (.ref (ka k 65)), some (.ref (ka k 80)), some (.int i), none, none] [] (81, ex, I, J, Pw w)) : G k mL_law room_1 F nc ns 941 [some (.ref (kS k).1), some (.ref (ka k 0)), some (.ref (ka k 65)), some (.ref (ka k 80)), some (.int i), none, none] [] (81, ex, I, J, Pw w) := by
  obtain ⟨hk1, hk2, heq, hS2⟩ := hst I J w (if ((kS k).2.2 (i + 1).toNatClampNeg) = 0 then false else true) hS
  refine g_aload_n1 rfl d_L_law_941 ?_
  refine g_aload_n0 rfl d_L_law_942 ?_
  refine g_iload (i := 4) rfl d_L_law_943 ?_
  refine g_iconst 1 d_L_law_945 (by decide) ?_
  refine g_iadd d_L_law_946 ?_
  refine g_sld hv1 d_L_law_947 ?_
  refine g_cut (pc' := 956) (vs' := [some (.ref (kS k).1), some (.ref (ka k 0)), some (.ref (ka k 65)), some (.ref (ka k 80)), some (.int i), none, none]) (st' := [.int (b2i (if ((kS k).2.2 (i + 1).toNatClampNeg) = 0 then false else true)), .ref (ka k 0)]) (M' := (81, ex, I, J, Pw w)) (fun hj => ?_) ?_
  · refine g_if_eq 955 d_L_law_948 (by decide) (fun hq => ?_) (fun hq => ?_)
    · refine g_iconst 0 d_L_law_955 (by decide) ?_
      simp only [if_pos hq, b2i_f] at hj ⊢; exact hj
    · refine g_iconst 1 d_L_law_951 (by decide) ?_
      refine g_goto 956 d_L_law_952 (by decide) ?_
      simp only [if_neg hq, b2i_t] at hj ⊢; exact hj
  refine g_callV1 (c_X10_surely I w (if ((kS k).2.2 (i + 1).toNatClampNeg) = 0 then false else true) hk1) w_X10_surely l_L_123 d_L_law_956 rfl (Nat.le_of_ble_eq_true rfl) rfl rfl (Nat.le_of_ble_eq_true rfl) ⟨Nat.le_of_ble_eq_true rfl, Nat.le_of_ble_eq_true rfl⟩ ⟨hnc, hns⟩ ⟨rfl, rfl⟩ ?_
  refine g_aload_n2 rfl d_L_law_959 ?_
  refine g_aload_n0 rfl d_L_law_960 ?_
  refine g_iload (i := 4) rfl d_L_law_961 ?_
  refine g_iconst 1 d_L_law_963 (by decide) ?_
  refine g_iadd d_L_law_964 ?_
  refine g_sld hv1 d_L_law_965 ?_
  refine g_cut (pc' := 974) (vs' := [some (.ref (kS k).1), some (.ref (ka k 0)), some (.ref (ka k 65)), some (.ref (ka k 80)), some (.int i), none, none]) (st' := [.int (b2i (if ((kS k).2.2 (i + 1).toNatClampNeg) = 0 then false else true)), .ref (ka k 65), .int (f_X10_surely I w (if ((kS k).2.2 (i + 1).toNatClampNeg) = 0 then false else true))]) (M' := (81, ex, (m_X10_surely I w (if ((kS k).2.2 (i + 1).toNatClampNeg) = 0 then false else true)), J, Pw w)) (fun hj => ?_) ?_
  · refine g_if_eq 973 d_L_law_966 (by decide) (fun hq => ?_) (fun hq => ?_)
    · refine g_iconst 0 d_L_law_973 (by decide) ?_
      simp only [if_pos hq, b2i_f] at hj ⊢; exact hj
    · refine g_iconst 1 d_L_law_969 (by decide) ?_
      refine g_goto 974 d_L_law_970 (by decide) ?_
      simp only [if_neg hq, b2i_t] at hj ⊢; exact hj
  refine g_callV1 (c_X11_surely (m_X10_surely I w (if ((kS k).2.2 (i + 1).toNatClampNeg) = 0 then false else true)) (if ((kS k).2.2 (i + 1).toNatClampNeg) = 0 then false else true) hk2) w_X11_surely l_L_126 d_L_law_974 rfl (Nat.le_of_ble_eq_true rfl) rfl rfl (Nat.le_of_ble_eq_true rfl) ⟨Nat.le_of_ble_eq_true rfl, Nat.le_of_ble_eq_true rfl⟩ ⟨hnc, hns⟩ ⟨rfl, rfl⟩ ?_
  refine g_icmp_eq 1562 d_L_law_977 (by decide) (fun _ => ?_) (fun h => absurd heq h)
  exact next _ _ _ _ hS2
def St_look (S : RelT) : Prop := ∀ (I : Nat → Nat → Int32) (J : Nat → Nat → Int64) (w : Bool) , S I J w → ok_X10_look I w ∧ ok_X11_look (m_X10_look I w) ∧ f_X10_look I w = f_X11_look (m_X10_look I w) ∧ S (m_X11_look (m_X10_look I w)) J w
set_option maxHeartbeats 800000 in
theorem lc_look {k : KT} {ex : Bool} {I : Nat → Nat → Int32} {J : Nat → Nat → Int64} {w : Bool} {F : FinT} {nc ns : Nat} {i : Int32} {S : RelT} (hS : S I J w) (hst : St_look S) (hnc : nc ≤ room_1.cells) (hns : ns ≤ room_1.slots) (hv1 : vp_in (i + 1) (kS k).2.1) (hv2 : vp_in (i + 2) (kS k).2.1) (hv3 : vp_in (i + 3) (kS k).2.1) (hv4 : vp_in (i + 4) (kS k).2.1) (hv5 : vp_in (i + 5) (kS k).2.1) (next : ∀ (ex : Bool) (I : Nat → Nat → Int32) (J : Nat → Nat → Int64) (w : Bool), S I J w → G k mL_law room_1 F nc ns 1562 [some (.ref (kS k).1), some (.ref (ka k 0)), some (.ref (ka k 65)), some (.ref (ka k 80)), some (.int i), none, none] [] (81, ex, I, J, Pw w)) : G k mL_law room_1 F nc ns 982 [some (.ref (kS k).1), some (.ref (ka k 0)), some (.ref (ka k 65)), some (.ref (ka k 80)), some (.int i), none, none] [] (81, ex, I, J, Pw w) := by
  obtain ⟨hk1, hk2, heq, hS2⟩ := hst I J w  hS
  refine g_aload_n1 rfl d_L_law_982 ?_
  refine g_callV1 (c_X10_look I w hk1) w_X10_look l_L_127 d_L_law_983 rfl (Nat.le_of_ble_eq_true rfl) rfl rfl (Nat.le_of_ble_eq_true rfl) ⟨Nat.le_of_ble_eq_true rfl, Nat.le_of_ble_eq_true rfl⟩ ⟨hnc, hns⟩ ⟨rfl, rfl⟩ ?_
  refine g_aload_n2 rfl d_L_law_986 ?_
  refine g_callV1 (c_X11_look (m_X10_look I w) hk2) w_X11_look l_L_130 d_L_law_987 rfl (Nat.le_of_ble_eq_true rfl) rfl rfl (Nat.le_of_ble_eq_true rfl) ⟨Nat.le_of_ble_eq_true rfl, Nat.le_of_ble_eq_true rfl⟩ ⟨hnc, hns⟩ ⟨rfl, rfl⟩ ?_
  refine g_icmp_eq 1562 d_L_law_990 (by decide) (fun _ => ?_) (fun h => absurd heq h)
  exact next _ _ _ _ hS2
def St_lookLeaves (S : RelT) : Prop := ∀ (I : Nat → Nat → Int32) (J : Nat → Nat → Int64) (w : Bool) , S I J w → ok_X10_lookLeaves I w ∧ ok_X11_lookLeaves (m_X10_lookLeaves I w) ∧ f_X10_lookLeaves I w = f_X11_lookLeaves (m_X10_lookLeaves I w) ∧ S (m_X11_lookLeaves (m_X10_lookLeaves I w)) J w
set_option maxHeartbeats 800000 in
theorem lc_lookLeaves {k : KT} {ex : Bool} {I : Nat → Nat → Int32} {J : Nat → Nat → Int64} {w : Bool} {F : FinT} {nc ns : Nat} {i : Int32} {S : RelT} (hS : S I J w) (hst : St_lookLeaves S) (hnc : nc ≤ room_1.cells) (hns : ns ≤ room_1.slots) (hv1 : vp_in (i + 1) (kS k).2.1) (hv2 : vp_in (i + 2) (kS k).2.1) (hv3 : vp_in (i + 3) (kS k).2.1) (hv4 : vp_in (i + 4) (kS k).2.1) (hv5 : vp_in (i + 5) (kS k).2.1) (next : ∀ (ex : Bool) (I : Nat → Nat → Int32) (J : Nat → Nat → Int64) (w : Bool), S I J w → G k mL_law room_1 F nc ns 1562 [some (.ref (kS k).1), some (.ref (ka k 0)), some (.ref (ka k 65)), some (.ref (ka k 80)), some (.int i), none, none] [] (81, ex, I, J, Pw w)) : G k mL_law room_1 F nc ns 995 [some (.ref (kS k).1), some (.ref (ka k 0)), some (.ref (ka k 65)), some (.ref (ka k 80)), some (.int i), none, none] [] (81, ex, I, J, Pw w) := by
  obtain ⟨hk1, hk2, heq, hS2⟩ := hst I J w  hS
  refine g_aload_n1 rfl d_L_law_995 ?_
  refine g_callV1 (c_X10_lookLeaves I w hk1) w_X10_lookLeaves l_L_131 d_L_law_996 rfl (Nat.le_of_ble_eq_true rfl) rfl rfl (Nat.le_of_ble_eq_true rfl) ⟨Nat.le_of_ble_eq_true rfl, Nat.le_of_ble_eq_true rfl⟩ ⟨hnc, hns⟩ ⟨rfl, rfl⟩ ?_
  refine g_aload_n2 rfl d_L_law_999 ?_
  refine g_callV1 (c_X11_lookLeaves (m_X10_lookLeaves I w) hk2) w_X11_lookLeaves l_L_134 d_L_law_1000 rfl (Nat.le_of_ble_eq_true rfl) rfl rfl (Nat.le_of_ble_eq_true rfl) ⟨Nat.le_of_ble_eq_true rfl, Nat.le_of_ble_eq_true rfl⟩ ⟨hnc, hns⟩ ⟨rfl, rfl⟩ ?_
  refine g_icmp_eq 1562 d_L_law_1003 (by decide) (fun _ => ?_) (fun h => absurd heq h)
  exact next _ _ _ _ hS2
def St_judge (S : RelT) : Prop := ∀ (I : Nat → Nat → Int32) (J : Nat → Nat → Int64) (w : Bool) , S I J w → ok_X10_judge I w ∧ ok_X11_judge (m_X10_judge I w) ∧ f_X10_judge I w = f_X11_judge (m_X10_judge I w) ∧ S (m_X11_judge (m_X10_judge I w)) J w
set_option maxHeartbeats 800000 in
theorem lc_judge {k : KT} {ex : Bool} {I : Nat → Nat → Int32} {J : Nat → Nat → Int64} {w : Bool} {F : FinT} {nc ns : Nat} {i : Int32} {S : RelT} (hS : S I J w) (hst : St_judge S) (hnc : nc ≤ room_1.cells) (hns : ns ≤ room_1.slots) (hv1 : vp_in (i + 1) (kS k).2.1) (hv2 : vp_in (i + 2) (kS k).2.1) (hv3 : vp_in (i + 3) (kS k).2.1) (hv4 : vp_in (i + 4) (kS k).2.1) (hv5 : vp_in (i + 5) (kS k).2.1) (next : ∀ (ex : Bool) (I : Nat → Nat → Int32) (J : Nat → Nat → Int64) (w : Bool), S I J w → G k mL_law room_1 F nc ns 1562 [some (.ref (kS k).1), some (.ref (ka k 0)), some (.ref (ka k 65)), some (.ref (ka k 80)), some (.int i), none, none] [] (81, ex, I, J, Pw w)) : G k mL_law room_1 F nc ns 1008 [some (.ref (kS k).1), some (.ref (ka k 0)), some (.ref (ka k 65)), some (.ref (ka k 80)), some (.int i), none, none] [] (81, ex, I, J, Pw w) := by
  obtain ⟨hk1, hk2, heq, hS2⟩ := hst I J w  hS
  refine g_aload_n1 rfl d_L_law_1008 ?_
  refine g_callV1 (c_X10_judge I w hk1) w_X10_judge l_L_135 d_L_law_1009 rfl (Nat.le_of_ble_eq_true rfl) rfl rfl (Nat.le_of_ble_eq_true rfl) ⟨Nat.le_of_ble_eq_true rfl, Nat.le_of_ble_eq_true rfl⟩ ⟨hnc, hns⟩ ⟨rfl, rfl⟩ ?_
  refine g_aload_n2 rfl d_L_law_1012 ?_
  refine g_callV1 (c_X11_judge (m_X10_judge I w) hk2) w_X11_judge l_L_138 d_L_law_1013 rfl (Nat.le_of_ble_eq_true rfl) rfl rfl (Nat.le_of_ble_eq_true rfl) ⟨Nat.le_of_ble_eq_true rfl, Nat.le_of_ble_eq_true rfl⟩ ⟨hnc, hns⟩ ⟨rfl, rfl⟩ ?_
  refine g_icmp_eq 1562 d_L_law_1016 (by decide) (fun _ => ?_) (fun h => absurd heq h)
  exact next _ _ _ _ hS2
def St_value (S : RelT) : Prop := ∀ (I : Nat → Nat → Int32) (J : Nat → Nat → Int64) (w : Bool) (x1 : Int32), S I J w → ok_X10_value I w x1 ∧ ok_X11_value (m_X10_value I w x1) x1 ∧ f_X10_value I w x1 = f_X11_value (m_X10_value I w x1) x1 ∧ S (m_X11_value (m_X10_value I w x1) x1) J w
set_option maxHeartbeats 800000 in
theorem lc_value {k : KT} {ex : Bool} {I : Nat → Nat → Int32} {J : Nat → Nat → Int64} {w : Bool} {F : FinT} {nc ns : Nat} {i : Int32} {S : RelT} (hS : S I J w) (hst : St_value S) (hnc : nc ≤ room_1.cells) (hns : ns ≤ room_1.slots) (hv1 : vp_in (i + 1) (kS k).2.1) (hv2 : vp_in (i + 2) (kS k).2.1) (hv3 : vp_in (i + 3) (kS k).2.1) (hv4 : vp_in (i + 4) (kS k).2.1) (hv5 : vp_in (i + 5) (kS k).2.1) (next : ∀ (ex : Bool) (I : Nat → Nat → Int32) (J : Nat → Nat → Int64) (w : Bool), S I J w → G k mL_law room_1 F nc ns 1562 [some (.ref (kS k).1), some (.ref (ka k 0)), some (.ref (ka k 65)), some (.ref (ka k 80)), some (.int i), none, none] [] (81, ex, I, J, Pw w)) : G k mL_law room_1 F nc ns 1021 [some (.ref (kS k).1), some (.ref (ka k 0)), some (.ref (ka k 65)), some (.ref (ka k 80)), some (.int i), none, none] [] (81, ex, I, J, Pw w) := by
  obtain ⟨hk1, hk2, heq, hS2⟩ := hst I J w ((kS k).2.2 (i + 1).toNatClampNeg) hS
  refine g_aload_n1 rfl d_L_law_1021 ?_
  refine g_aload_n0 rfl d_L_law_1022 ?_
  refine g_iload (i := 4) rfl d_L_law_1023 ?_
  refine g_iconst 1 d_L_law_1025 (by decide) ?_
  refine g_iadd d_L_law_1026 ?_
  refine g_sld hv1 d_L_law_1027 ?_
  refine g_callV1 (c_X10_value I w ((kS k).2.2 (i + 1).toNatClampNeg) hk1) w_X10_value l_L_139 d_L_law_1028 rfl (Nat.le_of_ble_eq_true rfl) rfl rfl (Nat.le_of_ble_eq_true rfl) ⟨Nat.le_of_ble_eq_true rfl, Nat.le_of_ble_eq_true rfl⟩ ⟨hnc, hns⟩ ⟨rfl, rfl⟩ ?_
  refine g_aload_n2 rfl d_L_law_1031 ?_
  refine g_aload_n0 rfl d_L_law_1032 ?_
  refine g_iload (i := 4) rfl d_L_law_1033 ?_
  refine g_iconst 1 d_L_law_1035 (by decide) ?_
  refine g_iadd d_L_law_1036 ?_
  refine g_sld hv1 d_L_law_1037 ?_
  refine g_callV1 (c_X11_value (m_X10_value I w ((kS k).2.2 (i + 1).toNatClampNeg)) ((kS k).2.2 (i + 1).toNatClampNeg) hk2) w_X11_value l_L_142 d_L_law_1038 rfl (Nat.le_of_ble_eq_true rfl) rfl rfl (Nat.le_of_ble_eq_true rfl) ⟨Nat.le_of_ble_eq_true rfl, Nat.le_of_ble_eq_true rfl⟩ ⟨hnc, hns⟩ ⟨rfl, rfl⟩ ?_
  refine g_icmp_eq 1562 d_L_law_1041 (by decide) (fun _ => ?_) (fun h => absurd heq h)
  exact next _ _ _ _ hS2
def St_opens (S : RelT) : Prop := ∀ (I : Nat → Nat → Int32) (J : Nat → Nat → Int64) (w : Bool) (x1 : Int32), S I J w → ok_X10_opens I w x1 ∧ ok_X11_opens (m_X10_opens I w x1) x1 ∧ f_X10_opens I w x1 = f_X11_opens (m_X10_opens I w x1) x1 ∧ S (m_X11_opens (m_X10_opens I w x1) x1) J w
set_option maxHeartbeats 800000 in
theorem lc_opens {k : KT} {ex : Bool} {I : Nat → Nat → Int32} {J : Nat → Nat → Int64} {w : Bool} {F : FinT} {nc ns : Nat} {i : Int32} {S : RelT} (hS : S I J w) (hst : St_opens S) (hnc : nc ≤ room_1.cells) (hns : ns ≤ room_1.slots) (hv1 : vp_in (i + 1) (kS k).2.1) (hv2 : vp_in (i + 2) (kS k).2.1) (hv3 : vp_in (i + 3) (kS k).2.1) (hv4 : vp_in (i + 4) (kS k).2.1) (hv5 : vp_in (i + 5) (kS k).2.1) (next : ∀ (ex : Bool) (I : Nat → Nat → Int32) (J : Nat → Nat → Int64) (w : Bool), S I J w → G k mL_law room_1 F nc ns 1562 [some (.ref (kS k).1), some (.ref (ka k 0)), some (.ref (ka k 65)), some (.ref (ka k 80)), some (.int i), none, none] [] (81, ex, I, J, Pw w)) : G k mL_law room_1 F nc ns 1046 [some (.ref (kS k).1), some (.ref (ka k 0)), some (.ref (ka k 65)), some (.ref (ka k 80)), some (.int i), none, none] [] (81, ex, I, J, Pw w) := by
  obtain ⟨hk1, hk2, heq, hS2⟩ := hst I J w ((kS k).2.2 (i + 1).toNatClampNeg) hS
  refine g_aload_n1 rfl d_L_law_1046 ?_
  refine g_aload_n0 rfl d_L_law_1047 ?_
  refine g_iload (i := 4) rfl d_L_law_1048 ?_
  refine g_iconst 1 d_L_law_1050 (by decide) ?_
  refine g_iadd d_L_law_1051 ?_
  refine g_sld hv1 d_L_law_1052 ?_
  refine g_callV1 (c_X10_opens I w ((kS k).2.2 (i + 1).toNatClampNeg) hk1) w_X10_opens l_L_143 d_L_law_1053 rfl (Nat.le_of_ble_eq_true rfl) rfl rfl (Nat.le_of_ble_eq_true rfl) ⟨Nat.le_of_ble_eq_true rfl, Nat.le_of_ble_eq_true rfl⟩ ⟨hnc, hns⟩ ⟨rfl, rfl⟩ ?_
  refine g_aload_n2 rfl d_L_law_1056 ?_
  refine g_aload_n0 rfl d_L_law_1057 ?_
  refine g_iload (i := 4) rfl d_L_law_1058 ?_
  refine g_iconst 1 d_L_law_1060 (by decide) ?_
  refine g_iadd d_L_law_1061 ?_
  refine g_sld hv1 d_L_law_1062 ?_
  refine g_callV1 (c_X11_opens (m_X10_opens I w ((kS k).2.2 (i + 1).toNatClampNeg)) ((kS k).2.2 (i + 1).toNatClampNeg) hk2) w_X11_opens l_L_146 d_L_law_1063 rfl (Nat.le_of_ble_eq_true rfl) rfl rfl (Nat.le_of_ble_eq_true rfl) ⟨Nat.le_of_ble_eq_true rfl, Nat.le_of_ble_eq_true rfl⟩ ⟨hnc, hns⟩ ⟨rfl, rfl⟩ ?_
  refine g_icmp_eq 1562 d_L_law_1066 (by decide) (fun _ => ?_) (fun h => absurd heq h)
  exact next _ _ _ _ hS2
def St_flood (S : RelT) : Prop := ∀ (I : Nat → Nat → Int32) (J : Nat → Nat → Int64) (w : Bool) , S I J w → True ∧ ok_X11_flood (m_X10_flood I w) ∧ f_X10_flood I w = f_X11_flood (m_X10_flood I w) ∧ S (m_X11_flood (m_X10_flood I w)) J w
set_option maxHeartbeats 800000 in
theorem lc_flood {k : KT} {ex : Bool} {I : Nat → Nat → Int32} {J : Nat → Nat → Int64} {w : Bool} {F : FinT} {nc ns : Nat} {i : Int32} {S : RelT} (hS : S I J w) (hst : St_flood S) (hnc : nc ≤ room_1.cells) (hns : ns ≤ room_1.slots) (hv1 : vp_in (i + 1) (kS k).2.1) (hv2 : vp_in (i + 2) (kS k).2.1) (hv3 : vp_in (i + 3) (kS k).2.1) (hv4 : vp_in (i + 4) (kS k).2.1) (hv5 : vp_in (i + 5) (kS k).2.1) (next : ∀ (ex : Bool) (I : Nat → Nat → Int32) (J : Nat → Nat → Int64) (w : Bool), S I J w → G k mL_law room_1 F nc ns 1562 [some (.ref (kS k).1), some (.ref (ka k 0)), some (.ref (ka k 65)), some (.ref (ka k 80)), some (.int i), none, none] [] (81, ex, I, J, Pw w)) : G k mL_law room_1 F nc ns 1071 [some (.ref (kS k).1), some (.ref (ka k 0)), some (.ref (ka k 65)), some (.ref (ka k 80)), some (.int i), none, none] [] (81, ex, I, J, Pw w) := by
  obtain ⟨hk1, hk2, heq, hS2⟩ := hst I J w  hS
  refine g_aload_n1 rfl d_L_law_1071 ?_
  refine g_callV1 (c_X10_flood I w ) w_X10_flood l_L_147 d_L_law_1072 rfl (Nat.le_of_ble_eq_true rfl) rfl rfl (Nat.le_of_ble_eq_true rfl) ⟨Nat.le_of_ble_eq_true rfl, Nat.le_of_ble_eq_true rfl⟩ ⟨hnc, hns⟩ ⟨rfl, rfl⟩ ?_
  refine g_aload_n2 rfl d_L_law_1075 ?_
  refine g_callV1 (c_X11_flood (m_X10_flood I w) hk2) w_X11_flood l_L_150 d_L_law_1076 rfl (Nat.le_of_ble_eq_true rfl) rfl rfl (Nat.le_of_ble_eq_true rfl) ⟨Nat.le_of_ble_eq_true rfl, Nat.le_of_ble_eq_true rfl⟩ ⟨hnc, hns⟩ ⟨rfl, rfl⟩ ?_
  refine g_icmp_eq 1562 d_L_law_1079 (by decide) (fun _ => ?_) (fun h => absurd heq h)
  exact next _ _ _ _ hS2
def St_cut (S : RelT) : Prop := ∀ (I : Nat → Nat → Int32) (J : Nat → Nat → Int64) (w : Bool) , S I J w → True ∧ ok_X11_cut (m_X10_cut I w) ∧ f_X10_cut I w = f_X11_cut (m_X10_cut I w) ∧ S (m_X11_cut (m_X10_cut I w)) J w
set_option maxHeartbeats 800000 in
theorem lc_cut {k : KT} {ex : Bool} {I : Nat → Nat → Int32} {J : Nat → Nat → Int64} {w : Bool} {F : FinT} {nc ns : Nat} {i : Int32} {S : RelT} (hS : S I J w) (hst : St_cut S) (hnc : nc ≤ room_1.cells) (hns : ns ≤ room_1.slots) (hv1 : vp_in (i + 1) (kS k).2.1) (hv2 : vp_in (i + 2) (kS k).2.1) (hv3 : vp_in (i + 3) (kS k).2.1) (hv4 : vp_in (i + 4) (kS k).2.1) (hv5 : vp_in (i + 5) (kS k).2.1) (next : ∀ (ex : Bool) (I : Nat → Nat → Int32) (J : Nat → Nat → Int64) (w : Bool), S I J w → G k mL_law room_1 F nc ns 1562 [some (.ref (kS k).1), some (.ref (ka k 0)), some (.ref (ka k 65)), some (.ref (ka k 80)), some (.int i), none, none] [] (81, ex, I, J, Pw w)) : G k mL_law room_1 F nc ns 1084 [some (.ref (kS k).1), some (.ref (ka k 0)), some (.ref (ka k 65)), some (.ref (ka k 80)), some (.int i), none, none] [] (81, ex, I, J, Pw w) := by
  obtain ⟨hk1, hk2, heq, hS2⟩ := hst I J w  hS
  refine g_aload_n1 rfl d_L_law_1084 ?_
  refine g_callV1 (c_X10_cut I w ) w_X10_cut l_L_151 d_L_law_1085 rfl (Nat.le_of_ble_eq_true rfl) rfl rfl (Nat.le_of_ble_eq_true rfl) ⟨Nat.le_of_ble_eq_true rfl, Nat.le_of_ble_eq_true rfl⟩ ⟨hnc, hns⟩ ⟨rfl, rfl⟩ ?_
  refine g_aload_n2 rfl d_L_law_1088 ?_
  refine g_callV1 (c_X11_cut (m_X10_cut I w) hk2) w_X11_cut l_L_154 d_L_law_1089 rfl (Nat.le_of_ble_eq_true rfl) rfl rfl (Nat.le_of_ble_eq_true rfl) ⟨Nat.le_of_ble_eq_true rfl, Nat.le_of_ble_eq_true rfl⟩ ⟨hnc, hns⟩ ⟨rfl, rfl⟩ ?_
  refine g_icmp_eq 1562 d_L_law_1092 (by decide) (fun _ => ?_) (fun h => absurd heq h)
  exact next _ _ _ _ hS2
def St_floodIf (S : RelT) : Prop := ∀ (I : Nat → Nat → Int32) (J : Nat → Nat → Int64) (w : Bool) (x1 : Int32) (x2 : Int32), S I J w → True ∧ ok_X11_floodIf (m_X10_floodIf I w x1 x2) x1 x2 ∧ f_X10_floodIf I w x1 x2 = f_X11_floodIf (m_X10_floodIf I w x1 x2) x1 x2 ∧ S (m_X11_floodIf (m_X10_floodIf I w x1 x2) x1 x2) J w
set_option maxHeartbeats 800000 in
theorem lc_floodIf {k : KT} {ex : Bool} {I : Nat → Nat → Int32} {J : Nat → Nat → Int64} {w : Bool} {F : FinT} {nc ns : Nat} {i : Int32} {S : RelT} (hS : S I J w) (hst : St_floodIf S) (hnc : nc ≤ room_1.cells) (hns : ns ≤ room_1.slots) (hv1 : vp_in (i + 1) (kS k).2.1) (hv2 : vp_in (i + 2) (kS k).2.1) (hv3 : vp_in (i + 3) (kS k).2.1) (hv4 : vp_in (i + 4) (kS k).2.1) (hv5 : vp_in (i + 5) (kS k).2.1) (next : ∀ (ex : Bool) (I : Nat → Nat → Int32) (J : Nat → Nat → Int64) (w : Bool), S I J w → G k mL_law room_1 F nc ns 1562 [some (.ref (kS k).1), some (.ref (ka k 0)), some (.ref (ka k 65)), some (.ref (ka k 80)), some (.int i), none, none] [] (81, ex, I, J, Pw w)) : G k mL_law room_1 F nc ns 1097 [some (.ref (kS k).1), some (.ref (ka k 0)), some (.ref (ka k 65)), some (.ref (ka k 80)), some (.int i), none, none] [] (81, ex, I, J, Pw w) := by
  obtain ⟨hk1, hk2, heq, hS2⟩ := hst I J w ((kS k).2.2 (i + 1).toNatClampNeg) ((kS k).2.2 (i + 2).toNatClampNeg) hS
  refine g_aload_n1 rfl d_L_law_1097 ?_
  refine g_aload_n0 rfl d_L_law_1098 ?_
  refine g_iload (i := 4) rfl d_L_law_1099 ?_
  refine g_iconst 1 d_L_law_1101 (by decide) ?_
  refine g_iadd d_L_law_1102 ?_
  refine g_sld hv1 d_L_law_1103 ?_
  refine g_aload_n0 rfl d_L_law_1104 ?_
  refine g_iload (i := 4) rfl d_L_law_1105 ?_
  refine g_iconst 2 d_L_law_1107 (by decide) ?_
  refine g_iadd d_L_law_1108 ?_
  refine g_sld hv2 d_L_law_1109 ?_
  refine g_callV1 (c_X10_floodIf I w ((kS k).2.2 (i + 1).toNatClampNeg) ((kS k).2.2 (i + 2).toNatClampNeg) ) w_X10_floodIf l_L_155 d_L_law_1110 rfl (Nat.le_of_ble_eq_true rfl) rfl rfl (Nat.le_of_ble_eq_true rfl) ⟨Nat.le_of_ble_eq_true rfl, Nat.le_of_ble_eq_true rfl⟩ ⟨hnc, hns⟩ ⟨rfl, rfl⟩ ?_
  refine g_aload_n2 rfl d_L_law_1113 ?_
  refine g_aload_n0 rfl d_L_law_1114 ?_
  refine g_iload (i := 4) rfl d_L_law_1115 ?_
  refine g_iconst 1 d_L_law_1117 (by decide) ?_
  refine g_iadd d_L_law_1118 ?_
  refine g_sld hv1 d_L_law_1119 ?_
  refine g_aload_n0 rfl d_L_law_1120 ?_
  refine g_iload (i := 4) rfl d_L_law_1121 ?_
  refine g_iconst 2 d_L_law_1123 (by decide) ?_
  refine g_iadd d_L_law_1124 ?_
  refine g_sld hv2 d_L_law_1125 ?_
  refine g_callV1 (c_X11_floodIf (m_X10_floodIf I w ((kS k).2.2 (i + 1).toNatClampNeg) ((kS k).2.2 (i + 2).toNatClampNeg)) ((kS k).2.2 (i + 1).toNatClampNeg) ((kS k).2.2 (i + 2).toNatClampNeg) hk2) w_X11_floodIf l_L_158 d_L_law_1126 rfl (Nat.le_of_ble_eq_true rfl) rfl rfl (Nat.le_of_ble_eq_true rfl) ⟨Nat.le_of_ble_eq_true rfl, Nat.le_of_ble_eq_true rfl⟩ ⟨hnc, hns⟩ ⟨rfl, rfl⟩ ?_
  refine g_icmp_eq 1562 d_L_law_1129 (by decide) (fun _ => ?_) (fun h => absurd heq h)
  exact next _ _ _ _ hS2
def St_narrow (S : RelT) : Prop := ∀ (I : Nat → Nat → Int32) (J : Nat → Nat → Int64) (w : Bool) , S I J w → True ∧ ok_X11_narrow (m_X10_narrow I w) ∧ f_X10_narrow I w = f_X11_narrow (m_X10_narrow I w) ∧ S (m_X11_narrow (m_X10_narrow I w)) J w
set_option maxHeartbeats 800000 in
theorem lc_narrow {k : KT} {ex : Bool} {I : Nat → Nat → Int32} {J : Nat → Nat → Int64} {w : Bool} {F : FinT} {nc ns : Nat} {i : Int32} {S : RelT} (hS : S I J w) (hst : St_narrow S) (hnc : nc ≤ room_1.cells) (hns : ns ≤ room_1.slots) (hv1 : vp_in (i + 1) (kS k).2.1) (hv2 : vp_in (i + 2) (kS k).2.1) (hv3 : vp_in (i + 3) (kS k).2.1) (hv4 : vp_in (i + 4) (kS k).2.1) (hv5 : vp_in (i + 5) (kS k).2.1) (next : ∀ (ex : Bool) (I : Nat → Nat → Int32) (J : Nat → Nat → Int64) (w : Bool), S I J w → G k mL_law room_1 F nc ns 1562 [some (.ref (kS k).1), some (.ref (ka k 0)), some (.ref (ka k 65)), some (.ref (ka k 80)), some (.int i), none, none] [] (81, ex, I, J, Pw w)) : G k mL_law room_1 F nc ns 1134 [some (.ref (kS k).1), some (.ref (ka k 0)), some (.ref (ka k 65)), some (.ref (ka k 80)), some (.int i), none, none] [] (81, ex, I, J, Pw w) := by
  obtain ⟨hk1, hk2, heq, hS2⟩ := hst I J w  hS
  refine g_aload_n1 rfl d_L_law_1134 ?_
  refine g_callV1 (c_X10_narrow I w ) w_X10_narrow l_L_159 d_L_law_1135 rfl (Nat.le_of_ble_eq_true rfl) rfl rfl (Nat.le_of_ble_eq_true rfl) ⟨Nat.le_of_ble_eq_true rfl, Nat.le_of_ble_eq_true rfl⟩ ⟨hnc, hns⟩ ⟨rfl, rfl⟩ ?_
  refine g_aload_n2 rfl d_L_law_1138 ?_
  refine g_callV1 (c_X11_narrow (m_X10_narrow I w) hk2) w_X11_narrow l_L_162 d_L_law_1139 rfl (Nat.le_of_ble_eq_true rfl) rfl rfl (Nat.le_of_ble_eq_true rfl) ⟨Nat.le_of_ble_eq_true rfl, Nat.le_of_ble_eq_true rfl⟩ ⟨hnc, hns⟩ ⟨rfl, rfl⟩ ?_
  refine g_icmp_eq 1562 d_L_law_1142 (by decide) (fun _ => ?_) (fun h => absurd heq h)
  exact next _ _ _ _ hS2
def St_downhill (S : RelT) : Prop := ∀ (I : Nat → Nat → Int32) (J : Nat → Nat → Int64) (w : Bool) (x1 : Int32), S I J w → True ∧ ok_X11_downhill (m_X10_downhill I w x1) x1 ∧ f_X10_downhill I w x1 = f_X11_downhill (m_X10_downhill I w x1) x1 ∧ S (m_X11_downhill (m_X10_downhill I w x1) x1) J w
set_option maxHeartbeats 800000 in
theorem lc_downhill {k : KT} {ex : Bool} {I : Nat → Nat → Int32} {J : Nat → Nat → Int64} {w : Bool} {F : FinT} {nc ns : Nat} {i : Int32} {S : RelT} (hS : S I J w) (hst : St_downhill S) (hnc : nc ≤ room_1.cells) (hns : ns ≤ room_1.slots) (hv1 : vp_in (i + 1) (kS k).2.1) (hv2 : vp_in (i + 2) (kS k).2.1) (hv3 : vp_in (i + 3) (kS k).2.1) (hv4 : vp_in (i + 4) (kS k).2.1) (hv5 : vp_in (i + 5) (kS k).2.1) (next : ∀ (ex : Bool) (I : Nat → Nat → Int32) (J : Nat → Nat → Int64) (w : Bool), S I J w → G k mL_law room_1 F nc ns 1562 [some (.ref (kS k).1), some (.ref (ka k 0)), some (.ref (ka k 65)), some (.ref (ka k 80)), some (.int i), none, none] [] (81, ex, I, J, Pw w)) : G k mL_law room_1 F nc ns 1147 [some (.ref (kS k).1), some (.ref (ka k 0)), some (.ref (ka k 65)), some (.ref (ka k 80)), some (.int i), none, none] [] (81, ex, I, J, Pw w) := by
  obtain ⟨hk1, hk2, heq, hS2⟩ := hst I J w ((kS k).2.2 (i + 1).toNatClampNeg) hS
  refine g_aload_n1 rfl d_L_law_1147 ?_
  refine g_aload_n0 rfl d_L_law_1148 ?_
  refine g_iload (i := 4) rfl d_L_law_1149 ?_
  refine g_iconst 1 d_L_law_1151 (by decide) ?_
  refine g_iadd d_L_law_1152 ?_
  refine g_sld hv1 d_L_law_1153 ?_
  refine g_callV1 (c_X10_downhill I w ((kS k).2.2 (i + 1).toNatClampNeg) ) w_X10_downhill l_L_163 d_L_law_1154 rfl (Nat.le_of_ble_eq_true rfl) rfl rfl (Nat.le_of_ble_eq_true rfl) ⟨Nat.le_of_ble_eq_true rfl, Nat.le_of_ble_eq_true rfl⟩ ⟨hnc, hns⟩ ⟨rfl, rfl⟩ ?_
  refine g_aload_n2 rfl d_L_law_1157 ?_
  refine g_aload_n0 rfl d_L_law_1158 ?_
  refine g_iload (i := 4) rfl d_L_law_1159 ?_
  refine g_iconst 1 d_L_law_1161 (by decide) ?_
  refine g_iadd d_L_law_1162 ?_
  refine g_sld hv1 d_L_law_1163 ?_
  refine g_callV1 (c_X11_downhill (m_X10_downhill I w ((kS k).2.2 (i + 1).toNatClampNeg)) ((kS k).2.2 (i + 1).toNatClampNeg) hk2) w_X11_downhill l_L_166 d_L_law_1164 rfl (Nat.le_of_ble_eq_true rfl) rfl rfl (Nat.le_of_ble_eq_true rfl) ⟨Nat.le_of_ble_eq_true rfl, Nat.le_of_ble_eq_true rfl⟩ ⟨hnc, hns⟩ ⟨rfl, rfl⟩ ?_
  refine g_icmp_eq 1562 d_L_law_1167 (by decide) (fun _ => ?_) (fun h => absurd heq h)
  exact next _ _ _ _ hS2
def St_likely (S : RelT) : Prop := ∀ (I : Nat → Nat → Int32) (J : Nat → Nat → Int64) (w : Bool) (x1 : Int32) (x2 : Int32) (x3 : Bool), S I J w → ok_X10_likely I J w x1 x2 x3 ∧ ok_X11_likely (m_X10_likely I J w x1 x2 x3) (j_X10_likely I J w x1 x2 x3) x1 x2 x3 ∧ f_X10_likely I J w x1 x2 x3 = f_X11_likely (m_X10_likely I J w x1 x2 x3) (j_X10_likely I J w x1 x2 x3) x1 x2 x3 ∧ S (m_X11_likely (m_X10_likely I J w x1 x2 x3) (j_X10_likely I J w x1 x2 x3) x1 x2 x3) (j_X11_likely (m_X10_likely I J w x1 x2 x3) (j_X10_likely I J w x1 x2 x3) x1 x2 x3) w
set_option maxHeartbeats 800000 in
theorem lc_likely {k : KT} {ex : Bool} {I : Nat → Nat → Int32} {J : Nat → Nat → Int64} {w : Bool} {F : FinT} {nc ns : Nat} {i : Int32} {S : RelT} (hS : S I J w) (hst : St_likely S) (hnc : nc ≤ room_1.cells) (hns : ns ≤ room_1.slots) (hv1 : vp_in (i + 1) (kS k).2.1) (hv2 : vp_in (i + 2) (kS k).2.1) (hv3 : vp_in (i + 3) (kS k).2.1) (hv4 : vp_in (i + 4) (kS k).2.1) (hv5 : vp_in (i + 5) (kS k).2.1) (next : ∀ (ex : Bool) (I : Nat → Nat → Int32) (J : Nat → Nat → Int64) (w : Bool), S I J w → G k mL_law room_1 F nc ns 1562 [some (.ref (kS k).1), some (.ref (ka k 0)), some (.ref (ka k 65)), some (.ref (ka k 80)), some (.int i), none, none] [] (81, ex, I, J, Pw w)) : G k mL_law room_1 F nc ns 1172 [some (.ref (kS k).1), some (.ref (ka k 0)), some (.ref (ka k 65)), some (.ref (ka k 80)), some (.int i), none, none] [] (81, ex, I, J, Pw w) := by
  obtain ⟨hk1, hk2, heq, hS2⟩ := hst I J w ((kS k).2.2 (i + 1).toNatClampNeg) ((kS k).2.2 (i + 2).toNatClampNeg) (if ((kS k).2.2 (i + 3).toNatClampNeg) = 0 then false else true) hS
  refine g_aload_n1 rfl d_L_law_1172 ?_
  refine g_aload_n0 rfl d_L_law_1173 ?_
  refine g_iload (i := 4) rfl d_L_law_1174 ?_
  refine g_iconst 1 d_L_law_1176 (by decide) ?_
  refine g_iadd d_L_law_1177 ?_
  refine g_sld hv1 d_L_law_1178 ?_
  refine g_aload_n0 rfl d_L_law_1179 ?_
  refine g_iload (i := 4) rfl d_L_law_1180 ?_
  refine g_iconst 2 d_L_law_1182 (by decide) ?_
  refine g_iadd d_L_law_1183 ?_
  refine g_sld hv2 d_L_law_1184 ?_
  refine g_aload_n0 rfl d_L_law_1185 ?_
  refine g_iload (i := 4) rfl d_L_law_1186 ?_
  refine g_iconst 3 d_L_law_1188 (by decide) ?_
  refine g_iadd d_L_law_1189 ?_
  refine g_sld hv3 d_L_law_1190 ?_
  refine g_cut (pc' := 1199) (vs' := [some (.ref (kS k).1), some (.ref (ka k 0)), some (.ref (ka k 65)), some (.ref (ka k 80)), some (.int i), none, none]) (st' := [.int (b2i (if ((kS k).2.2 (i + 3).toNatClampNeg) = 0 then false else true)), .int ((kS k).2.2 (i + 2).toNatClampNeg), .int ((kS k).2.2 (i + 1).toNatClampNeg), .ref (ka k 0)]) (M' := (81, ex, I, J, Pw w)) (fun hj => ?_) ?_
  · refine g_if_eq 1198 d_L_law_1191 (by decide) (fun hq => ?_) (fun hq => ?_)
    · refine g_iconst 0 d_L_law_1198 (by decide) ?_
      simp only [if_pos hq, b2i_f] at hj ⊢; exact hj
    · refine g_iconst 1 d_L_law_1194 (by decide) ?_
      refine g_goto 1199 d_L_law_1195 (by decide) ?_
      simp only [if_neg hq, b2i_t] at hj ⊢; exact hj
  refine g_callV1 (c_X10_likely I J w ((kS k).2.2 (i + 1).toNatClampNeg) ((kS k).2.2 (i + 2).toNatClampNeg) (if ((kS k).2.2 (i + 3).toNatClampNeg) = 0 then false else true) hk1) w_X10_likely l_L_167 d_L_law_1199 rfl (Nat.le_of_ble_eq_true rfl) rfl rfl (Nat.le_of_ble_eq_true rfl) ⟨Nat.le_of_ble_eq_true rfl, Nat.le_of_ble_eq_true rfl⟩ ⟨hnc, hns⟩ ⟨rfl, rfl⟩ ?_
  refine g_aload_n2 rfl d_L_law_1202 ?_
  refine g_aload_n0 rfl d_L_law_1203 ?_
  refine g_iload (i := 4) rfl d_L_law_1204 ?_
  refine g_iconst 1 d_L_law_1206 (by decide) ?_
  refine g_iadd d_L_law_1207 ?_
  refine g_sld hv1 d_L_law_1208 ?_
  refine g_aload_n0 rfl d_L_law_1209 ?_
  refine g_iload (i := 4) rfl d_L_law_1210 ?_
  refine g_iconst 2 d_L_law_1212 (by decide) ?_
  refine g_iadd d_L_law_1213 ?_
  refine g_sld hv2 d_L_law_1214 ?_
  refine g_aload_n0 rfl d_L_law_1215 ?_
  refine g_iload (i := 4) rfl d_L_law_1216 ?_
  refine g_iconst 3 d_L_law_1218 (by decide) ?_
  refine g_iadd d_L_law_1219 ?_
  refine g_sld hv3 d_L_law_1220 ?_
  refine g_cut (pc' := 1229) (vs' := [some (.ref (kS k).1), some (.ref (ka k 0)), some (.ref (ka k 65)), some (.ref (ka k 80)), some (.int i), none, none]) (st' := [.int (b2i (if ((kS k).2.2 (i + 3).toNatClampNeg) = 0 then false else true)), .int ((kS k).2.2 (i + 2).toNatClampNeg), .int ((kS k).2.2 (i + 1).toNatClampNeg), .ref (ka k 65), .long (f_X10_likely I J w ((kS k).2.2 (i + 1).toNatClampNeg) ((kS k).2.2 (i + 2).toNatClampNeg) (if ((kS k).2.2 (i + 3).toNatClampNeg) = 0 then false else true))]) (M' := (81, ex, (m_X10_likely I J w ((kS k).2.2 (i + 1).toNatClampNeg) ((kS k).2.2 (i + 2).toNatClampNeg) (if ((kS k).2.2 (i + 3).toNatClampNeg) = 0 then false else true)), (j_X10_likely I J w ((kS k).2.2 (i + 1).toNatClampNeg) ((kS k).2.2 (i + 2).toNatClampNeg) (if ((kS k).2.2 (i + 3).toNatClampNeg) = 0 then false else true)), Pw w)) (fun hj => ?_) ?_
  · refine g_if_eq 1228 d_L_law_1221 (by decide) (fun hq => ?_) (fun hq => ?_)
    · refine g_iconst 0 d_L_law_1228 (by decide) ?_
      simp only [if_pos hq, b2i_f] at hj ⊢; exact hj
    · refine g_iconst 1 d_L_law_1224 (by decide) ?_
      refine g_goto 1229 d_L_law_1225 (by decide) ?_
      simp only [if_neg hq, b2i_t] at hj ⊢; exact hj
  refine g_callV1 (c_X11_likely (m_X10_likely I J w ((kS k).2.2 (i + 1).toNatClampNeg) ((kS k).2.2 (i + 2).toNatClampNeg) (if ((kS k).2.2 (i + 3).toNatClampNeg) = 0 then false else true)) (j_X10_likely I J w ((kS k).2.2 (i + 1).toNatClampNeg) ((kS k).2.2 (i + 2).toNatClampNeg) (if ((kS k).2.2 (i + 3).toNatClampNeg) = 0 then false else true)) ((kS k).2.2 (i + 1).toNatClampNeg) ((kS k).2.2 (i + 2).toNatClampNeg) (if ((kS k).2.2 (i + 3).toNatClampNeg) = 0 then false else true) hk2) w_X11_likely l_L_171 d_L_law_1229 rfl (Nat.le_of_ble_eq_true rfl) rfl rfl (Nat.le_of_ble_eq_true rfl) ⟨Nat.le_of_ble_eq_true rfl, Nat.le_of_ble_eq_true rfl⟩ ⟨hnc, hns⟩ ⟨rfl, rfl⟩ ?_
  refine g_lcmp d_L_law_1232 ?_
  refine g_if_eq 1562 d_L_law_1233 (by decide) (fun _ => ?_) (fun h => absurd (lg_same heq) h)
  exact next _ _ _ _ hS2
def St_mean (S : RelT) : Prop := ∀ (I : Nat → Nat → Int32) (J : Nat → Nat → Int64) (w : Bool) (x1 : Int32) (x2 : Bool), S I J w → ok_X10_mean I J w x1 x2 ∧ ok_X11_mean (m_X10_mean I J w x1 x2) (j_X10_mean I J w x1 x2) x1 x2 ∧ f_X10_mean I J w x1 x2 = f_X11_mean (m_X10_mean I J w x1 x2) (j_X10_mean I J w x1 x2) x1 x2 ∧ S (m_X11_mean (m_X10_mean I J w x1 x2) (j_X10_mean I J w x1 x2) x1 x2) (j_X11_mean (m_X10_mean I J w x1 x2) (j_X10_mean I J w x1 x2) x1 x2) w
set_option maxHeartbeats 800000 in
theorem lc_mean {k : KT} {ex : Bool} {I : Nat → Nat → Int32} {J : Nat → Nat → Int64} {w : Bool} {F : FinT} {nc ns : Nat} {i : Int32} {S : RelT} (hS : S I J w) (hst : St_mean S) (hnc : nc ≤ room_1.cells) (hns : ns ≤ room_1.slots) (hv1 : vp_in (i + 1) (kS k).2.1) (hv2 : vp_in (i + 2) (kS k).2.1) (hv3 : vp_in (i + 3) (kS k).2.1) (hv4 : vp_in (i + 4) (kS k).2.1) (hv5 : vp_in (i + 5) (kS k).2.1) (next : ∀ (ex : Bool) (I : Nat → Nat → Int32) (J : Nat → Nat → Int64) (w : Bool), S I J w → G k mL_law room_1 F nc ns 1562 [some (.ref (kS k).1), some (.ref (ka k 0)), some (.ref (ka k 65)), some (.ref (ka k 80)), some (.int i), none, none] [] (81, ex, I, J, Pw w)) : G k mL_law room_1 F nc ns 1238 [some (.ref (kS k).1), some (.ref (ka k 0)), some (.ref (ka k 65)), some (.ref (ka k 80)), some (.int i), none, none] [] (81, ex, I, J, Pw w) := by
  obtain ⟨hk1, hk2, heq, hS2⟩ := hst I J w ((kS k).2.2 (i + 1).toNatClampNeg) (if ((kS k).2.2 (i + 2).toNatClampNeg) = 0 then false else true) hS
  refine g_aload_n1 rfl d_L_law_1238 ?_
  refine g_aload_n0 rfl d_L_law_1239 ?_
  refine g_iload (i := 4) rfl d_L_law_1240 ?_
  refine g_iconst 1 d_L_law_1242 (by decide) ?_
  refine g_iadd d_L_law_1243 ?_
  refine g_sld hv1 d_L_law_1244 ?_
  refine g_aload_n0 rfl d_L_law_1245 ?_
  refine g_iload (i := 4) rfl d_L_law_1246 ?_
  refine g_iconst 2 d_L_law_1248 (by decide) ?_
  refine g_iadd d_L_law_1249 ?_
  refine g_sld hv2 d_L_law_1250 ?_
  refine g_cut (pc' := 1259) (vs' := [some (.ref (kS k).1), some (.ref (ka k 0)), some (.ref (ka k 65)), some (.ref (ka k 80)), some (.int i), none, none]) (st' := [.int (b2i (if ((kS k).2.2 (i + 2).toNatClampNeg) = 0 then false else true)), .int ((kS k).2.2 (i + 1).toNatClampNeg), .ref (ka k 0)]) (M' := (81, ex, I, J, Pw w)) (fun hj => ?_) ?_
  · refine g_if_eq 1258 d_L_law_1251 (by decide) (fun hq => ?_) (fun hq => ?_)
    · refine g_iconst 0 d_L_law_1258 (by decide) ?_
      simp only [if_pos hq, b2i_f] at hj ⊢; exact hj
    · refine g_iconst 1 d_L_law_1254 (by decide) ?_
      refine g_goto 1259 d_L_law_1255 (by decide) ?_
      simp only [if_neg hq, b2i_t] at hj ⊢; exact hj
  refine g_callV1 (c_X10_mean I J w ((kS k).2.2 (i + 1).toNatClampNeg) (if ((kS k).2.2 (i + 2).toNatClampNeg) = 0 then false else true) hk1) w_X10_mean l_L_172 d_L_law_1259 rfl (Nat.le_of_ble_eq_true rfl) rfl rfl (Nat.le_of_ble_eq_true rfl) ⟨Nat.le_of_ble_eq_true rfl, Nat.le_of_ble_eq_true rfl⟩ ⟨hnc, hns⟩ ⟨rfl, rfl⟩ ?_
  refine g_aload_n2 rfl d_L_law_1262 ?_
  refine g_aload_n0 rfl d_L_law_1263 ?_
  refine g_iload (i := 4) rfl d_L_law_1264 ?_
  refine g_iconst 1 d_L_law_1266 (by decide) ?_
  refine g_iadd d_L_law_1267 ?_
  refine g_sld hv1 d_L_law_1268 ?_
  refine g_aload_n0 rfl d_L_law_1269 ?_
  refine g_iload (i := 4) rfl d_L_law_1270 ?_
  refine g_iconst 2 d_L_law_1272 (by decide) ?_
  refine g_iadd d_L_law_1273 ?_
  refine g_sld hv2 d_L_law_1274 ?_
  refine g_cut (pc' := 1283) (vs' := [some (.ref (kS k).1), some (.ref (ka k 0)), some (.ref (ka k 65)), some (.ref (ka k 80)), some (.int i), none, none]) (st' := [.int (b2i (if ((kS k).2.2 (i + 2).toNatClampNeg) = 0 then false else true)), .int ((kS k).2.2 (i + 1).toNatClampNeg), .ref (ka k 65), .long (f_X10_mean I J w ((kS k).2.2 (i + 1).toNatClampNeg) (if ((kS k).2.2 (i + 2).toNatClampNeg) = 0 then false else true))]) (M' := (81, ex, (m_X10_mean I J w ((kS k).2.2 (i + 1).toNatClampNeg) (if ((kS k).2.2 (i + 2).toNatClampNeg) = 0 then false else true)), (j_X10_mean I J w ((kS k).2.2 (i + 1).toNatClampNeg) (if ((kS k).2.2 (i + 2).toNatClampNeg) = 0 then false else true)), Pw w)) (fun hj => ?_) ?_
  · refine g_if_eq 1282 d_L_law_1275 (by decide) (fun hq => ?_) (fun hq => ?_)
    · refine g_iconst 0 d_L_law_1282 (by decide) ?_
      simp only [if_pos hq, b2i_f] at hj ⊢; exact hj
    · refine g_iconst 1 d_L_law_1278 (by decide) ?_
      refine g_goto 1283 d_L_law_1279 (by decide) ?_
      simp only [if_neg hq, b2i_t] at hj ⊢; exact hj
  refine g_callV1 (c_X11_mean (m_X10_mean I J w ((kS k).2.2 (i + 1).toNatClampNeg) (if ((kS k).2.2 (i + 2).toNatClampNeg) = 0 then false else true)) (j_X10_mean I J w ((kS k).2.2 (i + 1).toNatClampNeg) (if ((kS k).2.2 (i + 2).toNatClampNeg) = 0 then false else true)) ((kS k).2.2 (i + 1).toNatClampNeg) (if ((kS k).2.2 (i + 2).toNatClampNeg) = 0 then false else true) hk2) w_X11_mean l_L_176 d_L_law_1283 rfl (Nat.le_of_ble_eq_true rfl) rfl rfl (Nat.le_of_ble_eq_true rfl) ⟨Nat.le_of_ble_eq_true rfl, Nat.le_of_ble_eq_true rfl⟩ ⟨hnc, hns⟩ ⟨rfl, rfl⟩ ?_
  refine g_lcmp d_L_law_1286 ?_
  refine g_if_eq 1562 d_L_law_1287 (by decide) (fun _ => ?_) (fun h => absurd (lg_same heq) h)
  exact next _ _ _ _ hS2
def St_gusted (S : RelT) : Prop := ∀ (I : Nat → Nat → Int32) (J : Nat → Nat → Int64) (w : Bool) (x1 : Int32) (x2 : Int32), S I J w → ok_X10_gusted I w x1 x2 ∧ ok_X11_gusted (m_X10_gusted I w x1 x2) x1 x2 ∧ f_X10_gusted I w x1 x2 = f_X11_gusted (m_X10_gusted I w x1 x2) x1 x2 ∧ S (m_X11_gusted (m_X10_gusted I w x1 x2) x1 x2) J w
set_option maxHeartbeats 800000 in
theorem lc_gusted {k : KT} {ex : Bool} {I : Nat → Nat → Int32} {J : Nat → Nat → Int64} {w : Bool} {F : FinT} {nc ns : Nat} {i : Int32} {S : RelT} (hS : S I J w) (hst : St_gusted S) (hnc : nc ≤ room_1.cells) (hns : ns ≤ room_1.slots) (hv1 : vp_in (i + 1) (kS k).2.1) (hv2 : vp_in (i + 2) (kS k).2.1) (hv3 : vp_in (i + 3) (kS k).2.1) (hv4 : vp_in (i + 4) (kS k).2.1) (hv5 : vp_in (i + 5) (kS k).2.1) (next : ∀ (ex : Bool) (I : Nat → Nat → Int32) (J : Nat → Nat → Int64) (w : Bool), S I J w → G k mL_law room_1 F nc ns 1562 [some (.ref (kS k).1), some (.ref (ka k 0)), some (.ref (ka k 65)), some (.ref (ka k 80)), some (.int i), none, none] [] (81, ex, I, J, Pw w)) : G k mL_law room_1 F nc ns 1292 [some (.ref (kS k).1), some (.ref (ka k 0)), some (.ref (ka k 65)), some (.ref (ka k 80)), some (.int i), none, none] [] (81, ex, I, J, Pw w) := by
  obtain ⟨hk1, hk2, heq, hS2⟩ := hst I J w ((kS k).2.2 (i + 1).toNatClampNeg) ((kS k).2.2 (i + 2).toNatClampNeg) hS
  refine g_aload_n1 rfl d_L_law_1292 ?_
  refine g_aload_n0 rfl d_L_law_1293 ?_
  refine g_iload (i := 4) rfl d_L_law_1294 ?_
  refine g_iconst 1 d_L_law_1296 (by decide) ?_
  refine g_iadd d_L_law_1297 ?_
  refine g_sld hv1 d_L_law_1298 ?_
  refine g_aload_n0 rfl d_L_law_1299 ?_
  refine g_iload (i := 4) rfl d_L_law_1300 ?_
  refine g_iconst 2 d_L_law_1302 (by decide) ?_
  refine g_iadd d_L_law_1303 ?_
  refine g_sld hv2 d_L_law_1304 ?_
  refine g_callV1 (c_X10_gusted I w ((kS k).2.2 (i + 1).toNatClampNeg) ((kS k).2.2 (i + 2).toNatClampNeg) hk1) w_X10_gusted l_L_177 d_L_law_1305 rfl (Nat.le_of_ble_eq_true rfl) rfl rfl (Nat.le_of_ble_eq_true rfl) ⟨Nat.le_of_ble_eq_true rfl, Nat.le_of_ble_eq_true rfl⟩ ⟨hnc, hns⟩ ⟨rfl, rfl⟩ ?_
  refine g_aload_n2 rfl d_L_law_1308 ?_
  refine g_aload_n0 rfl d_L_law_1309 ?_
  refine g_iload (i := 4) rfl d_L_law_1310 ?_
  refine g_iconst 1 d_L_law_1312 (by decide) ?_
  refine g_iadd d_L_law_1313 ?_
  refine g_sld hv1 d_L_law_1314 ?_
  refine g_aload_n0 rfl d_L_law_1315 ?_
  refine g_iload (i := 4) rfl d_L_law_1316 ?_
  refine g_iconst 2 d_L_law_1318 (by decide) ?_
  refine g_iadd d_L_law_1319 ?_
  refine g_sld hv2 d_L_law_1320 ?_
  refine g_callV1 (c_X11_gusted (m_X10_gusted I w ((kS k).2.2 (i + 1).toNatClampNeg) ((kS k).2.2 (i + 2).toNatClampNeg)) ((kS k).2.2 (i + 1).toNatClampNeg) ((kS k).2.2 (i + 2).toNatClampNeg) hk2) w_X11_gusted l_L_180 d_L_law_1321 rfl (Nat.le_of_ble_eq_true rfl) rfl rfl (Nat.le_of_ble_eq_true rfl) ⟨Nat.le_of_ble_eq_true rfl, Nat.le_of_ble_eq_true rfl⟩ ⟨hnc, hns⟩ ⟨rfl, rfl⟩ ?_
  refine g_icmp_eq 1562 d_L_law_1324 (by decide) (fun _ => ?_) (fun h => absurd heq h)
  exact next _ _ _ _ hS2
def St_wetIn (S : RelT) : Prop := ∀ (I : Nat → Nat → Int32) (J : Nat → Nat → Int64) (w : Bool) (x1 : Int32) (x2 : Int32), S I J w → ok_X10_wetIn I w x1 x2 ∧ ok_X11_wetIn (m_X10_wetIn I w x1 x2) x1 x2 ∧ f_X10_wetIn I w x1 x2 = f_X11_wetIn (m_X10_wetIn I w x1 x2) x1 x2 ∧ S (m_X11_wetIn (m_X10_wetIn I w x1 x2) x1 x2) J w
set_option maxHeartbeats 800000 in
theorem lc_wetIn {k : KT} {ex : Bool} {I : Nat → Nat → Int32} {J : Nat → Nat → Int64} {w : Bool} {F : FinT} {nc ns : Nat} {i : Int32} {S : RelT} (hS : S I J w) (hst : St_wetIn S) (hnc : nc ≤ room_1.cells) (hns : ns ≤ room_1.slots) (hv1 : vp_in (i + 1) (kS k).2.1) (hv2 : vp_in (i + 2) (kS k).2.1) (hv3 : vp_in (i + 3) (kS k).2.1) (hv4 : vp_in (i + 4) (kS k).2.1) (hv5 : vp_in (i + 5) (kS k).2.1) (next : ∀ (ex : Bool) (I : Nat → Nat → Int32) (J : Nat → Nat → Int64) (w : Bool), S I J w → G k mL_law room_1 F nc ns 1562 [some (.ref (kS k).1), some (.ref (ka k 0)), some (.ref (ka k 65)), some (.ref (ka k 80)), some (.int i), none, none] [] (81, ex, I, J, Pw w)) : G k mL_law room_1 F nc ns 1329 [some (.ref (kS k).1), some (.ref (ka k 0)), some (.ref (ka k 65)), some (.ref (ka k 80)), some (.int i), none, none] [] (81, ex, I, J, Pw w) := by
  obtain ⟨hk1, hk2, heq, hS2⟩ := hst I J w ((kS k).2.2 (i + 1).toNatClampNeg) ((kS k).2.2 (i + 2).toNatClampNeg) hS
  refine g_aload_n1 rfl d_L_law_1329 ?_
  refine g_aload_n0 rfl d_L_law_1330 ?_
  refine g_iload (i := 4) rfl d_L_law_1331 ?_
  refine g_iconst 1 d_L_law_1333 (by decide) ?_
  refine g_iadd d_L_law_1334 ?_
  refine g_sld hv1 d_L_law_1335 ?_
  refine g_aload_n0 rfl d_L_law_1336 ?_
  refine g_iload (i := 4) rfl d_L_law_1337 ?_
  refine g_iconst 2 d_L_law_1339 (by decide) ?_
  refine g_iadd d_L_law_1340 ?_
  refine g_sld hv2 d_L_law_1341 ?_
  refine g_callV1 (c_X10_wetIn I w ((kS k).2.2 (i + 1).toNatClampNeg) ((kS k).2.2 (i + 2).toNatClampNeg) hk1) w_X10_wetIn l_L_181 d_L_law_1342 rfl (Nat.le_of_ble_eq_true rfl) rfl rfl (Nat.le_of_ble_eq_true rfl) ⟨Nat.le_of_ble_eq_true rfl, Nat.le_of_ble_eq_true rfl⟩ ⟨hnc, hns⟩ ⟨rfl, rfl⟩ ?_
  refine g_aload_n2 rfl d_L_law_1345 ?_
  refine g_aload_n0 rfl d_L_law_1346 ?_
  refine g_iload (i := 4) rfl d_L_law_1347 ?_
  refine g_iconst 1 d_L_law_1349 (by decide) ?_
  refine g_iadd d_L_law_1350 ?_
  refine g_sld hv1 d_L_law_1351 ?_
  refine g_aload_n0 rfl d_L_law_1352 ?_
  refine g_iload (i := 4) rfl d_L_law_1353 ?_
  refine g_iconst 2 d_L_law_1355 (by decide) ?_
  refine g_iadd d_L_law_1356 ?_
  refine g_sld hv2 d_L_law_1357 ?_
  refine g_callV1 (c_X11_wetIn (m_X10_wetIn I w ((kS k).2.2 (i + 1).toNatClampNeg) ((kS k).2.2 (i + 2).toNatClampNeg)) ((kS k).2.2 (i + 1).toNatClampNeg) ((kS k).2.2 (i + 2).toNatClampNeg) hk2) w_X11_wetIn l_L_184 d_L_law_1358 rfl (Nat.le_of_ble_eq_true rfl) rfl rfl (Nat.le_of_ble_eq_true rfl) ⟨Nat.le_of_ble_eq_true rfl, Nat.le_of_ble_eq_true rfl⟩ ⟨hnc, hns⟩ ⟨rfl, rfl⟩ ?_
  refine g_icmp_eq 1562 d_L_law_1361 (by decide) (fun _ => ?_) (fun h => absurd heq h)
  exact next _ _ _ _ hS2
def St_open (S : RelT) : Prop := ∀ (I : Nat → Nat → Int32) (J : Nat → Nat → Int64) (w : Bool) (x1 : Int32), S I J w → ok_X10_open I w x1 ∧ ok_X11_open (m_X10_open I w x1) x1 ∧ f_X10_open I w x1 = f_X11_open (m_X10_open I w x1) x1 ∧ S (m_X11_open (m_X10_open I w x1) x1) J w
set_option maxHeartbeats 800000 in
theorem lc_open {k : KT} {ex : Bool} {I : Nat → Nat → Int32} {J : Nat → Nat → Int64} {w : Bool} {F : FinT} {nc ns : Nat} {i : Int32} {S : RelT} (hS : S I J w) (hst : St_open S) (hnc : nc ≤ room_1.cells) (hns : ns ≤ room_1.slots) (hv1 : vp_in (i + 1) (kS k).2.1) (hv2 : vp_in (i + 2) (kS k).2.1) (hv3 : vp_in (i + 3) (kS k).2.1) (hv4 : vp_in (i + 4) (kS k).2.1) (hv5 : vp_in (i + 5) (kS k).2.1) (next : ∀ (ex : Bool) (I : Nat → Nat → Int32) (J : Nat → Nat → Int64) (w : Bool), S I J w → G k mL_law room_1 F nc ns 1562 [some (.ref (kS k).1), some (.ref (ka k 0)), some (.ref (ka k 65)), some (.ref (ka k 80)), some (.int i), none, none] [] (81, ex, I, J, Pw w)) : G k mL_law room_1 F nc ns 1366 [some (.ref (kS k).1), some (.ref (ka k 0)), some (.ref (ka k 65)), some (.ref (ka k 80)), some (.int i), none, none] [] (81, ex, I, J, Pw w) := by
  obtain ⟨hk1, hk2, heq, hS2⟩ := hst I J w ((kS k).2.2 (i + 1).toNatClampNeg) hS
  refine g_aload_n1 rfl d_L_law_1366 ?_
  refine g_aload_n0 rfl d_L_law_1367 ?_
  refine g_iload (i := 4) rfl d_L_law_1368 ?_
  refine g_iconst 1 d_L_law_1370 (by decide) ?_
  refine g_iadd d_L_law_1371 ?_
  refine g_sld hv1 d_L_law_1372 ?_
  refine g_callV1 (c_X10_open I w ((kS k).2.2 (i + 1).toNatClampNeg) hk1) w_X10_open l_L_185 d_L_law_1373 rfl (Nat.le_of_ble_eq_true rfl) rfl rfl (Nat.le_of_ble_eq_true rfl) ⟨Nat.le_of_ble_eq_true rfl, Nat.le_of_ble_eq_true rfl⟩ ⟨hnc, hns⟩ ⟨rfl, rfl⟩ ?_
  refine g_aload_n2 rfl d_L_law_1376 ?_
  refine g_aload_n0 rfl d_L_law_1377 ?_
  refine g_iload (i := 4) rfl d_L_law_1378 ?_
  refine g_iconst 1 d_L_law_1380 (by decide) ?_
  refine g_iadd d_L_law_1381 ?_
  refine g_sld hv1 d_L_law_1382 ?_
  refine g_callV1 (c_X11_open (m_X10_open I w ((kS k).2.2 (i + 1).toNatClampNeg)) ((kS k).2.2 (i + 1).toNatClampNeg) hk2) w_X11_open l_L_189 d_L_law_1383 rfl (Nat.le_of_ble_eq_true rfl) rfl rfl (Nat.le_of_ble_eq_true rfl) ⟨Nat.le_of_ble_eq_true rfl, Nat.le_of_ble_eq_true rfl⟩ ⟨hnc, hns⟩ ⟨rfl, rfl⟩ ?_
  refine g_icmp_eq 1562 d_L_law_1386 (by decide) (fun _ => ?_) (fun h => absurd (congrArg b2i heq) h)
  exact next _ _ _ _ hS2
def St_oil (S : RelT) : Prop := ∀ (I : Nat → Nat → Int32) (J : Nat → Nat → Int64) (w : Bool) , S I J w → ok_X10_oil I ∧ ok_X11_oil (m_X10_oil I) ∧ f_X10_oil I = f_X11_oil (m_X10_oil I) ∧ S (m_X11_oil (m_X10_oil I)) J w
set_option maxHeartbeats 800000 in
theorem lc_oil {k : KT} {ex : Bool} {I : Nat → Nat → Int32} {J : Nat → Nat → Int64} {w : Bool} {F : FinT} {nc ns : Nat} {i : Int32} {S : RelT} (hS : S I J w) (hst : St_oil S) (hnc : nc ≤ room_1.cells) (hns : ns ≤ room_1.slots) (hv1 : vp_in (i + 1) (kS k).2.1) (hv2 : vp_in (i + 2) (kS k).2.1) (hv3 : vp_in (i + 3) (kS k).2.1) (hv4 : vp_in (i + 4) (kS k).2.1) (hv5 : vp_in (i + 5) (kS k).2.1) (next : ∀ (ex : Bool) (I : Nat → Nat → Int32) (J : Nat → Nat → Int64) (w : Bool), S I J w → G k mL_law room_1 F nc ns 1562 [some (.ref (kS k).1), some (.ref (ka k 0)), some (.ref (ka k 65)), some (.ref (ka k 80)), some (.int i), none, none] [] (81, ex, I, J, Pw w)) : G k mL_law room_1 F nc ns 1391 [some (.ref (kS k).1), some (.ref (ka k 0)), some (.ref (ka k 65)), some (.ref (ka k 80)), some (.int i), none, none] [] (81, ex, I, J, Pw w) := by
  obtain ⟨hk1, hk2, heq, hS2⟩ := hst I J w  hS
  refine g_aload_n1 rfl d_L_law_1391 ?_
  refine g_callV1 (c_X10_oil I hk1) w_X10_oil l_L_190 d_L_law_1392 rfl (Nat.le_of_ble_eq_true rfl) rfl rfl (Nat.le_of_ble_eq_true rfl) ⟨Nat.le_of_ble_eq_true rfl, Nat.le_of_ble_eq_true rfl⟩ ⟨hnc, hns⟩ ⟨rfl, rfl⟩ ?_
  refine g_aload_n2 rfl d_L_law_1395 ?_
  refine g_callV1 (c_X11_oil (m_X10_oil I) hk2) w_X11_oil l_L_193 d_L_law_1396 rfl (Nat.le_of_ble_eq_true rfl) rfl rfl (Nat.le_of_ble_eq_true rfl) ⟨Nat.le_of_ble_eq_true rfl, Nat.le_of_ble_eq_true rfl⟩ ⟨hnc, hns⟩ ⟨rfl, rfl⟩ ?_
  refine g_icmp_eq 1562 d_L_law_1399 (by decide) (fun _ => ?_) (fun h => absurd heq h)
  exact next _ _ _ _ hS2
def St_day (S : RelT) : Prop := ∀ (I : Nat → Nat → Int32) (J : Nat → Nat → Int64) (w : Bool) , S I J w → ok_X10_day I w ∧ ok_X11_day (m_X10_day I w) ∧ f_X10_day I w = f_X11_day (m_X10_day I w) ∧ S (m_X11_day (m_X10_day I w)) J w
set_option maxHeartbeats 800000 in
theorem lc_day {k : KT} {ex : Bool} {I : Nat → Nat → Int32} {J : Nat → Nat → Int64} {w : Bool} {F : FinT} {nc ns : Nat} {i : Int32} {S : RelT} (hS : S I J w) (hst : St_day S) (hnc : nc ≤ room_1.cells) (hns : ns ≤ room_1.slots) (hv1 : vp_in (i + 1) (kS k).2.1) (hv2 : vp_in (i + 2) (kS k).2.1) (hv3 : vp_in (i + 3) (kS k).2.1) (hv4 : vp_in (i + 4) (kS k).2.1) (hv5 : vp_in (i + 5) (kS k).2.1) (next : ∀ (ex : Bool) (I : Nat → Nat → Int32) (J : Nat → Nat → Int64) (w : Bool), S I J w → G k mL_law room_1 F nc ns 1562 [some (.ref (kS k).1), some (.ref (ka k 0)), some (.ref (ka k 65)), some (.ref (ka k 80)), some (.int i), none, none] [] (81, ex, I, J, Pw w)) : G k mL_law room_1 F nc ns 1404 [some (.ref (kS k).1), some (.ref (ka k 0)), some (.ref (ka k 65)), some (.ref (ka k 80)), some (.int i), none, none] [] (81, ex, I, J, Pw w) := by
  obtain ⟨hk1, hk2, heq, hS2⟩ := hst I J w  hS
  refine g_aload_n1 rfl d_L_law_1404 ?_
  refine g_callV1 (c_X10_day I w hk1) w_X10_day l_L_194 d_L_law_1405 rfl (Nat.le_of_ble_eq_true rfl) rfl rfl (Nat.le_of_ble_eq_true rfl) ⟨Nat.le_of_ble_eq_true rfl, Nat.le_of_ble_eq_true rfl⟩ ⟨hnc, hns⟩ ⟨rfl, rfl⟩ ?_
  refine g_aload_n2 rfl d_L_law_1408 ?_
  refine g_callV1 (c_X11_day (m_X10_day I w) hk2) w_X11_day l_L_197 d_L_law_1409 rfl (Nat.le_of_ble_eq_true rfl) rfl rfl (Nat.le_of_ble_eq_true rfl) ⟨Nat.le_of_ble_eq_true rfl, Nat.le_of_ble_eq_true rfl⟩ ⟨hnc, hns⟩ ⟨rfl, rfl⟩ ?_
  refine g_icmp_eq 1562 d_L_law_1412 (by decide) (fun _ => ?_) (fun h => absurd heq h)
  exact next _ _ _ _ hS2
def St_undo (S : RelT) : Prop := ∀ (I : Nat → Nat → Int32) (J : Nat → Nat → Int64) (w : Bool) , S I J w → ok_X10_undo I ∧ ok_X11_undo (m_X10_undo I) ∧ f_X10_undo I = f_X11_undo (m_X10_undo I) ∧ S (m_X11_undo (m_X10_undo I)) J w
set_option maxHeartbeats 800000 in
theorem lc_undo {k : KT} {ex : Bool} {I : Nat → Nat → Int32} {J : Nat → Nat → Int64} {w : Bool} {F : FinT} {nc ns : Nat} {i : Int32} {S : RelT} (hS : S I J w) (hst : St_undo S) (hnc : nc ≤ room_1.cells) (hns : ns ≤ room_1.slots) (hv1 : vp_in (i + 1) (kS k).2.1) (hv2 : vp_in (i + 2) (kS k).2.1) (hv3 : vp_in (i + 3) (kS k).2.1) (hv4 : vp_in (i + 4) (kS k).2.1) (hv5 : vp_in (i + 5) (kS k).2.1) (next : ∀ (ex : Bool) (I : Nat → Nat → Int32) (J : Nat → Nat → Int64) (w : Bool), S I J w → G k mL_law room_1 F nc ns 1562 [some (.ref (kS k).1), some (.ref (ka k 0)), some (.ref (ka k 65)), some (.ref (ka k 80)), some (.int i), none, none] [] (81, ex, I, J, Pw w)) : G k mL_law room_1 F nc ns 1417 [some (.ref (kS k).1), some (.ref (ka k 0)), some (.ref (ka k 65)), some (.ref (ka k 80)), some (.int i), none, none] [] (81, ex, I, J, Pw w) := by
  obtain ⟨hk1, hk2, heq, hS2⟩ := hst I J w  hS
  refine g_aload_n1 rfl d_L_law_1417 ?_
  refine g_callV1 (c_X10_undo I hk1) w_X10_undo l_L_198 d_L_law_1418 rfl (Nat.le_of_ble_eq_true rfl) rfl rfl (Nat.le_of_ble_eq_true rfl) ⟨Nat.le_of_ble_eq_true rfl, Nat.le_of_ble_eq_true rfl⟩ ⟨hnc, hns⟩ ⟨rfl, rfl⟩ ?_
  refine g_aload_n2 rfl d_L_law_1421 ?_
  refine g_callV1 (c_X11_undo (m_X10_undo I) hk2) w_X11_undo l_L_202 d_L_law_1422 rfl (Nat.le_of_ble_eq_true rfl) rfl rfl (Nat.le_of_ble_eq_true rfl) ⟨Nat.le_of_ble_eq_true rfl, Nat.le_of_ble_eq_true rfl⟩ ⟨hnc, hns⟩ ⟨rfl, rfl⟩ ?_
  refine g_icmp_eq 1562 d_L_law_1425 (by decide) (fun _ => ?_) (fun h => absurd (congrArg b2i heq) h)
  exact next _ _ _ _ hS2
def St_image (S : RelT) : Prop := ∀ (I : Nat → Nat → Int32) (J : Nat → Nat → Int64) (w : Bool) , S I J w → ok_X10_image I ∧ ok_X11_image (m_X10_image I) ∧ f_X10_image I = f_X11_image (m_X10_image I) ∧ S (m_X11_image (m_X10_image I)) J w
set_option maxHeartbeats 800000 in
theorem lc_image {k : KT} {ex : Bool} {I : Nat → Nat → Int32} {J : Nat → Nat → Int64} {w : Bool} {F : FinT} {nc ns : Nat} {i : Int32} {S : RelT} (hS : S I J w) (hst : St_image S) (hnc : nc ≤ room_1.cells) (hns : ns ≤ room_1.slots) (hv1 : vp_in (i + 1) (kS k).2.1) (hv2 : vp_in (i + 2) (kS k).2.1) (hv3 : vp_in (i + 3) (kS k).2.1) (hv4 : vp_in (i + 4) (kS k).2.1) (hv5 : vp_in (i + 5) (kS k).2.1) (next : ∀ (ex : Bool) (I : Nat → Nat → Int32) (J : Nat → Nat → Int64) (w : Bool), S I J w → G k mL_law room_1 F nc ns 1562 [some (.ref (kS k).1), some (.ref (ka k 0)), some (.ref (ka k 65)), some (.ref (ka k 80)), some (.int i), none, none] [] (81, ex, I, J, Pw w)) : G k mL_law room_1 F nc ns 1430 [some (.ref (kS k).1), some (.ref (ka k 0)), some (.ref (ka k 65)), some (.ref (ka k 80)), some (.int i), none, none] [] (81, ex, I, J, Pw w) := by
  obtain ⟨hk1, hk2, heq, hS2⟩ := hst I J w  hS
  refine g_aload_n1 rfl d_L_law_1430 ?_
  refine g_callV1 (c_X10_image I hk1) w_X10_image l_L_203 d_L_law_1431 rfl (Nat.le_of_ble_eq_true rfl) rfl rfl (Nat.le_of_ble_eq_true rfl) ⟨Nat.le_of_ble_eq_true rfl, Nat.le_of_ble_eq_true rfl⟩ ⟨hnc, hns⟩ ⟨rfl, rfl⟩ ?_
  refine g_aload_n2 rfl d_L_law_1434 ?_
  refine g_callV1 (c_X11_image (m_X10_image I) hk2) w_X11_image l_L_206 d_L_law_1435 rfl (Nat.le_of_ble_eq_true rfl) rfl rfl (Nat.le_of_ble_eq_true rfl) ⟨Nat.le_of_ble_eq_true rfl, Nat.le_of_ble_eq_true rfl⟩ ⟨hnc, hns⟩ ⟨rfl, rfl⟩ ?_
  refine g_icmp_eq 1562 d_L_law_1438 (by decide) (fun _ => ?_) (fun h => absurd heq h)
  exact next _ _ _ _ hS2
def St_back (S : RelT) : Prop := ∀ (I : Nat → Nat → Int32) (J : Nat → Nat → Int64) (w : Bool) (x1 : Int32), S I J w → ok_X10_back I x1 ∧ ok_X11_back (m_X10_back I x1) x1 ∧ f_X10_back I x1 = f_X11_back (m_X10_back I x1) x1 ∧ S (m_X11_back (m_X10_back I x1) x1) J w
set_option maxHeartbeats 800000 in
theorem lc_back {k : KT} {ex : Bool} {I : Nat → Nat → Int32} {J : Nat → Nat → Int64} {w : Bool} {F : FinT} {nc ns : Nat} {i : Int32} {S : RelT} (hS : S I J w) (hst : St_back S) (hnc : nc ≤ room_1.cells) (hns : ns ≤ room_1.slots) (hv1 : vp_in (i + 1) (kS k).2.1) (hv2 : vp_in (i + 2) (kS k).2.1) (hv3 : vp_in (i + 3) (kS k).2.1) (hv4 : vp_in (i + 4) (kS k).2.1) (hv5 : vp_in (i + 5) (kS k).2.1) (next : ∀ (ex : Bool) (I : Nat → Nat → Int32) (J : Nat → Nat → Int64) (w : Bool), S I J w → G k mL_law room_1 F nc ns 1562 [some (.ref (kS k).1), some (.ref (ka k 0)), some (.ref (ka k 65)), some (.ref (ka k 80)), some (.int i), none, none] [] (81, ex, I, J, Pw w)) : G k mL_law room_1 F nc ns 1443 [some (.ref (kS k).1), some (.ref (ka k 0)), some (.ref (ka k 65)), some (.ref (ka k 80)), some (.int i), none, none] [] (81, ex, I, J, Pw w) := by
  obtain ⟨hk1, hk2, heq, hS2⟩ := hst I J w ((kS k).2.2 (i + 1).toNatClampNeg) hS
  refine g_aload_n1 rfl d_L_law_1443 ?_
  refine g_aload_n0 rfl d_L_law_1444 ?_
  refine g_iload (i := 4) rfl d_L_law_1445 ?_
  refine g_iconst 1 d_L_law_1447 (by decide) ?_
  refine g_iadd d_L_law_1448 ?_
  refine g_sld hv1 d_L_law_1449 ?_
  refine g_callV1 (c_X10_back I ((kS k).2.2 (i + 1).toNatClampNeg) hk1) w_X10_back l_L_207 d_L_law_1450 rfl (Nat.le_of_ble_eq_true rfl) rfl rfl (Nat.le_of_ble_eq_true rfl) ⟨Nat.le_of_ble_eq_true rfl, Nat.le_of_ble_eq_true rfl⟩ ⟨hnc, hns⟩ ⟨rfl, rfl⟩ ?_
  refine g_aload_n2 rfl d_L_law_1453 ?_
  refine g_aload_n0 rfl d_L_law_1454 ?_
  refine g_iload (i := 4) rfl d_L_law_1455 ?_
  refine g_iconst 1 d_L_law_1457 (by decide) ?_
  refine g_iadd d_L_law_1458 ?_
  refine g_sld hv1 d_L_law_1459 ?_
  refine g_callV1 (c_X11_back (m_X10_back I ((kS k).2.2 (i + 1).toNatClampNeg)) ((kS k).2.2 (i + 1).toNatClampNeg) hk2) w_X11_back l_L_210 d_L_law_1460 rfl (Nat.le_of_ble_eq_true rfl) rfl rfl (Nat.le_of_ble_eq_true rfl) ⟨Nat.le_of_ble_eq_true rfl, Nat.le_of_ble_eq_true rfl⟩ ⟨hnc, hns⟩ ⟨rfl, rfl⟩ ?_
  refine g_icmp_eq 1562 d_L_law_1463 (by decide) (fun _ => ?_) (fun h => absurd (congrArg b2i heq) h)
  exact next _ _ _ _ hS2
def St_size (S : RelT) : Prop := ∀ (I : Nat → Nat → Int32) (J : Nat → Nat → Int64) (w : Bool) (x1 : Int32), S I J w → True ∧ ok_X11_size I x1 ∧ f_X10_size I w x1 = f_X11_size I x1 ∧ S (m_X11_size I x1) J w
set_option maxHeartbeats 800000 in
theorem lc_size {k : KT} {ex : Bool} {I : Nat → Nat → Int32} {J : Nat → Nat → Int64} {w : Bool} {F : FinT} {nc ns : Nat} {i : Int32} {S : RelT} (hS : S I J w) (hst : St_size S) (hnc : nc ≤ room_1.cells) (hns : ns ≤ room_1.slots) (hv1 : vp_in (i + 1) (kS k).2.1) (hv2 : vp_in (i + 2) (kS k).2.1) (hv3 : vp_in (i + 3) (kS k).2.1) (hv4 : vp_in (i + 4) (kS k).2.1) (hv5 : vp_in (i + 5) (kS k).2.1) (next : ∀ (ex : Bool) (I : Nat → Nat → Int32) (J : Nat → Nat → Int64) (w : Bool), S I J w → G k mL_law room_1 F nc ns 1562 [some (.ref (kS k).1), some (.ref (ka k 0)), some (.ref (ka k 65)), some (.ref (ka k 80)), some (.int i), none, none] [] (81, ex, I, J, Pw w)) : G k mL_law room_1 F nc ns 1524 [some (.ref (kS k).1), some (.ref (ka k 0)), some (.ref (ka k 65)), some (.ref (ka k 80)), some (.int i), none, none] [] (81, ex, I, J, Pw w) := by
  obtain ⟨hk1, hk2, heq, hS2⟩ := hst I J w ((kS k).2.2 (i + 1).toNatClampNeg) hS
  refine g_aload_n1 rfl d_L_law_1524 ?_
  refine g_aload_n0 rfl d_L_law_1525 ?_
  refine g_iload (i := 4) rfl d_L_law_1526 ?_
  refine g_iconst 1 d_L_law_1528 (by decide) ?_
  refine g_iadd d_L_law_1529 ?_
  refine g_sld hv1 d_L_law_1530 ?_
  refine g_callV1 (c_X10_size I w ((kS k).2.2 (i + 1).toNatClampNeg) ) w_X10_size l_L_220 d_L_law_1531 rfl (Nat.le_of_ble_eq_true rfl) rfl rfl (Nat.le_of_ble_eq_true rfl) ⟨Nat.le_of_ble_eq_true rfl, Nat.le_of_ble_eq_true rfl⟩ ⟨hnc, hns⟩ ⟨rfl, rfl⟩ ?_
  refine g_aload_n2 rfl d_L_law_1534 ?_
  refine g_aload_n0 rfl d_L_law_1535 ?_
  refine g_iload (i := 4) rfl d_L_law_1536 ?_
  refine g_iconst 1 d_L_law_1538 (by decide) ?_
  refine g_iadd d_L_law_1539 ?_
  refine g_sld hv1 d_L_law_1540 ?_
  refine g_callV1 (c_X11_size I ((kS k).2.2 (i + 1).toNatClampNeg) hk2) w_X11_size l_L_223 d_L_law_1541 rfl (Nat.le_of_ble_eq_true rfl) rfl rfl (Nat.le_of_ble_eq_true rfl) ⟨Nat.le_of_ble_eq_true rfl, Nat.le_of_ble_eq_true rfl⟩ ⟨hnc, hns⟩ ⟨rfl, rfl⟩ ?_
  refine g_icmp_eq 1562 d_L_law_1544 (by decide) (fun _ => ?_) (fun h => absurd heq h)
  exact next _ _ _ _ hS2
def St_trouble (S : RelT) : Prop := ∀ (I : Nat → Nat → Int32) (J : Nat → Nat → Int64) (w : Bool) , S I J w → True ∧ True ∧ f_X10_trouble I = f_X11_trouble I ∧ S (m_X11_trouble I) J w
set_option maxHeartbeats 800000 in
theorem lc_trouble {k : KT} {ex : Bool} {I : Nat → Nat → Int32} {J : Nat → Nat → Int64} {w : Bool} {F : FinT} {nc ns : Nat} {i : Int32} {S : RelT} (hS : S I J w) (hst : St_trouble S) (hnc : nc ≤ room_1.cells) (hns : ns ≤ room_1.slots) (hv1 : vp_in (i + 1) (kS k).2.1) (hv2 : vp_in (i + 2) (kS k).2.1) (hv3 : vp_in (i + 3) (kS k).2.1) (hv4 : vp_in (i + 4) (kS k).2.1) (hv5 : vp_in (i + 5) (kS k).2.1) (next : ∀ (ex : Bool) (I : Nat → Nat → Int32) (J : Nat → Nat → Int64) (w : Bool), S I J w → G k mL_law room_1 F nc ns 1562 [some (.ref (kS k).1), some (.ref (ka k 0)), some (.ref (ka k 65)), some (.ref (ka k 80)), some (.int i), none, none] [] (81, ex, I, J, Pw w)) : G k mL_law room_1 F nc ns 1549 [some (.ref (kS k).1), some (.ref (ka k 0)), some (.ref (ka k 65)), some (.ref (ka k 80)), some (.int i), none, none] [] (81, ex, I, J, Pw w) := by
  obtain ⟨hk1, hk2, heq, hS2⟩ := hst I J w  hS
  refine g_aload_n1 rfl d_L_law_1549 ?_
  refine g_callV1 (c_X10_trouble I ) w_X10_trouble l_L_224 d_L_law_1550 rfl (Nat.le_of_ble_eq_true rfl) rfl rfl (Nat.le_of_ble_eq_true rfl) ⟨Nat.le_of_ble_eq_true rfl, Nat.le_of_ble_eq_true rfl⟩ ⟨hnc, hns⟩ ⟨rfl, rfl⟩ ?_
  refine g_aload_n2 rfl d_L_law_1553 ?_
  refine g_callV1 (c_X11_trouble I ) w_X11_trouble l_L_227 d_L_law_1554 rfl (Nat.le_of_ble_eq_true rfl) rfl rfl (Nat.le_of_ble_eq_true rfl) ⟨Nat.le_of_ble_eq_true rfl, Nat.le_of_ble_eq_true rfl⟩ ⟨hnc, hns⟩ ⟨rfl, rfl⟩ ?_
  refine g_icmp_eq 1562 d_L_law_1557 (by decide) (fun _ => ?_) (fun h => absurd heq h)
  exact next _ _ _ _ hS2
