set_option maxHeartbeats 1000000 in
set_option maxRecDepth 8000 in
/-- the law from its entry, over a relation that holds at the start and that every call keeps -/
theorem law_g0 {k : KT} {S : RelT} (hA : AllSt S) (hled : LedOK S) (h0 : S I_0 J_0 false) (hst : (kL k).stackTraces = false) (hL : (kS k).2.1 ≤ 3072) : G k mL_law room_1 (FinL k) 0 0 0 [some (.ref (kS k).1), none, none, none, none, none, none] [] (0, true, fun _ _ => 0, fun _ _ => 0, fun _ _ => none) := by
  refine g_new (v := 0) (ci := 9) (C := RX10) (T := TX10) (n := 12) rfl tyX10 tyX10_ok inX10 rfl (in1 23 (by decide +kernel) rfl) (in1 24 (by decide +kernel) rfl) (in1 1 (by decide +kernel) rfl) def_X10 rfl d_L_law_0 (Nat.le_of_ble_eq_true rfl) (Nat.le_of_ble_eq_true rfl) ?_
  refine g_dup rfl d_L_law_3 ?_
  refine g_callI0 (n_x _ _ _) rfl w_X10_init l_L_15 d_L_law_4 rfl rfl (Nat.le_of_ble_eq_true rfl) ⟨(Nat.le_of_ble_eq_true rfl), (Nat.le_of_ble_eq_true rfl)⟩ ⟨(Nat.le_of_ble_eq_true rfl), (Nat.le_of_ble_eq_true rfl)⟩ (fun _ => ⟨rfl, rfl⟩) ?_
  refine g_asn1 rfl d_L_law_7 ?_
  refine g_new (v := 65) (ci := 10) (C := RX11) (T := TX11) (n := 40) rfl tyX11 tyX11_ok inX11 rfl (in5 223 (by decide +kernel) rfl) (in5 224 (by decide +kernel) rfl) (in1 11 (by decide +kernel) rfl) def_X11 rfl d_L_law_8 (Nat.le_of_ble_eq_true rfl) (Nat.le_of_ble_eq_true rfl) ?_
  refine g_dup rfl d_L_law_11 ?_
  refine g_callI0 (n_m _ _ _) rfl w_X11_init l_L_18 d_L_law_12 rfl rfl (Nat.le_of_ble_eq_true rfl) ⟨(Nat.le_of_ble_eq_true rfl), (Nat.le_of_ble_eq_true rfl)⟩ ⟨(Nat.le_of_ble_eq_true rfl), (Nat.le_of_ble_eq_true rfl)⟩ (fun _ => ⟨rfl, rfl⟩) ?_
  refine g_asn2 rfl d_L_law_15 ?_
  refine g_iconst 1 d_L_law_16 (by decide) ?_
  refine g_newa_j (v := 80) (L := 1) rfl (in1 189 (by decide +kernel) rfl) rfl (by decide +kernel) (by decide +kernel) (by decide +kernel) (by decide) d_L_law_17 (Nat.le_of_ble_eq_true rfl) (Nat.le_of_ble_eq_true rfl) ?_
  refine g_asn3 rfl d_L_law_19 ?_
  refine g_iconst 0 d_L_law_20 (by decide) ?_
  refine g_is4 rfl d_L_law_21 ?_
  refine G.ref (P' := Pw false) (by decide) P_0_ok ?_
  exact law_loop hA hled hst hL 514 0 _ _ true I_0 J_0 false (by decide) (Nat.le_of_ble_eq_true rfl) (Nat.le_of_ble_eq_true rfl) h0
/-- whole_start, but for the pure part and led -/
theorem whole_of {S : RelT} (hA : AllSt S) (hled : LedOK S) (h0 : S I_0 J_0 false) {p : Program} {e : Env} {s : State} {m : MethodId} {below : List Frame} {meth : Method} {c : Code} (l : Launch) {b L : Nat} {xs : Nat → Int32} (hL : L ≤ 3072) (C0 : lw_At p s m meth c b L xs) (hnm : meth.name = "law") (hst : l.stackTraces = false) : W p l e room_1 s m #[Value.ref b] below meth c s.heap [] 0 0 (lw_Z below #[Value.ref b] s) (entryFrame m ([Value.ref b] : List Value).toArray 7) := by
  obtain ⟨k, rfl, hB, hSk, hE⟩ := env_of l C0
  obtain ⟨hx, hb, hr, hml, hown, hts, hX, hbl, hlocks, hgv⟩ := C0
  have e1 : (kS k).1 = b := by rw [hSk]
  have e2 : (kS k).2.1 = L := by rw [hSk]
  have hl := lv_entry ([.ref b]) (n := 7) (Nat.le_of_ble_eq_true rfl)
  rw [lg_entry_eq]
  have hg := law_g0 (k := k) hA hled h0 hst (by rw [e2]; exact hL)
  rw [e1] at hg
  have key := hg p e s m #[Value.ref b] below meth c s.heap [] _ ⟨hx, hb, hml, hown, fun w hw => hts w (big_lw hw), hr, hlocks, hnm, hE⟩ va_S.rf ⟨fun i q hq => by simp [wl] at hq, by show kB k + 0 ≤ _; rw [hB]; exact Nat.le_refl _⟩ (fun _ => by show _ = kB k + 0; rw [hB]) ⟨hl, rfl⟩
  intro T hT X
  obtain ⟨t, a1, b1⟩ := key T hT X
  exact ⟨t, a1, b1 (by rw [hB]; exact Nat.le_refl _) (by rw [e1])⟩
