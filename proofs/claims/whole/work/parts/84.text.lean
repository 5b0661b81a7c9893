/-! ===== the text, from its beginning ===== -/
theorem st2_ev (I : Mm) (a j : Nat) (v : Int32) (b k : Nat) : st2 I a j v b k = if b = a then (if k = j then v else I b k) else I b k := by
  by_cases e : b = a
  · rw [if_pos e, e]
    by_cases q : k = j
    · rw [if_pos q, q, st2_s]
    · rw [if_neg q, st2_o _ _ _ q]
  · rw [if_neg e, st2_a _ _ e]
theorem clr_lp (x : Int32) : ∀ (c i : Nat) (K : Mm), i + c = 224 → (lp_X11_chalet_39 x (c + 1) (nI i) K).2 = va_up K 69 (fun j => if i ≤ j ∧ j < 224 then 0 else K 69 j) ∧ oklp_X11_chalet_39 x (c + 1) (nI i) K := by
  intro c
  induction c with
  | zero =>
    intro i K hi
    have z : (224 : Int32) ≤ nI i := nI_le (a := 224) (by omega) (by omega)
    rw [lp_X11_chalet_39, oklp_X11_chalet_39, if_pos z, if_pos z]
    refine ⟨?_, True.intro⟩
    have e : (fun j => if i ≤ j ∧ j < 224 then (0 : Int32) else K 69 j) = K 69 := funext fun j => if_neg (by omega)
    rw [e, vu_same]
  | succ c ih =>
    intro i K hi
    have z : ¬ (224 : Int32) ≤ nI i := nI_ge (b := 224) (by omega) (by omega)
    rw [lp_X11_chalet_39, oklp_X11_chalet_39, if_neg z, if_neg z, nI_clamp (by omega), nI_1]
    have kk := ih (i + 1) (va_up K 69 (upd (K 69) i 0)) (by omega)
    refine ⟨?_, vp_in_nI (by rw [sz_69]; omega) (by rw [sz_69]; omega), kk.2⟩
    rw [kk.1, vu_vu, vu_s]
    congr 1
    funext j
    by_cases q : j = i
    · rw [q, if_neg (by omega), if_pos (by omega), pk_us]
    · rw [upd_sl _ _ _ _ q]
      by_cases q2 : i ≤ j ∧ j < 224
      · rw [if_pos (by omega), if_pos q2]
      · rw [if_neg (by omega), if_neg q2]
theorem tsz {t : Nat} (h : t = 3 ∨ t = 14) : (sz (rt (t + 1) 2) = 4 * 3 ∧ rt (t + 1) 2 = t + 1 + 1) ∧ (sz (rt (t + 3) 2) = 6 * 3 ∧ rt (t + 3) 2 = t + 3 + 1) ∧ (sz (rt (t + 5) 2) = 5 * 2 ∧ rt (t + 5) 2 = t + 5 + 1) ∧ (sz (rt (t + 7) 2) = 9 * 3 ∧ rt (t + 7) 2 = t + 7 + 1) := by
  rcases h with rfl | rfl <;> decide +kernel
theorem ls_start {B : Mm} {r : Vc} {t : Nat} (J : Nat → Nat → Int64) (ht : t = 3 ∨ t = 14) (hz : ∀ j, j < 224 → j ≠ 3 → j ≠ 4 → r j = 0) (h3 : r 3 = 10) (h4 : r 4 = 10) (b0 : B t 0 = 0 ∧ B t 1 = 0 ∧ B t 2 = 0 ∧ B t 3 = 0 ∧ B t 4 = 10 ∧ B t 5 = 10 ∧ B t 6 = 0) (hd : DR B t) (hc : B (t + 1) 3 = 0 ∧ B (t + 3) 3 = 0 ∧ B (t + 5) 3 = 0 ∧ B (t + 7) 3 = 0) (b14 : B 2 14 = 0) (b10 : B 2 10 = 0) : LSt B J r t 0 := by
  have z : ∀ j, j < 224 → j ≠ 3 → j ≠ 4 → (r j).toNatClampNeg = 0 := fun j x y u => by rw [hz j x y u]; rfl
  have e5 := z 5 (by omega) (by omega) (by omega)
  have e6 := z 6 (by omega) (by omega) (by omega)
  have e7 := z 7 (by omega) (by omega) (by omega)
  have e8 := z 8 (by omega) (by omega) (by omega)
  have e9 := z 9 (by omega) (by omega) (by omega)
  have bz : ∀ j, j < 224 → j ≠ 3 → j ≠ 4 → ∀ hi : Nat, hi < 2 ^ 31 → bw (r j) 0 hi := fun j x y u hi hh => by
    rw [hz j x y u]
    exact bw_of (n := 0) (lo := 0) (hi := hi) (by omega) (by omega) hh
  have ts := tsz ht
  obtain ⟨d1, d2, d3, d4, d5, d6, d7, d8⟩ := hd
  refine ⟨⟨bz 0 (by omega) (by omega) (by omega) 9 (by omega), bz 1 (by omega) (by omega) (by omega) 3 (by omega), bz 2 (by omega) (by omega) (by omega) 100 (by omega), by rw [h3]; exact bw_of (n := 10) (lo := 0) (hi := 30) (by omega) (by omega) (by omega), by rw [h4]; exact bw_of (n := 10) (lo := 0) (hi := 30) (by omega) (by omega) (by omega), bz 5 (by omega) (by omega) (by omega) 4 (by omega), bz 6 (by omega) (by omega) (by omega) 6 (by omega), bz 7 (by omega) (by omega) (by omega) 5 (by omega), bz 8 (by omega) (by omega) (by omega) 6 (by omega), bz 9 (by omega) (by omega) (by omega) 9 (by omega), bz 10 (by omega) (by omega) (by omega) 100 (by omega), ?_, ?_, ?_, ?_⟩, ⟨ht, by rw [b0.1, hz 10 (by omega) (by omega) (by omega)], by rw [b0.2.1, hz 0 (by omega) (by omega) (by omega)], by rw [b0.2.2.1, hz 1 (by omega) (by omega) (by omega)], by rw [b0.2.2.2.1, hz 2 (by omega) (by omega) (by omega)], by rw [b0.2.2.2.2.1, h3], by rw [b0.2.2.2.2.2.1, h4], by rw [b0.2.2.2.2.2.2, hz 8 (by omega) (by omega) (by omega)], ?_, ?_, ?_, ?_⟩, ⟨by omega, b14, ?_, ?_, ?_, ?_⟩, ⟨?_, ?_⟩, ?_, ?_, ?_⟩
  · intro k hk; rw [e5] at hk; omega
  · intro k hk; rw [e6] at hk; omega
  · intro k hk; rw [e7] at hk; omega
  · intro k hk; rw [e9] at hk; omega
  · rw [e5]; exact ⟨d1, d2, hc.1, by omega, ts.1.1, ts.1.2, fun j hj => by omega⟩
  · rw [e6]; exact ⟨d3, d4, hc.2.1, by omega, ts.2.1.1, ts.2.1.2, fun j hj => by omega⟩
  · rw [e7]; exact ⟨d5, d6, hc.2.2.1, by omega, ts.2.2.1.1, ts.2.2.1.2, fun j hj => by omega⟩
  · rw [e9]; exact ⟨d7, d8, hc.2.2.2, by omega, ts.2.2.2.1, ts.2.2.2.2, fun j hj => by omega⟩
  · intro n hn
    exact ⟨0, by omega, by rw [hz (80 + n) (by omega) (by omega) (by omega)]; rfl, fun i hi => by omega⟩
  · intro i hi; omega
  · intro n hn q
    exact absurd (hz (80 + n) (by omega) (by omega) (by omega)) q
  · intro n m hn hm q
    exact absurd (hz (80 + n) (by omega) (by omega) (by omega)) q
  · rw [e8, e5, e6]
  · intro n hn _
    exact hz (80 + n) (by omega) (by omega) (by omega)
  · rw [b10, hz 12 (by omega) (by omega) (by omega)]
  · exact Or.inl (hz 12 (by omega) (by omega) (by omega))
  · exact Or.inl (hz 11 (by omega) (by omega) (by omega))
theorem ah_start {B Z : Mm} {N : Nat} (ht : Tx B Z N) (b0 : B 2 0 = 0) (z9 : Z 65 9 = 0) (z13 : Z 65 13 = 0) (b5 : B 2 5 = nI 0) (z5 : Z 65 5 = nI 0) : Ah B (m_X11_next Z) N 0 ∧ ok_X11_next Z ∧ Fk krm Z (m_X11_next Z) := by
  have mt := mt_model ht.1 (Nat.zero_le N) ht.2.2.1 z5 (fun i hi => by rw [(ht.2.2.2 i hi).2]; exact (byte_all (ht.2.2.2 i hi).1).2.2.2.2.1)
  have fr := km_mt mt.1
  have e66 : m_X11_next Z 66 = Z 66 := funext fun j => fr 66 j rfl
  have e13 : m_X11_next Z 65 13 = 0 := by rw [mt.1.2.1 65 13 (by omega)]; exact z13
  exact ⟨⟨⟨ht.mo (fr 65 3 rfl) e66, b0, by rw [mt.1.2.1 65 9 (by omega)]; exact z9⟩, e13, Nat.zero_le N, b5, Z, ht.2.2.1, e66.symm, z5, fun _ _ _ => rfl, rfl⟩, mt.2, fr⟩
theorem beg_st (I : Mm) (v : Int32) : st2 (st2 I 2 4 v) 0 1 0 = st2 (st2 I 0 1 0) 2 4 v := by
  funext a j
  by_cases h0 : a = 0
  · subst h0; simp [st2, va_up]
  · by_cases h2 : a = 2
    · subst h2; simp [st2, va_up]
    · simp [st2, va_up, h0, h2]
theorem beg_cells (I : Mm) (w : Bool) {N : Nat} (hN : N ≤ 900) : (∀ a, a ≠ 0 → a ≠ 2 → (a < dr w ∨ dr w + 8 < a) → m_X6_begin I w (nI N) a = I a) ∧ (∀ j, j ≠ 1 → m_X6_begin I w (nI N) 0 j = I 0 j) ∧ m_X6_begin I w (nI N) 0 1 = 0 ∧ m_X6_begin I w (nI N) 2 4 = nI N ∧ m_X6_begin I w (nI N) 2 5 = 0 ∧ m_X6_begin I w (nI N) 2 0 = 0 ∧ m_X6_begin I w (nI N) 2 10 = 0 ∧ m_X6_begin I w (nI N) 2 14 = 0 ∧ (m_X6_begin I w (nI N) (dr w) 0 = 0 ∧ m_X6_begin I w (nI N) (dr w) 1 = 0 ∧ m_X6_begin I w (nI N) (dr w) 2 = 0 ∧ m_X6_begin I w (nI N) (dr w) 3 = 0 ∧ m_X6_begin I w (nI N) (dr w) 4 = 10 ∧ m_X6_begin I w (nI N) (dr w) 5 = 10 ∧ m_X6_begin I w (nI N) (dr w) 6 = 0) ∧ (m_X6_begin I w (nI N) (dr w + 1) 3 = 0 ∧ m_X6_begin I w (nI N) (dr w + 3) 3 = 0 ∧ m_X6_begin I w (nI N) (dr w + 5) 3 = 0 ∧ m_X6_begin I w (nI N) (dr w + 7) 3 = 0) ∧ (∀ j, j ≤ 1 → m_X6_begin I w (nI N) (dr w + 1) j = I (dr w + 1) j ∧ m_X6_begin I w (nI N) (dr w + 3) j = I (dr w + 3) j ∧ m_X6_begin I w (nI N) (dr w + 5) j = I (dr w + 5) j ∧ m_X6_begin I w (nI N) (dr w + 7) j = I (dr w + 7) j) := by
  have em : imin (nI N) (Int32.ofNat (sz 1)) = nI N := by
    unfold imin
    rw [sz_1]
    exact if_neg (nI_nlt (a := 900) hN (by omega))
  have ht := dr_or w
  rw [m_X6_begin, opv_eq, u0_X6_begin, opv_eq, beg_st I, m_X8_clear, opv_eq, em, rt_7 ht, rt_8 ht, rt_9 ht, rt_10 ht]
  rcases ht with q | q
  · rw [q]
    refine ⟨fun a h0 h2 h => ?_, fun j hj => ?_, ?_, ?_, ?_, ?_, ?_, ?_, ⟨?_, ?_, ?_, ?_, ?_, ?_, ?_⟩, ⟨?_, ?_, ?_, ?_⟩, fun j hj => ?_⟩
    · repeat rw [st2_orow _ _ _ (by omega)]
    · simp [st2_ev, hj]
    · simp [st2_ev]
    · simp [st2_ev]
    · simp [st2_ev]
    · simp [st2_ev]
    · simp [st2_ev]
    · simp [st2_ev]
    · simp [st2_ev]
    · simp [st2_ev]
    · simp [st2_ev]
    · simp [st2_ev]
    · simp [st2_ev]
    · simp [st2_ev]
    · simp [st2_ev]
    · simp [st2_ev]
    · simp [st2_ev]
    · simp [st2_ev]
    · simp [st2_ev]
    · have h3 : j ≠ 3 := by omega
      simp [st2_ev, h3]
  · rw [q]
    refine ⟨fun a h0 h2 h => ?_, fun j hj => ?_, ?_, ?_, ?_, ?_, ?_, ?_, ⟨?_, ?_, ?_, ?_, ?_, ?_, ?_⟩, ⟨?_, ?_, ?_, ?_⟩, fun j hj => ?_⟩
    · repeat rw [st2_orow _ _ _ (by omega)]
    · simp [st2_ev, hj]
    · simp [st2_ev]
    · simp [st2_ev]
    · simp [st2_ev]
    · simp [st2_ev]
    · simp [st2_ev]
    · simp [st2_ev]
    · simp [st2_ev]
    · simp [st2_ev]
    · simp [st2_ev]
    · simp [st2_ev]
    · simp [st2_ev]
    · simp [st2_ev]
    · simp [st2_ev]
    · simp [st2_ev]
    · simp [st2_ev]
    · simp [st2_ev]
    · simp [st2_ev]
    · have h3 : j ≠ 3 := by omega
      simp [st2_ev, h3]
def kmz (a j : Nat) : Bool := kml a j && !(a == 65 && (j == 0 || j == 2 || j == 3 || j == 11))
theorem rl_run {I D : Mm} {w : Bool} {N : Nat} (h : Core I w) (hN : N ≤ (I 0 1).toNatClampNeg) (hD : ∀ a, 65 ≤ a → D a = I a) (J : Nat → Nat → Int64) : ok_X6_readLines (m_X6_begin I w (nI N)) J w ∧ (oklp_X11_chalet_39 (nI N) (mu_up 224 0 + 1) 0 (st2 (st2 (st2 (m_X11_good D) 65 2 0) 65 9 0) 65 13 0) ∧ ok_X11_next (st2 (st2 (st2 (st2 ((lp_X11_chalet_39 (nI N) (mu_up 224 0 + 1) 0 (st2 (st2 (st2 (m_X11_good D) 65 2 0) 65 9 0) 65 13 0)).2) 69 3 10) 69 4 10) 65 3 (nI N)) 65 5 0) ∧ ok_X11_readLine (u0_X11_chalet D (nI N)) ∧ oklp_X11_chalet_93 (nI N) ((lp_X11_chalet_39 (nI N) (mu_up 224 0 + 1) 0 (st2 (st2 (st2 (m_X11_good D) 65 2 0) 65 9 0) 65 13 0)).1) (opq 2000) (m_X11_readLine (u0_X11_chalet D (nI N)))) ∧ Co (dr w) (m_X6_begin I w (nI N)) (m_X6_readLines (m_X6_begin I w (nI N)) J w) ∧ Fk kmz D (u2_X11_chalet D (nI N)) ∧ (u2_X11_chalet D (nI N) 65 2 = 0 ∧ u2_X11_chalet D (nI N) 65 11 = 0) ∧ ((f_X6_readLines (m_X6_begin I w (nI N)) J w = true ∧ u2_X11_chalet D (nI N) 65 13 = 0 ∧ (∃ k', LSt (m_X6_readLines (m_X6_begin I w (nI N)) J w) (j_X6_readLines (m_X6_begin I w (nI N)) J w) (u2_X11_chalet D (nI N) 69) (dr w) k') ∧ u2_X11_chalet D (nI N) 69 11 = 1 ∧ m_X6_readLines (m_X6_begin I w (nI N)) J w 2 0 = 0 ∧ u2_X11_chalet D (nI N) 65 9 = 0) ∨ (f_X6_readLines (m_X6_begin I w (nI N)) J w = false ∧ Fl (m_X6_readLines (m_X6_begin I w (nI N)) J w) (u2_X11_chalet D (nI N)))) := by
  have ht := dr_or w
  have hTP := h.2.2.2.2.1
  have L0 := (bw_nI (hi := 900) hTP.2.1).2
  have hDR := h.2.2.1
  obtain ⟨c1, c2, c3, c4, c5, c6, c7, c8, c9, c10, c11⟩ := beg_cells I w (N := N) (by omega)
  have mu : mu_up 224 0 + 1 = 224 + 1 := by rw [show mu_up 224 0 = mu_up (nI 224) (nI 0) from rfl, mu_up_nI (by omega) (by omega)]
  have cl := clr_lp (nI N) 224 0 (st2 (st2 (st2 (m_X11_good D) 65 2 0) 65 9 0) 65 13 0) (by omega)
  rw [nI_0] at cl
  rw [ok_X6_readLines, f_X6_readLines, m_X6_readLines, j_X6_readLines, opv_eq, opv_eq, opv_eq, opv_eq, u2_X11_chalet, opv_eq, u1_X11_chalet, opv_eq, u0_X11_chalet, opv_eq, mu, cl.1]
  obtain ⟨K, eK⟩ : ∃ X, X = st2 (st2 (st2 (m_X11_good D) 65 2 0) 65 9 0) 65 13 0 := ⟨_, rfl⟩
  rw [← eK] at cl ⊢
  obtain ⟨Z, eZ⟩ : ∃ X, X = st2 (st2 (st2 (st2 (va_up K 69 (fun j => if 0 ≤ j ∧ j < 224 then 0 else K 69 j)) 69 3 10) 69 4 10) 65 3 (nI N)) 65 5 0 := ⟨_, rfl⟩
  rw [← eZ]
  have eg : m_X11_good D = st2 (st2 D 65 0 0) 65 11 0 := by rw [m_X11_good, opv_eq]
  have Kr : ∀ a, a ≠ 65 → K a = D a := fun a ha => by rw [eK, st2_orow _ _ _ ha, st2_orow _ _ _ ha, st2_orow _ _ _ ha, eg, st2_orow _ _ _ ha, st2_orow _ _ _ ha]
  have Zr : ∀ a, a ≠ 65 → a ≠ 69 → Z a = D a := fun a ha hb => by rw [eZ, st2_orow _ _ _ ha, st2_orow _ _ _ ha, st2_orow _ _ _ hb, st2_orow _ _ _ hb, vu_o _ _ hb, Kr a ha]
  have Z65 : ∀ j, Z 65 j = if j = 5 then 0 else if j = 3 then nI N else if j = 13 then 0 else if j = 9 then 0 else if j = 2 then 0 else if j = 11 then 0 else if j = 0 then 0 else D 65 j := by
    intro j
    have v : va_up K 69 (fun j => if 0 ≤ j ∧ j < 224 then 0 else K 69 j) 65 j = K 65 j := by rw [vu_o _ _ (by omega)]
    rw [eZ, st2_ev, if_pos rfl, st2_ev, if_pos rfl, st2_a _ _ (by omega), st2_a _ _ (by omega), v, eK, st2_ev, if_pos rfl, st2_ev, if_pos rfl, st2_ev, if_pos rfl, eg, st2_ev, if_pos rfl, st2_ev, if_pos rfl]
  have Z69 : Z 69 = upd (upd (fun j => if 0 ≤ j ∧ j < 224 then 0 else K 69 j) 3 10) 4 10 := by
    rw [eZ, st2_orow _ _ _ (by omega), st2_orow _ _ _ (by omega), st2_row, st2_row, vu_s]
  obtain ⟨B, eB⟩ : ∃ X, X = m_X6_begin I w (nI N) := ⟨_, rfl⟩
  rw [← eB] at c1 c2 c3 c4 c5 c6 c7 c8 c9 c10 c11 ⊢
  have tx : Tx B Z N := by
    refine ⟨by omega, c4, by rw [Z65]; rfl, fun i hi => ?_⟩
    rw [c1 1 (by omega) (by omega) (by omega), Zr 66 (by omega) (by omega), hD 66 (by omega)]
    exact hTP.2.2 i (by omega)
  have as := ah_start tx c6 (by rw [Z65]; rfl) (by rw [Z65]; rfl) c5 (by rw [Z65]; rfl)
  have n69 : m_X11_next Z 69 = Z 69 := krm_row as.2.2 (by omega) (by omega)
  have zz : ∀ j, j < 224 → j ≠ 3 → j ≠ 4 → m_X11_next Z 69 j = 0 := fun j x y u => by
    rw [n69, Z69, upd_sl _ _ _ _ u, upd_sl _ _ _ _ y, if_pos (by omega)]
  have lst : LSt B J (m_X11_next Z 69) (dr w) 0 := by
    refine ls_start J ht zz (by rw [n69, Z69, upd_sl _ _ _ _ (by omega), pk_us]) (by rw [n69, Z69, pk_us]) c9 ?_ c10 c8 c7
    obtain ⟨d1, d2, d3, d4, d5, d6, d7, d8⟩ := hDR
    have y0 := c11 0 (by omega)
    have y1 := c11 1 (by omega)
    exact ⟨by rw [y0.1]; exact d1, by rw [y1.1]; exact d2, by rw [y0.2.1]; exact d3, by rw [y1.2.1]; exact d4, by rw [y0.2.2.1]; exact d5, by rw [y1.2.2.1]; exact d6, by rw [y0.2.2.2]; exact d7, by rw [y1.2.2.2]; exact d8⟩
  have rl := rl_loop (w := w) (u := nI N) (v := (lp_X11_chalet_39 (nI N) (224 + 1) 0 K).1) (N := N) 901 0 (mu_le 900 0 + 1) (opq 2000) B J (m_X11_next Z) 0 0 (by omega) (by rw [show mu_le 900 0 = mu_le (nI 900) (nI 0) from rfl, mu_le_nI (by omega) (by omega)]; omega) (by rw [opq_eq]; omega) (by omega) as.1 lst (Or.inl ⟨rfl, zz 11 (by omega) (by omega) (by omega), zz 5 (by omega) (by omega) (by omega), zz 6 (by omega) (by omega) (by omega), zz 7 (by omega) (by omega) (by omega), zz 8 (by omega) (by omega) (by omega), zz 9 (by omega) (by omega) (by omega)⟩)
  rw [nI_0] at rl
  have ff : ∀ X : Mm, (if X 65 13 = 0 then (if X 65 6 = 0 then X else m_X11_wrong X 1 (X 65 4)) else X) = fin1 X := fun X => rfl
  rw [ff]
  obtain ⟨r1, r2, r3, r4, r5, r6⟩ := rl
  refine ⟨r1, ⟨cl.2, as.2.1, r2, r3⟩, r4, ?_, ⟨?_, ?_⟩, r6⟩
  · intro a j hk
    simp only [kmz, Bool.and_eq_true] at hk
    have k2 := hk.2
    have fz := (as.2.2.ml.trans r5) a j hk.1
    rw [fz]
    by_cases e : a = 65
    · subst e
      rw [Z65]
      have hk1 := hk.1
      simp [kml, krm] at hk1 k2
      rw [if_neg (by omega), if_neg (by omega), if_neg (by omega), if_neg (by omega), if_neg (by omega), if_neg (by omega), if_neg (by omega)]
    · have e9 : a ≠ 69 := by
        intro e9
        subst e9
        simp [kml] at hk
      rw [Zr a e e9]
  · rw [(as.2.2.ml.trans r5) 65 2 rfl, Z65]; rfl
  · rw [(as.2.2.ml.trans r5) 65 11 rfl, Z65]; rfl
