/-! ===== rows that grow ===== -/
def US (r : Vc) (k : Nat) : Prop := k = (r 8).toNatClampNeg + (r 5).toNatClampNeg + (r 6).toNatClampNeg ∧ ∀ n, n < 16 → ¬ (n < (r 8).toNatClampNeg ∨ (6 ≤ n ∧ n < 6 + (r 5).toNatClampNeg) ∨ (10 ≤ n ∧ n < 10 + (r 6).toNatClampNeg)) → r (80 + n) = 0
/-- between two lines: the draft as both hold it -/
def LSt (I : Mm) (J : Nat → Nat → Int64) (r : Vc) (t k : Nat) : Prop := RB r ∧ TR I r t ∧ NM I J r k ∧ US r k ∧ I 2 10 = r 12 ∧ (r 12 = 0 ∨ r 12 = 1) ∧ (r 11 = 0 ∨ r 11 = 1)
/-- what a line leaves alone in the class -/
def Co (t : Nat) (I I' : Mm) : Prop := (∀ a, a ≠ 2 → a ≠ 13 → (a < t ∨ t + 8 < a) → I' a = I a) ∧ (∀ c j, 3 ≤ c → c ≠ 13 → (c = t + 1 ∨ c = t + 3 ∨ c = t + 5 ∨ c = t + 7) → j ≤ 1 → I' c j = I c j)
theorem Co.refl (t : Nat) (I : Mm) : Co t I I := ⟨fun _ _ _ _ => rfl, fun _ _ _ _ _ _ => rfl⟩
theorem Co.trans {t : Nat} {I I1 I2 : Mm} (h : Co t I I1) (h' : Co t I1 I2) : Co t I I2 := ⟨fun a x y z => (h'.1 a x y z).trans (h.1 a x y z), fun c j x y z u => (h'.2 c j x y z u).trans (h.2 c j x y z u)⟩
theorem Co.cr {t : Nat} {I I' : Mm} (h : Fk krc I I') : Co t I I' := ⟨fun a h2 _ _ => krc_row h h2, fun c j h3 _ _ _ => by rw [krc_row h (show c ≠ 2 by omega)]⟩
theorem krn_row {I I' : Mm} (h : Fk krn I I') {a : Nat} (h2 : a ≠ 2) (h13 : a ≠ 13) : I' a = I a := funext fun j => h a j (by unfold krn krc; simp [h2, h13])
theorem Co.cn {t : Nat} {I I' : Mm} (h : Fk krn I I') : Co t I I' := ⟨fun a h2 h13 _ => krn_row h h2 h13, fun c j h3 h13 _ _ => by rw [krn_row h (show c ≠ 2 by omega) h13]⟩
theorem Co.st {t a i : Nat} {I I' : Mm} {v : Int32} (h : Co t I I') (h1 : t ≤ a) (h2 : a ≤ t + 8) (hi : 2 ≤ i) : Co t I (st2 I' a i v) := by
  refine ⟨fun b x y z => ?_, fun c j x y z u => ?_⟩
  · rw [st2_orow _ _ _ (show b ≠ a by omega)]
    exact h.1 b x y z
  · by_cases e : c = a
    · rw [← e, st2_o _ _ _ (show j ≠ i by omega)]
      exact h.2 c j x y z u
    · rw [st2_a _ _ e]
      exact h.2 c j x y z u
/-- in a line: row x is f, all else of the draft as it was -/
def MS (I I' : Mm) (J' : Nat → Nat → Int64) (r : Vc) (x k : Nat) (f : Vc) : Prop := (∀ a, a ≠ 2 → a ≠ 13 → a ≠ x → I' a = I a) ∧ I' x = f ∧ I' 2 10 = I 2 10 ∧ NM I' J' r k
theorem MS.krc {I I' I2 : Mm} {J' J2 : Nat → Nat → Int64} {r : Vc} {x k : Nat} {f : Vc} (h : MS I I' J' r x k f) (hx : x ≠ 2) (hf : Fk krc I' I2) (hj : JF J' J2) : MS I I2 J2 r x k f := ⟨fun a a1 a2 a3 => (krc_row hf a1).trans (h.1 a a1 a2 a3), (krc_row hf hx).trans h.2.1, (hf 2 10 rfl).trans h.2.2.1, h.2.2.2.cl (hf 2 14 rfl) (krc_row hf (by omega)) (hj.row (by omega))⟩
theorem MS.up {I I' : Mm} {J' : Nat → Nat → Int64} {r : Vc} {x k : Nat} {f : Vc} (h : MS I I' J' r x k f) (hx : x ≠ 2) (h13 : x ≠ 13) (j : Nat) (v : Int32) : MS I (va_up I' x (upd (I' x) j v)) J' r x k (upd f j v) := ⟨fun a a1 a2 a3 => (vu_o _ _ a3).trans (h.1 a a1 a2 a3), by rw [vu_s, h.2.1], by rw [vu_o _ _ (Ne.symm hx)]; exact h.2.2.1, h.2.2.2.cl (by rw [vu_o _ _ (Ne.symm hx)]) (by rw [vu_o _ _ (Ne.symm h13)]) rfl⟩
theorem MS.st {I I' : Mm} {J' : Nat → Nat → Int64} {r : Vc} {x k : Nat} {f : Vc} (h : MS I I' J' r x k f) (hx : x ≠ 2) (h13 : x ≠ 13) (j : Nat) (v : Int32) : MS I (st2 I' x j v) J' r x k (upd f j v) := by rw [st2_up]; exact h.up hx h13 j v
theorem NM.mo {I : Mm} {J : Nat → Nat → Int64} {r r' : Vc} {k : Nat} (h : NM I J r k) (hr : ∀ j, 80 ≤ j → r' j = r j) : NM I J r' k := by
  have e : ∀ n, npk r' n = npk r n := by
    intro n
    unfold npk
    rw [hr (80 + n) (by omega)]
    exact pk32_congr _ (fun i hi => by rw [hr (96 + 8 * n + i) (by omega)])
  have e0 : ∀ n, r' (80 + n) = r (80 + n) := fun n => hr _ (by omega)
  obtain ⟨a, b, c, d, f, g⟩ := h
  refine ⟨a, b, ?_, ?_, ?_, ?_⟩
  · intro n hn
    obtain ⟨x, x8, ex, el⟩ := c n hn
    exact ⟨x, x8, by rw [e0, ex], fun i hi => by rw [hr (96 + 8 * n + i) (by omega)]; exact el i hi⟩
  · intro i hi
    obtain ⟨n, hn, u, v, y⟩ := d i hi
    exact ⟨n, hn, by rw [e0]; exact u, by rw [e]; exact v, y⟩
  · intro n hn u
    rw [e0] at u
    obtain ⟨i, hi, v⟩ := f n hn u
    exact ⟨i, hi, by rw [e]; exact v⟩
  · intro n m hn hm u v
    rw [e0] at u
    rw [e, e] at v
    exact g n m hn hm u v
theorem MS.mo {I I' : Mm} {J' : Nat → Nat → Int64} {r r' : Vc} {x k : Nat} {f : Vc} (h : MS I I' J' r x k f) (hr : ∀ j, 80 ≤ j → r' j = r j) : MS I I' J' r' x k f := ⟨h.1, h.2.1, h.2.2.1, h.2.2.2.mo hr⟩
theorem MS.co {t : Nat} {I I' : Mm} {J' : Nat → Nat → Int64} {r : Vc} {x k : Nat} {f : Vc} (h : MS I I' J' r x k f) (h1 : t ≤ x) (h2 : x ≤ t + 8) (h3 : x ≠ t + 1 ∧ x ≠ t + 3 ∧ x ≠ t + 5 ∧ x ≠ t + 7) : Co t I I' := ⟨fun a a1 a2 a3 => h.1 a a1 a2 (by omega), fun c j c1 c2 c3 _ => by rw [h.1 c (by omega) c2 (by omega)]⟩
theorem tb_same {I I' : Mm} {r r' : Vc} {c n w room off : Nat} (h : TB I r c n w room off) (h1 : I' c = I c) (h2 : I' (c + 1) = I (c + 1)) (hr : ∀ j, j < n * w → r' (off + j) = r (off + j)) : TB I' r' c n w room off := by
  obtain ⟨a, b, d, e, f, g, i⟩ := h
  exact ⟨by rw [h1]; exact a, by rw [h1]; exact b, by rw [h1]; exact d, e, f, g, fun j hj => by rw [h2, hr j hj]; exact i j hj⟩
theorem tb_grow {I I' : Mm} {r r' : Vc} {c n w room off : Nat} (h : TB I r c n w room off) (hn : n < room) (h1 : I' c = upd (I c) 3 (nI (n + 1))) (h2 : ∀ j, j < n * w → I' (c + 1) j = I (c + 1) j) (h3 : ∀ i, i < w → I' (c + 1) (n * w + i) = r' (off + (n * w + i))) (hr : ∀ j, j < n * w → r' (off + j) = r (off + j)) : TB I' r' c (n + 1) w room off := by
  obtain ⟨a, b, d, e, f, g, i⟩ := h
  refine ⟨by rw [h1, upd_sl _ _ _ _ (by omega)]; exact a, by rw [h1, upd_sl _ _ _ _ (by omega)]; exact b, by rw [h1, pk_us], by omega, f, g, fun j hj => ?_⟩
  by_cases q : j < n * w
  · rw [h2 j q, hr j q]; exact i j q
  · have k := h3 (j - n * w) (by rw [Nat.succ_mul] at hj; omega)
    rw [show n * w + (j - n * w) = j by omega] at k
    exact k
theorem rb_vent {r r' : Vc} {n : Nat} (hb : RB r) (hn : n = (r 5).toNatClampNeg) (hl : n < 4) (hq : r' 5 = nI (n + 1)) (ho : ∀ j, j < 80 → j ≠ 5 → ¬ (13 + 3 * n ≤ j ∧ j < 13 + 3 * n + 3) → r' j = r j) (hw : bw (r' (13 + 3 * n)) 1 2 ∧ bw (r' (13 + 3 * n + 1)) 1 9 ∧ bw (r' (13 + 3 * n + 2)) 0 99) : RB r' := by
  have lV := hb.nV.2
  have lP := hb.nP.2
  have lS := hb.nS.2
  have lD := hb.nD.2
  have hb0 := hb
  obtain ⟨b0, b1, b2, b3, b4, b5, b6, b7, b8, b9, b10, tv, tp, ts, td⟩ := hb0
  refine ⟨by rw [ho 0 (by omega) (by omega) (by omega)]; exact b0, by rw [ho 1 (by omega) (by omega) (by omega)]; exact b1, by rw [ho 2 (by omega) (by omega) (by omega)]; exact b2, by rw [ho 3 (by omega) (by omega) (by omega)]; exact b3, by rw [ho 4 (by omega) (by omega) (by omega)]; exact b4, by rw [hq]; exact bw_of (lo := 0) (hi := 4) (by omega) (by omega) (by omega), by rw [ho 6 (by omega) (by omega) (by omega)]; exact b6, by rw [ho 7 (by omega) (by omega) (by omega)]; exact b7, by rw [ho 8 (by omega) (by omega) (by omega)]; exact b8, by rw [ho 9 (by omega) (by omega) (by omega)]; exact b9, by rw [ho 10 (by omega) (by omega) (by omega)]; exact b10, ?_, ?_, ?_, ?_⟩
  · intro k hk
    rw [hq, nI_clamp (by omega)] at hk
    by_cases e : k = n
    · rw [e]; exact hw
    · have hk2 : k < (r 5).toNatClampNeg := by omega
      rw [ho (13 + 3 * k) (by omega) (by omega) (by omega), ho (13 + 3 * k + 1) (by omega) (by omega) (by omega), ho (13 + 3 * k + 2) (by omega) (by omega) (by omega)]; exact tv k hk2
  · intro k hk
    rw [ho 6 (by omega) (by omega) (by omega)] at hk
    rw [ho (25 + 3 * k) (by omega) (by omega) (by omega), ho (25 + 3 * k + 1) (by omega) (by omega) (by omega), ho (25 + 3 * k + 2) (by omega) (by omega) (by omega)]; exact tp k hk
  · intro k hk
    rw [ho 7 (by omega) (by omega) (by omega)] at hk
    rw [ho (43 + 2 * k) (by omega) (by omega) (by omega), ho (43 + 2 * k + 1) (by omega) (by omega) (by omega)]; exact ts k hk
  · intro k hk
    rw [ho 9 (by omega) (by omega) (by omega)] at hk
    rw [ho (53 + 3 * k) (by omega) (by omega) (by omega), ho (53 + 3 * k + 1) (by omega) (by omega) (by omega), ho (53 + 3 * k + 2) (by omega) (by omega) (by omega), ho 8 (by omega) (by omega) (by omega)]; exact td k hk
theorem tr_vent {I I' : Mm} {r r' : Vc} {t n : Nat} (hT : TR I r t) (hb : RB r) (hn : n = (r 5).toNatClampNeg) (hl : n < 4) (hq : r' 5 = nI (n + 1)) (ho : ∀ j, j < 80 → j ≠ 5 → ¬ (13 + 3 * n ≤ j ∧ j < 13 + 3 * n + 3) → r' j = r j) (hc : I' (t + 1) = upd (I (t + 1)) 3 (nI (n + 1))) (h2 : ∀ j, j < n * 3 → I' (t + 1 + 1) j = I (t + 1 + 1) j) (h3 : ∀ i, i < 3 → I' (t + 1 + 1) (n * 3 + i) = r' (13 + (n * 3 + i))) (he : ∀ a, t ≤ a → a ≤ t + 8 → a ≠ t + 1 → a ≠ t + 1 + 1 → I' a = I a) : TR I' r' t := by
  have lV := hb.nV.2
  have lP := hb.nP.2
  have lS := hb.nS.2
  have lD := hb.nD.2
  obtain ⟨a0, a1, a2, a3, a4, a5, a6, a7, tv, tp, ts, td⟩ := hT
  have et : I' t = I t := he t (by omega) (by omega) (by omega) (by omega)
  refine ⟨a0, by rw [et, ho 10 (by omega) (by omega) (by omega)]; exact a1, by rw [et, ho 0 (by omega) (by omega) (by omega)]; exact a2, by rw [et, ho 1 (by omega) (by omega) (by omega)]; exact a3, by rw [et, ho 2 (by omega) (by omega) (by omega)]; exact a4, by rw [et, ho 3 (by omega) (by omega) (by omega)]; exact a5, by rw [et, ho 4 (by omega) (by omega) (by omega)]; exact a6, by rw [et, ho 8 (by omega) (by omega) (by omega)]; exact a7, ?_, ?_, ?_, ?_⟩
  · rw [hq, nI_clamp (by omega)]
    rw [← hn] at tv
    exact tb_grow tv hl hc h2 h3 (fun j hj => ho _ (by omega) (by omega) (by omega))
  · rw [ho 6 (by omega) (by omega) (by omega)]
    exact tb_same tp (he _ (by omega) (by omega) (by omega) (by omega)) (he _ (by omega) (by omega) (by omega) (by omega)) (fun j hj => ho _ (by omega) (by omega) (by omega))
  · rw [ho 7 (by omega) (by omega) (by omega)]
    exact tb_same ts (he _ (by omega) (by omega) (by omega) (by omega)) (he _ (by omega) (by omega) (by omega) (by omega)) (fun j hj => ho _ (by omega) (by omega) (by omega))
  · rw [ho 9 (by omega) (by omega) (by omega)]
    exact tb_same td (he _ (by omega) (by omega) (by omega) (by omega)) (he _ (by omega) (by omega) (by omega) (by omega)) (fun j hj => ho _ (by omega) (by omega) (by omega))
theorem rb_plan {r r' : Vc} {n : Nat} (hb : RB r) (hn : n = (r 6).toNatClampNeg) (hl : n < 6) (hq : r' 6 = nI (n + 1)) (ho : ∀ j, j < 80 → j ≠ 6 → ¬ (25 + 3 * n ≤ j ∧ j < 25 + 3 * n + 3) → r' j = r j) (hw : bw (r' (25 + 3 * n)) 0 20 ∧ bw (r' (25 + 3 * n + 1)) 1 2 ∧ bw (r' (25 + 3 * n + 2)) 0 99) : RB r' := by
  have lV := hb.nV.2
  have lP := hb.nP.2
  have lS := hb.nS.2
  have lD := hb.nD.2
  have hb0 := hb
  obtain ⟨b0, b1, b2, b3, b4, b5, b6, b7, b8, b9, b10, tv, tp, ts, td⟩ := hb0
  refine ⟨by rw [ho 0 (by omega) (by omega) (by omega)]; exact b0, by rw [ho 1 (by omega) (by omega) (by omega)]; exact b1, by rw [ho 2 (by omega) (by omega) (by omega)]; exact b2, by rw [ho 3 (by omega) (by omega) (by omega)]; exact b3, by rw [ho 4 (by omega) (by omega) (by omega)]; exact b4, by rw [ho 5 (by omega) (by omega) (by omega)]; exact b5, by rw [hq]; exact bw_of (lo := 0) (hi := 6) (by omega) (by omega) (by omega), by rw [ho 7 (by omega) (by omega) (by omega)]; exact b7, by rw [ho 8 (by omega) (by omega) (by omega)]; exact b8, by rw [ho 9 (by omega) (by omega) (by omega)]; exact b9, by rw [ho 10 (by omega) (by omega) (by omega)]; exact b10, ?_, ?_, ?_, ?_⟩
  · intro k hk
    rw [ho 5 (by omega) (by omega) (by omega)] at hk
    rw [ho (13 + 3 * k) (by omega) (by omega) (by omega), ho (13 + 3 * k + 1) (by omega) (by omega) (by omega), ho (13 + 3 * k + 2) (by omega) (by omega) (by omega)]; exact tv k hk
  · intro k hk
    rw [hq, nI_clamp (by omega)] at hk
    by_cases e : k = n
    · rw [e]; exact hw
    · have hk2 : k < (r 6).toNatClampNeg := by omega
      rw [ho (25 + 3 * k) (by omega) (by omega) (by omega), ho (25 + 3 * k + 1) (by omega) (by omega) (by omega), ho (25 + 3 * k + 2) (by omega) (by omega) (by omega)]; exact tp k hk2
  · intro k hk
    rw [ho 7 (by omega) (by omega) (by omega)] at hk
    rw [ho (43 + 2 * k) (by omega) (by omega) (by omega), ho (43 + 2 * k + 1) (by omega) (by omega) (by omega)]; exact ts k hk
  · intro k hk
    rw [ho 9 (by omega) (by omega) (by omega)] at hk
    rw [ho (53 + 3 * k) (by omega) (by omega) (by omega), ho (53 + 3 * k + 1) (by omega) (by omega) (by omega), ho (53 + 3 * k + 2) (by omega) (by omega) (by omega), ho 8 (by omega) (by omega) (by omega)]; exact td k hk
theorem tr_plan {I I' : Mm} {r r' : Vc} {t n : Nat} (hT : TR I r t) (hb : RB r) (hn : n = (r 6).toNatClampNeg) (hl : n < 6) (hq : r' 6 = nI (n + 1)) (ho : ∀ j, j < 80 → j ≠ 6 → ¬ (25 + 3 * n ≤ j ∧ j < 25 + 3 * n + 3) → r' j = r j) (hc : I' (t + 3) = upd (I (t + 3)) 3 (nI (n + 1))) (h2 : ∀ j, j < n * 3 → I' (t + 3 + 1) j = I (t + 3 + 1) j) (h3 : ∀ i, i < 3 → I' (t + 3 + 1) (n * 3 + i) = r' (25 + (n * 3 + i))) (he : ∀ a, t ≤ a → a ≤ t + 8 → a ≠ t + 3 → a ≠ t + 3 + 1 → I' a = I a) : TR I' r' t := by
  have lV := hb.nV.2
  have lP := hb.nP.2
  have lS := hb.nS.2
  have lD := hb.nD.2
  obtain ⟨a0, a1, a2, a3, a4, a5, a6, a7, tv, tp, ts, td⟩ := hT
  have et : I' t = I t := he t (by omega) (by omega) (by omega) (by omega)
  refine ⟨a0, by rw [et, ho 10 (by omega) (by omega) (by omega)]; exact a1, by rw [et, ho 0 (by omega) (by omega) (by omega)]; exact a2, by rw [et, ho 1 (by omega) (by omega) (by omega)]; exact a3, by rw [et, ho 2 (by omega) (by omega) (by omega)]; exact a4, by rw [et, ho 3 (by omega) (by omega) (by omega)]; exact a5, by rw [et, ho 4 (by omega) (by omega) (by omega)]; exact a6, by rw [et, ho 8 (by omega) (by omega) (by omega)]; exact a7, ?_, ?_, ?_, ?_⟩
  · rw [ho 5 (by omega) (by omega) (by omega)]
    exact tb_same tv (he _ (by omega) (by omega) (by omega) (by omega)) (he _ (by omega) (by omega) (by omega) (by omega)) (fun j hj => ho _ (by omega) (by omega) (by omega))
  · rw [hq, nI_clamp (by omega)]
    rw [← hn] at tp
    exact tb_grow tp hl hc h2 h3 (fun j hj => ho _ (by omega) (by omega) (by omega))
  · rw [ho 7 (by omega) (by omega) (by omega)]
    exact tb_same ts (he _ (by omega) (by omega) (by omega) (by omega)) (he _ (by omega) (by omega) (by omega) (by omega)) (fun j hj => ho _ (by omega) (by omega) (by omega))
  · rw [ho 9 (by omega) (by omega) (by omega)]
    exact tb_same td (he _ (by omega) (by omega) (by omega) (by omega)) (he _ (by omega) (by omega) (by omega) (by omega)) (fun j hj => ho _ (by omega) (by omega) (by omega))
theorem rb_saw {r r' : Vc} {n : Nat} (hb : RB r) (hn : n = (r 7).toNatClampNeg) (hl : n < 5) (hq : r' 7 = nI (n + 1)) (ho : ∀ j, j < 80 → j ≠ 7 → ¬ (43 + 2 * n ≤ j ∧ j < 43 + 2 * n + 2) → r' j = r j) (hw : bw (r' (43 + 2 * n)) 0 20 ∧ bw (r' (43 + 2 * n + 1)) 0 3) : RB r' := by
  have lV := hb.nV.2
  have lP := hb.nP.2
  have lS := hb.nS.2
  have lD := hb.nD.2
  have hb0 := hb
  obtain ⟨b0, b1, b2, b3, b4, b5, b6, b7, b8, b9, b10, tv, tp, ts, td⟩ := hb0
  refine ⟨by rw [ho 0 (by omega) (by omega) (by omega)]; exact b0, by rw [ho 1 (by omega) (by omega) (by omega)]; exact b1, by rw [ho 2 (by omega) (by omega) (by omega)]; exact b2, by rw [ho 3 (by omega) (by omega) (by omega)]; exact b3, by rw [ho 4 (by omega) (by omega) (by omega)]; exact b4, by rw [ho 5 (by omega) (by omega) (by omega)]; exact b5, by rw [ho 6 (by omega) (by omega) (by omega)]; exact b6, by rw [hq]; exact bw_of (lo := 0) (hi := 5) (by omega) (by omega) (by omega), by rw [ho 8 (by omega) (by omega) (by omega)]; exact b8, by rw [ho 9 (by omega) (by omega) (by omega)]; exact b9, by rw [ho 10 (by omega) (by omega) (by omega)]; exact b10, ?_, ?_, ?_, ?_⟩
  · intro k hk
    rw [ho 5 (by omega) (by omega) (by omega)] at hk
    rw [ho (13 + 3 * k) (by omega) (by omega) (by omega), ho (13 + 3 * k + 1) (by omega) (by omega) (by omega), ho (13 + 3 * k + 2) (by omega) (by omega) (by omega)]; exact tv k hk
  · intro k hk
    rw [ho 6 (by omega) (by omega) (by omega)] at hk
    rw [ho (25 + 3 * k) (by omega) (by omega) (by omega), ho (25 + 3 * k + 1) (by omega) (by omega) (by omega), ho (25 + 3 * k + 2) (by omega) (by omega) (by omega)]; exact tp k hk
  · intro k hk
    rw [hq, nI_clamp (by omega)] at hk
    by_cases e : k = n
    · rw [e]; exact hw
    · have hk2 : k < (r 7).toNatClampNeg := by omega
      rw [ho (43 + 2 * k) (by omega) (by omega) (by omega), ho (43 + 2 * k + 1) (by omega) (by omega) (by omega)]; exact ts k hk2
  · intro k hk
    rw [ho 9 (by omega) (by omega) (by omega)] at hk
    rw [ho (53 + 3 * k) (by omega) (by omega) (by omega), ho (53 + 3 * k + 1) (by omega) (by omega) (by omega), ho (53 + 3 * k + 2) (by omega) (by omega) (by omega), ho 8 (by omega) (by omega) (by omega)]; exact td k hk
theorem tr_saw {I I' : Mm} {r r' : Vc} {t n : Nat} (hT : TR I r t) (hb : RB r) (hn : n = (r 7).toNatClampNeg) (hl : n < 5) (hq : r' 7 = nI (n + 1)) (ho : ∀ j, j < 80 → j ≠ 7 → ¬ (43 + 2 * n ≤ j ∧ j < 43 + 2 * n + 2) → r' j = r j) (hc : I' (t + 5) = upd (I (t + 5)) 3 (nI (n + 1))) (h2 : ∀ j, j < n * 2 → I' (t + 5 + 1) j = I (t + 5 + 1) j) (h3 : ∀ i, i < 2 → I' (t + 5 + 1) (n * 2 + i) = r' (43 + (n * 2 + i))) (he : ∀ a, t ≤ a → a ≤ t + 8 → a ≠ t + 5 → a ≠ t + 5 + 1 → I' a = I a) : TR I' r' t := by
  have lV := hb.nV.2
  have lP := hb.nP.2
  have lS := hb.nS.2
  have lD := hb.nD.2
  obtain ⟨a0, a1, a2, a3, a4, a5, a6, a7, tv, tp, ts, td⟩ := hT
  have et : I' t = I t := he t (by omega) (by omega) (by omega) (by omega)
  refine ⟨a0, by rw [et, ho 10 (by omega) (by omega) (by omega)]; exact a1, by rw [et, ho 0 (by omega) (by omega) (by omega)]; exact a2, by rw [et, ho 1 (by omega) (by omega) (by omega)]; exact a3, by rw [et, ho 2 (by omega) (by omega) (by omega)]; exact a4, by rw [et, ho 3 (by omega) (by omega) (by omega)]; exact a5, by rw [et, ho 4 (by omega) (by omega) (by omega)]; exact a6, by rw [et, ho 8 (by omega) (by omega) (by omega)]; exact a7, ?_, ?_, ?_, ?_⟩
  · rw [ho 5 (by omega) (by omega) (by omega)]
    exact tb_same tv (he _ (by omega) (by omega) (by omega) (by omega)) (he _ (by omega) (by omega) (by omega) (by omega)) (fun j hj => ho _ (by omega) (by omega) (by omega))
  · rw [ho 6 (by omega) (by omega) (by omega)]
    exact tb_same tp (he _ (by omega) (by omega) (by omega) (by omega)) (he _ (by omega) (by omega) (by omega) (by omega)) (fun j hj => ho _ (by omega) (by omega) (by omega))
  · rw [hq, nI_clamp (by omega)]
    rw [← hn] at ts
    exact tb_grow ts hl hc h2 h3 (fun j hj => ho _ (by omega) (by omega) (by omega))
  · rw [ho 9 (by omega) (by omega) (by omega)]
    exact tb_same td (he _ (by omega) (by omega) (by omega) (by omega)) (he _ (by omega) (by omega) (by omega) (by omega)) (fun j hj => ho _ (by omega) (by omega) (by omega))
theorem rb_ditch {r r' : Vc} {n : Nat} (hb : RB r) (hn : n = (r 9).toNatClampNeg) (hl : n < 9) (hq : r' 9 = nI (n + 1)) (ho : ∀ j, j < 80 → j ≠ 9 → ¬ (53 + 3 * n ≤ j ∧ j < 53 + 3 * n + 3) → r' j = r j) (hw : bw (r' (53 + 3 * n)) 0 ((r 8).toInt - 1) ∧ bw (r' (53 + 3 * n + 1)) 0 ((r 8).toInt - 1) ∧ bw (r' (53 + 3 * n + 2)) 1 99) : RB r' := by
  have lV := hb.nV.2
  have lP := hb.nP.2
  have lS := hb.nS.2
  have lD := hb.nD.2
  have hb0 := hb
  obtain ⟨b0, b1, b2, b3, b4, b5, b6, b7, b8, b9, b10, tv, tp, ts, td⟩ := hb0
  refine ⟨by rw [ho 0 (by omega) (by omega) (by omega)]; exact b0, by rw [ho 1 (by omega) (by omega) (by omega)]; exact b1, by rw [ho 2 (by omega) (by omega) (by omega)]; exact b2, by rw [ho 3 (by omega) (by omega) (by omega)]; exact b3, by rw [ho 4 (by omega) (by omega) (by omega)]; exact b4, by rw [ho 5 (by omega) (by omega) (by omega)]; exact b5, by rw [ho 6 (by omega) (by omega) (by omega)]; exact b6, by rw [ho 7 (by omega) (by omega) (by omega)]; exact b7, by rw [ho 8 (by omega) (by omega) (by omega)]; exact b8, by rw [hq]; exact bw_of (lo := 0) (hi := 9) (by omega) (by omega) (by omega), by rw [ho 10 (by omega) (by omega) (by omega)]; exact b10, ?_, ?_, ?_, ?_⟩
  · intro k hk
    rw [ho 5 (by omega) (by omega) (by omega)] at hk
    rw [ho (13 + 3 * k) (by omega) (by omega) (by omega), ho (13 + 3 * k + 1) (by omega) (by omega) (by omega), ho (13 + 3 * k + 2) (by omega) (by omega) (by omega)]; exact tv k hk
  · intro k hk
    rw [ho 6 (by omega) (by omega) (by omega)] at hk
    rw [ho (25 + 3 * k) (by omega) (by omega) (by omega), ho (25 + 3 * k + 1) (by omega) (by omega) (by omega), ho (25 + 3 * k + 2) (by omega) (by omega) (by omega)]; exact tp k hk
  · intro k hk
    rw [ho 7 (by omega) (by omega) (by omega)] at hk
    rw [ho (43 + 2 * k) (by omega) (by omega) (by omega), ho (43 + 2 * k + 1) (by omega) (by omega) (by omega)]; exact ts k hk
  · intro k hk
    rw [hq, nI_clamp (by omega)] at hk
    by_cases e : k = n
    · rw [e, ho 8 (by omega) (by omega) (by omega)]; exact hw
    · have hk2 : k < (r 9).toNatClampNeg := by omega
      rw [ho (53 + 3 * k) (by omega) (by omega) (by omega), ho (53 + 3 * k + 1) (by omega) (by omega) (by omega), ho (53 + 3 * k + 2) (by omega) (by omega) (by omega), ho 8 (by omega) (by omega) (by omega)]; exact td k hk2
theorem tr_ditch {I I' : Mm} {r r' : Vc} {t n : Nat} (hT : TR I r t) (hb : RB r) (hn : n = (r 9).toNatClampNeg) (hl : n < 9) (hq : r' 9 = nI (n + 1)) (ho : ∀ j, j < 80 → j ≠ 9 → ¬ (53 + 3 * n ≤ j ∧ j < 53 + 3 * n + 3) → r' j = r j) (hc : I' (t + 7) = upd (I (t + 7)) 3 (nI (n + 1))) (h2 : ∀ j, j < n * 3 → I' (t + 7 + 1) j = I (t + 7 + 1) j) (h3 : ∀ i, i < 3 → I' (t + 7 + 1) (n * 3 + i) = r' (53 + (n * 3 + i))) (he : ∀ a, t ≤ a → a ≤ t + 8 → a ≠ t + 7 → a ≠ t + 7 + 1 → I' a = I a) : TR I' r' t := by
  have lV := hb.nV.2
  have lP := hb.nP.2
  have lS := hb.nS.2
  have lD := hb.nD.2
  obtain ⟨a0, a1, a2, a3, a4, a5, a6, a7, tv, tp, ts, td⟩ := hT
  have et : I' t = I t := he t (by omega) (by omega) (by omega) (by omega)
  refine ⟨a0, by rw [et, ho 10 (by omega) (by omega) (by omega)]; exact a1, by rw [et, ho 0 (by omega) (by omega) (by omega)]; exact a2, by rw [et, ho 1 (by omega) (by omega) (by omega)]; exact a3, by rw [et, ho 2 (by omega) (by omega) (by omega)]; exact a4, by rw [et, ho 3 (by omega) (by omega) (by omega)]; exact a5, by rw [et, ho 4 (by omega) (by omega) (by omega)]; exact a6, by rw [et, ho 8 (by omega) (by omega) (by omega)]; exact a7, ?_, ?_, ?_, ?_⟩
  · rw [ho 5 (by omega) (by omega) (by omega)]
    exact tb_same tv (he _ (by omega) (by omega) (by omega) (by omega)) (he _ (by omega) (by omega) (by omega) (by omega)) (fun j hj => ho _ (by omega) (by omega) (by omega))
  · rw [ho 6 (by omega) (by omega) (by omega)]
    exact tb_same tp (he _ (by omega) (by omega) (by omega) (by omega)) (he _ (by omega) (by omega) (by omega) (by omega)) (fun j hj => ho _ (by omega) (by omega) (by omega))
  · rw [ho 7 (by omega) (by omega) (by omega)]
    exact tb_same ts (he _ (by omega) (by omega) (by omega) (by omega)) (he _ (by omega) (by omega) (by omega) (by omega)) (fun j hj => ho _ (by omega) (by omega) (by omega))
  · rw [hq, nI_clamp (by omega)]
    rw [← hn] at td
    exact tb_grow td hl hc h2 h3 (fun j hj => ho _ (by omega) (by omega) (by omega))
/-! a field more -/
theorem rb_field {r r' : Vc} {n : Nat} (hb : RB r) (hn : n = (r 8).toNatClampNeg) (hl : n < 6) (hq : r' 8 = nI (n + 1)) (ho : ∀ j, j < 80 → j ≠ 8 → r' j = r j) : RB r' := by
  have lV := hb.nV.2
  have lP := hb.nP.2
  have lS := hb.nS.2
  have lD := hb.nD.2
  have e8 : (r 8).toInt = n := by rw [hb.nF.1, ← hn, nI_toInt (by omega)]
  have e8' : (r' 8).toInt = n + 1 := by rw [hq, nI_toInt (by omega)]; omega
  have hb0 := hb
  obtain ⟨b0, b1, b2, b3, b4, b5, b6, b7, b8, b9, b10, tv, tp, ts, td⟩ := hb0
  refine ⟨by rw [ho 0 (by omega) (by omega)]; exact b0, by rw [ho 1 (by omega) (by omega)]; exact b1, by rw [ho 2 (by omega) (by omega)]; exact b2, by rw [ho 3 (by omega) (by omega)]; exact b3, by rw [ho 4 (by omega) (by omega)]; exact b4, by rw [ho 5 (by omega) (by omega)]; exact b5, by rw [ho 6 (by omega) (by omega)]; exact b6, by rw [ho 7 (by omega) (by omega)]; exact b7, by rw [hq]; exact bw_of (lo := 0) (hi := 6) (by omega) (by omega) (by omega), by rw [ho 9 (by omega) (by omega)]; exact b9, by rw [ho 10 (by omega) (by omega)]; exact b10, ?_, ?_, ?_, ?_⟩
  · intro k hk
    rw [ho 5 (by omega) (by omega)] at hk
    rw [ho (13 + 3 * k) (by omega) (by omega), ho (13 + 3 * k + 1) (by omega) (by omega), ho (13 + 3 * k + 2) (by omega) (by omega)]; exact tv k hk
  · intro k hk
    rw [ho 6 (by omega) (by omega)] at hk
    rw [ho (25 + 3 * k) (by omega) (by omega), ho (25 + 3 * k + 1) (by omega) (by omega), ho (25 + 3 * k + 2) (by omega) (by omega)]; exact tp k hk
  · intro k hk
    rw [ho 7 (by omega) (by omega)] at hk
    rw [ho (43 + 2 * k) (by omega) (by omega), ho (43 + 2 * k + 1) (by omega) (by omega)]; exact ts k hk
  · intro k hk
    rw [ho 9 (by omega) (by omega)] at hk
    have z := td k hk
    rw [ho (53 + 3 * k) (by omega) (by omega), ho (53 + 3 * k + 1) (by omega) (by omega), ho (53 + 3 * k + 2) (by omega) (by omega), e8']
    rw [e8] at z
    exact ⟨⟨z.1.1, by have := z.1.2; omega⟩, ⟨z.2.1.1, by have := z.2.1.2; omega⟩, z.2.2⟩
theorem tr_rows {I I' : Mm} {r r' : Vc} {t : Nat} (hT : TR I r t) (hb : RB r) (ht : I' t 0 = r' 10 ∧ I' t 1 = r' 0 ∧ I' t 2 = r' 1 ∧ I' t 3 = r' 2 ∧ I' t 4 = r' 3 ∧ I' t 5 = r' 4 ∧ I' t 6 = r' 8) (ho : ∀ j, j < 80 → j = 5 ∨ j = 6 ∨ j = 7 ∨ j = 9 ∨ 13 ≤ j → r' j = r j) (he : ∀ a, t < a → a ≤ t + 8 → I' a = I a) : TR I' r' t := by
  have lV := hb.nV.2
  have lP := hb.nP.2
  have lS := hb.nS.2
  have lD := hb.nD.2
  obtain ⟨a0, a1, a2, a3, a4, a5, a6, a7, tv, tp, ts, td⟩ := hT
  refine ⟨a0, ht.1, ht.2.1, ht.2.2.1, ht.2.2.2.1, ht.2.2.2.2.1, ht.2.2.2.2.2.1, ht.2.2.2.2.2.2, ?_, ?_, ?_, ?_⟩
  · rw [ho 5 (by omega) (by omega)]
    exact tb_same tv (he _ (by omega) (by omega)) (he _ (by omega) (by omega)) (fun j hj => ho _ (by omega) (by omega))
  · rw [ho 6 (by omega) (by omega)]
    exact tb_same tp (he _ (by omega) (by omega)) (he _ (by omega) (by omega)) (fun j hj => ho _ (by omega) (by omega))
  · rw [ho 7 (by omega) (by omega)]
    exact tb_same ts (he _ (by omega) (by omega)) (he _ (by omega) (by omega)) (fun j hj => ho _ (by omega) (by omega))
  · rw [ho 9 (by omega) (by omega)]
    exact tb_same td (he _ (by omega) (by omega)) (he _ (by omega) (by omega)) (fun j hj => ho _ (by omega) (by omega))
/-! the model behind a failure: only its row 69 may change -/
def Xa (M M' : Mm) : Prop := ∀ a, a ≠ 69 → M' a = M a
theorem Xa.refl (M : Mm) : Xa M M := fun _ _ => rfl
theorem Xa.up {M M' : Mm} (h : Xa M M') (f : Vc) : Xa M (va_up M' 69 f) := fun a ha => (vu_o _ _ ha).trans (h a ha)
theorem Xa.st {M M' : Mm} (h : Xa M M') (j : Nat) (v : Int32) : Xa M (st2 M' 69 j v) := fun a ha => (st2_orow _ _ _ ha).trans (h a ha)
theorem Xa.e {M M' : Mm} (h : Xa M M') (q : M 65 13 = 1) : M' 65 13 = 1 := by rw [h 65 (by omega)]; exact q
theorem Xa.fl {I M M' : Mm} (h : Xa M M') (q : Fl I M) : Fl I M' := q.mo (h 65 (by omega))
theorem Xa.ml {M M' : Mm} (h : Xa M M') : Fk kml M M' := fun a j k => by
  have ha : a ≠ 69 := by
    intro e
    subst e
    simp [kml] at k
  rw [h a ha]
theorem xa_after {M M' : Mm} (h : Xa M M') (q : M 65 13 = 1) (s : Nat) (lo hi : Int32) : Xa M (m_X11_after M' s lo hi) ∧ ok_X11_after M' s lo hi := by
  have x := x_after (h.e q) s lo hi
  rw [x.1]
  exact ⟨h, x.2⟩
theorem xa_number {M M' : Mm} (h : Xa M M') (q : M 65 13 = 1) (lo hi : Int32) : Xa M (m_X11_number M' lo hi) ∧ ok_X11_number M' lo hi := by
  have x := x_number (h.e q) lo hi
  rw [x.1]
  exact ⟨h, x.2⟩
theorem xa_weather {M M' : Mm} (h : Xa M M') (q : M 65 13 = 1) : Xa M (m_X11_weather M') ∧ ok_X11_weather M' := by
  have x := x_weather (h.e q)
  rw [x.1]
  exact ⟨h, x.2⟩
/-- class wants a number for a cell, the model takes it -/
theorem w_cell {I M : Mm} {N p : Nat} (h : Ah I M N p) (J : Nat → Nat → Int64) (c : Nat) (col lo hi : Int32) : ok_X6_wantsCell I J c col lo hi ∧ ok_X11_number M lo hi ∧ Fk krm M (m_X11_number M lo hi) ∧ JF J (j_X6_wantsCell I J c col lo hi) ∧ ((f_X6_wantsCell I J c col lo hi = true ∧ inb (f_X11_number M lo hi) lo hi = true ∧ ∃ I', m_X6_wantsCell I J c col lo hi = m_X7_put I' c col (f_X11_number M lo hi) ∧ Fk krc I I' ∧ I' 2 9 = f_X11_number M lo hi ∧ ∃ p', p ≤ p' ∧ Ah I' (m_X11_number M lo hi) N p') ∨ (f_X6_wantsCell I J c col lo hi = false ∧ Fk krc I (m_X6_wantsCell I J c col lo hi) ∧ Fl (m_X6_wantsCell I J c col lo hi) (m_X11_number M lo hi))) := by
  obtain ⟨o1, o2, f1, f2, j1, k⟩ := w_number h J lo hi
  rw [ok_X6_wantsCell, f_X6_wantsCell, m_X6_wantsCell, j_X6_wantsCell, opv_eq, opv_eq, opv_eq, opv_eq, u0_X6_wantsCell, opv_eq]
  rcases k with ⟨a, b, c2, d⟩ | ⟨a, b⟩
  · rw [if_pos a, if_pos a, b]
    exact ⟨o1, o2, f2, j1, Or.inl ⟨rfl, c2, _, rfl, f1, rfl, d⟩⟩
  · have z : ¬ f_X6_wantsWhole I J lo hi = true := by rw [a]; decide
    rw [if_neg z, if_neg z]
    exact ⟨o1, o2, f2, j1, Or.inr ⟨rfl, f1, b⟩⟩
/-- a value into a row's cell -/
theorem ms_put {I I' M : Mm} {J' : Nat → Nat → Int64} {r : Vc} {c k n w room col N p : Nat} {f : Vc} {x : Int32} (v : Int32) (h : MS I I' J' r (c + 1) k f) (hc2 : 3 ≤ c) (hc13 : c ≠ 12 ∧ c ≠ 13) (h1 : I c 1 = nI w) (h3 : I c 3 = nI n) (hn : n < room) (hr : room ≤ 9) (hw : w ≤ 3) (hz : sz (rt c 2) = room * w) (hc : rt c 2 = c + 1) (hk : col < w) (hx : x = nI col) : MS I (m_X7_put I' c x v) J' r (c + 1) k (upd f (n * w + col) v) ∧ (Ah I' M N p → Ah (m_X7_put I' c x v) M N p) := by
  have e := h.1 c (by omega) (by omega) (by omega)
  rw [hx, t_put v (by rw [e]; exact h1) (by rw [e]; exact h3) hn hr hw hz hc hk]
  exact ⟨h.up (by omega) (by omega) _ _, fun z => z.cl (by rw [vu_o _ _ (by omega)]) (by rw [vu_o _ _ (by omega)]) (vu_o _ _ (by omega)) (by rw [vu_o _ _ (by omega)])⟩
