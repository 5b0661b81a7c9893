/-! ===== feed ===== -/
def cb (x : Int32) (q : Nat) : Int32 := ((x.toUInt32 >>> ((nI (24 - 8 * q)).toUInt32 &&& Int32.toUInt32 31)).toInt32).toInt8.toInt32
def mb (x : Int32) (q : Nat) : Int32 := (x >>> (nI (24 - 8 * q) &&& 31)) &&& 255
theorem cb_mb (x : Int32) {q : Nat} (hq : q < 4) : cb x q &&& 255 = mb x q ∧ (cb x q).toInt8.toInt32 = cb x q := by
  unfold cb mb
  refine ⟨?_, fb_byte_twice _⟩
  rw [bp_b]
  apply b_ext
  intro i hi
  rw [b_and, b_and, b_255, b_ushr (24 - 8 * q) (by omega), b_sshr (24 - 8 * q) (by omega) x hi]
  by_cases z : i < 8
  · rw [if_pos (by omega)]
  · rw [decide_eq_false z, Bool.and_false, Bool.and_false]
theorem sz_1 : sz 1 = 900 := by decide +kernel
theorem sz_1I : Int32.ofNat (sz 1) = (900 : Int32) := by rw [sz_1]; rfl
theorem sz_66 : sz 66 = 900 := by decide +kernel
theorem put_lp (x : Int32) : ∀ (c q L f : Nat) (l2 : Int32) (I : Mm), q + c = 4 → l2.toInt = 24 - 8 * q → L + c ≤ 900 → I 0 1 = nI L → c < f → (lp_X6_putBytes_3 x f l2 I).2 = st2 (va_up I 1 (fun j => if L ≤ j ∧ j < L + c then cb x (q + (j - L)) else I 1 j)) 0 1 (nI (L + c)) ∧ oklp_X6_putBytes_3 x f l2 I := by
  intro c
  induction c with
  | zero =>
    intro q L f l2 I hq hl hL h1 hf
    obtain ⟨f, rfl⟩ : ∃ g, f = g + 1 := ⟨f - 1, by omega⟩
    have z : l2 < 0 := by rw [fa_lt, ti0, hl]; omega
    rw [lp_X6_putBytes_3, oklp_X6_putBytes_3, if_pos z, if_pos z]
    have : (fun j => if L ≤ j ∧ j < L + 0 then cb x (q + (j - L)) else I 1 j) = I 1 := funext fun j => if_neg (by omega)
    rw [this, vu_same, Nat.add_zero, ← h1, st2_same]
    exact ⟨rfl, trivial⟩
  | succ c ih =>
    intro q L f l2 I hq hl hL h1 hf
    obtain ⟨f, rfl⟩ : ∃ g, f = g + 1 := ⟨f - 1, by omega⟩
    have z : ¬ l2 < 0 := by rw [fa_lt, ti0, hl]; omega
    have z9 : ¬ (900 : Int32) ≤ nI L := nI_ge (b := 900) (by omega) (by omega)
    have el : l2 = nI (24 - 8 * q) := by
      rw [fa_eq, hl, nI_toInt (by omega)]
      omega
    have e8 : (l2 + (-8)).toInt = 24 - 8 * ((q + 1 : Nat) : Int) := by
      rw [fb_addI (by rw [show (-8 : Int32).toInt = -8 from by decide]; omega) (by rw [show (-8 : Int32).toInt = -8 from by decide]; omega), show (-8 : Int32).toInt = -8 from by decide, hl]
      omega
    rw [lp_X6_putBytes_3, oklp_X6_putBytes_3, if_neg z, if_neg z, h1, sz_1I, if_neg z9, if_neg z9, nI_clamp (by omega), nI_1, pk_vb, sz_1]
    have eb : (x.toUInt32 >>> (l2.toUInt32 &&& Int32.toUInt32 31)).toInt32.toInt8.toInt32 = cb x q := by
      rw [el]; rfl
    rw [eb]
    have k := ih (q + 1) (L + 1) f (l2 + (-8)) (st2 (va_up I 1 (upd (I 1) L (cb x q))) 0 1 (nI (L + 1))) (by omega) e8 (by omega) (st2_s _ _ _ _) (by omega)
    refine ⟨?_, vp_in_nI (by omega) (by omega), k.2⟩
    rw [k.1, st2_orow _ _ _ (by omega), vu_s]
    funext a j
    by_cases a0 : a = 0
    · subst a0
      by_cases j1 : j = 1
      · subst j1; rw [st2_s, st2_s, show L + 1 + c = L + (c + 1) by omega]
      · rw [st2_o _ _ _ j1, st2_o _ _ _ j1, vu_o _ _ (by omega), st2_o _ _ _ j1, vu_o _ _ (by omega), vu_o _ _ (by omega)]
    · rw [st2_a _ _ a0, st2_a _ _ a0]
      by_cases a1 : a = 1
      · subst a1
        rw [vu_s, vu_s]
        by_cases j1 : j = L
        · subst j1
          rw [if_neg (by omega), pk_us, if_pos (by omega), Nat.sub_self, Nat.add_zero]
        · rw [pk_un j1]
          by_cases j2 : L + 1 ≤ j ∧ j < L + 1 + c
          · rw [if_pos j2, if_pos (by omega), show q + 1 + (j - (L + 1)) = q + (j - L) by omega]
          · rw [if_neg j2, if_neg (by omega)]
      · rw [vu_o _ _ a1, vu_o _ _ a1, st2_orow _ _ _ a0, vu_o _ _ a1]
theorem c_put {I : Mm} {L : Nat} (x : Int32) (hL : L + 4 ≤ 900) (h1 : I 0 1 = nI L) : m_X6_putBytes I x = st2 (va_up I 1 (fun j => if L ≤ j ∧ j < L + 4 then cb x (j - L) else I 1 j)) 0 1 (nI (L + 4)) ∧ ok_X6_putBytes I x := by
  have mu : mu_dn 24 + 1 = 26 := by
    rw [show mu_dn 24 = mu_dn (nI 24) from rfl, mu_dn_nI (by omega)]
  have k := put_lp x 4 0 L 26 24 I (by omega) (by decide) hL h1 (by omega)
  rw [m_X6_putBytes, ok_X6_putBytes, opv_eq, opv_eq, mu]
  refine ⟨?_, k.2⟩
  rw [k.1]
  congr 2
  funext j
  rw [Nat.zero_add]
def wd (a b c d e : Int32) (k : Nat) : Int32 := if k < 4 then a else if k < 8 then b else if k < 12 then c else if k < 16 then d else e
theorem put2 (I : Mm) (f g : Vc) (x y : Int32) : st2 (va_up (st2 (va_up I 1 f) 0 1 x) 1 g) 0 1 y = st2 (va_up I 1 g) 0 1 y := by
  funext a j
  by_cases a0 : a = 0
  · subst a0
    by_cases j1 : j = 1
    · subst j1; rw [st2_s, st2_s]
    · rw [st2_o _ _ _ j1, st2_o _ _ _ j1, vu_o _ _ (by omega), vu_o _ _ (by omega), st2_o _ _ _ j1, vu_o _ _ (by omega)]
  · rw [st2_a _ _ a0, st2_a _ _ a0]
    by_cases a1 : a = 1
    · subst a1; rw [vu_s, vu_s]
    · rw [vu_o _ _ a1, vu_o _ _ a1, st2_orow _ _ _ a0, vu_o _ _ a1]
theorem c_feed {I : Mm} {L : Nat} (a b c d e : Int32) (hL : L + 20 ≤ 900) (h1 : I 0 1 = nI L) : m_X6_putBytes (u0_X10_feed I a b c d) e = st2 (va_up I 1 (fun j => if L ≤ j ∧ j < L + 20 then cb (wd a b c d e (j - L)) ((j - L) % 4) else I 1 j)) 0 1 (nI (L + 20)) ∧ (ok_X6_putBytes I a ∧ (ok_X6_putBytes (m_X6_putBytes I a) b ∧ (ok_X6_putBytes (m_X6_putBytes (m_X6_putBytes I a) b) c ∧ (ok_X6_putBytes (m_X6_putBytes (m_X6_putBytes (m_X6_putBytes I a) b) c) d ∧ ok_X6_putBytes (u0_X10_feed I a b c d) e)))) := by
  have p1 := c_put (I := I) a (by omega) h1
  rw [u0_X10_feed, opv_eq, p1.1]
  have p2 := c_put (I := st2 (va_up I 1 (fun j => if L ≤ j ∧ j < L + 4 then cb a (j - L) else I 1 j)) 0 1 (nI (L + 4))) (L := L + 4) b (by omega) (st2_s _ _ _ _)
  rw [st2_orow _ _ _ (by omega), vu_s, put2] at p2
  rw [p2.1]
  generalize hf2 : (fun j => if L + 4 ≤ j ∧ j < L + 4 + 4 then cb b (j - (L + 4)) else if L ≤ j ∧ j < L + 4 then cb a (j - L) else I 1 j) = f2 at *
  have p3 := c_put (I := st2 (va_up I 1 f2) 0 1 (nI (L + 4 + 4))) (L := L + 4 + 4) c (by omega) (st2_s _ _ _ _)
  rw [st2_orow _ _ _ (by omega), vu_s, put2] at p3
  rw [p3.1]
  generalize hf3 : (fun j => if L + 4 + 4 ≤ j ∧ j < L + 4 + 4 + 4 then cb c (j - (L + 4 + 4)) else f2 j) = f3 at *
  have p4 := c_put (I := st2 (va_up I 1 f3) 0 1 (nI (L + 4 + 4 + 4))) (L := L + 4 + 4 + 4) d (by omega) (st2_s _ _ _ _)
  rw [st2_orow _ _ _ (by omega), vu_s, put2] at p4
  rw [p4.1]
  generalize hf4 : (fun j => if L + 4 + 4 + 4 ≤ j ∧ j < L + 4 + 4 + 4 + 4 then cb d (j - (L + 4 + 4 + 4)) else f3 j) = f4 at *
  have p5 := c_put (I := st2 (va_up I 1 f4) 0 1 (nI (L + 4 + 4 + 4 + 4))) (L := L + 4 + 4 + 4 + 4) e (by omega) (st2_s _ _ _ _)
  rw [st2_orow _ _ _ (by omega), vu_s, put2] at p5
  refine ⟨?_, p1.2, p2.2, p3.2, p4.2, p5.2⟩
  rw [p5.1]
  have key : (fun j => if L + 4 + 4 + 4 + 4 ≤ j ∧ j < L + 4 + 4 + 4 + 4 + 4 then cb e (j - (L + 4 + 4 + 4 + 4)) else f4 j) = (fun j => if L ≤ j ∧ j < L + 20 then cb (wd a b c d e (j - L)) ((j - L) % 4) else I 1 j) := by
    funext j
    have g4 : f4 j = if L + 4 + 4 + 4 ≤ j ∧ j < L + 4 + 4 + 4 + 4 then cb d (j - (L + 4 + 4 + 4)) else f3 j := by rw [← hf4]
    have g3 : f3 j = if L + 4 + 4 ≤ j ∧ j < L + 4 + 4 + 4 then cb c (j - (L + 4 + 4)) else f2 j := by rw [← hf3]
    have g2 : f2 j = if L + 4 ≤ j ∧ j < L + 4 + 4 then cb b (j - (L + 4)) else if L ≤ j ∧ j < L + 4 then cb a (j - L) else I 1 j := by rw [← hf2]
    rw [g4, g3, g2]
    by_cases z0 : L ≤ j ∧ j < L + 20
    · rw [if_pos z0]
      unfold wd
      by_cases z1 : j - L < 4
      · rw [if_neg (by omega), if_neg (by omega), if_neg (by omega), if_neg (by omega), if_pos (by omega), if_pos z1, show (j - L) % 4 = j - L by omega]
      · by_cases z2 : j - L < 8
        · rw [if_neg (by omega), if_neg (by omega), if_neg (by omega), if_pos (by omega), if_neg z1, if_pos z2, show (j - L) % 4 = j - (L + 4) by omega]
        · by_cases z3 : j - L < 12
          · rw [if_neg (by omega), if_neg (by omega), if_pos (by omega), if_neg z1, if_neg z2, if_pos z3, show (j - L) % 4 = j - (L + 4 + 4) by omega]
          · by_cases z4 : j - L < 16
            · rw [if_neg (by omega), if_pos (by omega), if_neg z1, if_neg z2, if_neg z3, if_pos z4, show (j - L) % 4 = j - (L + 4 + 4 + 4) by omega]
            · rw [if_pos (by omega), if_neg z1, if_neg z2, if_neg z3, if_neg z4, show (j - L) % 4 = j - (L + 4 + 4 + 4 + 4) by omega]
    · rw [if_neg (by omega), if_neg (by omega), if_neg (by omega), if_neg (by omega), if_neg (by omega), if_neg z0]
  rw [key]
theorem m_feed_lp (a b c d e : Int32) : ∀ (n k L : Nat) (I : Mm), k + n = 20 → L + n ≤ 900 → I 65 2 = nI L → (lp_X11_feed_23 a b c d e (n + 1) (nI k) I).2 = st2 (va_up I 66 (fun j => if L ≤ j ∧ j < L + n then mb (wd a b c d e (k + (j - L))) ((k + (j - L)) % 4) else I 66 j)) 65 2 (nI (L + n)) ∧ oklp_X11_feed_23 a b c d e (n + 1) (nI k) I := by
  intro n
  induction n with
  | zero =>
    intro k L I hk hL h1
    have z : (20 : Int32) ≤ nI k := nI_le (a := 20) (by omega) (by omega)
    rw [lp_X11_feed_23, oklp_X11_feed_23, if_pos z, if_pos z]
    have : (fun j => if L ≤ j ∧ j < L + 0 then mb (wd a b c d e (k + (j - L))) ((k + (j - L)) % 4) else I 66 j) = I 66 := funext fun j => if_neg (by omega)
    rw [this, vu_same, Nat.add_zero, ← h1, st2_same]
    exact ⟨rfl, trivial⟩
  | succ n ih =>
    intro k L I hk hL h1
    have z : ¬ (20 : Int32) ≤ nI k := nI_ge (b := 20) (by omega) (by omega)
    have ew : u0_X11_feed a b c d e (nI k) = wd a b c d e k := by
      rw [u0_X11_feed, opv_eq]
      unfold wd
      by_cases z1 : k < 4
      · rw [if_neg (show ¬ (4 : Int32) ≤ nI k from nI_ge (b := 4) z1 (by omega)), if_pos z1]
      · rw [if_pos (show (4 : Int32) ≤ nI k from nI_le (a := 4) (by omega) (by omega)), if_neg z1]
        by_cases z2 : k < 8
        · rw [if_neg (show ¬ (8 : Int32) ≤ nI k from nI_ge (b := 8) z2 (by omega)), if_pos z2]
        · rw [if_pos (show (8 : Int32) ≤ nI k from nI_le (a := 8) (by omega) (by omega)), if_neg z2]
          by_cases z3 : k < 12
          · rw [if_neg (show ¬ (12 : Int32) ≤ nI k from nI_ge (b := 12) z3 (by omega)), if_pos z3]
          · rw [if_pos (show (12 : Int32) ≤ nI k from nI_le (a := 12) (by omega) (by omega)), if_neg z3]
            by_cases z4 : k < 16
            · rw [if_neg (show ¬ (16 : Int32) ≤ nI k from nI_ge (b := 16) z4 (by omega)), if_pos z4]
            · rw [if_pos (show (16 : Int32) ≤ nI k from nI_le (a := 16) (by omega) (by omega)), if_neg z4]
    have es : (24 : Int32) - 8 * (nI k - nI k / 4 * 4) = nI (24 - 8 * (k % 4)) := by
      rw [show nI k - nI k / 4 * 4 = nI (k % 4) from pk_rem (d := 4) (by omega) (by omega) (by omega), show (8 : Int32) * nI (k % 4) = nI (8 * (k % 4)) from pk_mul 8 _]
      exact pk_sub (a := 24) (by omega)
    rw [lp_X11_feed_23, oklp_X11_feed_23, if_neg z, if_neg z, h1, nI_clamp (by omega), nI_1, nI_1, ew, es, sz_66]
    have k2 := ih (k + 1) (L + 1) (st2 (va_up I 66 (upd (I 66) L (mb (wd a b c d e k) (k % 4)))) 65 2 (nI (L + 1))) (by omega) (by omega) (st2_s _ _ _ _)
    refine ⟨?_, vp_in_nI (by omega) (by omega), k2.2⟩
    show (lp_X11_feed_23 a b c d e (n + 1) (nI (k + 1)) (st2 (va_up I 66 (upd (I 66) L (mb (wd a b c d e k) (k % 4)))) 65 2 (nI (L + 1)))).2 = _
    rw [k2.1, st2_orow _ _ _ (by omega), vu_s]
    funext x j
    by_cases a0 : x = 65
    · subst a0
      by_cases j1 : j = 2
      · subst j1; rw [st2_s, st2_s, show L + 1 + n = L + (n + 1) by omega]
      · rw [st2_o _ _ _ j1, st2_o _ _ _ j1, vu_o _ _ (by omega), st2_o _ _ _ j1, vu_o _ _ (by omega), vu_o _ _ (by omega)]
    · rw [st2_a _ _ a0, st2_a _ _ a0]
      by_cases a1 : x = 66
      · subst a1
        rw [vu_s, vu_s]
        by_cases j1 : j = L
        · subst j1
          rw [if_neg (by omega), pk_us, if_pos (by omega), Nat.sub_self, Nat.add_zero]
        · rw [pk_un j1]
          by_cases j2 : L + 1 ≤ j ∧ j < L + 1 + n
          · rw [if_pos j2, if_pos (by omega), show k + 1 + (j - (L + 1)) = k + (j - L) by omega]
          · rw [if_neg j2, if_neg (by omega)]
      · rw [vu_o _ _ a1, vu_o _ _ a1, st2_orow _ _ _ a0, vu_o _ _ a1]
def kfd (a j : Nat) : Bool := !(a == 1) && !(a == 66) && !(a == 0 && j == 1) && !(a == 65 && (j == 2 || j == 0))
theorem Core.fed {I M : Mm} {w : Bool} (h : Core I w) (he : Fk kfd I M) (hT : TP M) : Core M w := by
  have r2 : ∀ a, a ≠ 0 → a ≠ 1 → a ≠ 65 → a ≠ 66 → M a = I a := by
    intro a h1 h2 h3 h4
    refine funext fun j => he a j ?_
    simp [kfd, h1, h2, h3, h4]
  obtain ⟨h1, h2, h3, h4, h5, h6, h7, h8, h9, h10, h11, h12⟩ := h
  have e68 := r2 68 (by omega) (by omega) (by omega) (by omega)
  have e23 := r2 23 (by omega) (by omega) (by omega) (by omega)
  have e24 := r2 24 (by omega) (by omega) (by omega) (by omega)
  have e70 := r2 70 (by omega) (by omega) (by omega) (by omega)
  have e71 := r2 71 (by omega) (by omega) (by omega) (by omega)
  have e72 := r2 72 (by omega) (by omega) (by omega) (by omega)
  have e58 := r2 58 (by omega) (by omega) (by omega) (by omega)
  have e59 := r2 59 (by omega) (by omega) (by omega) (by omega)
  have e51 := r2 51 (by omega) (by omega) (by omega) (by omega)
  have a4 : M 0 4 = I 0 4 := he 0 4 rfl
  have a5 : M 0 5 = I 0 5 := he 0 5 rfl
  have m9 : M 65 9 = I 65 9 := he 65 9 rfl
  have m14 : M 65 14 = I 65 14 := he 65 14 rfl
  have m20 : M 65 20 = I 65 20 := he 65 20 rfl
  have m21 : M 65 21 = I 65 21 := he 65 21 rfl
  have m34 : M 65 34 = I 65 34 := he 65 34 rfl
  refine ⟨by rw [e68]; exact h1, by rw [e68]; exact h2.congr (fun a _ _ _ _ => r2 a (by omega) (by omega) (by omega) (by omega)), ?_, by rw [a4, m14]; exact h4, hT, by rw [a5, m9]; exact h6, by rw [e68, e23, e70]; exact h7, ?_, ?_, by rw [a4, e68, e70, m20, m21]; exact h10, by unfold MK; rw [e68, e58, e59]; exact h11, by rw [m34, e51]; exact h12⟩
  · unfold DR
    have := dr_or w
    rw [r2 (dr w + 1) (by omega) (by omega) (by omega) (by omega), r2 (dr w + 3) (by omega) (by omega) (by omega) (by omega), r2 (dr w + 5) (by omega) (by omega) (by omega) (by omega), r2 (dr w + 7) (by omega) (by omega) (by omega) (by omega)]
    exact h3
  · unfold PR
    rw [e24, m20, e68, e71]
    refine ⟨h8.1, h8.2.1, h8.2.2.1, fun d hd => ?_⟩
    rw [r2 _ (by omega) (by omega) (by omega) (by omega)]
    exact h8.2.2.2 d hd
  · unfold IR
    rw [e24, m21, e68, e72]
    refine ⟨h9.1, h9.2.1, fun k hk => ?_⟩
    have := (bw_nI (hi := 3) h9.2.1).2
    rw [r2 _ (by omega) (by omega) (by omega) (by omega)]
    exact h9.2.2 k hk
theorem st_feed : St_feed Sim := by
  intro I J w x1 x2 x3 x4 x5 h
  have hTP := h.1.2.2.2.2.1
  have L0 := bw_nI (hi := 900) hTP.2.1
  have hby := hTP.2.2
  have e65 := hTP.1
  generalize (I 0 1).toNatClampNeg = L at L0 hby
  simp only [ok_X10_feed, m_X10_feed, f_X10_feed, ok_X11_feed, m_X11_feed, f_X11_feed, opv_eq]
  by_cases q : L ≤ 880
  · have q1 : I 0 1 ≤ 880 := by rw [L0.1]; exact nI_le (b := 880) q (by omega)
    obtain ⟨c1, c2⟩ := c_feed (I := I) x1 x2 x3 x4 x5 (L := L) (by omega) L0.1
    simp only [if_pos q1, c1]
    generalize hK : st2 (va_up I 1 (fun j => if L ≤ j ∧ j < L + 20 then cb (wd x1 x2 x3 x4 x5 (j - L)) ((j - L) % 4) else I 1 j)) 0 1 (nI (L + 20)) = K
    have K2 : K 65 2 = nI L := by rw [← hK, st2_orow _ _ _ (by omega), vu_o _ _ (by omega), ← e65, L0.1]
    have q2 : K 65 2 + 20 ≤ 900 := by
      rw [K2, show nI L + 20 = nI (L + 20) from nI_add L 20]
      exact nI_le (b := 900) (by omega) (by omega)
    have mu : mu_up 20 0 + 1 = 20 + 1 := by rw [show mu_up 20 0 = mu_up (nI 20) (nI 0) from rfl, mu_up_nI (by omega) (by omega)]
    have m := m_feed_lp x1 x2 x3 x4 x5 20 0 L (st2 K 65 0 0) (by omega) (by omega) (by rw [st2_o _ _ _ (by omega)]; exact K2)
    rw [nI_0] at m
    rw [if_pos q2, if_pos q2, if_pos q2, mu, m.1, st2_s]
    refine ⟨c2, m.2, by rw [← hK, st2_s], ?_⟩
    generalize hM : st2 (va_up (st2 K 65 0 0) 66 (fun j => if L ≤ j ∧ j < L + 20 then mb (wd x1 x2 x3 x4 x5 (0 + (j - L))) ((0 + (j - L)) % 4) else st2 K 65 0 0 66 j)) 65 2 (nI (L + 20)) = M
    have fK : Fk kfd I K := by rw [← hK]; exact ((Fk.refl _ _).up (fun _ => rfl)).st rfl
    have fM : Fk kfd K M := by rw [← hM]; exact (((Fk.refl _ _).st rfl).up (fun _ => rfl)).st rfl
    have f := fK.trans fM
    have M01 : M 0 1 = nI (L + 20) := by rw [← hM, st2_orow _ _ _ (by omega), vu_o _ _ (by omega), st2_orow _ _ _ (by omega), ← hK, st2_s]
    have M652 : M 65 2 = nI (L + 20) := by rw [← hM, st2_s]
    have M1 : ∀ j, M 1 j = if L ≤ j ∧ j < L + 20 then cb (wd x1 x2 x3 x4 x5 (j - L)) ((j - L) % 4) else I 1 j := fun j => by rw [← hM, st2_orow _ _ _ (by omega), vu_o _ _ (by omega), st2_orow _ _ _ (by omega), ← hK, st2_orow _ _ _ (by omega), vu_s]
    have M66 : ∀ j, M 66 j = if L ≤ j ∧ j < L + 20 then mb (wd x1 x2 x3 x4 x5 (0 + (j - L))) ((0 + (j - L)) % 4) else I 66 j := fun j => by
      rw [← hM, st2_orow _ _ _ (by omega), vu_s, st2_orow _ _ _ (by omega), ← hK, st2_orow _ _ _ (by omega), vu_o _ _ (by omega)]
    refine ⟨h.1.fed f ⟨by rw [M01, M652], by rw [M01]; exact bw_of (lo := 0) (hi := 900) (by omega) (by omega) (by omega), fun i hi => ?_⟩, ?_, ?_⟩
    · rw [M01, nI_clamp (by omega)] at hi
      rw [M1, M66]
      by_cases z : L ≤ i ∧ i < L + 20
      · rw [if_pos z, if_pos z, Nat.zero_add]
        have := cb_mb (wd x1 x2 x3 x4 x5 (i - L)) (q := (i - L) % 4) (Nat.mod_lt _ (by omega))
        exact ⟨this.2, this.1.symm⟩
      · rw [if_neg z, if_neg z]
        exact hby i (by omega)
    · rw [f 0 7 rfl, f 65 11 rfl]; exact h.2.1
    · rw [f 0 7 rfl, f 0 6 rfl, f 65 10 rfl]; exact h.2.2
  · have q1 : ¬ I 0 1 ≤ 880 := by rw [L0.1]; exact nI_ge (b := L) (a := 880) (by omega) (by omega)
    have q2 : ¬ I 65 2 + 20 ≤ 900 := by
      rw [← e65, L0.1, show nI L + 20 = nI (L + 20) from nI_add L 20]
      exact nI_ge (b := L + 20) (a := 900) (by omega) (by omega)
    rw [if_neg q1, if_neg q1, if_neg q1, if_neg q2, if_neg q2, if_neg q2]
    exact ⟨trivial, trivial, rfl, h.stay (Fr.refl I) (fr_0 I)⟩
