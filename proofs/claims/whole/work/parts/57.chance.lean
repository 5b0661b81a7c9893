/-! ===== gusts by chance ===== -/
def blS (r : Vc) (s : Int32) : Nat → Nat → Int64 → Vc → Int64 × Vc
  | 0, _, w, v => (w, v)
  | c + 1, j, w, v => if bt s j = true then blS r s c (j + 1) (w * (r 2).toInt64) (upd (mday r (r 0) v) 0 (mbound (mday r (r 0) v 0 + 1))) else blS r s c (j + 1) (w * (100 - r 2).toInt64) (mday r (r 0) v)
theorem upd_mpy (o v : Vc) (x : Int32) : upd (mpy o v) 0 x = mpy o (upd v 0 x) := by
  funext j
  match j with
  | 0 => rfl
  | n + 1 =>
    rw [pk_un (by omega)]
    unfold mpy
    rw [pk_un (by omega)]
theorem blS_mpy (r : Vc) (s : Int32) (o : Vc) : ∀ (c j : Nat) (w : Int64) (v : Vc), blS r s c j w (mpy o v) = ((blS r s c j w v).1, mpy o (blS r s c j w v).2) := by
  intro c
  induction c with
  | zero => intro j w v; rfl
  | succ c ih =>
    intro j w v
    rw [blS, blS, mday_mpy, mpy_0]
    by_cases q : bt s j = true
    · rw [if_pos q, if_pos q, upd_mpy, ih]
    · rw [if_neg q, if_neg q, ih]
theorem br_blS {r : Vc} (hb : RB r) (s : Int32) : ∀ (c j D : Nat) (w : Int64) (b v : Vc), BR r (r 0) D b v → D + c < 100000 → ∃ b', BR r (r 0) (D + c) b' (blS r s c j w v).2 := by
  intro c
  induction c with
  | zero => intro j D w b v h hD; exact ⟨b, h⟩
  | succ c ih =>
    intro j D w b v h hD
    have h2 := day_rel hb (by omega) h
    rw [blS, show D + (c + 1) = D + 1 + c by omega]
    by_cases q : bt s j = true
    · rw [if_pos q]
      exact ih (j + 1) (D + 1) _ _ _ (br_gust h2) (by omega)
    · rw [if_neg q]
      exact ih (j + 1) (D + 1) _ _ _ h2 (by omega)
theorem m_blow {r : Vc} (hb : RB r) (J1 : Nat → Nat → Int64) (s : Int32) {n : Nat} (hn : n ≤ 6) : ∀ (c j : Nat) (w : Int64) (I : Mm), I 68 = r → j + c = n → (lp_X11_tryGusts_73 J1 (nI n) s (c + 1) w (nI j) I).1 = (blS r s c j w (I 73)).1 ∧ (lp_X11_tryGusts_73 J1 (nI n) s (c + 1) w (nI j) I).2.2 = va_up I 73 (blS r s c j w (I 73)).2 ∧ oklp_X11_tryGusts_73 J1 (nI n) s (c + 1) w (nI j) I := by
  intro c
  induction c with
  | zero =>
    intro j w I hr hj
    have q : nI n ≤ nI j := nI_le (by omega) (by omega)
    rw [lp_X11_tryGusts_73, oklp_X11_tryGusts_73, if_pos q, if_pos q, blS, vu_same]
    exact ⟨rfl, rfl, trivial⟩
  | succ c ih =>
    intro j w I hr hj
    have q : ¬ nI n ≤ nI j := nI_ge (by omega) (by omega)
    have e68 : (va_up I 73 (mday r (r 0) (I 73))) 68 = r := by rw [vu_o _ _ (by omega)]; exact hr
    rw [lp_X11_tryGusts_73, oklp_X11_tryGusts_73, if_neg q, if_neg q, nI_1, u0_X11_tryGusts, opv_eq, u1_X11_tryGusts, opv_eq, m_dayOf hr (by omega) hb, hb_eq _ _ (by omega), e68, blS]
    by_cases z : bt s j = true
    · rw [if_pos z, if_pos z, if_pos z, if_pos z, m_gust, vu_s, vu_vu]
      have k := ih (j + 1) (w * (r 2).toInt64) (va_up I 73 (upd (mday r (r 0) (I 73)) 0 (mbound (mday r (r 0) (I 73) 0 + 1)))) (by rw [vu_o _ _ (by omega)]; exact hr) (by omega)
      rw [vu_vu, vu_s] at k
      exact ⟨k.1, k.2.1, dayOf_ok hr (by omega) sz_73 hb, gust_ok _ sz_73, k.2.2⟩
    · rw [if_neg z, if_neg z, if_neg z, if_neg z]
      have k := ih (j + 1) (w * (100 - r 2).toInt64) (va_up I 73 (mday r (r 0) (I 73))) e68 (by omega)
      rw [vu_vu, vu_s] at k
      exact ⟨k.1, k.2.1, dayOf_ok hr (by omega) sz_73 hb, trivial, k.2.2⟩
theorem c_blow {r : Vc} {t x2 : Nat} (hb : RB r) (s : Int32) {n : Nat} (hn : n ≤ 6) : ∀ (c j D : Nat) (w : Int64) (I : Mm) (v : Vc), TR I r t → BR r (r 0) D (I 64) v → D + c < 100000 → j + c = n → ∃ X, (lp_X3_blow_14 t x2 (nI n) s (c + 1) w (nI j) I).1 = (blS r s c j w v).1 ∧ (lp_X3_blow_14 t x2 (nI n) s (c + 1) w (nI j) I).2.2 = va_up I 64 X ∧ BR r (r 0) (D + c) X (blS r s c j w v).2 := by
  intro c
  induction c with
  | zero =>
    intro j D w I v hT hB hD hj
    have q : nI n ≤ nI j := nI_le (by omega) (by omega)
    rw [lp_X3_blow_14, if_pos q, blS]
    exact ⟨I 64, rfl, (vu_same _ _).symm, hB⟩
  | succ c ih =>
    intro j D w I v hT hB hD hj
    have q : ¬ nI n ≤ nI j := nI_ge (by omega) (by omega)
    have htl := hT.1
    have hB2 := day_rel hb (by omega) hB
    have et : (va_up I 64 (cday r (I 64))) t 3 = r 2 := by rw [vu_o _ _ (by omega)]; exact hT.2.2.2.2.1
    rw [lp_X3_blow_14, if_neg q, nI_1, u0_X3_blow, opv_eq, u1_X3_blow, opv_eq, c_passDay hT hb (by omega), blS, show D + (c + 1) = D + 1 + c by omega]
    by_cases z : bt s j = true
    · have zb := (bit_at s (k := j) (by omega)).mpr z
      have et2 : (m_X0_gust (va_up I 64 (cday r (I 64))) 64) t 3 = r 2 := by rw [c_gust, vu_o _ _ (by omega)]; exact et
      rw [if_pos zb, if_pos zb, if_pos z, et2, c_gust, vu_s, vu_vu]
      obtain ⟨X, a1, a2, a3⟩ := ih (j + 1) (D + 1) (w * (r 2).toInt64) (va_up I 64 (upd (cday r (I 64)) 0 (imin 9 (cday r (I 64) 0 + 1)))) (upd (mday r (r 0) v) 0 (mbound (mday r (r 0) v 0 + 1))) (hT.up (by omega)) (by rw [vu_s]; exact br_gust hB2) (by omega) (by omega)
      rw [vu_vu] at a2
      exact ⟨X, a1, a2, a3⟩
    · have zb : ¬ (s >>> (nI j &&& 31)) &&& 1 = 1 := fun x => z ((bit_at s (by omega)).mp x)
      rw [if_neg zb, if_neg zb, if_neg z, et]
      obtain ⟨X, a1, a2, a3⟩ := ih (j + 1) (D + 1) (w * (100 - r 2).toInt64) (va_up I 64 (cday r (I 64))) (mday r (r 0) v) (hT.up (by omega)) (by rw [vu_s]; exact hB2) (by omega) (by omega)
      rw [vu_vu] at a2
      exact ⟨X, a1, a2, a3⟩
def Wt (r : Vc) (n : Nat) (v : Vc) (s : Nat) : Int64 := (blS r (nI s) n 0 1 v).1
def Vt (r : Vc) (n : Nat) (v : Vc) (s : Nat) : Vc := (blS r (nI s) n 0 1 v).2
def accS (r : Vc) (n : Nat) (v : Vc) (who : Int32) (acc : Int64) (s : Nat) : Int64 := if who = -1 then acc + Wt r n v s * (Vt r n v s 0 + 9).toInt64 else (if pwho (Vt r n v s) = who then acc + Wt r n v s else acc)
def upS (r : Vc) (n : Nat) (v : Vc) (who : Int32) : Nat → Nat → Int64 → Int64
  | 0, _, acc => acc
  | c + 1, s, acc => upS r n v who c (s + 1) (accS r n v who acc s)
theorem c_weigh {r : Vc} {t n : Nat} (hb : RB r) (hn : n ≤ 6) (who : Int32) {b v : Vc} (hB : BR r (r 0) 999 b v) : ∀ (c s : Nat) (I : Mm) (J : Nat → Nat → Int64), TR I r t → I 23 = b → s + c = 2 ^ n → (∃ X, (lp_X3_weigh_40 t 23 (nI n) who (c + 1) (nI s) I J).2.1 = va_up I 64 X) ∧ (lp_X3_weigh_40 t 23 (nI n) who (c + 1) (nI s) I J).2.2 63 0 = upS r n v who c s (J 63 0) ∧ (lp_X3_weigh_40 t 23 (nI n) who (c + 1) (nI s) I J).2.2 63 1 = J 63 1 ∧ oklp_X3_weigh_40 t 23 (nI n) who (c + 1) (nI s) I J := by
  have hp := pow_le (l := n) (by omega)
  intro c
  induction c with
  | zero =>
    intro s I J hT h23 hs
    have q : (1 : Int32) <<< (nI n &&& 31) ≤ nI s := by rw [pow_sh n (by omega)]; exact nI_le (by omega) (by omega)
    rw [lp_X3_weigh_40, oklp_X3_weigh_40, if_pos q, if_pos q]
    exact ⟨⟨I 64, (vu_same _ _).symm⟩, rfl, rfl, trivial⟩
  | succ c ih =>
    intro s I J hT h23 hs
    have q : ¬ (1 : Int32) <<< (nI n &&& 31) ≤ nI s := by rw [pow_sh n (by omega)]; exact nI_ge (by omega) (by omega)
    have mu : mu_up (nI n) 0 + 1 = n + 1 := by rw [show mu_up (nI n) 0 = mu_up (nI n) (nI 0) from rfl, mu_up_nI (by omega) (by omega), Nat.sub_zero]
    obtain ⟨X, a1, a2, a3⟩ := c_blow (t := t) (x2 := 23) hb (nI s) hn n 0 999 1 (va_up I 64 (cpy (I 64) b)) v (hT.up (by omega)) (by rw [vu_s]; exact br_congr hB (fun j hj => if_pos hj) (fun _ _ => rfl)) (by omega) (by omega)
    rw [nI_0, vu_vu] at a2
    rw [nI_0] at a1
    have eW : f_X3_blow I t 23 (nI n) (nI s) = Wt r n v s := by
      rw [f_X3_blow, opv_eq, m_copy, h23, mu, a1]
      rfl
    have eM : m_X3_blow I t 23 (nI n) (nI s) = va_up I 64 X := by
      rw [m_X3_blow, opv_eq, m_copy, h23, mu, a2]
    have eX0 : X 0 = Vt r n v s 0 := a3.1
    have eXw : cwho X = pwho (Vt r n v s) := a3.who
    have eJ : ∃ J2, u0_X3_weigh t 23 (nI n) who (nI s) I J = J2 ∧ J2 63 0 = accS r n v who (J 63 0) s ∧ J2 63 1 = J 63 1 := by
      refine ⟨_, rfl, ?_⟩
      rw [u0_X3_weigh, opv_eq, eW, eM, f_whoIs, vu_s, eX0, eXw]
      unfold accS
      by_cases y : who = -1
      · rw [if_pos y, if_pos y, st2_sJ, st2_oJ _ _ _ (by omega)]
        exact ⟨rfl, rfl⟩
      · rw [if_neg y, if_neg y]
        by_cases y2 : pwho (Vt r n v s) = who
        · rw [if_pos y2, if_pos y2, st2_sJ, st2_oJ _ _ _ (by omega)]
          exact ⟨rfl, rfl⟩
        · rw [if_neg y2, if_neg y2]
          exact ⟨rfl, rfl⟩
    obtain ⟨J2, eJ1, eJ2, eJ3⟩ := eJ
    obtain ⟨⟨Y, k1⟩, k2, k3, k4⟩ := ih (s + 1) (va_up I 64 X) J2 (hT.up (by omega)) (by rw [vu_o _ _ (by omega)]; exact h23) (by omega)
    rw [lp_X3_weigh_40, oklp_X3_weigh_40, if_neg q, if_neg q, nI_1, eM, eJ1, upS]
    refine ⟨⟨Y, by rw [k1, vu_vu]⟩, by rw [k2, eJ2], by rw [k3, eJ3], ?_, k4⟩
    rw [ok_X3_blow, opv_eq]
    omega
theorem low_lp13 {t x2 n : Nat} (I : Mm) (x4 : Int32) (hn : n ≤ 6) : ∀ (c i a : Nat) (J : Nat → Nat → Int64), J 63 1 = lN a → i + c = n → (lp_X3_weigh_13 I t x2 (nI n) x4 (c + 1) (nI i) J).2 63 1 = lN (a * 100 ^ c) ∧ (lp_X3_weigh_13 I t x2 (nI n) x4 (c + 1) (nI i) J).2 63 0 = J 63 0 := by
  intro c
  induction c with
  | zero =>
    intro i a J hJ hi
    rw [lp_X3_weigh_13, if_pos (nI_le (by omega) (by omega)), Nat.pow_zero, Nat.mul_one]
    exact ⟨hJ, rfl⟩
  | succ c ih =>
    intro i a J hJ hi
    rw [lp_X3_weigh_13, if_neg (nI_ge (by omega) (by omega)), nI_1]
    have k := ih (i + 1) (a * 100) (stJ J 63 1 (J 63 1 * 100)) (by rw [st2_sJ, hJ]; exact lN_mul a 100) (by omega)
    rw [k.1, k.2, st2_oJ _ _ _ (by omega), Nat.pow_succ]
    refine ⟨?_, rfl⟩
    congr 1
    rw [Nat.mul_assoc, Nat.mul_comm 100]
theorem low_lp32 {n : Nat} (I : Mm) (hn : n ≤ 6) : ∀ (c i a : Nat) (J : Nat → Nat → Int64), J 65 37 = lN a → i + c = n → (lp_X11_tryGusts_32 I (nI n) (c + 1) (nI i) J).2 65 37 = lN (a * 100 ^ c) ∧ (lp_X11_tryGusts_32 I (nI n) (c + 1) (nI i) J).2 65 38 = J 65 38 ∧ (lp_X11_tryGusts_32 I (nI n) (c + 1) (nI i) J).2 79 = J 79 := by
  intro c
  induction c with
  | zero =>
    intro i a J hJ hi
    rw [lp_X11_tryGusts_32, if_pos (nI_le (by omega) (by omega)), Nat.pow_zero, Nat.mul_one]
    exact ⟨hJ, rfl, rfl⟩
  | succ c ih =>
    intro i a J hJ hi
    rw [lp_X11_tryGusts_32, if_neg (nI_ge (by omega) (by omega)), nI_1]
    have k := ih (i + 1) (a * 100) (stJ J 65 37 (J 65 37 * 100)) (by rw [st2_sJ, hJ]; exact lN_mul a 100) (by omega)
    rw [k.1, k.2.1, k.2.2, st2_oJ _ _ _ (by omega), Nat.pow_succ]
    refine ⟨?_, rfl, funext fun j => st2_aJ _ _ (by omega)⟩
    congr 1
    rw [Nat.mul_assoc, Nat.mul_comm 100]
theorem sz_79 : sz 79 = 4 := by decide +kernel
theorem z79_lp (I : Mm) (x1 : Int32) : ∀ (c i : Nat) (J : Nat → Nat → Int64), i + c = 4 → (∀ k, k < i → J 79 k = 0) → (∀ k, k < 4 → (lp_X11_tryGusts_12 I x1 (c + 1) (nI i) J).2 79 k = 0) ∧ (lp_X11_tryGusts_12 I x1 (c + 1) (nI i) J).2 65 = J 65 ∧ oklp_X11_tryGusts_12 I x1 (c + 1) (nI i) J := by
  intro c
  induction c with
  | zero =>
    intro i J hi hz
    have q : (4 : Int32) ≤ nI i := nI_le (a := 4) (by omega) (by omega)
    rw [lp_X11_tryGusts_12, oklp_X11_tryGusts_12, if_pos q, if_pos q]
    exact ⟨fun k hk => hz k (by omega), rfl, trivial⟩
  | succ c ih =>
    intro i J hi hz
    have q : ¬ (4 : Int32) ≤ nI i := nI_ge (b := 4) (by omega) (by omega)
    rw [lp_X11_tryGusts_12, oklp_X11_tryGusts_12, if_neg q, if_neg q, nI_1, nI_clamp (by omega), sz_79]
    have k := ih (i + 1) (va_up J 79 (vp_updL (J 79) i 0)) (by omega) (fun x hx => by
      rw [vu_s]
      by_cases z : x = i
      · subst z; rw [pk_uLs]
      · rw [pk_uLn z]; exact hz x (by omega))
    exact ⟨k.1, by rw [k.2.1, vu_o _ _ (by omega)], vp_in_nI (by omega) (by omega), k.2.2⟩
theorem m_try {r : Vc} {n : Nat} (hb : RB r) (hn : n ≤ 6) {v : Vc} : ∀ (c s : Nat) (I : Mm) (J : Nat → Nat → Int64), I 68 = r → I 70 = v → s + c = 2 ^ n → (∃ X, (lp_X11_tryGusts_57 (nI n) (c + 1) (nI s) I J).2.1 = va_up I 73 X) ∧ (∀ k, k < 4 → (lp_X11_tryGusts_57 (nI n) (c + 1) (nI s) I J).2.2 79 k = upS r n v (nI k) c s (J 79 k)) ∧ (lp_X11_tryGusts_57 (nI n) (c + 1) (nI s) I J).2.2 65 38 = upS r n v (-1) c s (J 65 38) ∧ (lp_X11_tryGusts_57 (nI n) (c + 1) (nI s) I J).2.2 65 37 = J 65 37 ∧ oklp_X11_tryGusts_57 (nI n) (c + 1) (nI s) I J := by
  have hp := pow_le (l := n) (by omega)
  intro c
  induction c with
  | zero =>
    intro s I J hr h70 hs
    have q : (1 : Int32) <<< (nI n &&& 31) ≤ nI s := by rw [pow_sh n (by omega)]; exact nI_le (by omega) (by omega)
    rw [lp_X11_tryGusts_57, oklp_X11_tryGusts_57, if_pos q, if_pos q]
    exact ⟨⟨I 73, (vu_same _ _).symm⟩, fun _ _ => rfl, rfl, rfl, trivial⟩
  | succ c ih =>
    intro s I J hr h70 hs
    have q : ¬ (1 : Int32) <<< (nI n &&& 31) ≤ nI s := by rw [pow_sh n (by omega)]; exact nI_ge (by omega) (by omega)
    have mu : mu_up (nI n) 0 + 1 = n + 1 := by rw [show mu_up (nI n) 0 = mu_up (nI n) (nI 0) from rfl, mu_up_nI (by omega) (by omega), Nat.sub_zero]
    have bl := m_blow hb J (nI s) hn n 0 1 (va_up I 73 (mpy (I 73) (I 70))) (by rw [vu_o _ _ (by omega)]; exact hr) (by omega)
    rw [nI_0, vu_s, vu_vu, h70, blS_mpy] at bl
    obtain ⟨b1, b2, b3⟩ := bl
    have b1' : (lp_X11_tryGusts_73 J (nI n) (nI s) (n + 1) 1 0 (va_up I 73 (mpy (I 73) v))).1 = Wt r n v s := b1
    have b2' : (lp_X11_tryGusts_73 J (nI n) (nI s) (n + 1) 1 0 (va_up I 73 (mpy (I 73) v))).2.2 = va_up I 73 (mpy (I 73) (Vt r n v s)) := b2
    have ew : f_X11_whoOf (va_up I 73 (mpy (I 73) (Vt r n v s))) 73 = pwho (Vt r n v s) := by rw [f_whoOf, vu_s, pwho_mpy]
    obtain ⟨o, ho, eo⟩ : ∃ o, o < 4 ∧ pwho (Vt r n v s) = nI o := by
      rcases who_bw (Vt r n v s) with z | z | z | z
      · exact ⟨0, by omega, z⟩
      · exact ⟨1, by omega, z⟩
      · exact ⟨2, by omega, z⟩
      · exact ⟨3, by omega, z⟩
    have e0 : u2_X11_tryGusts (nI n) (nI s) I J = va_up I 73 (mpy (I 73) (Vt r n v s)) := by
      rw [u2_X11_tryGusts, opv_eq, m_begin, h70, mu, b2']
    rw [lp_X11_tryGusts_57, oklp_X11_tryGusts_57, if_neg q, if_neg q, nI_1, e0, m_begin, h70, mu, b1', b2', ew, eo, nI_clamp (by omega), vu_s, mpy_0, sz_79]
    obtain ⟨⟨X, k1⟩, k2, k3, k4, k5⟩ := ih (s + 1) (va_up I 73 (mpy (I 73) (Vt r n v s))) (stJ (va_up J 79 (vp_updL (J 79) o (J 79 o + Wt r n v s))) 65 38 (J 65 38 + Wt r n v s * (Vt r n v s 0 + 9).toInt64)) (by rw [vu_o _ _ (by omega)]; exact hr) (by rw [vu_o _ _ (by omega)]; exact h70) (by omega)
    refine ⟨⟨X, by rw [k1, vu_vu]⟩, fun k hk => ?_, ?_, ?_, begin_ok _, b3, who_ok _ sz_73, vp_in_nI (by omega) (by omega), vp_in_nI (by omega) (by omega), k5⟩
    · rw [k2 k hk, upS, st2_aJ _ _ (by omega), vu_s]
      unfold accS
      have nk : ¬ nI k = -1 := by rw [fa_eq, nI_toInt (by omega), tim1]; omega
      rw [if_neg nk, eo]
      by_cases y : k = o
      · subst y; rw [pk_uLs, if_pos rfl]
      · rw [pk_uLn y, if_neg (by rw [nI_eq (by omega) (by omega)]; omega)]
    · rw [k3, upS, st2_sJ]
      unfold accS
      rw [if_pos rfl]
    · rw [k4, st2_oJ _ _ _ (by omega), vu_o _ _ (by omega)]
/-! bounds -/
theorem Wt_lp {r : Vc} (hb : RB r) (s : Int32) : ∀ (c j a : Nat) (v : Vc), ∃ b, (blS r s c j (lN a) v).1 = lN b ∧ b ≤ a * 100 ^ c := by
  have g := bw_nI (hi := 100) hb.2.2.1
  generalize (r 2).toNatClampNeg = x at g
  intro c
  induction c with
  | zero => intro j a v; exact ⟨a, rfl, by rw [Nat.pow_zero, Nat.mul_one]; exact Nat.le_refl _⟩
  | succ c ih =>
    intro j a v
    have up : ∀ y, y ≤ 100 → a * y * 100 ^ c ≤ a * 100 ^ (c + 1) := by
      intro y hy
      rw [Nat.pow_succ, Nat.mul_comm (100 ^ c) 100, ← Nat.mul_assoc]
      exact Nat.mul_le_mul_right _ (Nat.mul_le_mul_left _ hy)
    rw [blS, g.1]
    by_cases q : bt s j = true
    · rw [if_pos q, nI_l (by omega), lN_mul]
      obtain ⟨b, h1, h2⟩ := ih (j + 1) (a * x) (upd (mday r (r 0) v) 0 (mbound (mday r (r 0) v 0 + 1)))
      exact ⟨b, h1, Nat.le_trans h2 (up x g.2)⟩
    · rw [if_neg q, show (100 : Int32) - nI x = nI (100 - x) from pk_sub (a := 100) g.2, nI_l (by omega), lN_mul]
      obtain ⟨b, h1, h2⟩ := ih (j + 1) (a * (100 - x)) (mday r (r 0) v)
      exact ⟨b, h1, Nat.le_trans h2 (up (100 - x) (by omega))⟩
theorem pow100 {n : Nat} (h : n ≤ 6) : 100 ^ n ≤ 1000000000000 ∧ 1 ≤ 100 ^ n := by
  have := (by decide +kernel : ∀ n, n < 7 → 100 ^ n ≤ 1000000000000 ∧ 1 ≤ 100 ^ n)
  exact this n (by omega)
theorem upS_b {r : Vc} (hb : RB r) {n : Nat} (hn : n ≤ 6) {b v : Vc} (hB : BR r (r 0) 999 b v) (who : Int32) : ∀ (c s a : Nat), ∃ u, upS r n v who c s (lN a) = lN u ∧ u ≤ a + c * 18000000000000 := by
  intro c
  induction c with
  | zero => intro s a; exact ⟨a, rfl, by omega⟩
  | succ c ih =>
    intro s a
    obtain ⟨x, e1, e2⟩ := Wt_lp hb (nI s) n 0 1 v
    have hp := pow100 hn
    have eW : Wt r n v s = lN x := e1
    have hx : x ≤ 1000000000000 := by omega
    obtain ⟨b', h'⟩ := br_blS hb (nI s) n 0 999 1 b v hB (by omega)
    have hV : bw (Vt r n v s 0) (-9) 9 := by
      have := h'.2.2.2.2.2.2.2.1
      rw [h'.1] at this
      exact this
    have hV1 := hV.1; have hV2 := hV.2
    have eV : Vt r n v s 0 + 9 = nI ((Vt r n v s 0).toInt + 9).toNat := by
      rw [fa_eq, fb_addI (by rw [ti9]; omega) (by rw [ti9]; omega), ti9, nI_toInt (by omega)]
      omega
    have step : ∃ a2, accS r n v who (lN a) s = lN a2 ∧ a2 ≤ a + 18000000000000 := by
      unfold accS
      rw [eW, eV, nI_l (by omega), lN_mul, lN_add, lN_add]
      by_cases y : who = -1
      · rw [if_pos y]
        refine ⟨_, rfl, ?_⟩
        have : x * ((Vt r n v s 0).toInt + 9).toNat ≤ 1000000000000 * 18 := Nat.mul_le_mul hx (by omega)
        omega
      · rw [if_neg y]
        by_cases y2 : pwho (Vt r n v s) = who
        · rw [if_pos y2]; exact ⟨_, rfl, by omega⟩
        · rw [if_neg y2]; exact ⟨_, rfl, by omega⟩
    obtain ⟨a2, h1, h2⟩ := step
    obtain ⟨u, k1, k2⟩ := ih (s + 1) a2
    rw [upS, h1]
    exact ⟨u, k1, by omega⟩
/-! the greatest common divisor -/
theorem gcd_st (x y : Nat) : Nat.gcd x y = Nat.gcd y (x % y) := (Nat.gcd_comm x y).trans ((Nat.gcd_rec y x).trans (Nat.gcd_comm (x % y) y))
theorem lg0 {y : Nat} (h : y < 2 ^ 63) : lg_cmp (lN y) 0 = 0 ↔ y = 0 := by
  rw [lg_cmp_eq]
  show lN y = lN 0 ↔ _
  rw [pk_lEQ h (by omega)]
theorem short_lp (I : Mm) (J : Nat → Nat → Int64) : ∀ (k x y i f : Nat), y < 2 ^ k → x < 2 ^ 62 → y < 2 ^ 62 → i + 2 * k + 1 ≤ 200 → 2 * k + 1 ≤ f → (lp_X3_shorten_13 I J f (lN x) (lN y) (nI i)).1 = lN (Nat.gcd x y) ∧ oklp_X3_shorten_13 I J f (lN x) (lN y) (nI i) := by
  have base : ∀ (x i g : Nat), i < 200 → (lp_X3_shorten_13 I J (g + 1) (lN x) (lN 0) (nI i)).1 = lN (Nat.gcd x 0) ∧ oklp_X3_shorten_13 I J (g + 1) (lN x) (lN 0) (nI i) := by
    intro x i g hi
    have q : ¬ (200 : Int32) ≤ nI i := nI_ge (b := 200) hi (by omega)
    have z : lg_cmp (lN 0) 0 = 0 := (lg0 (by omega)).mpr rfl
    rw [lp_X3_shorten_13, oklp_X3_shorten_13, if_neg q, if_neg q, if_pos z, if_pos z, Nat.gcd_zero_right]
    exact ⟨rfl, trivial⟩
  intro k
  induction k with
  | zero =>
    intro x y i f hy hx hy2 hi hf
    obtain ⟨f, rfl⟩ : ∃ g, f = g + 1 := ⟨f - 1, by omega⟩
    have : y = 0 := by rw [Nat.pow_zero] at hy; omega
    subst this
    exact base x i f (by omega)
  | succ k ih =>
    intro x y i f hy hx hy2 hi hf
    obtain ⟨f, rfl⟩ : ∃ g, f = g + 1 := ⟨f - 1, by omega⟩
    by_cases z : y = 0
    · subst z; exact base x i f (by omega)
    · have q : ¬ (200 : Int32) ≤ nI i := nI_ge (b := 200) (by omega) (by omega)
      have n0 : ¬ lg_cmp (lN y) 0 = 0 := fun p => z ((lg0 (by omega)).mp p)
      have n1 : ¬ lN y = 0 := by
        show ¬ lN y = lN 0
        rw [pk_lEQ (by omega) (by omega)]
        exact z
      have m1 : x % y < y := Nat.mod_lt _ (by omega)
      rw [lp_X3_shorten_13, oklp_X3_shorten_13, if_neg q, if_neg q, if_neg n0, if_neg n0, nI_1, pk_lRem (by omega) (by omega) (by omega), gcd_st x y]
      obtain ⟨f, rfl⟩ : ∃ g, f = g + 1 := ⟨f - 1, by omega⟩
      by_cases z2 : x % y = 0
      · rw [z2]
        have b := base y (i + 1) f (by omega)
        exact ⟨b.1, n1, b.2⟩
      · have q' : ¬ (200 : Int32) ≤ nI (i + 1) := nI_ge (b := 200) (by omega) (by omega)
        have n0' : ¬ lg_cmp (lN (x % y)) 0 = 0 := fun p => z2 ((lg0 (by omega)).mp p)
        have n1' : ¬ lN (x % y) = 0 := by
          show ¬ lN (x % y) = lN 0
          rw [pk_lEQ (by omega) (by omega)]
          exact z2
        have m2 : y % (x % y) < x % y := Nat.mod_lt _ (by omega)
        have half : 2 * (y % (x % y)) < y := by
          have dm := Nat.div_add_mod y (x % y)
          have d1 : 1 ≤ y / (x % y) := (Nat.one_le_div_iff (by omega)).mpr (by omega)
          have : x % y * 1 ≤ x % y * (y / (x % y)) := Nat.mul_le_mul_left _ d1
          omega
        rw [lp_X3_shorten_13, oklp_X3_shorten_13, if_neg q', if_neg q', if_neg n0', if_neg n0', nI_1, pk_lRem (by omega) (by omega) (by omega), gcd_st y (x % y)]
        have k2 := ih (x % y) (y % (x % y)) (i + 1 + 1) f (by rw [Nat.pow_succ] at hy; omega) (by omega) (by omega) (by omega) (by omega)
        exact ⟨k2.1, n1, n1', k2.2⟩
theorem low_lp6 (I : Mm) (x1 x2 : Int64) (x3 : Bool) : ∀ (f x y : Nat), y < f → x < 2 ^ 62 → y < 2 ^ 62 → (lp_X11_lowest_6 I x1 x2 x3 f (lN x) (lN y)).1 = lN (Nat.gcd x y) ∧ oklp_X11_lowest_6 I x1 x2 x3 f (lN x) (lN y) := by
  intro f
  induction f with
  | zero => intro x y h; omega
  | succ f ih =>
    intro x y hf hx hy
    by_cases z : y = 0
    · subst z
      have z : lg_cmp (lN 0) 0 = 0 := (lg0 (by omega)).mpr rfl
      rw [lp_X11_lowest_6, oklp_X11_lowest_6, if_pos z, if_pos z, Nat.gcd_zero_right]
      exact ⟨rfl, trivial⟩
    · have n0 : ¬ lg_cmp (lN y) 0 = 0 := fun p => z ((lg0 (by omega)).mp p)
      have n1 : ¬ lN y = 0 := by
        show ¬ lN y = lN 0
        rw [pk_lEQ (by omega) (by omega)]
        exact z
      have m1 : x % y < y := Nat.mod_lt _ (by omega)
      rw [lp_X11_lowest_6, oklp_X11_lowest_6, if_neg n0, if_neg n0, pk_lRem (by omega) (by omega) (by omega), gcd_st x y]
      have k := ih y (x % y) (by omega) (by omega) (by omega)
      exact ⟨k.1, n1, k.2⟩
theorem m_lowest (I : Mm) {u L : Nat} (hu : u < 2 ^ 51) (hL : L < 2 ^ 51) (h1 : 1 ≤ L) (x3 : Bool) : f_X11_lowest I (lN u) (lN L) x3 = (if x3 = true then lN (L / Nat.gcd L u) else lN (u / Nat.gcd L u)) ∧ ok_X11_lowest I (lN u) (lN L) x3 := by
  have mu : mu_lg (lN u) = u := by
    unfold mu_lg
    rw [opq_eq, pk_lT (by omega)]
    omega
  have k := low_lp6 I (lN u) (lN L) x3 (u + 1) L u (by omega) (by omega) (by omega)
  have gp : 0 < Nat.gcd L u := Nat.gcd_pos_of_pos_left _ (by omega)
  have gl : Nat.gcd L u ≤ L := Nat.gcd_le_left _ (by omega)
  rw [f_X11_lowest, ok_X11_lowest, opv_eq, opv_eq, mu, k.1]
  refine ⟨?_, k.2, ?_⟩
  · cases x3
    · rw [if_neg (by simp), if_neg (by simp), pk_lDiv (by omega) gp (by omega)]
    · rw [if_pos rfl, if_pos rfl, pk_lDiv (by omega) gp (by omega)]
  · show ¬ lN _ = lN 0
    rw [pk_lEQ (by omega) (by omega)]
    omega
theorem c_short (I : Mm) (J : Nat → Nat → Int64) {u L : Nat} (hu : u < 2 ^ 51) (hL : L < 2 ^ 51) (h1 : 1 ≤ L) (h0 : J 63 0 = lN u) (h2 : J 63 1 = lN L) : j_X3_shorten I J 63 0 = lN (u / Nat.gcd L u) ∧ j_X3_shorten I J 63 1 = lN (L / Nat.gcd L u) ∧ ok_X3_shorten I J := by
  have mu : mu_up 200 0 + 1 = 201 := by rw [show mu_up 200 0 = mu_up (nI 200) (nI 0) from rfl, mu_up_nI (by omega) (by omega)]
  have k := short_lp I J 51 L u 0 201 hu (by omega) (by omega) (by omega) (by omega)
  rw [nI_0] at k
  have gp : 0 < Nat.gcd L u := Nat.gcd_pos_of_pos_left _ (by omega)
  have gl : Nat.gcd L u ≤ L := Nat.gcd_le_left _ (by omega)
  have nz : ¬ lN (Nat.gcd L u) = 0 := by
    show ¬ lN _ = lN 0
    rw [pk_lEQ (by omega) (by omega)]
    omega
  rw [j_X3_shorten, opv_eq, u0_X3_shorten, opv_eq, ok_X3_shorten, opv_eq, mu, h0, h2, k.1]
  by_cases z : Nat.gcd L u ≤ 1
  · have e : Nat.gcd L u = 1 := by omega
    have c : lg_cmp (lN (Nat.gcd L u)) 1 ≤ 0 := by
      rw [lg_cmp_le]
      show lN _ ≤ lN 1
      rw [pk_lLE (by omega) (by omega)]
      exact z
    rw [if_pos c, if_pos c, h0, h2, e, Nat.div_one, Nat.div_one]
    exact ⟨rfl, rfl, k.2, trivial⟩
  · have c : ¬ lg_cmp (lN (Nat.gcd L u)) 1 ≤ 0 := by
      rw [lg_cmp_le]
      show ¬ lN _ ≤ lN 1
      rw [pk_lLE (by omega) (by omega)]
      exact z
    rw [if_neg c, if_neg c, st2_oJ _ _ _ (by omega), st2_sJ, st2_sJ, pk_lDiv (by omega) gp (by omega), pk_lDiv (by omega) gp (by omega)]
    exact ⟨rfl, rfl, k.2, nz, nz⟩
/-- both have weighed -/
theorem Sim.weighed {I : Mm} {J : Nat → Nat → Int64} {w : Bool} (h : Sim I J w) (who : Int32) {n : Nat} (hn : n ≤ 6) : ∃ u K, u < 2 ^ 51 ∧ m_X3_weigh (st2 I 0 7 0) J (td w) 23 (nI n) who = K ∧ ok_X3_weigh (st2 I 0 7 0) J (td w) 23 (nI n) who ∧ j_X3_weigh (st2 I 0 7 0) J (td w) 23 (nI n) who 63 0 = lN (u / Nat.gcd (100 ^ n) u) ∧ j_X3_weigh (st2 I 0 7 0) J (td w) 23 (nI n) who 63 1 = lN (100 ^ n / Nat.gcd (100 ^ n) u) ∧ m_X11_good K 65 14 = I 0 4 ∧ ∀ J2, ok_X11_tryGusts (m_X11_good K) J2 (nI n) ∧ (∀ k, k < 4 → who = nI k → j_X11_tryGusts (m_X11_good K) J2 (nI n) 79 k = lN u) ∧ (who = -1 → j_X11_tryGusts (m_X11_good K) J2 (nI n) 65 38 = lN u) ∧ j_X11_tryGusts (m_X11_good K) J2 (nI n) 65 37 = lN (100 ^ n) ∧ ∀ J', Sim (m_X11_tryGusts (m_X11_good K) J2 (nI n)) J' w := by
  have hb := h.1.1
  have hB := h.1.2.2.2.2.2.2.1
  have hT : TR (st2 I 0 7 0) (I 68) (td w) := h.1.2.1.st (by omega)
  have hp := pow_le (l := n) (by omega)
  have h100 := pow100 hn
  have mu : mu_up (nI n) 0 + 1 = n + 1 := by rw [show mu_up (nI n) 0 = mu_up (nI n) (nI 0) from rfl, mu_up_nI (by omega) (by omega), Nat.sub_zero]
  have mu2 : mu_up ((1 : Int32) <<< (nI n &&& 31)) 0 + 1 = 2 ^ n + 1 := by rw [pow_sh n (by omega), show mu_up (nI (2 ^ n)) 0 = mu_up (nI (2 ^ n)) (nI 0) from rfl, mu_up_nI (by omega) (Nat.zero_le _), Nat.sub_zero]
  have lo := low_lp13 (t := td w) (x2 := 23) (n := n) (st2 I 0 7 0) who hn n 0 1 (stJ (stJ J 63 0 0) 63 1 1) (by rw [st2_sJ]; rfl) (by omega)
  rw [nI_0, Nat.one_mul, st2_oJ _ _ _ (by omega), st2_sJ] at lo
  generalize hJ1 : (lp_X3_weigh_13 (st2 I 0 7 0) (td w) 23 (nI n) who (n + 1) 0 (stJ (stJ J 63 0 0) 63 1 1)).2 = J1 at lo
  obtain ⟨⟨X, c1⟩, c2, c3, c4⟩ := c_weigh (t := td w) hb hn who hB (2 ^ n) 0 (st2 I 0 7 0) J1 hT (st7_row _ _ (by omega)) (by omega)
  rw [nI_0] at c1 c2 c3 c4
  obtain ⟨u, u1, u2⟩ := upS_b hb hn hB who (2 ^ n) 0 0
  have hu : u < 2 ^ 51 := by
    have : 2 ^ n * 18000000000000 ≤ 64 * 18000000000000 := Nat.mul_le_mul_right _ hp
    omega
  have hL : 100 ^ n < 2 ^ 51 := by omega
  rw [lo.2] at c2
  have c2' : (lp_X3_weigh_40 (td w) 23 (nI n) who (2 ^ n + 1) 0 (st2 I 0 7 0) J1).2.2 63 0 = lN u := c2.trans u1
  rw [lo.1] at c3
  have sh := c_short (lp_X3_weigh_40 (td w) 23 (nI n) who (2 ^ n + 1) 0 (st2 I 0 7 0) J1).2.1 _ hu hL h100.2 c2' c3
  have eK : m_X3_weigh (st2 I 0 7 0) J (td w) 23 (nI n) who = va_up (st2 I 0 7 0) 64 X := by
    rw [m_X3_weigh, opv_eq, u1_X3_weigh, opv_eq, mu, mu2, hJ1, c1]
  have eJ : j_X3_weigh (st2 I 0 7 0) J (td w) 23 (nI n) who = j_X3_shorten (lp_X3_weigh_40 (td w) 23 (nI n) who (2 ^ n + 1) 0 (st2 I 0 7 0) J1).2.1 (lp_X3_weigh_40 (td w) 23 (nI n) who (2 ^ n + 1) 0 (st2 I 0 7 0) J1).2.2 := by
    rw [j_X3_weigh, opv_eq, u2_X3_weigh, opv_eq, mu, mu2, hJ1]
  refine ⟨u, _, hu, eK, ?_, by rw [eJ]; exact sh.1, by rw [eJ]; exact sh.2.1, ?_, fun J2 => ?_⟩
  · rw [ok_X3_weigh, opv_eq, mu, mu2, hJ1]
    exact ⟨c4, sh.2.2⟩
  · rw [good_14, vu_o _ _ (by omega), st7_row _ _ (by omega), h.hc]
  · generalize hK : va_up (st2 I 0 7 0) 64 X = K
    have k68 : m_X11_good K 68 = I 68 := by rw [good_row _ (by omega), ← hK, vu_o _ _ (by omega), st7_row _ _ (by omega)]
    have k70 : m_X11_good K 70 = I 70 := by rw [good_row _ (by omega), ← hK, vu_o _ _ (by omega), st7_row _ _ (by omega)]
    have mu4 : mu_up 4 0 + 1 = 4 + 1 := by rw [show mu_up 4 0 = mu_up (nI 4) (nI 0) from rfl, mu_up_nI (by omega) (by omega)]
    obtain ⟨z1, z2, z3⟩ := z79_lp (m_X11_good K) (nI n) 4 0 (stJ (stJ J2 65 37 1) 65 38 0) (by omega) (fun k hk => by omega)
    rw [nI_0] at z1 z2 z3
    generalize hZ : (lp_X11_tryGusts_12 (m_X11_good K) (nI n) (4 + 1) 0 (stJ (stJ J2 65 37 1) 65 38 0)).2 = Z at z1 z2
    obtain ⟨y1, y2, y3⟩ := low_lp32 (n := n) (m_X11_good K) hn n 0 1 Z (by rw [z2, st2_oJ _ _ _ (by omega), st2_sJ]; rfl) (by omega)
    rw [nI_0] at y1 y2 y3
    rw [Nat.one_mul] at y1
    rw [z2, st2_sJ] at y2
    generalize hY : (lp_X11_tryGusts_32 (m_X11_good K) (nI n) (n + 1) 0 Z).2 = Y at y1 y2 y3
    obtain ⟨⟨X2, m1⟩, m2, m3, m4, m5⟩ := m_try hb hn (v := I 70) (2 ^ n) 0 (m_X11_good K) Y k68 k70 (by omega)
    rw [nI_0] at m1 m2 m3 m4 m5
    have eJ2 : j_X11_tryGusts (m_X11_good K) J2 (nI n) = (lp_X11_tryGusts_57 (nI n) (2 ^ n + 1) 0 (m_X11_good K) Y).2.2 := by
      rw [j_X11_tryGusts, opv_eq, mu4, hZ, mu, hY, mu2]
    refine ⟨?_, fun k hk e => ?_, fun e => ?_, ?_, fun J' => ?_⟩
    · rw [ok_X11_tryGusts, opv_eq, mu4, hZ, mu, hY, mu2]
      exact ⟨z3, m5⟩
    · rw [eJ2, m2 k hk, y3, z1 k hk, ← e]
      exact u1
    · rw [eJ2, m3, y2, ← e]
      exact u1
    · rw [eJ2, m4, y1]
    · rw [m_X11_tryGusts, opv_eq, mu4, hZ, mu, hY, mu2, m1, ← hK]
      exact h.done (v := 0) ((Fr.refl _).up (fun _ => rfl)) ((fr_good _).up (fun _ => rfl)) (by decide)
theorem st_likely : St_likely Sim := by
  intro I J w x1 x2 x3 h
  simp only [ok_X10_likely, m_X10_likely, f_X10_likely, j_X10_likely, u0_X10_likely, u1_X10_likely, u2_X10_likely, u3_X10_likely, ok_X11_likely, m_X11_likely, f_X11_likely, j_X11_likely, opv_eq, cr, f_within, m_refused, f_in, f_no]
  rw [show (if inb x1 0 3 = true then (if inb x2 0 6 = true then true else false) else false) = (inb x1 0 3 && inb x2 0 6) from by cases inb x1 0 3 <;> cases inb x2 0 6 <;> rfl]
  simp only [ifg2]
  by_cases q : gv (I 0 4) (inb x1 0 3 && inb x2 0 6) = 0
  · obtain ⟨qc, q2⟩ := gv_t q
    rw [Bool.and_eq_true] at q2
    simp only [q, if_true]
    obtain ⟨n, -, hn, rfl⟩ := inb_nI (lo := 0) (hi := 6) (by omega) q2.2 (by omega)
    obtain ⟨k, -, hk, rfl⟩ := inb_nI (lo := 0) (hi := 3) (by omega) q2.1 (by omega)
    obtain ⟨u, K, hu, eK, o1, j0, j1, k14, rest⟩ := h.weighed (nI k) hn
    rw [eK, k14]
    simp only [q, if_true]
    obtain ⟨o2, a1, -, a3, a4⟩ := rest (j_X3_weigh (st2 I 0 7 0) J (td w) 23 (nI n) (nI k))
    have h100 := pow100 hn
    rw [nI_clamp (by omega), a1 k (by omega) rfl, a3]
    have m := m_lowest (m_X11_tryGusts (m_X11_good K) (j_X3_weigh (st2 I 0 7 0) J (td w) 23 (nI n) (nI k)) (nI n)) (L := 100 ^ n) hu (by omega) h100.2 x3
    refine ⟨o1, ⟨o2, by rw [sz_79]; exact vp_in_nI (by omega) (by omega), m.2⟩, ?_, a4 _⟩
    rw [m.1, j0, j1]
  · simp only [if_neg q, h.g14]
    rw [gv_no _ _ _ q]
    refine ⟨trivial, ?_, ?_, h.bad (gv_4 _ _)⟩
    · split <;> trivial
    · split <;> rfl
theorem st_mean : St_mean Sim := by
  intro I J w x1 x2 h
  simp only [ok_X10_mean, m_X10_mean, f_X10_mean, j_X10_mean, u0_X10_mean, u1_X10_mean, u2_X10_mean, ok_X11_mean, m_X11_mean, f_X11_mean, j_X11_mean, opv_eq, cr, f_within, m_refused, f_why, f_no]
  by_cases q : gv (I 0 4) (inb x1 0 6) = 0
  · simp only [q, if_true]
    obtain ⟨n, -, hn, rfl⟩ := inb_nI (lo := 0) (hi := 6) (by omega) (gv_t q).2 (by omega)
    obtain ⟨u, K, hu, eK, o1, j0, j1, k14, rest⟩ := h.weighed (-1) hn
    rw [eK, k14]
    simp only [q, if_true]
    obtain ⟨o2, -, a2, a3, a4⟩ := rest (j_X3_weigh (st2 I 0 7 0) J (td w) 23 (nI n) (-1))
    have h100 := pow100 hn
    rw [a2 rfl, a3]
    have m := m_lowest (m_X11_tryGusts (m_X11_good K) (j_X3_weigh (st2 I 0 7 0) J (td w) 23 (nI n) (-1)) (nI n)) (L := 100 ^ n) hu (by omega) h100.2 x2
    refine ⟨o1, ⟨o2, m.2⟩, ?_, a4 _⟩
    rw [m.1, j0, j1]
  · simp only [if_neg q, h.g14]
    exact ⟨trivial, trivial, rfl, h.bad (gv_4 _ _)⟩
