/-! ===== plan ===== -/
theorem m_behind_neg (I : Mm) (t : Nat) {x : Int32} (h : x ≤ 0) : m_X2_behind I t 23 x = va_up I 47 (cpy (I 47) (I 23)) := by
  rw [m_X2_behind, opv_eq, m_copy, lp_X2_behind_11, if_pos h]
theorem m_behind_to {I : Mm} {r : Vc} {t d D : Nat} (hT : TR I r t) (hb : RB r) (hd : d ≤ 20) (hD : D ≤ 999) : m_X2_behind I t 23 (nI d + 1 - nI D) = va_up I 47 (crun r (d + 1 - D) (cpy (I 47) (I 23))) := by
  rw [nI_1]
  by_cases q : D ≤ d + 1
  · rw [pk_sub q, m_behind hT hb (by omega)]
  · have z : nI (d + 1) - nI D < 0 := pk_sneg (by omega) (by omega)
    rw [m_behind_neg _ _ (by rw [fa_lt] at z; rw [fa_le]; omega), show d + 1 - D = 0 by omega, crun]
theorem plan_lp {r : Vc} (hb : RB r) {k d : Nat} (hk : k < (r 6).toNatClampNeg) (hd : r (25 + 3 * k) = nI d) (hd2 : d ≤ 20) (x2 : Int32) : ∀ (c f D : Nat) (I' : Mm), I' 68 = r → I' 73 4 = nI D → D < 5000 → c = d + 1 - D → c < f → lp_X11_plan_66 (nI k) x2 f I' = va_up I' 73 (mrun r (r 0) c (I' 73)) ∧ oklp_X11_plan_66 (nI k) x2 f I' := by
  have hn := hb.nP
  intro c
  induction c with
  | zero =>
    intro f D I' hr h4 hD hc hf
    obtain ⟨f, rfl⟩ : ∃ g, f = g + 1 := ⟨f - 1, by omega⟩
    rw [lp_X11_plan_66, oklp_X11_plan_66, hr, ix25 (by omega), hd, h4, if_pos (nI_lt (by omega) (by omega)), if_pos (nI_lt (by omega) (by omega)), mrun, vu_same]
    exact ⟨rfl, in25' (by omega), trivial⟩
  | succ c ih =>
    intro f D I' hr h4 hD hc hf
    obtain ⟨f, rfl⟩ : ∃ g, f = g + 1 := ⟨f - 1, by omega⟩
    have q : ¬ nI d < nI D := nI_nlt (by omega) (by omega)
    have k2 := ih f (D + 1) (va_up I' 73 (mday r (r 0) (I' 73))) (by rw [vu_o _ _ (by omega)]; exact hr) (by rw [vu_s, mday_4, h4, nI_1]) (by omega) (by omega) (by omega)
    rw [lp_X11_plan_66, oklp_X11_plan_66, hr, ix25 (by omega), hd, h4, if_neg q, if_neg q, m_dayOf hr (by omega) hb, k2.1, vu_vu, vu_s, mrun]
    exact ⟨rfl, in25' (by omega), dayOf_ok hr (by omega) sz_73 hb, k2.2⟩
theorem st_plan : St_plan Sim := by
  intro I J w x1 x2 h
  have hb := h.1.1
  have hT : ∀ v, TR (st2 I 0 7 v) (I 68) (td w) := fun v => h.1.2.1.st (by omega)
  have hB := h.1.2.2.2.2.2.2.1
  have t6 := h.1.t.2.2.2.2.2.2.1
  have e0 : u0_X10_plan I w x1 x2 = (if inb x1 0 (I 68 6 - 1) = true then (if inb x2 0 3 = true then true else false) else false) := by
    rw [u0_X10_plan, opv_eq, holds_in I x1 t6 hb.b6, f_within]
  have g68 : ∀ v, m_X11_good (st2 I 0 7 v) 68 = I 68 := fun v => by rw [good_row _ (by omega), st7_row _ _ (by omega)]
  simp only [ok_X10_plan, m_X10_plan, f_X10_plan, u1_X10_plan, u2_X10_plan, e0, ok_X11_plan, m_X11_plan, f_X11_plan, opv_eq, cl, m_lacks, f_in, f_no]
  by_cases q : lv (I 0 4) (if inb x1 0 (I 68 6 - 1) = true then (if inb x2 0 3 = true then true else false) else false) = 0
  · obtain ⟨qa, qb⟩ := two_t (lv_t q).2
    have qc := (lv_t q).1
    simp only [q, if_true]
    obtain ⟨k, hk, rfl⟩ := inb_cnt hb.nP.1 (by have := hb.nP.2; omega) qa
    obtain ⟨n, -, hn, rfl⟩ := inb_nI (lo := 0) (hi := 3) (by omega) qb (by omega)
    have hpn := hb.nP.2
    by_cases q3 : n = 3
    · subst q3
      have d0 := bw_nI (hi := 20) (hb.plan hk).1
      have D0 := bw_nI (hi := 999) hB.days.2
      generalize hd : (I 68 (25 + 3 * k)).toNatClampNeg = d at d0
      generalize hD : (I 23 6).toNatClampNeg = D at D0
      have c0 := plan_cell (hT 0) hb (c := 0) hk (by omega)
      rw [Nat.add_zero, d0.1] at c0
      have c0' : f_X7_cell (st2 I 0 7 0) (rt (td w) 8) (nI k) 0 = nI d := c0
      have eK : m_X2_keeps (st2 I 0 7 0) (td w) 23 (nI k) = va_up (st2 I 0 7 0) 47 (crun (I 68) (d + 1 - D) (cpy (I 47) (I 23))) := by
        rw [m_X2_keeps, opv_eq, c0', st7_row _ _ (by omega), D0.1, m_behind_to (hT 0) hb d0.2 D0.2, st7_row _ _ (by omega), st7_row _ _ (by omega)]
      have eF : f_X2_keeps (st2 I 0 7 0) (td w) 23 (nI k) = kb (I 68) (crun (I 68) (d + 1 - D) (cpy (I 47) (I 23))) k := by
        rw [f_X2_keeps, opv_eq, c0', st7_row _ _ (by omega), D0.1, m_behind_to (hT 0) hb d0.2 D0.2, st7_row _ _ (by omega), st7_row _ _ (by omega), isKept_eq ((hT 0).up (by omega)) hb hk, vu_s]
      have hw := h.walk (I 47) (I 73) (n := d + 1 - D) (by omega)
      have hbit := kept_bit hw hk
      generalize crun (I 68) (d + 1 - D) (cpy (I 47) (I 23)) = X at *
      rw [show (if nI 3 = 3 then m_X2_keeps (st2 I 0 7 0) (td w) 23 (nI k) else st2 I 0 7 0) = va_up (st2 I 0 7 0) 47 X from by rw [if_pos (show nI 3 = 3 from rfl), eK]]
      have K68 : m_X11_good (va_up (st2 I 0 7 0) 47 X) 68 = I 68 := by rw [good_row _ (by omega), vu_o _ _ (by omega), st7_row _ _ (by omega)]
      have K70 : m_X11_good (va_up (st2 I 0 7 0) 47 X) 70 = I 70 := by rw [good_row _ (by omega), vu_o _ _ (by omega), st7_row _ _ (by omega)]
      have K73 : m_X11_good (va_up (st2 I 0 7 0) 47 X) 73 = I 73 := by rw [good_row _ (by omega), vu_o _ _ (by omega), st7_row _ _ (by omega)]
      have K14 : m_X11_good (va_up (st2 I 0 7 0) 47 X) 65 14 = I 0 4 := by rw [good_14, vu_o _ _ (by omega), st7_row _ _ (by omega), h.hc]
      have p := plan_lp hb hk d0.1 d0.2 (nI 3) (d + 1 - D) 100 D (va_up (m_X11_good (va_up (st2 I 0 7 0) 47 X)) 73 (mpy (I 73) (I 70))) (by rw [vu_o _ _ (by omega)]; exact K68) (by rw [vu_s, mpy_4, ← hB.days.1]; exact D0.1) (by omega) rfl (by omega)
      rw [vu_vu, vu_s] at p
      simp only [K68, K14, if_neg qc, if_pos qa, if_pos qb, m_begin, K73, K70, opq_eq, p.1]
      rw [if_pos (show nI 3 = 3 from rfl), if_pos (show nI 3 = 3 from rfl), if_pos (show (3 : Int32) ≤ nI 3 from by decide), if_pos (show (3 : Int32) ≤ nI 3 from by decide), if_pos (show (3 : Int32) ≤ nI 3 from by decide), vu_s, bit_val _ (by omega), hbit, eF]
      refine ⟨?_, ⟨begin_ok _, p.2⟩, rfl, h.good47 _ _⟩
      rw [ok_X2_keeps, opv_eq]
      exact behind_ok _ _ _
    · have h3 : ¬ nI n = 3 := by
        show ¬ nI n = nI 3
        rw [nI_eq (by omega) (by omega)]
        exact q3
      have h4 : ¬ (3 : Int32) ≤ nI n := nI_ge (b := 3) (by omega) (by omega)
      simp only [if_neg h3, if_neg h4, h.g14, g68, if_neg qc, if_pos qa, if_pos qb]
      refine ⟨trivial, in25 (by omega) (by omega), ?_, ?_⟩
      · rw [plan_cell (hT 0) hb hk (by omega), ix25a (by omega) (by omega)]
      · exact h.done (v := 0) (Fr.refl _) (fr_good _) (by decide)
  · rw [if_neg q, if_neg q, if_neg q]
    simp only [h.g14, g68, ifl3]
    rw [if_neg q, if_neg q, if_neg q, lv_n q]
    exact ⟨trivial, trivial, rfl, h.bad (by decide)⟩
/-! ===== filling a row ===== -/
theorem fill_lp {a N : Nat} (x : Int32) (hN : N < 2 ^ 31) : ∀ (c i : Nat) (I : Mm), i + c = N → (lp_J7_fill_53178_5 a x (nI N) (c + 1) (nI i) I).2 = va_up I a (fun k => if i ≤ k ∧ k < N then x else I a k) := by
  intro c
  induction c with
  | zero =>
    intro i I hi
    rw [lp_J7_fill_53178_5, if_pos (nI_le (by omega) (by omega))]
    have : (fun k => if i ≤ k ∧ k < N then x else I a k) = I a := funext fun k => if_neg (by omega)
    rw [this, vu_same]
  | succ c ih =>
    intro i I hi
    rw [lp_J7_fill_53178_5, if_neg (nI_ge (by omega) (by omega)), nI_1, nI_clamp (by omega), ih (i + 1) _ (by omega), vu_vu, vu_s]
    congr 1
    funext k
    by_cases h1 : k = i
    · subst h1
      rw [if_neg (by omega), if_pos (by omega), pk_us]
    · rw [pk_un h1]
      by_cases h3 : i + 1 ≤ k ∧ k < N
      · rw [if_pos h3, if_pos (by omega)]
      · rw [if_neg h3, if_neg (by omega)]
theorem fill_oklp {a N : Nat} (x : Int32) (hN : N < 2 ^ 31) (hs : sz a = N) : ∀ (c i : Nat) (I : Mm), i + c = N → oklp_J7_fill_53178_5 a x (nI N) (c + 1) (nI i) I := by
  intro c
  induction c with
  | zero =>
    intro i I hi
    rw [oklp_J7_fill_53178_5, if_pos (nI_le (by omega) (by omega))]
    trivial
  | succ c ih =>
    intro i I hi
    rw [oklp_J7_fill_53178_5, if_neg (nI_ge (by omega) (by omega)), nI_1]
    exact ⟨by rw [hs]; exact vp_in_nI (by omega) (by omega), ih (i + 1) _ (by omega)⟩
theorem m_fill (I : Mm) {a N : Nat} (x : Int32) (hN : N < 2 ^ 31) (hs : sz a = N) : m_J7_fill_53178 I a x = va_up I a (fun k => if k < N then x else I a k) ∧ ok_J7_fill_53178 I a x := by
  rw [m_J7_fill_53178, ok_J7_fill_53178, opv_eq, opv_eq, hs, show (0 : Int32) = nI 0 from rfl, show Int32.ofNat N = nI N from rfl, mu_up_nI (by omega) (by omega), Nat.sub_zero, fill_lp x hN N 0 I (by omega)]
  refine ⟨?_, fill_oklp x hN hs N 0 I (by omega)⟩
  congr 1
  funext k
  by_cases h : k < N
  · rw [if_pos (by omega), if_pos h]
  · rw [if_neg (by omega), if_neg h]
theorem rfill_lp : ∀ (c i : Nat) (I : Mm), i + c = 1919 → (lp_X11_round_19 (c + 1) (nI i) I).2 = va_up I 74 (fun k => if i ≤ k ∧ k < 1919 then 0 else I 74 k) ∧ oklp_X11_round_19 (c + 1) (nI i) I := by
  intro c
  induction c with
  | zero =>
    intro i I hi
    have q : (1919 : Int32) ≤ nI i := nI_le (a := 1919) (by omega) (by omega)
    rw [lp_X11_round_19, oklp_X11_round_19, if_pos q, if_pos q]
    have : (fun k => if i ≤ k ∧ k < 1919 then 0 else I 74 k) = I 74 := funext fun k => if_neg (by omega)
    rw [this, vu_same]
    exact ⟨rfl, trivial⟩
  | succ c ih =>
    intro i I hi
    have q : ¬ (1919 : Int32) ≤ nI i := nI_ge (b := 1919) (by omega) (by omega)
    rw [lp_X11_round_19, oklp_X11_round_19, if_neg q, if_neg q, nI_1, nI_clamp (by omega)]
    have k := ih (i + 1) (va_up I 74 (upd (I 74) i 0)) (by omega)
    refine ⟨?_, ?_, k.2⟩
    · rw [k.1, vu_vu, vu_s]
      congr 1
      funext k
      by_cases h1 : k = i
      · subst h1
        rw [if_neg (by omega), if_pos (by omega), pk_us]
      · rw [pk_un h1]
        by_cases h3 : i + 1 ≤ k ∧ k < 1919
        · rw [if_pos h3, if_pos (by omega)]
        · rw [if_neg h3, if_neg (by omega)]
    · have : sz 74 = 1919 := by decide +kernel
      rw [this]
      exact vp_in_nI (by omega) (by omega)
/-! ===== when it goes round ===== -/
def idx (v : Vc) : Nat := (101 * ((v 0).toInt + 9) + (v 1).toInt).toNat
theorem idx_eq {a d : Int32} {v : Vc} (ha : bw a (-9) 9) (hd : bw d 0 100) (h0 : v 0 = a) (h1 : v 1 = d) : (a + 9) * 101 + d = nI (idx v) ∧ 101 * (a + 9) + d = nI (idx v) ∧ idx v < 1919 := by
  have := ha.1; have := ha.2; have := hd.1; have := hd.2
  have e1 : (a + 9).toInt = a.toInt + 9 := by rw [fb_addI (by rw [ti9]; omega) (by rw [ti9]; omega), ti9]
  have e2 : a + 9 = nI (a.toInt + 9).toNat := by
    rw [fa_eq, e1, nI_toInt (by omega)]
    omega
  have e3 : d = nI d.toInt.toNat := by
    rw [fa_eq, nI_toInt (by omega)]
    omega
  have e4 : idx v = (a.toInt + 9).toNat * 101 + d.toInt.toNat := by
    unfold idx
    rw [h0, h1]
    omega
  refine ⟨?_, ?_, by omega⟩
  · rw [e4, ← nI_add, ← pk_mul, ← e2, ← e3]; rfl
  · rw [e4, Nat.mul_comm, ← nI_add, ← pk_mul, ← e2, ← e3]; rfl
/-- what the two rows of first days hold after j days -/
def Fst (S : Nat → Nat) (j : Nat) (f : Vc) : Prop := (∀ i, 1 ≤ i → i ≤ j → f (S i) = nI i) ∧ ∀ k, k < 1919 → f k = 0 ∨ ∃ i, 1 ≤ i ∧ i ≤ j ∧ S i = k
theorem Fst.le {S : Nat → Nat} {j : Nat} {f : Vc} (h : Fst S j f) (hj : j < 5000) (hS : ∀ i, i < 6000 → S i < 1919) : j ≤ 1919 := by
  refine fb_holes 1919 j (fun i => S (i + 1)) (fun i _ => hS _ (by omega)) (fun i k h1 h2 e => ?_)
  have a := h.1 (i + 1) (by omega) (by omega)
  have b := h.1 (k + 1) (by omega) (by omega)
  have e' : S (i + 1) = S (k + 1) := e
  rw [e', b, nI_eq (by omega) (by omega)] at a
  omega
theorem Fst.put {S : Nat → Nat} {j : Nat} {f : Vc} (h : Fst S j f) (hj : j < 5000) (hz : f (S (j + 1)) = 0) : Fst S (j + 1) (upd f (S (j + 1)) (nI (j + 1))) := by
  refine ⟨fun i h1 h2 => ?_, fun k hk => ?_⟩
  · by_cases q : i = j + 1
    · subst q; rw [pk_us]
    · have a := h.1 i h1 (by omega)
      by_cases q2 : S i = S (j + 1)
      · rw [q2, hz] at a
        exact absurd a.symm (nI_ne0 (by omega) (by omega))
      · rw [pk_un q2]; exact a
  · by_cases q : k = S (j + 1)
    · exact Or.inr ⟨j + 1, by omega, by omega, q.symm⟩
    · rw [pk_un q]
      rcases h.2 k hk with z | ⟨i, a, b, c⟩
      · exact Or.inl z
      · exact Or.inr ⟨i, a, by omega, c⟩
theorem round_lp {r v0 : Vc} {t x2 : Nat} (hb : RB r) (hS : ∀ i, i < 6000 → idx (mrun r (r 0) i v0) < 1919) : ∀ (c j D f : Nat) (I I' : Mm), TR I r t → I' 68 = r → BR r (r 0) D (I 47) (I' 73) → I' 73 = mrun r (r 0) j v0 → (∀ k, k < 1919 → I 48 k = I' 74 k) → Fst (fun i => idx (mrun r (r 0) i v0)) j (I' 74) → D + c < 100000 → j + c = 1920 → c < f → ∃ X A Y B, (lp_X2_goesRound_18 t x2 (c + 1) (nI (j + 1)) I).1 = (lp_X11_round_45 f (nI j) I').1 ∧ (lp_X2_goesRound_18 t x2 (c + 1) (nI (j + 1)) I).2 = va_up (va_up I 47 X) 48 A ∧ (lp_X11_round_45 f (nI j) I').2 = va_up (va_up I' 73 Y) 74 B ∧ oklp_X2_goesRound_18 t x2 (c + 1) (nI (j + 1)) I ∧ oklp_X11_round_45 f (nI j) I' := by
  have s48 : sz 48 = 1919 := by decide +kernel
  have s74 : sz 74 = 1919 := by decide +kernel
  intro c
  induction c with
  | zero =>
    intro j D f I I' hT hr hB hv hA hF hD hj hf
    have := hF.le (by omega) hS
    omega
  | succ c ih =>
    intro j D f I I' hT hr hB hv hA hF hD hj hf
    obtain ⟨f, rfl⟩ : ∃ g, f = g + 1 := ⟨f - 1, by omega⟩
    have hB2 := day_rel hb (by omega) hB
    have hv2 : mday r (r 0) (I' 73) = mrun r (r 0) (j + 1) v0 := by rw [mrun_succ, hv]
    have ix := idx_eq (v := mday r (r 0) (I' 73)) hB2.2.2.2.2.2.2.2.1 hB2.2.2.2.2.2.2.2.2.1 hB2.1.symm hB2.2.1.symm
    have q : ¬ (1920 : Int32) < nI (j + 1) := nI_nlt (b := j + 1) (a := 1920) (by omega) (by omega)
    have n1 : ¬ nI (idx (mday r (r 0) (I' 73))) < 0 := nI_pos (by omega)
    have n2 : nI (idx (mday r (r 0) (I' 73))) < 1919 := nI_lt (b := 1919) ix.2.2 (by omega)
    have vi : vp_in (nI (idx (mday r (r 0) (I' 73)))) 1919 := vp_in_nI ix.2.2 (by omega)
    rw [lp_X2_goesRound_18, oklp_X2_goesRound_18, lp_X11_round_45, oklp_X11_round_45, if_neg q, if_neg q, c_passDay hT hb (by omega), m_dayOf hr (by omega) hb]
    simp only [vu_s, vu_o _ _ (show (48 : Nat) ≠ 47 by omega), vu_o _ _ (show (74 : Nat) ≠ 73 by omega), s48, s74]
    rw [← hB2.1, ← hB2.2.1, ix.1, ix.2.1, if_neg n1, if_neg n1, if_pos n2, if_pos n2, nI_clamp (by omega), nI_1, nI_1]
    have hA2 := hA _ ix.2.2
    rw [hA2]
    by_cases z : I' 74 (idx (mday r (r 0) (I' 73))) ≤ 0
    · rw [if_pos z, if_pos z, if_pos z, if_pos z]
      have hz : I' 74 (idx (mday r (r 0) (I' 73))) = 0 := by
        rcases hF.2 _ ix.2.2 with y | ⟨i, a, b, e⟩
        · exact y
        · have := hF.1 i a b
          have e' : idx (mrun r (r 0) i v0) = idx (mday r (r 0) (I' 73)) := e
          rw [← e'] at z
          have this' : I' 74 (idx (mrun r (r 0) i v0)) = nI i := this
          rw [this'] at z
          exact absurd z (nI_nle (by omega) (by omega))
      obtain ⟨X, A, Y, B, a1, a2, a3, a4, a5⟩ := ih (j + 1) (D + 1) f (va_up (va_up I 47 (cday r (I 47))) 48 (upd (I 48) (idx (mday r (r 0) (I' 73))) (nI (j + 1)))) (va_up (va_up I' 73 (mday r (r 0) (I' 73))) 74 (upd (I' 74) (idx (mday r (r 0) (I' 73))) (nI (j + 1)))) ((hT.up (by omega)).up (by omega)) (by rw [vu_o _ _ (by omega), vu_o _ _ (by omega)]; exact hr) (by rw [vu_o _ _ (by omega), vu_s, vu_o _ _ (by omega), vu_s]; exact hB2) (by rw [vu_o _ _ (by omega), vu_s]; exact hv2) (fun k hk => by
          rw [vu_s, vu_s]
          by_cases y : k = idx (mday r (r 0) (I' 73))
          · rw [y, pk_us, pk_us]
          · rw [pk_un y, pk_un y]; exact hA k hk) (by
          rw [vu_s, hv2]
          rw [hv2] at hz
          exact hF.put (by omega) hz) (by omega) (by omega) (by omega)
      refine ⟨X, A, Y, B, a1, ?_, ?_, ⟨vi, vi, a4⟩, ⟨dayOf_ok hr (by omega) sz_73 hb, vi, vi, a5⟩⟩
      · rw [a2]
        funext x
        by_cases h48 : x = 48
        · subst h48; rw [vu_s, vu_s]
        · rw [vu_o _ _ h48, vu_o _ _ h48]
          by_cases h47 : x = 47
          · subst h47; rw [vu_s, vu_s]
          · rw [vu_o _ _ h47, vu_o _ _ h48, vu_o _ _ h47, vu_o _ _ h47]
      · rw [a3]
        funext x
        by_cases h48 : x = 74
        · subst h48; rw [vu_s, vu_s]
        · rw [vu_o _ _ h48, vu_o _ _ h48]
          by_cases h47 : x = 73
          · subst h47; rw [vu_s, vu_s]
          · rw [vu_o _ _ h47, vu_o _ _ h48, vu_o _ _ h47, vu_o _ _ h47]
    · rw [if_neg z, if_neg z, if_neg z, if_neg z]
      refine ⟨cday r (I 47), I 48, mday r (r 0) (I' 73), I' 74, rfl, ?_, ?_, ⟨vi, vi⟩, ⟨dayOf_ok hr (by omega) sz_73 hb, vi, vi⟩⟩
      · have : (va_up I 47 (cday r (I 47))) 48 = I 48 := vu_o _ _ (by omega)
        rw [← this, vu_same]
      · have : (va_up I' 73 (mday r (r 0) (I' 73))) 74 = I' 74 := vu_o _ _ (by omega)
        rw [← this, vu_same]
theorem mrun_idx {r : Vc} (hb : RB r) {b v : Vc} {D : Nat} (h : BR r (r 0) D b v) (hD : D < 1000) (i : Nat) (hi : i < 500000) : idx (mrun r (r 0) i v) < 1919 := by
  have k := run_rel hb i D b v (by omega) h
  exact (idx_eq (v := mrun r (r 0) i v) k.2.2.2.2.2.2.2.1 k.2.2.2.2.2.2.2.2.1 k.1.symm k.2.1.symm).2.2
theorem st_round : St_round Sim := by
  intro I J w h
  have s48 : sz 48 = 1919 := by decide +kernel
  have hb := h.1.1
  have hB := h.1.2.2.2.2.2.2.1
  have hT : TR (st2 I 0 7 0) (I 68) (td w) := h.1.2.1.st (by omega)
  simp only [ok_X10_round, m_X10_round, f_X10_round, u0_X10_round, u1_X10_round, ok_X11_round, m_X11_round, f_X11_round, u0_X11_round, opv_eq, cr, m_refused, f_no]
  by_cases q : gv (I 0 4) true = 0
  · have qc := (gv_t q).1
    simp only [q, if_true]
    have fl := m_fill (st2 I 0 7 0) (a := 48) (N := 1919) 0 (by omega) s48
    obtain ⟨I1, hI1⟩ : ∃ x, x = va_up (va_up (st2 I 0 7 0) 48 (fun k => if k < 1919 then 0 else st2 I 0 7 0 48 k)) 47 (cpy (I 47) (I 23)) := ⟨_, rfl⟩
    have eI : m_X0_copy (m_J7_fill_53178 (st2 I 0 7 0) 48 0) 47 23 = I1 := by
      rw [fl.1, m_copy, vu_o _ _ (by omega), vu_o _ _ (by omega), st7_row _ _ (show (47 : Nat) ≠ 0 by omega), st7_row _ _ (show (23 : Nat) ≠ 0 by omega), hI1]
    rw [f_X2_goesRound, m_X2_goesRound, ok_X2_goesRound, opv_eq, opv_eq, opv_eq, eI, show mu_le 1920 1 = mu_le (nI 1920) (nI 1) from rfl, mu_le_nI (by omega) (by omega), show (1920 + 1 - 1 + 1 : Nat) = 1920 + 1 from rfl, show mu_up 1919 0 = mu_up (nI 1919) (nI 0) from rfl, mu_up_nI (by omega) (by omega), show (1919 - 0 + 1 : Nat) = 1919 + 1 from rfl, opq_eq]
    have key : ∀ K : Mm, K 68 = I 68 → K 70 = I 70 → _ := fun K (k68 : K 68 = I 68) (k70 : K 70 = I 70) => round_lp (r := I 68) (t := td w) (x2 := 23) (v0 := mpy (K 73) (K 70)) hb (fun i hi => mrun_idx hb (b := cpy (I 47) (I 23)) (D := 999) (by rw [k70]; exact br_cpy _ _ hB) (by omega) i (by omega)) 1920 0 999 3000 I1 (va_up (va_up K 74 (fun k => if 0 ≤ k ∧ k < 1919 then 0 else K 74 k)) 73 (mpy (K 73) (K 70))) (by rw [hI1]; exact (hT.up (by omega)).up (by omega)) (by rw [vu_o _ _ (by omega), vu_o _ _ (by omega)]; exact k68) (by rw [hI1, vu_s, vu_s, k70]; exact br_cpy _ _ hB) (by rw [vu_s, mrun]) (fun k hk => by rw [hI1, vu_o _ _ (by omega), vu_s, vu_o _ _ (by omega), vu_s, if_pos hk, if_pos (by omega)]) ⟨fun i h1 h2 => by omega, fun k hk => Or.inl (by rw [vu_o _ _ (by omega), vu_s, if_pos (by omega)])⟩ (by omega) (by omega) (by omega)
    rw [show ∀ C, lp_X2_goesRound_18 (td w) 23 (1920 + 1) 1 C = lp_X2_goesRound_18 (td w) 23 (1920 + 1) (nI (0 + 1)) C from fun _ => rfl, show ∀ C, oklp_X2_goesRound_18 (td w) 23 (1920 + 1) 1 C = oklp_X2_goesRound_18 (td w) 23 (1920 + 1) (nI (0 + 1)) C from fun _ => rfl]
    generalize hc : lp_X2_goesRound_18 (td w) 23 (1920 + 1) (nI (0 + 1)) I1 = C at key ⊢
    obtain ⟨X0, A0, Y0, B0, -, e0, -, ok0, -⟩ := key I rfl rfl
    have g68 : m_X11_good C.2 68 = I 68 := by rw [good_row _ (by omega), e0, hI1, vu_o _ _ (by omega), vu_o _ _ (by omega), vu_o _ _ (by omega), vu_o _ _ (by omega), st7_row _ _ (by omega)]
    have g70 : m_X11_good C.2 70 = I 70 := by rw [good_row _ (by omega), e0, hI1, vu_o _ _ (by omega), vu_o _ _ (by omega), vu_o _ _ (by omega), vu_o _ _ (by omega), st7_row _ _ (by omega)]
    have g14 : m_X11_good C.2 65 14 = I 0 4 := by rw [good_14, e0, hI1, vu_o _ _ (by omega), vu_o _ _ (by omega), vu_o _ _ (by omega), vu_o _ _ (by omega), st7_row _ _ (by omega), h.hc]
    obtain ⟨X, A, Y, B, a1, a2, a3, a4, a5⟩ := key _ g68 g70
    have rf := rfill_lp 1919 0 (m_X11_good C.2) (by omega)
    rw [nI_0] at rf
    rw [nI_0] at a1 a3 a5
    rw [g14, if_neg qc, if_neg qc, if_neg qc, rf.1, m_begin, vu_o _ _ (by omega), vu_o _ _ (by omega)]
    refine ⟨⟨fl.2, by omega, ok0⟩, ⟨rf.2, begin_ok _, a5⟩, a1, ?_⟩
    rw [a3]
    have f1 : Fr (st2 I 0 7 0) C.2 := by
      rw [e0, hI1]
      exact ((((Fr.refl _).up (fun _ => rfl)).up (fun _ => rfl)).up (fun _ => rfl)).up (fun _ => rfl)
    exact h.done (v := 0) f1 (((((fr_good _).up (fun _ => rfl)).up (fun _ => rfl)).up (fun _ => rfl)).up (fun _ => rfl)) (by decide)
  · have qc : I 0 4 = 0 := by
      by_cases z : I 0 4 = 0
      · exact z
      · exact absurd (by unfold gv; rw [if_neg z, if_pos rfl]) q
    have g1 : gv (I 0 4) true = 1 := by unfold gv; rw [if_pos qc]
    simp only [if_neg q, h.g14, if_pos qc]
    rw [g1]
    exact ⟨trivial, trivial, trivial, h.bad (by decide)⟩
