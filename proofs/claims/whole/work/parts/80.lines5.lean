/-! ===== ditches ===== -/
theorem i53 (n : Nat) : (53 + 3 * nI n : Int32) = nI (53 + 3 * n) := by rw [show (53 : Int32) = nI 53 from rfl, i3]
theorem dit_lp {I : Mm} {r : Vc} {t n : Nat} (ht : t = 3 ∨ t = 14) (h : TB I r (t + 7) n 3 9 53) (x y : Int32) : ∀ (k l f : Nat), l + k = n → k < f → (lp_X8_hasDitch_2 I t x y f (nI l) = true ↔ ∃ i, l ≤ i ∧ i < n ∧ r (53 + 3 * i) = x ∧ r (53 + 3 * i + 1) = y) := by
  have n9 : n ≤ 9 := h.2.2.2.1
  intro k
  induction k with
  | zero =>
    intro l f hl hf
    obtain ⟨f, rfl⟩ : ∃ g, f = g + 1 := ⟨f - 1, by omega⟩
    have z : nI n ≤ nI l := nI_le (by omega) (by omega)
    rw [lp_X8_hasDitch_2, rt_10 ht, h.2.2.1, if_pos z]
    exact ⟨fun q => absurd q (by decide), fun ⟨i, h1, h2, _⟩ => absurd h2 (by omega)⟩
  | succ k ih =>
    intro l f hl hf
    obtain ⟨f, rfl⟩ : ∃ g, f = g + 1 := ⟨f - 1, by omega⟩
    have z : ¬ nI n ≤ nI l := nI_ge (by omega) (by omega)
    have c0 : f_X7_cell I (t + 7) (nI l) 0 = r (53 + 3 * l) := by
      rw [show (0 : Int32) = nI 0 from rfl, cell_in h (by omega) (by omega) (by omega), show 53 + (l * 3 + 0) = 53 + 3 * l by omega]
    have c1 : f_X7_cell I (t + 7) (nI l) 1 = r (53 + 3 * l + 1) := by
      rw [show (1 : Int32) = nI 1 from rfl, cell_in h (by omega) (by omega) (by omega), show 53 + (l * 3 + 1) = 53 + 3 * l + 1 by omega]
    rw [lp_X8_hasDitch_2, rt_10 ht, h.2.2.1, if_neg z, c0, c1, nI_1]
    have nxt : (lp_X8_hasDitch_2 I t x y f (nI (l + 1)) = true ↔ ∃ i, l + 1 ≤ i ∧ i < n ∧ r (53 + 3 * i) = x ∧ r (53 + 3 * i + 1) = y) := ih (l + 1) f (by omega) (by omega)
    have fin : ¬ (r (53 + 3 * l) = x ∧ r (53 + 3 * l + 1) = y) → (lp_X8_hasDitch_2 I t x y f (nI (l + 1)) = true ↔ ∃ i, l ≤ i ∧ i < n ∧ r (53 + 3 * i) = x ∧ r (53 + 3 * i + 1) = y) := by
      intro q
      rw [nxt]
      constructor
      · intro ⟨i, h1, h2, h3⟩
        exact ⟨i, by omega, h2, h3⟩
      · intro ⟨i, h1, h2, h3⟩
        refine ⟨i, ?_, h2, h3⟩
        by_cases e : i = l
        · exact absurd (by rw [e] at h3; exact h3) q
        · omega
    by_cases q : r (53 + 3 * l) = x
    · rw [if_pos q]
      by_cases q2 : r (53 + 3 * l + 1) = y
      · rw [if_pos q2]
        exact ⟨fun _ => ⟨l, by omega, by omega, q, q2⟩, fun _ => rfl⟩
      · rw [if_neg q2]
        exact fin (fun z => q2 z.2)
    · rw [if_neg q]
      exact fin (fun z => q z.1)
theorem dit_eq {I : Mm} {r : Vc} {t n : Nat} (ht : t = 3 ∨ t = 14) (h : TB I r (t + 7) n 3 9 53) (x y : Int32) : (f_X8_hasDitch I t x y = true ↔ ∃ i, i < n ∧ r (53 + 3 * i) = x ∧ r (53 + 3 * i + 1) = y) := by
  have n9 : n ≤ 9 := h.2.2.2.1
  have k := dit_lp ht h x y n 0 (mu_up (I (rt t 10) 3) 0 + 1) (by omega) (by rw [rt_10 ht, h.2.2.1, show (0 : Int32) = nI 0 from rfl, mu_up_nI (by omega) (by omega)]; omega)
  rw [show nI 0 = (0 : Int32) from rfl] at k
  rw [f_X8_hasDitch, opv_eq, k]
  exact ⟨fun ⟨i, _, h2, h3⟩ => ⟨i, h2, h3⟩, fun ⟨i, h2, h3⟩ => ⟨i, by omega, h2, h3⟩⟩
theorem ditL {M : Mm} {n : Nat} (h9 : M 69 9 = nI n) (n9 : n ≤ 9) (x y u : Int32) : ∀ (k l f : Nat) (b : Bool), l + k = n → k < f → ((lp_X11_ditchLine_62 M u x y f b (nI l)).1 = true ↔ b = true ∨ ∃ i, l ≤ i ∧ i < n ∧ M 69 (53 + 3 * i) = x ∧ M 69 (53 + 3 * i + 1) = y) ∧ oklp_X11_ditchLine_62 M u x y f b (nI l) := by
  intro k
  induction k with
  | zero =>
    intro l f b hl hf
    obtain ⟨f, rfl⟩ : ∃ g, f = g + 1 := ⟨f - 1, by omega⟩
    have z : nI n ≤ nI l := nI_le (by omega) (by omega)
    rw [lp_X11_ditchLine_62, oklp_X11_ditchLine_62, h9, if_pos z, if_pos z]
    refine ⟨⟨fun q => Or.inl q, fun q => ?_⟩, True.intro⟩
    rcases q with q | ⟨i, h1, h2, _⟩
    · exact q
    · exact absurd h2 (by omega)
  | succ k ih =>
    intro l f b hl hf
    obtain ⟨f, rfl⟩ : ∃ g, f = g + 1 := ⟨f - 1, by omega⟩
    have z : ¬ nI n ≤ nI l := nI_ge (by omega) (by omega)
    have v0 : vp_in (53 + 3 * nI l) (sz 69) := by rw [i53, sz_69]; exact vp_in_nI (by omega) (by omega)
    have v1 : vp_in (53 + 3 * nI l + 1) (sz 69) := by rw [i53, nI_1, sz_69]; exact vp_in_nI (by omega) (by omega)
    have eu : u1_X11_ditchLine M x y b (nI l) = true ↔ b = true ∨ (M 69 (53 + 3 * l) = x ∧ M 69 (53 + 3 * l + 1) = y) := by
      rw [u1_X11_ditchLine, opv_eq, i53, nI_1, nI_clamp (by omega), nI_clamp (by omega)]
      by_cases q : b = true
      · rw [if_pos q]; exact ⟨fun _ => Or.inl q, fun _ => rfl⟩
      · rw [if_neg q]
        by_cases q1 : M 69 (53 + 3 * l) = x
        · rw [if_pos q1]
          by_cases q2 : M 69 (53 + 3 * l + 1) = y
          · rw [if_pos q2]; exact ⟨fun _ => Or.inr ⟨q1, q2⟩, fun _ => rfl⟩
          · rw [if_neg q2]
            refine ⟨fun h => absurd h (by decide), fun h => ?_⟩
            rcases h with h | h
            · exact absurd h q
            · exact absurd h.2 q2
        · rw [if_neg q1]
          refine ⟨fun h => absurd h (by decide), fun h => ?_⟩
          rcases h with h | h
          · exact absurd h q
          · exact absurd h.1 q1
    have kk := ih (l + 1) f (u1_X11_ditchLine M x y b (nI l)) (by omega) (by omega)
    rw [lp_X11_ditchLine_62, oklp_X11_ditchLine_62, h9, if_neg z, if_neg z, nI_1]
    refine ⟨?_, ?_, kk.2⟩
    · rw [kk.1, eu]
      constructor
      · intro h
        rcases h with (h | h) | ⟨i, h1, h2, h3⟩
        · exact Or.inl h
        · exact Or.inr ⟨l, by omega, by omega, h⟩
        · exact Or.inr ⟨i, by omega, h2, h3⟩
      · intro h
        rcases h with h | ⟨i, h1, h2, h3⟩
        · exact Or.inl (Or.inl h)
        · by_cases e : i = l
          · rw [e] at h3; exact Or.inl (Or.inr h3)
          · exact Or.inr ⟨i, by omega, h2, h3⟩
    · refine iT ⟨v0, ?_⟩
      by_cases q : M 69 (53 + 3 * nI l).toNatClampNeg = x
      · rw [if_pos q]; exact v1
      · rw [if_neg q]; exact True.intro
theorem sh_ditch {M M0 M1 M2 M3 U3 K2 U4 : Mm} {c x y d : Int32} {B : Bool} (h13 : M 65 13 = 0) (e0 : M0 = m_X11_next M) (ec : c = M0 69 9) (e1 : M1 = m_X11_fieldHere M0) (ex : x = f_X11_fieldHere M0) (e2 : M2 = m_X11_next M1) (e3 : M3 = m_X11_fieldHere M2) (ey : y = f_X11_fieldHere M2) (eB : B = (lp_X11_ditchLine_62 M3 (53 + 3 * c) x y (mu_up (M3 69 9) 0 + 1) (if x = y then true else false) 0).1) (eU3 : U3 = if M3 65 13 = 0 then (if B = true then m_X11_wrong M3 3 (M3 65 4) else M3) else M3) (eK2 : K2 = va_up (va_up (m_X11_next U3) 69 (upd (m_X11_next U3 69) (53 + 3 * c).toNatClampNeg x)) 69 (upd (va_up (m_X11_next U3) 69 (upd (m_X11_next U3 69) (53 + 3 * c).toNatClampNeg x) 69) (53 + 3 * c + 1).toNatClampNeg y)) (eU4 : U4 = m_X11_after K2 21 1 99) (ed : d = f_X11_after K2 21 1 99) : m_X11_ditchLine M = (if M1 65 13 = 0 then (if U3 65 13 = 0 then (if U4 65 13 = 0 then st2 (va_up U4 69 (upd (U4 69) (53 + 3 * c + 2).toNatClampNeg d)) 69 9 (va_up U4 69 (upd (U4 69) (53 + 3 * c + 2).toNatClampNeg d) 69 9 + 1) else va_up U4 69 (upd (U4 69) (53 + 3 * c + 2).toNatClampNeg d)) else U3) else M1) ∧ (ok_X11_ditchLine M ↔ (ok_X11_next M ∧ ok_X11_fieldHere M0 ∧ (if M1 65 13 = 0 then (ok_X11_next M1 ∧ ok_X11_fieldHere M2 ∧ oklp_X11_ditchLine_62 M3 (53 + 3 * c) x y (mu_up (M3 69 9) 0 + 1) (if x = y then true else false) 0 ∧ (if U3 65 13 = 0 then (ok_X11_next U3 ∧ vp_in (53 + 3 * c) (sz 69) ∧ vp_in (53 + 3 * c + 1) (sz 69) ∧ ok_X11_after K2 21 1 99 ∧ vp_in (53 + 3 * c + 2) (sz 69)) else True)) else True))) := by
  subst ed eU4 eK2 eU3 eB ey e3 e2 ex e1 ec e0
  rw [m_X11_ditchLine, ok_X11_ditchLine, opv_eq, opv_eq, if_pos h13, if_pos h13, u5_X11_ditchLine, opv_eq, u4_X11_ditchLine, opv_eq, u3_X11_ditchLine, opv_eq, u2_X11_ditchLine, opv_eq, u0_X11_ditchLine, opv_eq]
  exact ⟨rfl, Iff.rfl⟩
theorem sc_ditch {I I1 I2 I3 I4 I5 I6 : Mm} {J J1 J2 J5 J6 : Nat → Nat → Int64} {w : Bool} {b1 b2 hd b5 b6 : Bool} (eI1 : I1 = m_X6_wantsField I J) (eJ1 : J1 = j_X6_wantsField I J) (eb1 : b1 = f_X6_wantsField I J) (eI2 : I2 = m_X6_wantsField I1 J1) (eJ2 : J2 = j_X6_wantsField I1 J1) (eb2 : b2 = f_X6_wantsField I1 J1) (ehd : hd = f_X8_hasDitch I2 (dr w) (I1 2 11) (I2 2 11)) (eI3 : I3 = m_X7_put I2 (dr w + 7) 0 (I1 2 11)) (eI4 : I4 = m_X7_put I3 (dr w + 7) 1 (I3 2 11)) (eI5 : I5 = m_X6_wants I4 J2 21) (eJ5 : J5 = j_X6_wants I4 J2 21) (eb5 : b5 = f_X6_wants I4 J2 21) (eI6 : I6 = m_X6_wantsCell I5 J5 (dr w + 7) 2 1 99) (eJ6 : J6 = j_X6_wantsCell I5 J5 (dr w + 7) 2 1 99) (eb6 : b6 = f_X6_wantsCell I5 J5 (dr w + 7) 2 1 99) : f_X6_readDitch I J w = (if b1 = true then (if b2 = true then (if I2 2 11 = I1 2 11 then false else (if hd = true then false else (if b5 = true then (if b6 = true then true else false) else false))) else false) else false) ∧ m_X6_readDitch I J w = (if b1 = true then (if b2 = true then (if I2 2 11 = I1 2 11 then m_X6_fails I2 3 else (if hd = true then m_X6_fails I2 3 else (if b5 = true then (if b6 = true then m_X6_closes I6 (dr w + 7) else I6) else I5))) else I2) else I1) ∧ j_X6_readDitch I J w = (if b1 = true then (if b2 = true then (if I2 2 11 = I1 2 11 then J2 else (if hd = true then J2 else (if b5 = true then J6 else J5))) else J2) else J1) ∧ (ok_X6_readDitch I J w ↔ (ok_X6_wantsField I J ∧ (if b1 = true then (ok_X6_wantsField I1 J1 ∧ (if b2 = true then (if I2 2 11 = I1 2 11 then True else (if hd = true then True else (ok_X6_wants I4 J2 21 ∧ (if b5 = true then ok_X6_wantsCell I5 J5 (dr w + 7) 2 1 99 else True)))) else True)) else True))) := by
  subst eb6 eJ6 eI6 eb5 eJ5 eI5 eI4 eI3 ehd eb2 eJ2 eI2 eb1 eJ1 eI1
  rw [f_X6_readDitch, m_X6_readDitch, j_X6_readDitch, ok_X6_readDitch, opv_eq, opv_eq, opv_eq, opv_eq, u10_X6_readDitch, u9_X6_readDitch, u8_X6_readDitch, u7_X6_readDitch, opv_eq, opv_eq, opv_eq, opv_eq, u6_X6_readDitch, u5_X6_readDitch, opv_eq, opv_eq, u4_X6_readDitch, u3_X6_readDitch, opv_eq, opv_eq, u2_X6_readDitch, opv_eq, u1_X6_readDitch, opv_eq, u0_X6_readDitch, opv_eq, rt_10 (dr_or w), f_X6_closes, opv_eq, f_fails]
  exact ⟨rfl, rfl, rfl, Iff.rfl⟩
theorem l_ditch {I M : Mm} {J : Nat → Nat → Int64} {N p k : Nat} {w : Bool} (h : At I J M N p) (h6 : M 65 6 = 2) (ls : LSt I J (M 69) (dr w) k) (hv : (M 69 9).toNatClampNeg < 9) (h11 : M 69 11 = 1) : ok_X6_readDitch I J w ∧ ok_X11_ditchLine M ∧ Co (dr w) I (m_X6_readDitch I J w) ∧ Fk kml M (m_X11_ditchLine M) ∧ Res (f_X6_readDitch I J w) (m_X6_readDitch I J w) (j_X6_readDitch I J w) (m_X11_ditchLine M) N p (dr w) := by
  have nx := at_ah h (by rw [h6]; decide)
  have e69 := krm_row nx.2.2.1 (a := 69) (by omega) (by omega)
  have h13 := h.2.1
  obtain ⟨hb, hT, hN, hU, hw1, hw2, hw3⟩ := ls
  have lD := hb.nD
  have lF := hb.nF
  have tv := hT.2.2.2.2.2.2.2.2.2.2.2
  have hdr := dr_or w
  obtain ⟨n, en⟩ : ∃ n, n = (M 69 9).toNatClampNeg := ⟨_, rfl⟩
  rw [← en] at lD hv tv
  have fld : ∀ q, q < 6 → M 69 (80 + q) ≠ 0 → bw (nI q) 0 ((M 69 8).toInt - 1) := by
    intro q hq hz
    have u : q < (M 69 8).toNatClampNeg := by
      by_cases z : q < (M 69 8).toNatClampNeg
      · exact z
      · exact absurd (us_free hU (n := q) (by omega) (by omega)) hz
    have e8 : (M 69 8).toInt = ((M 69 8).toNatClampNeg : Int) := by
      have := nI_toInt (n := (M 69 8).toNatClampNeg) (by omega)
      rw [← lF.1] at this
      exact this
    rw [e8]
    exact ⟨by rw [nI_toInt (by omega)]; omega, by rw [nI_toInt (by omega)]; omega⟩
  obtain ⟨M0, e0⟩ : ∃ X, X = m_X11_next M := ⟨_, rfl⟩
  rw [← e0] at nx e69
  have ec : nI n = M0 69 9 := by rw [e69]; exact lD.1.symm
  obtain ⟨M1, e1⟩ : ∃ X, X = m_X11_fieldHere M0 := ⟨_, rfl⟩
  obtain ⟨x, ex⟩ : ∃ X, X = f_X11_fieldHere M0 := ⟨_, rfl⟩
  obtain ⟨M2, e2⟩ : ∃ X, X = m_X11_next M1 := ⟨_, rfl⟩
  obtain ⟨M3, e3⟩ : ∃ X, X = m_X11_fieldHere M2 := ⟨_, rfl⟩
  obtain ⟨y, ey⟩ : ∃ X, X = f_X11_fieldHere M2 := ⟨_, rfl⟩
  obtain ⟨B, eB⟩ : ∃ X, X = (lp_X11_ditchLine_62 M3 (53 + 3 * nI n) x y (mu_up (M3 69 9) 0 + 1) (if x = y then true else false) 0).1 := ⟨_, rfl⟩
  obtain ⟨U3, eU3⟩ : ∃ X, X = if M3 65 13 = 0 then (if B = true then m_X11_wrong M3 3 (M3 65 4) else M3) else M3 := ⟨_, rfl⟩
  obtain ⟨K2, eK2⟩ : ∃ X, X = va_up (va_up (m_X11_next U3) 69 (upd (m_X11_next U3 69) (53 + 3 * nI n).toNatClampNeg x)) 69 (upd (va_up (m_X11_next U3) 69 (upd (m_X11_next U3 69) (53 + 3 * nI n).toNatClampNeg x) 69) (53 + 3 * nI n + 1).toNatClampNeg y) := ⟨_, rfl⟩
  obtain ⟨U4, eU4⟩ : ∃ X, X = m_X11_after K2 21 1 99 := ⟨_, rfl⟩
  obtain ⟨d, ed⟩ : ∃ X, X = f_X11_after K2 21 1 99 := ⟨_, rfl⟩
  have sh := sh_ditch h13 e0 ec e1 ex e2 e3 ey eB eU3 eK2 eU4 ed
  obtain ⟨I1, eI1⟩ : ∃ X, X = m_X6_wantsField I J := ⟨_, rfl⟩
  obtain ⟨J1, eJ1⟩ : ∃ X, X = j_X6_wantsField I J := ⟨_, rfl⟩
  obtain ⟨b1, eb1⟩ : ∃ X, X = f_X6_wantsField I J := ⟨_, rfl⟩
  obtain ⟨I2, eI2⟩ : ∃ X, X = m_X6_wantsField I1 J1 := ⟨_, rfl⟩
  obtain ⟨J2, eJ2⟩ : ∃ X, X = j_X6_wantsField I1 J1 := ⟨_, rfl⟩
  obtain ⟨b2, eb2⟩ : ∃ X, X = f_X6_wantsField I1 J1 := ⟨_, rfl⟩
  obtain ⟨hd, ehd⟩ : ∃ X, X = f_X8_hasDitch I2 (dr w) (I1 2 11) (I2 2 11) := ⟨_, rfl⟩
  obtain ⟨I3, eI3⟩ : ∃ X, X = m_X7_put I2 (dr w + 7) 0 (I1 2 11) := ⟨_, rfl⟩
  obtain ⟨I4, eI4⟩ : ∃ X, X = m_X7_put I3 (dr w + 7) 1 (I3 2 11) := ⟨_, rfl⟩
  obtain ⟨I5, eI5⟩ : ∃ X, X = m_X6_wants I4 J2 21 := ⟨_, rfl⟩
  obtain ⟨J5, eJ5⟩ : ∃ X, X = j_X6_wants I4 J2 21 := ⟨_, rfl⟩
  obtain ⟨b5, eb5⟩ : ∃ X, X = f_X6_wants I4 J2 21 := ⟨_, rfl⟩
  obtain ⟨I6, eI6⟩ : ∃ X, X = m_X6_wantsCell I5 J5 (dr w + 7) 2 1 99 := ⟨_, rfl⟩
  obtain ⟨J6, eJ6⟩ : ∃ X, X = j_X6_wantsCell I5 J5 (dr w + 7) 2 1 99 := ⟨_, rfl⟩
  obtain ⟨b6, eb6⟩ : ∃ X, X = f_X6_wantsCell I5 J5 (dr w + 7) 2 1 99 := ⟨_, rfl⟩
  have sc := sc_ditch (w := w) eI1 eJ1 eb1 eI2 eJ2 eb2 ehd eI3 eI4 eI5 eJ5 eb5 eI6 eJ6 eb6
  rw [sh.1, sh.2, sc.1, sc.2.1, sc.2.2.1, sc.2.2.2]
  clear sh sc
  have v0 : vp_in (53 + 3 * nI n) (sz 69) := by rw [i53, sz_69]; exact vp_in_nI (by omega) (by omega)
  have v1 : vp_in (53 + 3 * nI n + 1) (sz 69) := by rw [i53, nI_1, sz_69]; exact vp_in_nI (by omega) (by omega)
  have v2 : vp_in (53 + 3 * nI n + 2) (sz 69) := by rw [i53, show (2 : Int32) = nI 2 from rfl, nI_add, sz_69]; exact vp_in_nI (by omega) (by omega)
  have k0 : (53 + 3 * nI n : Int32).toNatClampNeg = 53 + 3 * n := by rw [i53, nI_clamp (by omega)]
  have k1 : (53 + 3 * nI n + 1 : Int32).toNatClampNeg = 53 + 3 * n + 1 := by rw [i53, nI_1, nI_clamp (by omega)]
  have k2 : (53 + 3 * nI n + 2 : Int32).toNatClampNeg = 53 + 3 * n + 2 := by rw [i53, show (2 : Int32) = nI 2 from rfl, nI_add, nI_clamp (by omega)]
  rw [k0, k1] at eK2
  rw [k2]
  have nf : ¬ false = true := by decide
  have s1 := w_field nx.1 J (k := k) (by rw [e69]; exact hN)
  rw [← e1, ← ex, ← eI1, ← eJ1, ← eb1] at s1
  obtain ⟨so1, mo1, sf1, mf1, sj1, s1⟩ := s1
  have fM1 : Fk kml M M1 := nx.2.2.1.ml.trans mf1.ml
  have r1 : M1 69 = M 69 := (krm_row mf1 (by omega) (by omega)).trans e69
  rcases s1 with ⟨t1, q1, ⟨n1, hn1, ex1, ei1, hz1⟩, kd1, p1, hp1, A1⟩ | ⟨t1, F1⟩
  rotate_left
  · have z : ¬ M1 65 13 = 0 := by rw [F1.1]; decide
    simp only [t1, if_neg nf, if_neg z]
    exact ⟨⟨so1, True.intro⟩, ⟨nx.2.1, mo1, True.intro⟩, Co.cr sf1, fM1, Or.inr ⟨(by first | rfl | exact True.intro), F1⟩⟩
  have z1 : M1 65 13 = 0 := by rw [q1]; exact A1.2.1
  rw [← q1] at A1 kd1
  have A1' := at_ah A1 (by rw [kd1]; decide)
  rw [← e2] at A1'
  have r2 : M2 69 = M 69 := (krm_row A1'.2.2.1 (by omega) (by omega)).trans r1
  have fM2 : Fk kml M M2 := fM1.trans A1'.2.2.1.ml
  have hN1 : NM I1 J1 (M 69) k := hN.cl (sf1 2 14 rfl) (krc_row sf1 (by omega)) (sj1.row (by omega))
  have s2 := w_field A1'.1 J1 (k := k) (by rw [r2]; exact hN1)
  rw [← e3, ← ey, ← eI2, ← eJ2, ← eb2] at s2
  obtain ⟨so2, mo2, sf2, mf2, sj2, s2⟩ := s2
  have fM3 : Fk kml M M3 := fM2.trans mf2.ml
  have r3 : M3 69 = M 69 := (krm_row mf2 (by omega) (by omega)).trans r2
  have m39 : M3 69 9 = nI n := by rw [r3]; exact lD.1
  have dl := ditL m39 (by omega) x y (53 + 3 * nI n) n 0 (mu_up (M3 69 9) 0 + 1) (if x = y then true else false) (by omega) (by rw [m39, show (0 : Int32) = nI 0 from rfl, mu_up_nI (by omega) (by omega)]; omega)
  rw [show nI 0 = (0 : Int32) from rfl, ← eB, r3] at dl
  rw [r3]
  rcases s2 with ⟨t2, q2, ⟨n2, hn2, ey1, ei2, hz2⟩, kd2, p2, hp2, A2⟩ | ⟨t2, F2⟩
  rotate_left
  · have z : ¬ M3 65 13 = 0 := by rw [F2.1]; decide
    have eu : U3 = M3 := by rw [eU3, if_neg z]
    rw [← eu] at z
    simp only [t1, t2, if_true, if_neg nf, if_pos z1, if_neg z]
    rw [eu]
    exact ⟨⟨so1, so2, True.intro⟩, ⟨nx.2.1, mo1, A1'.2.1, mo2, dl.2, True.intro⟩, (Co.cr sf1).trans (Co.cr sf2), fM3, Or.inr ⟨(by first | rfl | exact True.intro), F2⟩⟩
  have e111 : I1 2 11 = x := by rw [ei1, ex1]
  have e211 : I2 2 11 = y := by rw [ei2, ey1]
  have sf12 : Fk krc I I2 := sf1.trans sf2
  have sj12 : JF J J2 := fun a j q => (sj2 a j q).trans (sj1 a j q)
  have tbs : TB I2 (M 69) (dr w + 7) n 3 9 53 := tb_keep tv (krc_row sf12 (by omega)) (fun j _ => by rw [krc_row sf12 (by omega)])
  have hdn := dit_eq hdr tbs x y
  rw [e111, e211] at ehd
  rw [← ehd] at hdn
  rw [e111] at eI3
  rw [e111, e211]
  have z3 : M3 65 13 = 0 := by rw [q2]; exact A2.2.1
  rw [← q2] at A2 kd2
  by_cases qB : B = true
  · have kf := at_fl A2 3
    have eu : U3 = m_X11_wrong M3 3 (M3 65 4) := by rw [eU3, if_pos z3, if_pos qB]
    have z : ¬ U3 65 13 = 0 := by rw [eu, kf.1.1]; decide
    have fin : ∀ {X : Type} (u v : X), (if y = x then u else (if hd = true then u else v)) = u := by
      intro X u v
      rcases dl.1.mp qB with q | ⟨i, _, h2, h3⟩
      · have e : y = x := by
          by_cases q3 : x = y
          · exact q3.symm
          · rw [if_neg q3] at q; exact absurd q nf
        rw [if_pos e]
      · by_cases e : y = x
        · rw [if_pos e]
        · rw [if_neg e, if_pos (hdn.mpr ⟨i, h2, h3⟩)]
    simp only [t1, t2, if_true, if_pos z1, if_neg z]
    rw [fin, fin, fin, fin, eu]
    exact ⟨⟨so1, so2, True.intro⟩, ⟨nx.2.1, mo1, A1'.2.1, mo2, dl.2, True.intro⟩, (Co.cr sf12).trans (Co.cr kf.2.1), fM3.trans kf.2.2.ml, Or.inr ⟨(by first | rfl | exact True.intro), kf.1⟩⟩
  have eu : U3 = M3 := by rw [eU3, if_pos z3, if_neg qB]
  have nxy : ¬ y = x := fun e => qB (dl.1.mpr (Or.inl (by rw [if_pos e.symm])))
  have nhd : ¬ hd = true := fun e => qB (dl.1.mpr (Or.inr (by obtain ⟨i, h2, h3⟩ := hdn.mp e; exact ⟨i, by omega, h2, h3⟩)))
  have A3 := at_ah A2 (by rw [kd2]; decide)
  rw [eu] at eK2
  obtain ⟨K, eK⟩ : ∃ X, X = m_X11_next M3 := ⟨_, rfl⟩
  rw [← eK] at A3 eK2
  have rK : K 69 = M 69 := (krm_row A3.2.2.1 (by omega) (by omega)).trans r3
  have fK : Fk kml M K := fM3.trans A3.2.2.1.ml
  rw [vu_vu, vu_s, rK] at eK2
  have zU : U3 65 13 = 0 := by rw [eu]; exact z3
  have okU : ok_X11_next U3 := by rw [eu]; exact A3.2.1
  have yK := (Xa.refl K).up (upd (upd (M 69) (53 + 3 * n) x) (53 + 3 * n + 1) y)
  rw [← eK2] at yK
  have fK2 : Fk kml M K2 := fK.trans yK.ml
  have rK2 : K2 69 = upd (upd (M 69) (53 + 3 * n) x) (53 + 3 * n + 1) y := by rw [eK2, vu_s]
  have hc3 : 3 ≤ dr w + 7 := by omega
  have hc12 : dr w + 7 ≠ 12 ∧ dr w + 7 ≠ 13 := by rcases hdr with q | q <;> rw [q] <;> exact ⟨by decide, by decide⟩
  have ms0 : MS I I2 J2 (M 69) (dr w + 7 + 1) k (I (dr w + 7 + 1)) := ⟨fun a a1 _ _ => krc_row sf12 a1, krc_row sf12 (by omega), sf12 2 10 rfl, hN.cl (sf12 2 14 rfl) (krc_row sf12 (by omega)) (sj12.row (by omega))⟩
  have ms1 := ms_put (M := K) (N := N) (p := p2) x ms0 hc3 hc12 tv.2.1 tv.2.2.1 (room := 9) (by omega) (by omega) (by omega) tv.2.2.2.2.1 tv.2.2.2.2.2.1 (col := 0) (by omega) (x := 0) rfl
  have i311 : I3 2 11 = y := by
    have ew := ms0.1 (dr w + 7) (by omega) (by omega) (by omega)
    rw [eI3, show (0 : Int32) = nI 0 from rfl, t_put x (by rw [ew]; exact tv.2.1) (by rw [ew]; exact tv.2.2.1) (room := 9) (by omega) (by omega) (by omega) tv.2.2.2.2.1 tv.2.2.2.2.2.1 (by omega), vu_o _ _ (by omega), e211]
  rw [← eI3] at ms1
  rw [i311] at eI4
  have ms2 := ms_put (M := K) (N := N) (p := p2) y ms1.1 hc3 hc12 tv.2.1 tv.2.2.1 (room := 9) (by omega) (by omega) (by omega) tv.2.2.2.2.1 tv.2.2.2.2.2.1 (col := 1) (by omega) (x := 1) rfl
  rw [← eI4] at ms2
  have A4 : Ah I4 K2 N p2 := (ms2.2 (ms1.2 A3.1)).mo (yK 65 (by omega)) (yK 66 (by omega)) (yK 67 (by omega))
  have ms2' := ms2.1.mo (r' := K2 69) (fun j hj => by rw [rK2, upd_sl _ _ _ _ (by omega), upd_sl _ _ _ _ (by omega)])
  have co4 : Co (dr w) I I4 := ms2'.co (by omega) (by omega) (by omega)
  have s5 := w_must A4 J2 (s := 21) (by omega)
  rw [← eI5, ← eJ5, ← eb5] at s5
  obtain ⟨so5, mo5, sf5, mf5, sj5, s5⟩ := s5
  rw [m_X11_after, opv_eq] at eU4
  rw [f_X11_after, opv_eq] at ed
  rw [ok_X11_after, opv_eq]
  obtain ⟨Q, eQ⟩ : ∃ X, X = m_X11_must K2 21 := ⟨_, rfl⟩
  rw [← eQ] at s5 eU4 ed mf5 ⊢
  have fQ : Fk kml M Q := fK2.trans mf5.ml
  have rQ : Q 69 = K2 69 := krm_row mf5 (by omega) (by omega)
  rcases s5 with ⟨t5, p5, hp5, A5⟩ | ⟨t5, F5⟩
  rotate_left
  · have y4 := xa_number (Xa.refl Q) F5.1 1 99
    rw [← eU4] at y4
    have z : ¬ U4 65 13 = 0 := by rw [y4.1.e F5.1]; decide
    have y5 := y4.1.up (upd (U4 69) (53 + 3 * n + 2) d)
    simp only [t1, t2, t5, if_true, if_neg nf, if_pos z1, if_pos zU, if_neg z, if_neg nxy, if_neg nhd]
    exact ⟨⟨so1, so2, so5, True.intro⟩, ⟨nx.2.1, mo1, A1'.2.1, mo2, dl.2, okU, v0, v1, ⟨mo5, y4.2⟩, v2⟩, co4.trans (Co.cr sf5), fQ.trans y5.ml, Or.inr ⟨(by first | rfl | exact True.intro), y5.fl F5⟩⟩
  have ms5 := ms2'.krc (by omega) sf5 sj5
  have s6 := w_cell A5 J5 (dr w + 7) 2 1 99
  rw [← eU4, ← ed, ← eI6, ← eJ6, ← eb6] at s6
  obtain ⟨so6, mo6, mf6, sj6, s6⟩ := s6
  have fU4 : Fk kml M U4 := fQ.trans mf6.ml
  have rU4 : U4 69 = K2 69 := (krm_row mf6 (by omega) (by omega)).trans rQ
  have co5 : Co (dr w) I I5 := ms5.co (by omega) (by omega) (by omega)
  rcases s6 with ⟨t6, dv, I6', eput6, sf6, _, p6, hp6, A6⟩ | ⟨t6, sf6, F6⟩
  rotate_left
  · have z : ¬ U4 65 13 = 0 := by rw [F6.1]; decide
    have y5 := (Xa.refl U4).up (upd (U4 69) (53 + 3 * n + 2) d)
    simp only [t1, t2, t5, t6, if_true, if_neg nf, if_pos z1, if_pos zU, if_neg z, if_neg nxy, if_neg nhd]
    exact ⟨⟨so1, so2, so5, so6⟩, ⟨nx.2.1, mo1, A1'.2.1, mo2, dl.2, okU, v0, v1, ⟨mo5, mo6⟩, v2⟩, co5.trans (Co.cr sf6), fU4.trans y5.ml, Or.inr ⟨(by first | rfl | exact True.intro), y5.fl F6⟩⟩
  have ms6 := ms_put (M := U4) (N := N) (p := p6) d (ms5.krc (by omega) sf6 sj6) hc3 hc12 tv.2.1 tv.2.2.1 (room := 9) (by omega) (by omega) (by omega) tv.2.2.2.2.1 tv.2.2.2.2.2.1 (col := 2) (by omega) (x := 2) rfl
  rw [← eput6] at ms6
  have A6' := ms6.2 A6
  have ec6 := ms6.1.1 (dr w + 7) (by omega) (by omega) (by omega)
  have m49 : U4 69 9 = nI n := by
    rw [rU4, rK2, upd_sl _ _ _ _ (by omega), upd_sl _ _ _ _ (by omega)]; exact lD.1
  have zU4 : U4 65 13 = 0 := A6.2.1
  simp only [t1, t2, t5, t6, if_true, if_pos z1, if_pos zU, if_pos zU4, if_neg nxy, if_neg nhd]
  rw [t_close (n := n) (room := 9) (by rw [ec6]; exact tv.1) (by rw [ec6]; exact tv.2.2.1) (by omega) (by omega), vu_s, upd_sl _ _ _ _ (show 9 ≠ 53 + 3 * n + 2 by omega), m49, nI_1]
  have y5 := (((Xa.refl U4).up (upd (U4 69) (53 + 3 * n + 2) d))).st 9 (nI (n + 1))
  obtain ⟨r', er'⟩ : ∃ X, X = st2 (va_up U4 69 (upd (U4 69) (53 + 3 * n + 2) d)) 69 9 (nI (n + 1)) 69 := ⟨_, rfl⟩
  have er2 : r' = upd (upd (upd (upd (M 69) (53 + 3 * n) x) (53 + 3 * n + 1) y) (53 + 3 * n + 2) d) 9 (nI (n + 1)) := by rw [er', st2_row, vu_s, rU4, rK2]
  have hq : r' 9 = nI (n + 1) := by rw [er2, pk_us]
  have g2 : r' (53 + 3 * n + 2) = d := by rw [er2, upd_sl _ _ _ _ (by omega), pk_us]
  have g1 : r' (53 + 3 * n + 1) = y := by rw [er2, upd_sl _ _ _ _ (by omega), upd_sl _ _ _ _ (by omega), pk_us]
  have g0 : r' (53 + 3 * n) = x := by rw [er2, upd_sl _ _ _ _ (by omega), upd_sl _ _ _ _ (by omega), upd_sl _ _ _ _ (by omega), pk_us]
  have go : ∀ j, j ≠ 9 → ¬ (53 + 3 * n ≤ j ∧ j < 53 + 3 * n + 3) → r' j = M 69 j := by
    intro j h1 h2
    rw [er2, upd_sl _ _ _ _ h1, upd_sl _ _ _ _ (by omega), upd_sl _ _ _ _ (by omega), upd_sl _ _ _ _ (by omega)]
  have ho : ∀ j, j < 80 → j ≠ 9 → ¬ (53 + 3 * n ≤ j ∧ j < 53 + 3 * n + 3) → r' j = M 69 j := fun j _ h1 h2 => go j h1 h2
  have hz1' : M 69 (80 + n1) ≠ 0 := by rw [← e69]; exact hz1
  have hz2' : M 69 (80 + n2) ≠ 0 := by rw [← r2]; exact hz2
  refine ⟨⟨so1, so2, so5, so6⟩, ⟨nx.2.1, mo1, A1'.2.1, mo2, dl.2, okU, v0, v1, ⟨mo5, mo6⟩, v2⟩, ?_, fU4.trans y5.ml, Or.inl ⟨(by first | rfl | exact True.intro), ⟨p6, by omega, ?_⟩, ⟨k, ?_⟩, ?_⟩⟩
  · exact (ms6.1.co (by omega) (by omega) (by omega)).st (by omega) (by omega) (by omega)
  · refine (A6'.cl ?_ ?_ ?_ ?_).mo (y5 65 (by omega)) (y5 66 (by omega)) (y5 67 (by omega))
    · rw [st2_a _ _ (by omega)]
    · rw [st2_a _ _ (by omega)]
    · rw [st2_orow _ _ _ (by omega)]
    · rw [st2_a _ _ (by omega)]
  · rw [← er']
    refine ⟨rb_ditch hb en hv hq ho ⟨?_, ?_, ?_⟩, tr_ditch hT hb en hv hq ho ?_ ?_ ?_ ?_, ?_, ⟨?_, ?_⟩, ?_, ?_, ?_⟩
    · rw [g0, ex1]; exact fld n1 hn1 hz1'
    · rw [g1, ey1]; exact fld n2 hn2 hz2'
    · rw [g2]; exact inb_bw (lo := 1) (hi := 99) dv (by omega) (by omega)
    · rw [st2_row, ec6]
    · intro j hj
      rw [st2_orow _ _ _ (by omega), ms6.1.2.1, upd_sl _ _ _ _ (by omega), upd_sl _ _ _ _ (by omega), upd_sl _ _ _ _ (by omega)]
    · intro i hi
      rw [st2_orow _ _ _ (by omega), ms6.1.2.1]
      have q : i = 0 ∨ i = 1 ∨ i = 2 := by omega
      rcases q with rfl | rfl | rfl
      · rw [upd_sl _ _ _ _ (by omega), upd_sl _ _ _ _ (by omega), pk_us, show 53 + (n * 3 + 0) = 53 + 3 * n by omega, g0]
      · rw [upd_sl _ _ _ _ (by omega), pk_us, show 53 + (n * 3 + 1) = 53 + 3 * n + 1 by omega, g1]
      · rw [pk_us, show 53 + (n * 3 + 2) = 53 + 3 * n + 2 by omega, g2]
    · intro x x1 x2 x3 x4
      rw [st2_orow _ _ _ x3]
      exact ms6.1.1 x (by omega) (by omega) x4
    · refine (ms6.1.2.2.2.cl ?_ ?_ rfl).mo (fun j hj => ?_)
      · rw [st2_a _ _ (by omega)]
      · rw [st2_orow _ _ _ (by omega)]
      · rw [go j (by omega) (by omega), rK2, upd_sl _ _ _ _ (by omega), upd_sl _ _ _ _ (by omega)]
    · rw [ho 8 (by omega) (by omega) (by omega), ho 5 (by omega) (by omega) (by omega), ho 6 (by omega) (by omega) (by omega)]; exact hU.1
    · intro m hm hno
      rw [ho 8 (by omega) (by omega) (by omega), ho 5 (by omega) (by omega) (by omega), ho 6 (by omega) (by omega) (by omega)] at hno
      rw [go (80 + m) (by omega) (by omega)]
      exact hU.2 m hm hno
    · rw [st2_a _ _ (by omega), ms6.1.2.2.1, hw1, ho 12 (by omega) (by omega) (by omega)]
    · rw [ho 12 (by omega) (by omega) (by omega)]; exact hw2
    · rw [ho 11 (by omega) (by omega) (by omega)]; exact hw3
  · rw [← er', ho 11 (by omega) (by omega) (by omega)]; exact h11
