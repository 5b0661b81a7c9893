/-! ===== floods ===== -/
def dF (r : Vc) (j : Nat) : Nat := (r (53 + 3 * j)).toNatClampNeg
def dT (r : Vc) (j : Nat) : Nat := (r (53 + 3 * j + 1)).toNatClampNeg
def acS (r : Vc) (s di ca : Int32) : Nat → Nat → Int32 → Int32
  | 0, _, acc => acc
  | c + 1, j, acc => acS r s di ca c (j + 1) (if bt s (dF r j) = true then (if bt s (dT r j) = true then acc else acc + (if nI j = di then ca else r (53 + 3 * j + 2))) else acc)
theorem RB.dit {r : Vc} (hb : RB r) {k : Nat} (hk : k < (r 9).toNatClampNeg) : r (53 + 3 * k) = nI (dF r k) ∧ dF r k < (r 8).toNatClampNeg ∧ r (53 + 3 * k + 1) = nI (dT r k) ∧ dT r k < (r 8).toNatClampNeg := by
  have h := hb.ditch hk
  have nF := hb.nF
  have e8 : (r 8).toInt = (r 8).toNatClampNeg := (clampI hb.b8.1).symm
  have a := clampI h.1.1
  have b := clampI h.2.1.1
  have := h.1.2; have := h.2.1.2
  unfold dF dT
  refine ⟨clampN h.1.1, ?_, clampN h.2.1.1, ?_⟩ <;> omega
theorem ditch_cell {I : Mm} {r : Vc} {t : Nat} (hT : TR I r t) (hb : RB r) {k c : Nat} (hk : k < (r 9).toNatClampNeg) (hc : c < 3) : f_X7_cell I (rt t 10) (nI k) (nI c) = r (53 + 3 * k + c) := by
  have hd := hT.2.2.2.2.2.2.2.2.2.2.2
  rw [rt_10 hT.1, cell_in hd (by omega) hk hc]
  congr 1
  omega
theorem c_across {I : Mm} {r : Vc} {t : Nat} (hT : TR I r t) (hb : RB r) (s di ca : Int32) : ∀ (c j : Nat) (acc : Int32), j + c = (r 9).toNatClampNeg → (lp_X1_acrossFrom_6 I t s di ca (c + 1) acc (nI j)).1 = acS r s di ca c j acc := by
  have hn := hb.nD
  have hF := hb.nF
  have hc := (hT.cnt hb).2.2.2
  intro c
  induction c with
  | zero =>
    intro j acc hj
    rw [lp_X1_acrossFrom_6, hc, if_pos (nI_le (by omega) (by omega))]
    rfl
  | succ c ih =>
    intro j acc hj
    have c0 := ditch_cell hT hb (k := j) (c := 0) (by omega) (by omega)
    have c1 := ditch_cell hT hb (k := j) (c := 1) (by omega) (by omega)
    have c2 := ditch_cell hT hb (k := j) (c := 2) (by omega) (by omega)
    have d := hb.dit (k := j) (by omega)
    rw [Nat.add_zero, d.1] at c0
    rw [d.2.2.1] at c1
    rw [lp_X1_acrossFrom_6, hc, if_neg (nI_ge (by omega) (by omega)), nI_1, ih (j + 1) _ (by omega), acS]
    congr 1
    simp only [u2_X1_acrossFrom, u0_X1_acrossFrom, u1_X1_acrossFrom, opv_eq]
    rw [show (0 : Int32) = nI 0 from rfl, show f_X7_cell I (rt t 10) (nI j) 1 = f_X7_cell I (rt t 10) (nI j) (nI 1) from rfl, show f_X7_cell I (rt t 10) (nI j) 2 = f_X7_cell I (rt t 10) (nI j) (nI 2) from rfl, c0, c1, c2]
    by_cases q : bt s (dF r j) = true
    · rw [if_pos ((bit_at s (by omega)).mpr q), if_pos rfl, if_pos q]
      by_cases q2 : bt s (dT r j) = true
      · rw [if_pos ((bit_at s (by omega)).mpr q2), if_pos rfl, if_pos q2]
      · rw [if_neg (fun z => q2 ((bit_at s (by omega)).mp z)), if_neg (by simp), if_neg q2]
    · rw [if_neg (fun z => q ((bit_at s (by omega)).mp z)), if_neg (by simp), if_neg q]
def acr (r : Vc) (di ca s : Int32) : Int32 := acS r s di ca (r 9).toNatClampNeg 0 0
theorem c_acr {I : Mm} {r : Vc} {t : Nat} (hT : TR I r t) (hb : RB r) (s di ca : Int32) : f_X1_acrossFrom I t s di ca = acr r di ca s := by
  have hn := hb.nD
  rw [f_X1_acrossFrom, opv_eq, (hT.cnt hb).2.2.2, show (0 : Int32) = nI 0 from rfl, mu_up_nI (by omega) (by omega), Nat.sub_zero, c_across hT hb _ _ _ _ 0 _ (by omega)]
  rfl
theorem ix53 {k : Nat} (h : k < 1000) : ((53 : Int32) + 3 * nI k).toNatClampNeg = 53 + 3 * k := by
  show (nI 53 + nI 3 * nI k).toNatClampNeg = _
  rw [pk_mul, nI_add, nI_clamp (by omega)]
theorem ix53a {k c : Nat} (h : k < 1000) (hc : c < 10) : (((53 : Int32) + 3 * nI k) + nI c).toNatClampNeg = 53 + 3 * k + c := by
  show ((nI 53 + nI 3 * nI k) + nI c).toNatClampNeg = _
  rw [pk_mul, nI_add, nI_add, nI_clamp (by omega)]
theorem in53 {k c : Nat} (h : k < 50) (hc : c < 10) : vp_in (((53 : Int32) + 3 * nI k) + nI c) (sz 68) := by
  show vp_in ((nI 53 + nI 3 * nI k) + nI c) (sz 68)
  rw [pk_mul, nI_add, nI_add, sz_68]
  exact vp_in_nI (by omega) (by omega)
theorem in53' {k : Nat} (h : k < 50) : vp_in ((53 : Int32) + 3 * nI k) (sz 68) := by
  have := in53 (c := 0) h (by omega)
  rwa [nI_0, Int32.add_zero] at this
theorem m_across {I : Mm} {r : Vc} (hr : I 68 = r) (hb : RB r) (s : Int32) : ∀ (c j : Nat) (acc : Int32), j + c = (r 9).toNatClampNeg → (lp_X11_acrossOf_4 I s (c + 1) acc (nI j)).1 = acS r s (I 65 34) (I 65 35) c j acc ∧ oklp_X11_acrossOf_4 I s (c + 1) acc (nI j) := by
  have hn := hb.nD
  have hF := hb.nF
  intro c
  induction c with
  | zero =>
    intro j acc hj
    rw [lp_X11_acrossOf_4, oklp_X11_acrossOf_4, hr, hn.1, if_pos (nI_le (by omega) (by omega)), if_pos (nI_le (by omega) (by omega))]
    exact ⟨rfl, trivial⟩
  | succ c ih =>
    intro j acc hj
    have q : ¬ nI (r 9).toNatClampNeg ≤ nI j := nI_ge (by omega) (by omega)
    have d := hb.dit (k := j) (by omega)
    have k := ih (j + 1) (acc + u0_X11_acrossOf I s (nI j)) (by omega)
    have e : acc + u0_X11_acrossOf I s (nI j) = (if bt s (dF r j) = true then (if bt s (dT r j) = true then acc else acc + (if nI j = I 65 34 then I 65 35 else r (53 + 3 * j + 2))) else acc) := by
      rw [u0_X11_acrossOf, opv_eq, f_X11_carriesOf, opv_eq, u0_X11_carriesOf, opv_eq, hr, ix53 (by omega), show ((53 : Int32) + 3 * nI j + 1) = ((53 : Int32) + 3 * nI j + nI 1) from rfl, show ((53 : Int32) + 3 * nI j + 2) = ((53 : Int32) + 3 * nI j + nI 2) from rfl, ix53a (by omega) (by omega), ix53a (by omega) (by omega), d.1, d.2.2.1, hb_eq _ _ (by omega), hb_eq _ _ (by omega)]
      by_cases y : bt s (dF r j) = true
      · rw [if_pos y, if_pos y]
        by_cases y2 : bt s (dT r j) = true
        · rw [if_pos y2, if_pos y2, Int32.add_zero]
        · rw [if_neg y2, if_neg y2]
      · rw [if_neg y, if_neg y, Int32.add_zero]
    rw [lp_X11_acrossOf_4, oklp_X11_acrossOf_4, hr, hn.1, if_neg q, if_neg q, nI_1]
    refine ⟨by rw [k.1, e, acS], in53' (by omega), ?_, k.2⟩
    split
    · refine ⟨in53 (c := 1) (by omega) (by omega), ?_⟩
      split
      · trivial
      · rw [ok_X11_carriesOf, opv_eq]
        split
        · trivial
        · exact in53 (c := 2) (by omega) (by omega)
    · trivial
theorem m_acr {I : Mm} {r : Vc} (hr : I 68 = r) (hb : RB r) (s : Int32) : f_X11_acrossOf I s = acr r (I 65 34) (I 65 35) s ∧ ok_X11_acrossOf I s := by
  have hn := hb.nD
  rw [f_X11_acrossOf, ok_X11_acrossOf, opv_eq, opv_eq, hr, hn.1, show (0 : Int32) = nI 0 from rfl, mu_up_nI (by omega) (by omega), Nat.sub_zero]
  exact m_across hr hb s _ 0 _ (by omega)
/-! the least side -/
def bst (A : Nat → Int32) : Nat → Nat → Nat → Nat
  | 0, _, l => l
  | c + 1, s, l => bst A c (s + 2) (if A l ≤ A s then l else s)
theorem pow_sh : ∀ l, l < 8 → (1 : Int32) <<< (nI l &&& 31) = nI (2 ^ l) := by decide +kernel
theorem bt_last : ∀ l, l < 6 → ∀ s, s < 64 → s < 2 ^ (l + 1) → bt (nI s) l = decide (2 ^ l ≤ s) := by decide +kernel
theorem pow_le {l : Nat} (h : l < 7) : 2 ^ l ≤ 64 := by
  have := (by decide +kernel : ∀ l, l < 7 → 2 ^ l ≤ 64)
  exact this l h
theorem pow_ge {l : Nat} (h : l < 7) (h1 : 1 ≤ l) : 2 ≤ 2 ^ l ∧ 2 ^ l % 2 = 0 := by
  have := (by decide +kernel : ∀ l, l < 7 → 1 ≤ l → 2 ≤ 2 ^ l ∧ 2 ^ l % 2 = 0)
  exact this l h h1
theorem least_lp {I : Mm} {r : Vc} {t : Nat} (hT : TR I r t) (hb : RB r) (di ca : Int32) {L : Nat} (hL : L < 6) : ∀ (c s l f : Nat), s + 2 * c = 2 ^ L + 1 → c < f → (lp_X1_leastSide_23 I t di ca (nI L) f (nI l) (acr r di ca (nI l)) (nI s)).1 = nI (bst (fun x => acr r di ca (nI x)) c s l) := by
  have hp := pow_le (l := L) (by omega)
  intro c
  induction c with
  | zero =>
    intro s l f hs hf
    obtain ⟨f, rfl⟩ : ∃ g, f = g + 1 := ⟨f - 1, by omega⟩
    rw [lp_X1_leastSide_23, pow_sh L (by omega), if_pos (nI_le (by omega) (by omega))]
    rfl
  | succ c ih =>
    intro s l f hs hf
    obtain ⟨f, rfl⟩ : ∃ g, f = g + 1 := ⟨f - 1, by omega⟩
    rw [lp_X1_leastSide_23, pow_sh L (by omega), if_neg (nI_ge (by omega) (by omega)), u0_X1_leastSide, opv_eq, c_acr hT hb, show nI s + 2 = nI (s + 2) from nI_add s 2, bst]
    have e := ih (s + 2) (if acr r di ca (nI l) ≤ acr r di ca (nI s) then l else s) f (by omega) (by omega)
    rw [← e]
    by_cases q : acr r di ca (nI l) ≤ acr r di ca (nI s)
    · rw [if_pos q, if_pos q, if_pos q]
    · rw [if_neg q, if_neg q, if_neg q]
theorem mu_big {E i : Int32} {n : Nat} (h : E.toInt - i.toInt = n) : mu_up E i = n := by
  unfold mu_up
  rw [opq_eq]
  omega
theorem mu_ge {E i : Int32} {n : Nat} (h : (n : Int) ≤ E.toInt - i.toInt ∨ n = 0) : n ≤ mu_up E i := by
  unfold mu_up
  rw [opq_eq]
  omega
theorem c_least {I : Mm} {r : Vc} {t F : Nat} (hT : TR I r t) (hb : RB r) (di ca : Int32) (hF : r 8 = nI F) (h1 : 2 ≤ F) (h2 : F ≤ 6) : f_X1_leastSide I t di ca = nI (bst (fun x => acr r di ca (nI x)) ((2 ^ (F - 1) - 2) / 2) 3 1) := by
  have e6 : I t 6 - 1 = nI (F - 1) := by
    rw [hT.2.2.2.2.2.2.2.1, hF]
    exact pk_sub (b := 1) (by omega)
  have hp := pow_le (l := F - 1) (by omega)
  have hg := pow_ge (l := F - 1) (by omega) (by omega)
  rw [f_X1_leastSide, opv_eq, e6, pow_sh _ (by omega), c_acr hT hb]
  refine least_lp hT hb di ca (by omega) _ 3 1 _ (by omega) ?_
  generalize 2 ^ (F - 1) = P at *
  have : P - 3 ≤ mu_up (nI P) 3 := mu_ge (by rw [nI_toInt (by omega), ti3]; omega)
  omega
theorem cut_lp1 {I : Mm} {r : Vc} {F : Nat} (hr : I 68 = r) (hb : RB r) (hF : r 8 = nI F) (h1 : 2 ≤ F) (h2 : F ≤ 6) : ∀ (c s l f : Nat), s + 2 * c = 2 ^ F + 1 → 2 ^ (F - 1) ≤ s → c < f → (lp_X11_cutOf_15 I (nI (F - 1)) f (nI l) (nI s)).1 = nI l ∧ oklp_X11_cutOf_15 I (nI (F - 1)) f (nI l) (nI s) := by
  have hp := pow_le (l := F) (by omega)
  have n0 : ¬ nI (F - 1) ≤ 0 := nI_nle (by omega) (by omega)
  have pF : 2 ^ F = 2 ^ (F - 1 + 1) := by rw [Nat.sub_add_cancel (by omega)]
  intro c
  induction c with
  | zero =>
    intro s l f hs hs2 hf
    obtain ⟨f, rfl⟩ : ∃ g, f = g + 1 := ⟨f - 1, by omega⟩
    have q : nI (2 ^ F) ≤ nI s := nI_le (by omega) (by omega)
    rw [lp_X11_cutOf_15, oklp_X11_cutOf_15, hr, hF, pow_sh F (by omega), if_pos q, if_pos q]
    exact ⟨rfl, trivial⟩
  | succ c ih =>
    intro s l f hs hs2 hf
    obtain ⟨f, rfl⟩ : ∃ g, f = g + 1 := ⟨f - 1, by omega⟩
    have q : ¬ nI (2 ^ F) ≤ nI s := nI_ge (by omega) (by omega)
    have hbit : f_X11_hasBit I (nI s) (nI (F - 1)) = true := by
      rw [hb_eq _ _ (by omega), bt_last (F - 1) (by omega) s (by omega) (by omega), decide_eq_true hs2]
    have k := ih (s + 2) l f (by omega) (by omega) (by omega)
    rw [lp_X11_cutOf_15, oklp_X11_cutOf_15, hr, hF, pow_sh F (by omega), if_neg q, if_neg q, if_neg n0, if_neg n0, u0_X11_cutOf, opv_eq, hbit, if_pos rfl, if_pos rfl, show nI s + 2 = nI (s + 2) from nI_add s 2]
    exact ⟨k.1, trivial, k.2⟩
theorem cut_lp2 {I : Mm} {r : Vc} {F : Nat} (hr : I 68 = r) (hb : RB r) (hF : r 8 = nI F) (h1 : 2 ≤ F) (h2 : F ≤ 6) : ∀ (c s l f : Nat), s + 2 * c = 2 ^ (F - 1) + 1 → l < 1000 → c + 2 ^ (F - 1) / 2 < f → (lp_X11_cutOf_15 I (nI (F - 1)) f (nI l) (nI s)).1 = nI (bst (fun x => acr r (I 65 34) (I 65 35) (nI x)) c s l) ∧ oklp_X11_cutOf_15 I (nI (F - 1)) f (nI l) (nI s) := by
  have hp := pow_le (l := F) (by omega)
  have hp1 := pow_le (l := F - 1) (by omega)
  have hg := pow_ge (l := F - 1) (by omega) (by omega)
  have n0 : ¬ nI (F - 1) ≤ 0 := nI_nle (by omega) (by omega)
  have pF : 2 ^ F = 2 ^ (F - 1 + 1) := by rw [Nat.sub_add_cancel (by omega)]
  have pF2 : 2 ^ F = 2 * 2 ^ (F - 1) := by rw [pF, Nat.pow_succ, Nat.mul_comm]
  intro c
  induction c with
  | zero =>
    intro s l f hs hl hf
    exact cut_lp1 hr hb hF h1 h2 (2 ^ (F - 1) / 2) s l f (by omega) (by omega) (by omega)
  | succ c ih =>
    intro s l f hs hl hf
    obtain ⟨f, rfl⟩ : ∃ g, f = g + 1 := ⟨f - 1, by omega⟩
    have q : ¬ nI (2 ^ F) ≤ nI s := nI_ge (by omega) (by omega)
    have hbit : f_X11_hasBit I (nI s) (nI (F - 1)) = false := by
      rw [hb_eq _ _ (by omega), bt_last (F - 1) (by omega) s (by omega) (by omega), decide_eq_false (by omega)]
    have a1 := m_acr hr hb (nI l)
    have a2 := m_acr hr hb (nI s)
    have nl : ¬ nI l < 0 := nI_pos (by omega)
    have k := ih (s + 2) (if acr r (I 65 34) (I 65 35) (nI l) ≤ acr r (I 65 34) (I 65 35) (nI s) then l else s) f (by omega) (by split <;> omega) (by omega)
    have e : u0_X11_cutOf I (nI (F - 1)) (nI l) (nI s) = nI (if acr r (I 65 34) (I 65 35) (nI l) ≤ acr r (I 65 34) (I 65 35) (nI s) then l else s) := by
      rw [u0_X11_cutOf, opv_eq, if_neg (show ¬ f_X11_hasBit I (nI s) (nI (F - 1)) = true by rw [hbit]; simp), if_neg nl, a1.1, a2.1]
      split <;> rfl
    rw [lp_X11_cutOf_15, oklp_X11_cutOf_15, hr, hF, pow_sh F (by omega), if_neg q, if_neg q, if_neg n0, if_neg n0, e, if_neg (show ¬ f_X11_hasBit I (nI s) (nI (F - 1)) = true by rw [hbit]; simp), if_neg nl, show nI s + 2 = nI (s + 2) from nI_add s 2, bst]
    exact ⟨k.1, ⟨a2.2, a1.2⟩, k.2⟩
theorem m_cutOf {I : Mm} {r : Vc} {F : Nat} (hr : I 68 = r) (hb : RB r) (hF : r 8 = nI F) (h2 : F ≤ 6) : f_X11_cutOf I = (if 2 ≤ F then nI (bst (fun x => acr r (I 65 34) (I 65 35) (nI x)) ((2 ^ (F - 1) - 2) / 2) 3 1) else -2) ∧ ok_X11_cutOf I := by
  have hp := pow_le (l := F) (by omega)
  rw [f_X11_cutOf, ok_X11_cutOf, opv_eq, opv_eq, hr, hF, pow_sh F (by omega)]
  by_cases q : 2 ≤ F
  · have hp1 := pow_le (l := F - 1) (by omega)
    have hg := pow_ge (l := F - 1) (by omega) (by omega)
    have pF2 : 2 ^ F = 2 * 2 ^ (F - 1) := by
      rw [show F = F - 1 + 1 by omega, Nat.pow_succ, Nat.mul_comm, Nat.add_sub_cancel]
    have e1 : nI F - 1 = nI (F - 1) := pk_sub (b := 1) (by omega)
    have n0 : ¬ nI (F - 1) ≤ 0 := nI_nle (by omega) (by omega)
    have mu : mu_up (nI (2 ^ F)) 1 = 2 ^ F - 1 := mu_big (by rw [nI_toInt (by omega), ti1]; omega)
    have q1 : ¬ nI (2 ^ F) ≤ 1 := nI_ge (a := 1) (by omega) (by omega)
    have hbit : f_X11_hasBit I 1 (nI (F - 1)) = false := by
      rw [show (1 : Int32) = nI 1 from rfl, hb_eq _ _ (by omega), bt_last (F - 1) (by omega) 1 (by omega) (by omega), decide_eq_false (by omega)]
    rw [if_pos q, e1, mu]
    obtain ⟨f, hf⟩ : ∃ g, 2 ^ F - 1 + 1 = g + 1 := ⟨2 ^ F - 1, rfl⟩
    have hbit' : ¬ f_X11_hasBit I 1 (nI (F - 1)) = true := by rw [hbit]; simp
    have eu : u0_X11_cutOf I (nI (F - 1)) (-2) 1 = 1 := by
      rw [u0_X11_cutOf, opv_eq, if_neg hbit', if_pos (show (-2 : Int32) < 0 by decide)]
    rw [hf, lp_X11_cutOf_15, oklp_X11_cutOf_15, hr, hF, pow_sh F (by omega), if_neg q1, if_neg q1, if_neg n0, if_neg n0, eu, if_neg hbit', if_pos (show (-2 : Int32) < 0 by decide), show (1 : Int32) + 2 = nI 3 from by decide]
    have k := cut_lp2 hr hb hF q h2 ((2 ^ (F - 1) - 2) / 2) 3 1 f (by omega) (by omega) (by omega)
    exact ⟨k.1, trivial, k.2⟩
  · rw [if_neg q]
    have n0 : nI F - 1 ≤ 0 := by
      rw [fa_le, fb_subI (by rw [nI_toInt (by omega), ti1]; omega) (by rw [nI_toInt (by omega), ti1]; omega), nI_toInt (by omega), ti1, ti0]
      omega
    rw [lp_X11_cutOf_15, oklp_X11_cutOf_15, hr, hF, pow_sh F (by omega), if_pos n0, if_pos n0]
    split
    · exact ⟨rfl, trivial⟩
    · exact ⟨rfl, trivial⟩
theorem bst_lt (A : Nat → Int32) : ∀ (c s l B : Nat), l < B → s + 2 * c < B → bst A c s l < B := by
  intro c
  induction c with
  | zero => intro s l B h1 h2; exact h1
  | succ c ih =>
    intro s l B h1 h2
    rw [bst]
    exact ih _ _ _ (by split <;> omega) (by omega)
/-- the flood, with another number for one ditch -/
def fld (r : Vc) (F : Nat) (di ca : Int32) : Int32 := if 2 ≤ F then acr r di ca (nI (bst (fun x => acr r di ca (nI x)) ((2 ^ (F - 1) - 2) / 2) 3 1)) else 0
theorem c_most {I : Mm} {r : Vc} {t F : Nat} (hT : TR I r t) (hb : RB r) (di ca : Int32) (hF : r 8 = nI F) (h2 : F ≤ 6) : f_X1_most I t di ca = fld r F di ca := by
  rw [f_X1_most, opv_eq, u0_X1_most, opv_eq, hT.2.2.2.2.2.2.2.1, hF, fld]
  by_cases q : 2 ≤ F
  · rw [if_pos (show 2 ≤ nI F from nI_le (a := 2) q (by omega)), if_pos q, c_acr hT hb, c_least hT hb di ca hF q h2]
  · rw [if_neg (show ¬ 2 ≤ nI F from nI_ge (b := 2) (by omega) (by omega)), if_neg q]
theorem m_floodBy {I : Mm} {r : Vc} {F : Nat} (hr : I 68 = r) (hb : RB r) (hF : r 8 = nI F) (h2 : F ≤ 6) (h34 : I 65 34 = -1) (di ca : Int32) : f_X11_floodBy I di ca = fld r F di ca ∧ m_X11_floodBy I di ca = st2 I 65 35 ca ∧ ok_X11_floodBy I di ca := by
  have k68 : (st2 (st2 I 65 34 di) 65 35 ca) 68 = r := by rw [st2_orow _ _ _ (by omega), st2_orow _ _ _ (by omega)]; exact hr
  have k34 : (st2 (st2 I 65 34 di) 65 35 ca) 65 34 = di := by rw [st2_o _ _ _ (by omega), st2_s]
  have k35 : (st2 (st2 I 65 34 di) 65 35 ca) 65 35 = ca := by rw [st2_s]
  have c := m_cutOf k68 hb hF h2
  rw [k34, k35] at c
  refine ⟨?_, ?_, ?_⟩
  · rw [f_X11_floodBy, opv_eq, u0_X11_floodBy, opv_eq, c.1, fld]
    by_cases q : 2 ≤ F
    · have hp := pow_le (l := F - 1) (by omega)
      have hg := pow_ge (l := F - 1) (by omega) (by omega)
      have l := bst_lt (fun x => acr r di ca (nI x)) ((2 ^ (F - 1) - 2) / 2) 3 1 1000 (by omega) (by omega)
      rw [if_pos q, if_pos q, if_pos (nI_pos' (by omega)), (m_acr k68 hb _).1, k34, k35]
    · rw [if_neg q, if_neg q, if_neg (by decide)]
  · rw [m_X11_floodBy, opv_eq]
    funext x j
    by_cases z : x = 65
    · subst z
      by_cases y : j = 34
      · subst y; rw [st2_s, st2_o _ _ _ (by omega), h34]
      · rw [st2_o _ _ _ y]
        by_cases y2 : j = 35
        · subst y2; rw [st2_s, st2_s]
        · rw [st2_o _ _ _ y2, st2_o _ _ _ y, st2_o _ _ _ y2]
    · rw [st2_a _ _ z, st2_a _ _ z, st2_a _ _ z, st2_a _ _ z]
  · rw [ok_X11_floodBy, opv_eq]
    refine ⟨c.2, ?_⟩
    split
    · exact (m_acr k68 hb _).2
    · trivial
theorem Sim.F {I : Mm} {J : Nat → Nat → Int64} {w : Bool} (h : Sim I J w) : I 68 8 = nI (I 68 8).toNatClampNeg ∧ (I 68 8).toNatClampNeg ≤ 6 := h.1.1.nF
theorem good_34 (I : Mm) : m_X11_good I 65 34 = I 65 34 := by rw [m_good, st2_o _ _ _ (by omega), st2_o _ _ _ (by omega)]
theorem st_flood : St_flood Sim := by
  intro I J w h
  obtain ⟨hF, hF2⟩ := h.F
  have hT : TR (st2 I 0 7 0) (I 68) (td w) := h.1.2.1.st (by omega)
  simp only [m_X10_flood, f_X10_flood, u0_X10_flood, ok_X11_flood, m_X11_flood, f_X11_flood, u0_X11_flood, u1_X11_flood, opv_eq, cr, m_refused, f_no, h.g14]
  by_cases q : gv (I 0 4) true = 0
  · have qc := (gv_t q).1
    simp only [q, if_true, if_neg qc]
    have m := m_floodBy (I := m_X11_good (st2 I 0 7 0)) (r := I 68) (by rw [good_row _ (by omega), st7_row _ _ (by omega)]) h.1.1 hF hF2 (by rw [good_34, st7_row _ _ (by omega)]; exact h.1.2.2.2.2.2.2.2.2.2.2.2.1) (-1) 0
    refine ⟨trivial, m.2.2, ?_, ?_⟩
    · rw [c_most hT h.1.1 _ _ hF hF2, m.1]
    · rw [m.2.1]
      exact h.done (v := 0) (Fr.refl _) ((fr_good _).st rfl) (by decide)
  · obtain ⟨qc, g1⟩ := gvn q
    simp only [if_neg q, if_pos qc]
    rw [g1]
    exact ⟨trivial, trivial, trivial, h.bad (by decide)⟩
theorem st_cut : St_cut Sim := by
  intro I J w h
  obtain ⟨hF, hF2⟩ := h.F
  have hT : TR (st2 I 0 7 0) (I 68) (td w) := h.1.2.1.st (by omega)
  simp only [m_X10_cut, f_X10_cut, u0_X10_cut, ok_X11_cut, m_X11_cut, f_X11_cut, u0_X11_cut, u1_X11_cut, opv_eq, cr, m_refused, f_no, h.g14]
  by_cases q : gv (I 0 4) true = 0
  · have qc := (gv_t q).1
    simp only [q, if_true, if_neg qc]
    have k34 : m_X11_good (st2 I 0 7 0) 65 34 = -1 := by rw [good_34, st7_row _ _ (by omega)]; exact h.1.2.2.2.2.2.2.2.2.2.2.2.1
    have m := m_cutOf (I := m_X11_good (st2 I 0 7 0)) (r := I 68) (by rw [good_row _ (by omega), st7_row _ _ (by omega)]) h.1.1 hF hF2
    refine ⟨trivial, m.2, ?_, h.done (v := 0) (Fr.refl _) (fr_good _) (by decide)⟩
    generalize (I 68 8).toNatClampNeg = F at *
    rw [m.1, hT.2.2.2.2.2.2.2.1, hF]
    by_cases y : 2 ≤ F
    · rw [if_pos (show 2 ≤ nI F from nI_le (a := 2) y (by omega)), if_pos y, c_least hT h.1.1 _ _ hF y hF2, k34]
      have e : ∀ s, acr (I 68) (-1) 0 s = acr (I 68) (-1) (m_X11_good (st2 I 0 7 0) 65 35) s := by
        intro s
        unfold acr
        have : ∀ (c j : Nat) (acc : Int32), j + c < 1000 → acS (I 68) s (-1) 0 c j acc = acS (I 68) s (-1) (m_X11_good (st2 I 0 7 0) 65 35) c j acc := by
          intro c
          induction c with
          | zero => intro j acc _; rfl
          | succ c ih =>
            intro j acc hj
            have nj : ¬ nI j = -1 := by
              rw [fa_eq, nI_toInt (by omega), tim1]
              omega
            rw [acS, acS, if_neg nj, if_neg nj, ih _ _ (by omega)]
        exact this _ _ _ (by have := h.1.1.nD.2; omega)
      have e2 : (fun x => acr (I 68) (-1) 0 (nI x)) = (fun x => acr (I 68) (-1) (m_X11_good (st2 I 0 7 0) 65 35) (nI x)) := funext fun x => e _
      rw [e2]
    · rw [if_neg (show ¬ 2 ≤ nI F from nI_ge (b := 2) (by omega) (by omega)), if_neg y]
  · obtain ⟨qc, g1⟩ := gvn q
    simp only [if_neg q, if_pos qc]
    rw [g1]
    exact ⟨trivial, trivial, trivial, h.bad (by decide)⟩
theorem st_floodIf : St_floodIf Sim := by
  intro I J w x1 x2 h
  obtain ⟨hF, hF2⟩ := h.F
  have hb := h.1.1
  have t9 := h.1.t.2.2.2.2.2.2.2.2.2
  have hT : ∀ v, TR (st2 I 0 7 v) (I 68) (td w) := fun v => h.1.2.1.st (by omega)
  have g68 : ∀ v, m_X11_good (st2 I 0 7 v) 68 = I 68 := fun v => by rw [good_row _ (by omega), st7_row _ _ (by omega)]
  have g04 : ∀ v, (st2 I 0 7 v) 0 4 = I 0 4 := fun v => st2_o _ _ _ (by omega)
  simp only [m_X10_floodIf, f_X10_floodIf, u0_X10_floodIf, ok_X11_floodIf, m_X11_floodIf, f_X11_floodIf, u0_X11_floodIf, u1_X11_floodIf, opv_eq, cl, cr, m_lacks, m_refused, f_no, f_within, f_in, holds_in I x1 t9 hb.b9, g04, st2_st2]
  by_cases q : lv (I 0 4) (inb x1 0 (I 68 9 - 1)) = 0
  · obtain ⟨qc, qa⟩ := lv_t q
    have gq : gv (I 0 4) (inb x2 0 999) = if inb x2 0 999 = true then 0 else 2 := by unfold gv; rw [if_neg qc]
    simp only [if_pos q, gq, h.g14, g68, if_neg qc, if_pos qa]
    by_cases z : inb x2 0 999 = true
    · simp only [if_pos z, if_true]
      have m := m_floodBy (I := m_X11_good (st2 I 0 7 0)) (r := I 68) (g68 0) hb hF hF2 (by rw [good_34, st7_row _ _ (by omega)]; exact h.1.2.2.2.2.2.2.2.2.2.2.2.1) x1 x2
      refine ⟨trivial, m.2.2, ?_, ?_⟩
      · rw [c_most (hT 0) hb _ _ hF hF2, m.1]
      · rw [m.2.1]
        exact h.done (v := 0) (Fr.refl _) ((fr_good _).st rfl) (by decide)
    · simp only [if_neg z]
      refine ⟨trivial, trivial, by rw [if_neg (by decide)], h.bad (by decide)⟩
  · have n1 := lv_n q
    simp only [if_neg q, h.g14, g68, ifl]
    rw [n1]
    exact ⟨trivial, trivial, trivial, h.bad (by decide)⟩
theorem narrow_lp {I : Mm} {r : Vc} {t F : Nat} (hT : TR I r t) (hb : RB r) (hF : r 8 = nI F) (h2 : F ≤ 6) : ∀ (c j : Nat) (acc : Int32) (K : Mm), K 68 = r → K 65 34 = -1 → j + c = (r 9).toNatClampNeg → ∃ y, (lp_X1_narrowDitches_11 I t (fld r F (-1) 0) (c + 1) acc (nI j)).1 = (lp_X11_narrow_21 (c + 1) acc (nI j) K).1 ∧ (lp_X11_narrow_21 (c + 1) acc (nI j) K).2.2 = st2 K 65 35 y ∧ oklp_X11_narrow_21 (c + 1) acc (nI j) K := by
  have hn := hb.nD
  have hc := (hT.cnt hb).2.2.2
  intro c
  induction c with
  | zero =>
    intro j acc K hr h34 hj
    have e9 : K 68 9 = nI (r 9).toNatClampNeg := by rw [hr]; exact hn.1
    rw [lp_X1_narrowDitches_11, lp_X11_narrow_21, oklp_X11_narrow_21, hc, e9, if_pos (nI_le (by omega) (by omega)), if_pos (nI_le (by omega) (by omega)), if_pos (nI_le (by omega) (by omega))]
    exact ⟨K 65 35, rfl, (st2_same _ _ _).symm, trivial⟩
  | succ c ih =>
    intro j acc K hr h34 hj
    have e9 : K 68 9 = nI (r 9).toNatClampNeg := by rw [hr]; exact hn.1
    have q : ¬ nI (r 9).toNatClampNeg ≤ nI j := nI_ge (by omega) (by omega)
    have c2 := ditch_cell hT hb (k := j) (c := 2) (by omega) (by omega)
    have f1 := m_floodBy hr hb hF h2 h34 (nI j) (r (53 + 3 * j + 2) + 1)
    have f2 := m_floodBy (I := st2 K 65 35 (r (53 + 3 * j + 2) + 1)) (r := r) (by rw [st2_orow _ _ _ (by omega)]; exact hr) hb hF h2 (by rw [st2_o _ _ _ (by omega)]; exact h34) (-1) 0
    have e1 : u0_X11_narrow (nI j) K = st2 K 65 35 (r (53 + 3 * j + 2) + 1) := by
      rw [u0_X11_narrow, opv_eq, hr, show ((53 : Int32) + 3 * nI j + 2) = ((53 : Int32) + 3 * nI j + nI 2) from rfl, ix53a (by omega) (by omega), f1.2.1]
    have e2 : u1_X11_narrow (nI j) K = (if fld r F (nI j) (r (53 + 3 * j + 2) + 1) ≤ fld r F (-1) 0 then (0 : Int32) else (1 : Int32) <<< (nI j &&& 31)) := by
      rw [u1_X11_narrow, opv_eq, e1, hr, show ((53 : Int32) + 3 * nI j + 2) = ((53 : Int32) + 3 * nI j + nI 2) from rfl, ix53a (by omega) (by omega), f1.1, f2.1]
    have e3 : u0_X1_narrowDitches I t (fld r F (-1) 0) acc (nI j) = acc ||| u1_X11_narrow (nI j) K := by
      rw [u0_X1_narrowDitches, opv_eq, show f_X7_cell I (rt t 10) (nI j) 2 = f_X7_cell I (rt t 10) (nI j) (nI 2) from rfl, c2, c_most hT hb _ _ hF h2, e2]
      split
      · apply b_ext
        intro i hi
        rw [b_or, b_0, Bool.or_false]
      · rfl
    obtain ⟨y, a1, a2, a3⟩ := ih (j + 1) (acc ||| u1_X11_narrow (nI j) K) (st2 (st2 K 65 35 (r (53 + 3 * j + 2) + 1)) 65 35 0) (by rw [st2_orow _ _ _ (by omega), st2_orow _ _ _ (by omega)]; exact hr) (by rw [st2_o _ _ _ (by omega), st2_o _ _ _ (by omega)]; exact h34) (by omega)
    refine ⟨y, ?_, ?_, ?_⟩
    · rw [lp_X1_narrowDitches_11, lp_X11_narrow_21, hc, e9, if_neg q, if_neg q, nI_1, e3, e1, f2.2.1]
      exact a1
    · rw [lp_X11_narrow_21, e9, if_neg q, nI_1, e1, f2.2.1, a2, st2_st2, st2_st2]
    · rw [oklp_X11_narrow_21, e9, if_neg q, nI_1, e1, f2.2.1, hr, show ((53 : Int32) + 3 * nI j + 2) = ((53 : Int32) + 3 * nI j + nI 2) from rfl, ix53a (by omega) (by omega)]
      exact ⟨in53 (by omega) (by omega), f1.2.2, f2.2.2, a3⟩
theorem st_narrow : St_narrow Sim := by
  intro I J w h
  obtain ⟨hF, hF2⟩ := h.F
  have hb := h.1.1
  have hn := hb.nD
  have hT : TR (st2 I 0 7 0) (I 68) (td w) := h.1.2.1.st (by omega)
  simp only [m_X10_narrow, f_X10_narrow, u0_X10_narrow, ok_X11_narrow, m_X11_narrow, f_X11_narrow, opv_eq, cr, m_refused, f_no, h.g14]
  by_cases q : gv (I 0 4) true = 0
  · have qc := (gv_t q).1
    have g68 : m_X11_good (st2 I 0 7 0) 68 = I 68 := by rw [good_row _ (by omega), st7_row _ _ (by omega)]
    have mu : mu_up (nI (I 68 9).toNatClampNeg) 0 = (I 68 9).toNatClampNeg := mu_big (by rw [nI_toInt (by omega), ti0]; omega)
    simp only [q, if_true, if_neg qc]
    obtain ⟨y, a1, a2, a3⟩ := narrow_lp hT hb hF hF2 (I 68 9).toNatClampNeg 0 0 (m_X11_good (st2 I 0 7 0)) g68 (by rw [good_34, st7_row _ _ (by omega)]; exact h.1.2.2.2.2.2.2.2.2.2.2.2.1) (by omega)
    rw [nI_0] at a1 a2 a3
    rw [g68]
    rw [f_X1_narrowDitches, opv_eq, c_most hT hb _ _ hF hF2, (hT.cnt hb).2.2.2]
    rw [show mu_up (I 68 9) 0 = (I 68 9).toNatClampNeg from by rw [hn.1]; rw [nI_clamp (by omega)]; exact mu, mu]
    refine ⟨trivial, a3, a1, ?_⟩
    rw [a2]
    exact h.done (v := 0) (Fr.refl _) ((fr_good _).st rfl) (by decide)
  · obtain ⟨qc, g1⟩ := gvn q
    simp only [if_neg q, if_pos qc]
    rw [g1]
    exact ⟨trivial, trivial, trivial, h.bad (by decide)⟩
/-! downhill -/
def rcS (r : Vc) : Nat → Nat → Int32 → Int32
  | 0, _, s => s
  | c + 1, j, s => rcS r c (j + 1) (if bt s (dF r j) = true then s ||| (1 <<< (nI (dT r j) &&& 31)) else s)
def rnd (r : Vc) (s : Int32) : Int32 := rcS r (r 9).toNatClampNeg 0 s
theorem c_rnd {I : Mm} {r : Vc} {t : Nat} (hT : TR I r t) (hb : RB r) (x2 l3 : Int32) : ∀ (c j : Nat) (s : Int32), j + c = (r 9).toNatClampNeg → (lp_X1_reachedFrom_17 I t x2 l3 (c + 1) s (nI j)).1 = rcS r c j s := by
  have hn := hb.nD
  have hF := hb.nF
  have hc := (hT.cnt hb).2.2.2
  intro c
  induction c with
  | zero =>
    intro j s hj
    rw [lp_X1_reachedFrom_17, hc, if_pos (nI_le (by omega) (by omega))]
    rfl
  | succ c ih =>
    intro j s hj
    have c0 := ditch_cell hT hb (k := j) (c := 0) (by omega) (by omega)
    have c1 := ditch_cell hT hb (k := j) (c := 1) (by omega) (by omega)
    have d := hb.dit (k := j) (by omega)
    rw [Nat.add_zero, d.1] at c0
    rw [d.2.2.1] at c1
    rw [lp_X1_reachedFrom_17, hc, if_neg (nI_ge (by omega) (by omega)), nI_1, ih (j + 1) _ (by omega), rcS]
    congr 1
    rw [u0_X1_reachedFrom, opv_eq, show (0 : Int32) = nI 0 from rfl, show f_X7_cell I (rt t 10) (nI j) 1 = f_X7_cell I (rt t 10) (nI j) (nI 1) from rfl, c0, c1]
    by_cases q : bt s (dF r j) = true
    · rw [if_pos ((bit_at s (by omega)).mpr q), if_pos q]
    · rw [if_neg (fun z => q ((bit_at s (by omega)).mp z)), if_neg q]
theorem m_rnd {I : Mm} {r : Vc} (hr : I 68 = r) (hb : RB r) (x1 l3 : Int32) : ∀ (c j : Nat) (s : Int32), j + c = (r 9).toNatClampNeg → (lp_X11_downhill_49 I x1 l3 (c + 1) s (nI j)).1 = rcS r c j s ∧ oklp_X11_downhill_49 I x1 l3 (c + 1) s (nI j) := by
  have hn := hb.nD
  have hF := hb.nF
  intro c
  induction c with
  | zero =>
    intro j s hj
    rw [lp_X11_downhill_49, oklp_X11_downhill_49, hr, hn.1, if_pos (nI_le (by omega) (by omega)), if_pos (nI_le (by omega) (by omega))]
    exact ⟨rfl, trivial⟩
  | succ c ih =>
    intro j s hj
    have q : ¬ nI (r 9).toNatClampNeg ≤ nI j := nI_ge (by omega) (by omega)
    have d := hb.dit (k := j) (by omega)
    have e : u0_X11_downhill I s (nI j) = (if bt s (dF r j) = true then s ||| (1 <<< (nI (dT r j) &&& 31)) else s) := by
      rw [u0_X11_downhill, opv_eq, hr, ix53 (by omega), show ((53 : Int32) + 3 * nI j + 1) = ((53 : Int32) + 3 * nI j + nI 1) from rfl, ix53a (by omega) (by omega), d.1, d.2.2.1, hb_eq _ _ (by omega)]
    have k := ih (j + 1) (u0_X11_downhill I s (nI j)) (by omega)
    rw [lp_X11_downhill_49, oklp_X11_downhill_49, hr, hn.1, if_neg q, if_neg q, nI_1]
    refine ⟨by rw [k.1, e, rcS], in53' (by omega), ?_, k.2⟩
    split
    · exact in53 (c := 1) (by omega) (by omega)
    · trivial
def rnds (r : Vc) : Nat → Int32 → Int32
  | 0, s => s
  | n + 1, s => rnds r n (rnd r s)
theorem c_rnds {I : Mm} {r : Vc} {t F : Nat} (hT : TR I r t) (hb : RB r) (hF : r 8 = nI F) (h2 : F ≤ 6) (x2 : Int32) : ∀ (c j : Nat) (s : Int32), j + c = F → (lp_X1_reachedFrom_6 I t x2 (c + 1) s (nI j)).1 = rnds r c s := by
  have hn := hb.nD
  intro c
  induction c with
  | zero =>
    intro j s hj
    rw [lp_X1_reachedFrom_6, hT.2.2.2.2.2.2.2.1, hF, if_pos (nI_le (by omega) (by omega))]
    rfl
  | succ c ih =>
    intro j s hj
    rw [lp_X1_reachedFrom_6, hT.2.2.2.2.2.2.2.1, hF, if_neg (nI_ge (by omega) (by omega)), nI_1, (hT.cnt hb).2.2.2, show (0 : Int32) = nI 0 from rfl, mu_up_nI (by omega) (by omega), Nat.sub_zero, c_rnd hT hb _ _ _ 0 s (by omega), ih (j + 1) _ (by omega)]
    rfl
theorem m_rnds {I : Mm} {r : Vc} (hr : I 68 = r) (hb : RB r) (x1 : Int32) : ∀ (c j : Nat) (s : Int32), j + c = 6 → (lp_X11_downhill_40 I x1 (c + 1) s (nI j)).1 = rnds r c s ∧ oklp_X11_downhill_40 I x1 (c + 1) s (nI j) := by
  have hn := hb.nD
  intro c
  induction c with
  | zero =>
    intro j s hj
    have q : (6 : Int32) ≤ nI j := nI_le (a := 6) (by omega) (by omega)
    rw [lp_X11_downhill_40, oklp_X11_downhill_40, if_pos q, if_pos q]
    exact ⟨rfl, trivial⟩
  | succ c ih =>
    intro j s hj
    have q : ¬ (6 : Int32) ≤ nI j := nI_ge (b := 6) (by omega) (by omega)
    have m := m_rnd hr hb x1 (nI j) (r 9).toNatClampNeg 0 s (by omega)
    have k := ih (j + 1) (rnd r s) (by omega)
    rw [lp_X11_downhill_40, oklp_X11_downhill_40, if_neg q, if_neg q, nI_1, hr, hn.1, show (0 : Int32) = nI 0 from rfl, mu_up_nI (by omega) (by omega), Nat.sub_zero, m.1]
    exact ⟨k.1, m.2, k.2⟩
/-- all bits lie below F -/
def Bl (F : Nat) (s : Int32) : Prop := ∀ i, i < 32 → bt s i = true → i < F
theorem rcS_mono {r : Vc} (hb : RB r) : ∀ (c j : Nat) (s : Int32), j + c = (r 9).toNatClampNeg → Bl (r 8).toNatClampNeg s → Bl (r 8).toNatClampNeg (rcS r c j s) ∧ ∀ i, i < 32 → bt s i = true → bt (rcS r c j s) i = true := by
  have hF := hb.nF
  intro c
  induction c with
  | zero => intro j s hj h; exact ⟨h, fun i _ z => z⟩
  | succ c ih =>
    intro j s hj h
    have d := hb.dit (k := j) (by omega)
    rw [rcS]
    by_cases q : bt s (dF r j) = true
    · rw [if_pos q]
      have k := ih (j + 1) (s ||| (1 <<< (nI (dT r j) &&& 31))) (by omega) (fun i hi z => by
        rw [b_or, b_one (by omega) hi, Bool.or_eq_true] at z
        rcases z with z | z
        · exact h i hi z
        · have := of_decide_eq_true z
          omega)
      refine ⟨k.1, fun i hi z => k.2 i hi ?_⟩
      rw [b_or, z, Bool.true_or]
    · rw [if_neg q]
      exact ih (j + 1) s (by omega) h
theorem rnds_fix (r : Vc) {s : Int32} (h : rnd r s = s) : ∀ n, rnds r n s = s := by
  intro n
  induction n with
  | zero => rfl
  | succ n ih => rw [rnds, h, ih]
theorem rnds_add (r : Vc) : ∀ (n m : Nat) (s : Int32), rnds r (n + m) s = rnds r m (rnds r n s) := by
  intro n
  induction n with
  | zero => intro m s; rw [Nat.zero_add]; rfl
  | succ n ih => intro m s; rw [Nat.succ_add, rnds, ih, rnds]
theorem rnds_cnt {r : Vc} (hb : RB r) : ∀ (n : Nat) (s : Int32), Bl (r 8).toNatClampNeg s → (∃ j, j < n ∧ rnd r (rnds r j s) = rnds r j s) ∨ n + fb_ct (fun i => bt s i) (r 8).toNatClampNeg ≤ fb_ct (fun i => bt (rnds r n s) i) (r 8).toNatClampNeg := by
  have hF := hb.nF
  intro n
  induction n with
  | zero => intro s h; right; rw [Nat.zero_add]; exact Nat.le_refl _
  | succ n ih =>
    intro s h
    have m := rcS_mono hb (r 9).toNatClampNeg 0 s (by omega) h
    have m1 : Bl (r 8).toNatClampNeg (rnd r s) := m.1
    by_cases q : rnd r s = s
    · exact Or.inl ⟨0, by omega, q⟩
    · rcases ih (rnd r s) m1 with ⟨j, hj, e⟩ | k
      · exact Or.inl ⟨j + 1, by omega, e⟩
      · right
        rw [rnds]
        have ⟨i, hi, hd⟩ : ∃ i, i < 32 ∧ bt (rnd r s) i ≠ bt s i := by
          refine Classical.byContradiction fun no => q (b_ext fun i hi => Classical.byContradiction fun z => no ⟨i, hi, z⟩)
        have h0 : bt s i = false := by
          cases z : bt s i with
          | false => rfl
          | true =>
            have y := m.2 i hi z
            exact absurd (show bt (rnd r s) i = bt s i by rw [z]; exact y) hd
        have h1 : bt (rnd r s) i = true := by
          cases z : bt (rnd r s) i with
          | true => rfl
          | false => exact absurd (by rw [z, h0]) hd
        have hiF := m1 i hi h1
        have u := fb_ct_upd (fun i => bt s i) true hiF
        have v : fb_ct (fun k => if k = i then true else bt s k) (r 8).toNatClampNeg ≤ fb_ct (fun i => bt (rnd r s) i) (r 8).toNatClampNeg := by
          refine fb_ct_sub fun k hk z => ?_
          by_cases y : k = i
          · rw [y]; exact h1
          · rw [if_neg y] at z
            exact m.2 k (by omega) z
        have u2 : (if (fun i => bt s i) i = true then 1 else 0) = 0 := if_neg (by show ¬ bt s i = true; rw [h0]; simp)
        rw [u2, if_pos rfl] at u
        omega
theorem rnds_end {r : Vc} (hb : RB r) {s : Int32} {F : Nat} (hF : F = (r 8).toNatClampNeg) (h : Bl F s) {i : Nat} (hi : i < F) (h1 : bt s i = true) : rnds r F s = rnds r 6 s := by
  have hF6 := hb.nF.2
  subst hF
  rcases rnds_cnt hb (r 8).toNatClampNeg s h with ⟨j, hj, e⟩ | k
  · have fx : ∀ n, j ≤ n → rnds r n s = rnds r j s := by
      intro n hn
      rw [show n = j + (n - j) by omega, rnds_add, rnds_fix r e]
    rw [fx _ (by omega), fx 6 (by omega)]
  · have := fb_ct_le (fun i => bt (rnds r (r 8).toNatClampNeg s) i) (r 8).toNatClampNeg
    have p : 0 < fb_ct (fun i => bt s i) (r 8).toNatClampNeg := fb_ct_pos.mpr ⟨i, hi, h1⟩
    omega
theorem st_downhill : St_downhill Sim := by
  intro I J w x1 h
  obtain ⟨hF, hF2⟩ := h.F
  have hb := h.1.1
  have t8 := h.1.t.2.2.2.2.2.2.2.2.1
  have hT : ∀ v, TR (st2 I 0 7 v) (I 68) (td w) := fun v => h.1.2.1.st (by omega)
  have g68 : ∀ v, m_X11_good (st2 I 0 7 v) 68 = I 68 := fun v => by rw [good_row _ (by omega), st7_row _ _ (by omega)]
  simp only [m_X10_downhill, f_X10_downhill, u0_X10_downhill, ok_X11_downhill, m_X11_downhill, f_X11_downhill, opv_eq, cl, m_lacks, f_no, f_within, f_in, t8, h.g14, g68]
  by_cases q : lv (I 0 4) (inb x1 0 (I 68 8 - 1)) = 0
  · obtain ⟨qc, qa⟩ := lv_t q
    obtain ⟨k, hk, rfl⟩ := inb_cnt hF (by omega) qa
    simp only [q, if_true, if_neg qc, if_pos qa]
    have c := c_rnds (hT 0) hb hF hF2 (nI k) (I 68 8).toNatClampNeg 0 (1 <<< (nI k &&& 31)) (by omega)
    have m := m_rnds (g68 0) hb (nI k) 6 0 (1 <<< (nI k &&& 31)) (by omega)
    rw [nI_0] at c m
    have mu : mu_up (I 68 8) 0 = (I 68 8).toNatClampNeg := mu_big (by rw [ti0, ← clampI hb.b8.1]; omega)
    have mu6 : mu_up 6 0 = 6 := mu_big (by decide)
    refine ⟨trivial, by rw [mu6]; exact m.2, ?_, h.done (v := 0) (Fr.refl _) (fr_good _) (by decide)⟩
    rw [f_X1_reachedFrom, opv_eq, (hT 0).2.2.2.2.2.2.2.1, mu, mu6, c, m.1]
    refine rnds_end hb rfl (fun i hi z => ?_) hk (by rw [b_one (by omega) (by omega)]; simp)
    rw [b_one (by omega) hi] at z
    have := of_decide_eq_true z
    omega
  · have n1 := lv_n q
    simp only [if_neg q, ifl]
    rw [n1]
    exact ⟨trivial, trivial, trivial, h.bad (by decide)⟩
