/-! ===== which day to look at ===== -/
theorem outs_lp {r : Vc} {mk : Nat} (t : Nat) (l2 : Int32) : ∀ (c i : Nat) (I : Mm), (∀ d, d < 21 → I 61 d = mout r mk d) → i + c = 21 → (lp_X4_countOuts_50 t l2 (c + 1) (nI i) I).2 = va_up I 62 (fun x => if 4 * i ≤ x ∧ x < 84 then addO r (I 62) mk x else I 62 x) ∧ oklp_X4_countOuts_50 t l2 (c + 1) (nI i) I := by
  intro c
  induction c with
  | zero =>
    intro i I hA hi
    have q : Int32.ofNat (sz 61) ≤ nI i := by rw [sz_61]; exact nI_le (a := 21) (by omega) (by omega)
    rw [lp_X4_countOuts_50, oklp_X4_countOuts_50, if_pos q, if_pos q]
    have : (fun x => if 4 * i ≤ x ∧ x < 84 then addO r (I 62) mk x else I 62 x) = I 62 := funext fun k => if_neg (by omega)
    rw [this, vu_same]
    exact ⟨rfl, trivial⟩
  | succ c ih =>
    intro i I hA hi
    have q : ¬ Int32.ofNat (sz 61) ≤ nI i := by rw [sz_61]; exact nI_ge (b := 21) (by omega) (by omega)
    obtain ⟨o, ho, eo⟩ := mout_bw r mk i
    have ei : nI i * (4 : Int32) + nI o = nI (4 * i + o) := by
      show nI i * nI 4 + nI o = _
      rw [pk_mul, nI_add, Nat.mul_comm]
    have n0 : ¬ nI (4 * i + o) < 0 := nI_pos (by omega)
    have n84 : ¬ Int32.ofNat (sz 62) ≤ nI (4 * i + o) := by rw [sz_62]; exact nI_ge (b := 84) (by omega) (by omega)
    have eu : u1_X4_countOuts (nI i) I = va_up I 62 (upd (I 62) (4 * i + o) (I 62 (4 * i + o) + 1)) := by
      rw [u1_X4_countOuts, opv_eq, nI_clamp (by omega), hA i (by omega), eo, ei, if_neg n0, if_neg n84, nI_clamp (by omega)]
    have k := ih (i + 1) (va_up I 62 (upd (I 62) (4 * i + o) (I 62 (4 * i + o) + 1))) (fun d hd => by rw [vu_o _ _ (by omega)]; exact hA d hd) (by omega)
    rw [lp_X4_countOuts_50, oklp_X4_countOuts_50, if_neg q, if_neg q, nI_1, eu, nI_clamp (by omega), hA i (by omega), eo, ei, if_neg n0, if_neg n84]
    refine ⟨?_, by rw [sz_61]; exact vp_in_nI (by omega) (by omega), ⟨by rw [sz_62]; exact vp_in_nI (by omega) (by omega), by rw [sz_62]; exact vp_in_nI (by omega) (by omega)⟩, k.2⟩
    rw [k.1, vu_vu, vu_s]
    congr 1
    funext x
    by_cases z : 4 * (i + 1) ≤ x ∧ x < 84
    · rw [if_pos z, if_pos (by omega), addO, addO, pk_un (by omega)]
    · rw [if_neg z]
      by_cases y : 4 * i ≤ x ∧ x < 84
      · rw [if_pos y, addO, show x / 4 = i by omega, eo]
        by_cases y2 : x = 4 * i + o
        · rw [y2, pk_us, if_pos (by congr 1; omega)]
        · rw [pk_un y2, if_neg (by rw [nI_eq (by omega) (by omega)]; omega)]
      · rw [if_neg y, pk_un (by omega)]
def kc (a _j : Nat) : Bool := !(a == 60) && !(a == 61) && !(a == 62)
theorem kc_low : ∀ a, 3 ≤ a → a ≤ 22 → ∀ j, kc a j = true := by
  intro a h1 h2 j
  have n1 : (a == 60) = false := by simp; omega
  have n2 : (a == 61) = false := by simp; omega
  have n3 : (a == 62) = false := by simp; omega
  simp [kc, n1, n2, n3]
theorem count_lp {r : Vc} {t : Nat} {l : List Nat} (hb : RB r) (hl : l.length ≤ 40) (h40 : ∀ i, i < l.length → l.getD i 0 < 40) : ∀ (c i f : Nat) (I : Mm), TR I r t → Fit I l → (∀ x, x < 84 → I 62 x = cntO r (l.take i) x) → i + c = l.length → c < f → Fk kc I (lp_X4_countOuts_10 t f (nI i) I).2 ∧ (∀ x, x < 84 → (lp_X4_countOuts_10 t f (nI i) I).2 62 x = cntO r l x) ∧ oklp_X4_countOuts_10 t f (nI i) I := by
  intro c
  induction c with
  | zero =>
    intro i f I hT hF hx hi hf
    obtain ⟨f, rfl⟩ : ∃ g, f = g + 1 := ⟨f - 1, by omega⟩
    rw [lp_X4_countOuts_10, oklp_X4_countOuts_10, hF.1, if_pos (nI_le (by omega) (by omega)), if_pos (nI_le (by omega) (by omega))]
    refine ⟨Fk.refl _ _, fun x h84 => ?_, trivial⟩
    rw [← List.take_of_length_le (l := l) (i := i) (by omega)]
    exact hx x h84
  | succ c ih =>
    intro i f I hT hF hx hi hf
    obtain ⟨f, rfl⟩ : ∃ g, f = g + 1 := ⟨f - 1, by omega⟩
    have q : ¬ nI l.length ≤ nI i := nI_ge (by omega) (by omega)
    have q2 : ¬ Int32.ofNat (sz 59) ≤ nI i := by rw [sz_59]; exact nI_ge (b := 40) (by omega) (by omega)
    have lt := h40 i (by omega)
    have d := div4 (j := l.getD i 0) (by omega)
    obtain ⟨X, A, a1, a2, a3⟩ := c_watch hT hb (nI (l.getD i 0 / 4)) (oil_bw (l.getD i 0))
    have mu : mu_up (Int32.ofNat (sz 61)) 0 + 1 = 21 + 1 := by
      rw [sz_61, show mu_up (Int32.ofNat 21) 0 = mu_up (nI 21) (nI 0) from rfl, mu_up_nI (by omega) (by omega)]
    have ou := outs_lp (r := r) (mk := l.getD i 0) t (nI i) 21 0 (va_up (va_up I 60 X) 61 A) (fun d hd => by rw [vu_s]; exact a3 d hd) (by omega)
    rw [nI_0, vu_o _ _ (by omega), vu_o _ _ (by omega)] at ou
    have eu : u0_X4_countOuts t (nI i) I = va_up (va_up I 60 X) 61 A := by
      rw [u0_X4_countOuts, opv_eq, nI_clamp (by omega), hF.2 i (by omega), d.2, d.1, a1]
    have f1 : Fk kc I (va_up (va_up (va_up I 60 X) 61 A) 62 (fun x => if 4 * 0 ≤ x ∧ x < 84 then addO r (I 62) (l.getD i 0) x else I 62 x)) := (((Fk.refl _ _).up (fun _ => rfl)).up (fun _ => rfl)).up (fun _ => rfl)
    have k := ih (i + 1) f _ (hT.fk f1 kc_low) (by
      unfold Fit
      rw [vu_o _ _ (by omega), vu_o _ _ (by omega), vu_o _ _ (by omega), vu_o _ _ (by omega), vu_o _ _ (by omega), vu_o _ _ (by omega)]
      exact hF) (fun x h84 => by
      rw [vu_s, if_pos (by omega), take_snoc (by omega), cntO_snoc]
      unfold addO
      rw [hx x h84]) (by omega) (by omega)
    rw [lp_X4_countOuts_10, oklp_X4_countOuts_10, hF.1, if_neg q, if_neg q, if_neg q2, if_neg q2, nI_1, eu, mu, ou.1, nI_clamp (by omega), hF.2 i (by omega), d.2, d.1]
    exact ⟨f1.trans k.1, k.2.1, by rw [sz_59]; exact vp_in_nI (by omega) (by omega), by rw [sz_59]; exact vp_in_nI (by omega) (by omega), a2, ou.2, k.2.2⟩
theorem c_counts {K : Mm} {r : Vc} {t : Nat} (hT : TR K r t) (hb : RB r) (hF : Fit K (mlist r)) : Fk kc K (m_X4_countOuts K t) ∧ (∀ x, x < 84 → m_X4_countOuts K t 62 x = cntO r (mlist r) x) ∧ ok_X4_countOuts K t := by
  have fl := m_fill K (a := 62) (N := 84) 0 (by omega) sz_62
  have hl := ml_le r
  have mu : mu_up (Int32.ofNat (sz 59)) 0 + 1 = 40 + 1 := by
    rw [sz_59, show mu_up (Int32.ofNat 40) 0 = mu_up (nI 40) (nI 0) from rfl, mu_up_nI (by omega) (by omega)]
  have f0 : Fk kc K (va_up K 62 (fun k => if k < 84 then 0 else K 62 k)) := (Fk.refl _ _).up (fun _ => rfl)
  have k := count_lp (t := t) hb hl (fun i hi => ml_lt hi) (mlist r).length 0 (40 + 1) (va_up K 62 (fun k => if k < 84 then 0 else K 62 k)) (hT.up (by omega)) (by unfold Fit; rw [vu_o _ _ (by omega), vu_o _ _ (by omega)]; exact hF) (fun x hx => by rw [vu_s, if_pos hx]; rfl) (by omega) (by omega)
  rw [nI_0] at k
  rw [m_X4_countOuts, ok_X4_countOuts, opv_eq, opv_eq, fl.1, mu]
  exact ⟨f0.trans k.1, k.2.1, fl.2, k.2.2⟩
theorem most_lp {I I' : Mm} {d : Nat} (hd : d < 21) (hx : ∀ x, x < 84 → I 62 x = I' 76 x) (l1 : Int32) : ∀ (c j : Nat) (acc : Int32), j + c = 4 → (lp_X4_mostOf_4 I (nI d) (c + 1) acc (nI j)).1 = (lp_X11_lookOf_35 I' l1 (nI d) (c + 1) acc (nI j)).1 ∧ oklp_X4_mostOf_4 I (nI d) (c + 1) acc (nI j) ∧ oklp_X11_lookOf_35 I' l1 (nI d) (c + 1) acc (nI j) := by
  intro c
  induction c with
  | zero =>
    intro j acc hj
    have q1 : (3 : Int32) < nI j := nI_lt (a := 3) (by omega) (by omega)
    have q2 : (4 : Int32) ≤ nI j := nI_le (a := 4) (by omega) (by omega)
    rw [lp_X4_mostOf_4, lp_X11_lookOf_35, oklp_X4_mostOf_4, oklp_X11_lookOf_35, if_pos q1, if_pos q1, if_pos q2, if_pos q2]
    exact ⟨rfl, trivial, trivial⟩
  | succ c ih =>
    intro j acc hj
    have q1 : ¬ (3 : Int32) < nI j := nI_nlt (b := j) (a := 3) (by omega) (by omega)
    have q2 : ¬ (4 : Int32) ≤ nI j := nI_ge (b := 4) (by omega) (by omega)
    have ei : nI d * (4 : Int32) + nI j = nI (4 * d + j) := by
      show nI d * nI 4 + nI j = _
      rw [pk_mul, nI_add, Nat.mul_comm]
    have ei2 : (4 : Int32) * nI d + nI j = nI (4 * d + j) := by
      show nI 4 * nI d + nI j = _
      rw [pk_mul, nI_add]
    have n0 : ¬ nI (4 * d + j) < 0 := nI_pos (by omega)
    have n84 : ¬ Int32.ofNat (sz 62) ≤ nI (4 * d + j) := by rw [sz_62]; exact nI_ge (b := 84) (by omega) (by omega)
    have e1 : u0_X4_mostOf I (nI d) acc (nI j) = u0_X11_lookOf I' (nI d) acc (nI j) := by
      rw [u0_X4_mostOf, opv_eq, u0_X11_lookOf, opv_eq, ei, ei2, if_neg n0, if_neg n84, nI_clamp (by omega), hx _ (by omega)]
      unfold imax
      by_cases z : acc < I' 76 (4 * d + j)
      · rw [if_pos z, if_neg (by rw [fa_lt] at z; rw [fa_le]; omega)]
      · rw [if_neg z, if_pos (by rw [fa_lt] at z; rw [fa_le]; omega)]
    have k := ih (j + 1) (u0_X11_lookOf I' (nI d) acc (nI j)) (by omega)
    rw [lp_X4_mostOf_4, lp_X11_lookOf_35, oklp_X4_mostOf_4, oklp_X11_lookOf_35, if_neg q1, if_neg q1, if_neg q2, if_neg q2, nI_1, e1, ei, ei2, if_neg n0, if_neg n84]
    refine ⟨k.1, ⟨by rw [sz_62]; exact vp_in_nI (by omega) (by omega), k.2.1⟩, by rw [sz_76]; exact vp_in_nI (by omega) (by omega), ?_, k.2.2⟩
    split
    · trivial
    · rw [sz_76]; exact vp_in_nI (by omega) (by omega)
theorem most_eq {I I' : Mm} {d : Nat} (hd : d < 21) (hx : ∀ x, x < 84 → I 62 x = I' 76 x) (l1 : Int32) : f_X4_mostOf I (nI d) = (lp_X11_lookOf_35 I' l1 (nI d) (mu_up 4 0 + 1) 0 0).1 ∧ ok_X4_mostOf I (nI d) ∧ oklp_X11_lookOf_35 I' l1 (nI d) (mu_up 4 0 + 1) 0 0 := by
  have mu1 : mu_le 3 0 + 1 = 4 + 1 := by rw [show mu_le 3 0 = mu_le (nI 3) (nI 0) from rfl, mu_le_nI (by omega) (by omega)]
  have mu2 : mu_up 4 0 + 1 = 4 + 1 := by rw [show mu_up 4 0 = mu_up (nI 4) (nI 0) from rfl, mu_up_nI (by omega) (by omega)]
  have k := most_lp hd hx l1 4 0 0 (by omega)
  rw [nI_0] at k
  rw [f_X4_mostOf, ok_X4_mostOf, opv_eq, opv_eq, mu1, mu2]
  exact k
def k58 (a j : Nat) : Bool := !(a == 58 && (j == 1 || j == 2))
def k31 (a j : Nat) : Bool := !(a == 65 && j == 31)
theorem look_lp {n : Nat} (hn : n ≤ 40) (t : Nat) : ∀ (c d : Nat) (best : Int32) (I I' : Mm), I 58 0 = nI n → I' 65 28 = nI n → I 58 1 = best → I 58 2 = I' 65 31 → (best = -2 ∨ 0 ≤ best.toInt) → (∀ x, x < 84 → I 62 x = I' 76 x) → d + c = 21 → Fk k58 I (lp_X4_chooseDay_19 t (c + 1) (nI d) I).2 ∧ Fk k31 I' (lp_X11_lookOf_17 (c + 1) best (nI d) I').2.2 ∧ (lp_X4_chooseDay_19 t (c + 1) (nI d) I).2 58 1 = (lp_X11_lookOf_17 (c + 1) best (nI d) I').1 ∧ (lp_X4_chooseDay_19 t (c + 1) (nI d) I).2 58 2 = (lp_X11_lookOf_17 (c + 1) best (nI d) I').2.2 65 31 ∧ oklp_X4_chooseDay_19 t (c + 1) (nI d) I ∧ oklp_X11_lookOf_17 (c + 1) best (nI d) I' := by
  intro c
  induction c with
  | zero =>
    intro d best I I' h0 h28 h1 h2 hb hx hd
    have q : (21 : Int32) ≤ nI d := nI_le (a := 21) (by omega) (by omega)
    rw [lp_X4_chooseDay_19, lp_X11_lookOf_17, oklp_X4_chooseDay_19, oklp_X11_lookOf_17, if_pos q, if_pos q, if_pos q, if_pos q]
    exact ⟨Fk.refl _ _, Fk.refl _ _, h1, h2, trivial, trivial⟩
  | succ c ih =>
    intro d best I I' h0 h28 h1 h2 hb hx hd
    have q : ¬ (21 : Int32) ≤ nI d := nI_ge (b := 21) (by omega) (by omega)
    rw [lp_X4_chooseDay_19, lp_X11_lookOf_17, oklp_X4_chooseDay_19, oklp_X11_lookOf_17, if_neg q, if_neg q, if_neg q, if_neg q, h0, h28]
    by_cases z : nI n ≤ 0
    · rw [if_pos z, if_pos z, if_pos z, if_pos z]
      exact ⟨Fk.refl _ _, Fk.refl _ _, h1, h2, trivial, trivial⟩
    · rw [if_neg z, if_neg z, if_neg z, if_neg z, nI_1]
      have m := most_eq (d := d) (by omega) hx best
      have e1 : u0_X4_chooseDay (nI d) I = if (best = -2 ∨ (lp_X11_lookOf_35 I' best (nI d) (mu_up 4 0 + 1) 0 0).1 < I' 65 31) then st2 (st2 I 58 1 (nI d)) 58 2 (lp_X11_lookOf_35 I' best (nI d) (mu_up 4 0 + 1) 0 0).1 else I := by
        rw [u0_X4_chooseDay, opv_eq, m.1, h1, h2]
        by_cases y : best = -2
        · rw [if_pos y, if_pos (Or.inl y)]
        · rw [if_neg y]
          by_cases x : I' 65 31 ≤ (lp_X11_lookOf_35 I' best (nI d) (mu_up 4 0 + 1) 0 0).1
          · rw [if_pos x, if_neg (fun p => p.elim y (fun p => by rw [fa_lt] at p; rw [fa_le] at x; omega))]
          · rw [if_neg x, if_pos (Or.inr (by rw [fa_le] at x; rw [fa_lt]; omega))]
      have hneg : best < 0 ↔ best = -2 := by
        rcases hb with y | y
        · rw [y]; decide
        · constructor
          · intro p; rw [fa_lt, ti0] at p; omega
          · intro p; rw [p] at y; exact absurd y (by decide)
      have e2 : u1_X11_lookOf best (nI d) I' = if (best = -2 ∨ (lp_X11_lookOf_35 I' best (nI d) (mu_up 4 0 + 1) 0 0).1 < I' 65 31) then nI d else best := by
        rw [u1_X11_lookOf, opv_eq]
        by_cases y : best = -2
        · rw [if_pos (hneg.mpr y), if_pos (Or.inl y)]
        · rw [if_neg (fun p => y (hneg.mp p))]
          by_cases x : (lp_X11_lookOf_35 I' best (nI d) (mu_up 4 0 + 1) 0 0).1 < I' 65 31
          · rw [if_pos x, if_pos (Or.inr x)]
          · rw [if_neg x, if_neg (fun p => p.elim y x)]
      have e3 : u2_X11_lookOf best (nI d) I' = if (best = -2 ∨ (lp_X11_lookOf_35 I' best (nI d) (mu_up 4 0 + 1) 0 0).1 < I' 65 31) then st2 I' 65 31 (lp_X11_lookOf_35 I' best (nI d) (mu_up 4 0 + 1) 0 0).1 else I' := by
        rw [u2_X11_lookOf, opv_eq]
        by_cases y : best = -2
        · rw [if_pos (hneg.mpr y), if_pos (Or.inl y)]
        · rw [if_neg (fun p => y (hneg.mp p))]
          by_cases x : (lp_X11_lookOf_35 I' best (nI d) (mu_up 4 0 + 1) 0 0).1 < I' 65 31
          · rw [if_pos x, if_pos (Or.inr x)]
          · rw [if_neg x, if_neg (fun p => p.elim y x)]
      rw [e1, e2, e3]
      generalize (lp_X11_lookOf_35 I' best (nI d) (mu_up 4 0 + 1) 0 0).1 = mx at *
      by_cases y : best = -2 ∨ mx < I' 65 31
      · rw [if_pos y, if_pos y, if_pos y]
        have k := ih (d + 1) (nI d) (st2 (st2 I 58 1 (nI d)) 58 2 mx) (st2 I' 65 31 mx) (by rw [st2_o _ _ _ (by omega), st2_o _ _ _ (by omega)]; exact h0) (by rw [st2_o _ _ _ (by omega)]; exact h28) (by rw [st2_o _ _ _ (by omega), st2_s]) (by rw [st2_s, st2_s]) (Or.inr (by rw [nI_toInt (by omega)]; omega)) (fun x h84 => by rw [st2_orow _ _ _ (by omega), st2_orow _ _ _ (by omega), st2_orow _ _ _ (by omega)]; exact hx x h84) (by omega)
        exact ⟨(((Fk.refl _ _).st rfl).st rfl).trans k.1, ((Fk.refl _ _).st rfl).trans k.2.1, k.2.2.1, k.2.2.2.1, ⟨m.2.1, k.2.2.2.2.1⟩, m.2.2, k.2.2.2.2.2⟩
      · rw [if_neg y, if_neg y, if_neg y]
        have k := ih (d + 1) best I I' h0 h28 h1 h2 hb hx (by omega)
        exact ⟨k.1, k.2.1, k.2.2.1, k.2.2.2.1, ⟨m.2.1, k.2.2.2.2.1⟩, m.2.2, k.2.2.2.2.2⟩
theorem kp_58 {a j : Nat} (h : kp a j = true) : k58 a j = true := by
  unfold k58
  by_cases h1 : a = 58
  · subst h1
    by_cases j1 : j = 1
    · subst j1; exact absurd h (by decide)
    by_cases j2 : j = 2
    · subst j2; exact absurd h (by decide)
    simp [j1, j2]
  · simp [h1]
theorem kp_31 {a j : Nat} (h : kp a j = true) : k31 a j = true := by
  unfold k31
  by_cases h1 : a = 65
  · subst h1
    by_cases j1 : j = 31
    · subst j1; exact absurd h (by decide)
    simp [j1]
  · simp [h1]
theorem kp_kc {a j : Nat} (h : kp a j = true) : kc a j = true := by
  by_cases h1 : a = 60
  · subst h1; cases (show false = true from h)
  by_cases h2 : a = 61
  · subst h2; cases (show false = true from h)
  by_cases h3 : a = 62
  · subst h3; cases (show false = true from h)
  simp [kc, h1, h2, h3]
/-- both have chosen -/
theorem Sim.chose {I : Mm} {J : Nat → Nat → Int64} {w : Bool} (h : Sim I J w) : ∃ K C, m_X4_gather (st2 I 0 7 0) (td w) = K ∧ ok_X4_gather (st2 I 0 7 0) (td w) ∧ m_X4_chooseDay K (td w) = C ∧ ok_X4_chooseDay K (td w) ∧ m_X11_good C 65 14 = I 0 4 ∧ C 58 1 = f_X11_lookOf (m_X11_good C) ∧ C 58 2 = m_X11_lookOf (m_X11_good C) 65 31 ∧ ok_X11_lookOf (m_X11_good C) ∧ ∀ J', Sim (m_X11_lookOf (m_X11_good C)) J' w := by
  obtain ⟨K, eK, ok, hC, h7, hF, k68, hT, k14, K68⟩ := h.gat
  have hb := h.1.1
  have ct := c_counts hT hb hF
  have hl := ml_le (I 68)
  have mu : mu_up 21 0 + 1 = 21 + 1 := by rw [show mu_up 21 0 = mu_up (nI 21) (nI 0) from rfl, mu_up_nI (by omega) (by omega)]
  have fK : Fr K (st2 (st2 (m_X4_countOuts K (td w)) 58 1 (-2)) 58 2 (-2)) := ((show Fr K (m_X4_countOuts K (td w)) from fun a j hk => ct.1 a j (kp_kc hk)).st rfl).st rfl
  have e58 : m_X4_countOuts K (td w) 58 0 = nI (mlist (I 68)).length := by rw [ct.1 58 0 rfl]; exact hF.1
  generalize hG : st2 (st2 (m_X4_countOuts K (td w)) 58 1 (-2)) 58 2 (-2) = G at fK
  have key : ∀ M : Mm, M 65 28 = nI (mlist (I 68)).length → (∀ x, x < 84 → cntO (I 68) (mlist (I 68)) x = M 76 x) → _ := fun M (hm : M 65 28 = nI (mlist (I 68)).length) (hx : ∀ x, x < 84 → cntO (I 68) (mlist (I 68)) x = M 76 x) => look_lp hl (td w) 21 0 (-2) G (st2 M 65 31 (-2)) (by rw [← hG, st2_o _ _ _ (by omega), st2_o _ _ _ (by omega)]; exact e58) (by rw [st2_o _ _ _ (by omega)]; exact hm) (by rw [← hG, st2_o _ _ _ (by omega), st2_s]) (by rw [← hG, st2_s, st2_s]) (Or.inl rfl) (fun x h84 => by rw [← hG, st2_orow _ _ _ (by omega), st2_orow _ _ _ (by omega), st2_orow _ _ _ (by omega), ct.2.1 x h84]; exact hx x h84) (by omega)
  have eC : m_X4_chooseDay K (td w) = (lp_X4_chooseDay_19 (td w) (21 + 1) (nI 0) G).2 := by
    rw [m_X4_chooseDay, opv_eq, mu, hG, nI_0]
  have okC : ok_X4_chooseDay K (td w) = (ok_X4_countOuts K (td w) ∧ oklp_X4_chooseDay_19 (td w) (21 + 1) (nI 0) G) := by
    rw [ok_X4_chooseDay, opv_eq, mu, hG, nI_0]
  generalize (lp_X4_chooseDay_19 (td w) (21 + 1) (nI 0) G).2 = C at key eC
  have m0 := m_seek k68 hb (-1)
  have k0 := key _ m0.2.1.1 (fun x hx => (m0.2.1.2.2.2.1 x hx).symm)
  have fC : Fr K C := fK.trans (fun a j hk => k0.1 a j (kp_58 hk))
  have C68 : m_X11_good C 68 = I 68 := by rw [good_row _ (by omega), fC.row (a := 68) (fun _ => rfl), K68]
  have m := m_seek C68 hb (-1)
  have k := key _ m.2.1.1 (fun x hx => (m.2.1.2.2.2.1 x hx).symm)
  rw [nI_0] at k
  have eF : f_X11_lookOf (m_X11_good C) = (lp_X11_lookOf_17 (21 + 1) (-2) 0 (st2 (m_X11_seekMakes (m_X11_good C) (-1)) 65 31 (-2))).1 := by rw [f_X11_lookOf, opv_eq, mu]
  have eM : m_X11_lookOf (m_X11_good C) = (lp_X11_lookOf_17 (21 + 1) (-2) 0 (st2 (m_X11_seekMakes (m_X11_good C) (-1)) 65 31 (-2))).2.2 := by rw [m_X11_lookOf, opv_eq, mu]
  refine ⟨K, C, eK, ok, eC, ?_, ?_, ?_, ?_, ?_, fun J' => ?_⟩
  · rw [okC, nI_0]
    exact ⟨ct.2.2, k.2.2.2.2.1⟩
  · rw [good_14, fC 65 14 rfl]
    rw [good_14] at k14
    exact k14
  · rw [eF]; exact k.2.2.1
  · rw [eM]; exact k.2.2.2.1
  · rw [ok_X11_lookOf, opv_eq, mu]
    exact ⟨m.2.2, k.2.2.2.2.2⟩
  · rw [eM]
    refine Sim.fin (v := 0) (hC.fr fC) (by rw [fC 0 7 rfl]; exact h7) ?_ (by decide)
    exact ((fr_good C).trans (fr_ks m.1)).trans (((Fr.refl _).st rfl).trans (fun a j hk => k.2.1 a j (kp_31 hk)))
theorem st_look : St_look Sim := by
  intro I J w h
  simp only [ok_X10_look, m_X10_look, f_X10_look, ok_X10_gathered, m_X10_gathered, ok_X11_look, m_X11_look, f_X11_look, u0_X11_look, u1_X11_look, opv_eq, cr, m_refused, f_no]
  by_cases q : gv (I 0 4) true = 0
  · have qc := (gv_t q).1
    simp only [q, if_true]
    obtain ⟨K, C, e1, o1, e2, o2, g14, a1, a2, a3, a4⟩ := h.chose
    rw [e1, e2, g14, if_neg qc, if_neg qc, if_neg qc]
    exact ⟨⟨o1, o2⟩, a3, a1, a4 J⟩
  · obtain ⟨qc, g1⟩ := gvn q
    simp only [if_neg q, h.g14, if_pos qc]
    rw [g1]
    exact ⟨trivial, trivial, trivial, h.bad (by decide)⟩
theorem st_lookLeaves : St_lookLeaves Sim := by
  intro I J w h
  simp only [ok_X10_lookLeaves, m_X10_lookLeaves, f_X10_lookLeaves, ok_X10_gathered, m_X10_gathered, ok_X11_lookLeaves, m_X11_lookLeaves, f_X11_lookLeaves, opv_eq, cr, m_refused, f_no]
  by_cases q : gv (I 0 4) true = 0
  · have qc := (gv_t q).1
    simp only [q, if_true]
    obtain ⟨K, C, e1, o1, e2, o2, g14, a1, a2, a3, a4⟩ := h.chose
    rw [e1, e2, g14, if_neg qc, if_neg qc, if_neg qc]
    exact ⟨⟨o1, o2⟩, a3, a2, a4 J⟩
  · obtain ⟨qc, g1⟩ := gvn q
    simp only [if_neg q, h.g14, if_pos qc]
    rw [g1]
    exact ⟨trivial, trivial, trivial, h.bad (by decide)⟩
