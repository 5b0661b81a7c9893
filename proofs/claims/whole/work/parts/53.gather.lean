/-! ===== makes that fit ===== -/
def gl (r : Vc) (j : Nat) : List Nat := (List.range j).filter (mgood r)
theorem gl_40 (r : Vc) : gl r 40 = mlist r := rfl
theorem gl_succ (r : Vc) (j : Nat) : gl r (j + 1) = gl r j ++ (if mgood r j = true then [j] else []) := by
  unfold gl
  rw [List.range_succ, List.filter_append]
  congr 1
  by_cases h : mgood r j = true
  · rw [if_pos h]; simp [h]
  · rw [if_neg h]; simp [h]
theorem gl_le (r : Vc) (j : Nat) : (gl r j).length ≤ j := by
  unfold gl
  have := List.length_filter_le (mgood r) (List.range j)
  rw [List.length_range] at this
  exact this
theorem gl_lt {r : Vc} {j i : Nat} (hi : i < (gl r j).length) : (gl r j).getD i 0 < j := by
  have e : (gl r j).getD i 0 = (gl r j)[i] := by simp [List.getD, hi]
  rw [e]
  have := List.getElem_mem hi
  unfold gl at this
  have := (List.mem_filter.mp this).1
  exact List.mem_range.mp this
theorem getD_l {l : List Nat} {x i : Nat} (h : i < l.length) : (l ++ [x]).getD i 0 = l.getD i 0 := by
  simp [List.getD, List.getElem?_append, h]
theorem getD_r {l : List Nat} {x : Nat} : (l ++ [x]).getD l.length 0 = x := by
  simp [List.getD]
theorem mout_eq (r : Vc) (mk d : Nat) : mout r mk d = wout r (nI (mk / 4)) (nI (mk % 4)) d := rfl
theorem wsL_iff {r A : Vc} : ∀ (c j : Nat), j + c < 1000 → (wsL r A c j = -2 ↔ ∀ k, j ≤ k → k < j + c → A (sawD r k) = r (43 + 2 * k + 1)) := by
  intro c
  induction c with
  | zero => intro j hj; exact ⟨fun _ k h1 h2 => by omega, fun _ => rfl⟩
  | succ c ih =>
    intro j hj
    rw [wsL]
    by_cases q : A (r (43 + 2 * j)).toNatClampNeg = r (43 + 2 * j + 1)
    · rw [if_pos q, ih (j + 1) (by omega)]
      constructor
      · intro h k h1 h2
        by_cases z : k = j
        · subst z; exact q
        · exact h k (by omega) (by omega)
      · intro h k h1 h2
        exact h k (by omega) (by omega)
    · rw [if_neg q]
      constructor
      · intro h
        rw [fa_eq, nI_toInt (by omega), tim2] at h
        omega
      · intro h
        exact absurd (h j (by omega) (by omega)) q
theorem mgood_iff {r A : Vc} (hb : RB r) {mk : Nat} (h : ∀ d, d < 21 → A d = mout r mk d) : (wsL r A (r 7).toNatClampNeg 0 = -2) ↔ mgood r mk = true := by
  have hn := hb.nS.2
  rw [wsL_iff _ 0 (by omega)]
  unfold mgood
  rw [List.all_eq_true]
  constructor
  · intro z k hk
    rw [List.mem_range] at hk
    have d := hb.sawn hk
    have := z k (by omega) (by omega)
    rw [h _ (by omega)] at this
    exact decide_eq_true this
  · intro z k h1 h2
    have hk : k < (r 7).toNatClampNeg := by omega
    have d := hb.sawn hk
    have := of_decide_eq_true (z k (List.mem_range.mpr hk))
    rw [h _ (by omega)]
    exact this
def kg (a j : Nat) : Bool := !(a == 60) && !(a == 61) && !(a == 59) && !(a == 58 && (j == 0 || j == 4))
theorem TR.fk {I M : Mm} {r : Vc} {t : Nat} {k : Nat → Nat → Bool} (hT : TR I r t) (h : Fk k I M) (hk : ∀ a, 3 ≤ a → a ≤ 22 → ∀ j, k a j = true) : TR M r t := hT.congr fun a h1 h2 _ _ => funext fun j => h a j (hk a h1 h2 j)
theorem kg_low : ∀ a, 3 ≤ a → a ≤ 22 → ∀ j, kg a j = true := by
  intro a h1 h2 j
  have n1 : (a == 60) = false := by simp; omega
  have n2 : (a == 61) = false := by simp; omega
  have n3 : (a == 59) = false := by simp; omega
  have n4 : (a == 58) = false := by simp; omega
  simp [kg, n1, n2, n3, n4]
theorem div4 {j : Nat} (h : j < 1000) : nI j / 4 = nI (j / 4) ∧ nI j - nI j / 4 * 4 = nI (j % 4) := ⟨pk_div (d := 4) (by omega) (by omega) (by omega), pk_rem (d := 4) (by omega) (by omega) (by omega)⟩
theorem oil_bw (j : Nat) : bw (nI (j % 4)) 0 3 := bw_of (lo := 0) (hi := 3) (by omega) (by omega) (by omega)
def Fit (M : Mm) (l : List Nat) : Prop := M 58 0 = nI l.length ∧ ∀ i, i < l.length → M 59 i = nI (l.getD i 0)
theorem gather_lp {r : Vc} {t : Nat} (hb : RB r) : ∀ (c j : Nat) (I : Mm), TR I r t → Fit I (gl r j) → j + c = 40 → Fk kg I (lp_X4_gather_15 t (c + 1) (nI j) I).2 ∧ Fit (lp_X4_gather_15 t (c + 1) (nI j) I).2 (mlist r) ∧ oklp_X4_gather_15 t (c + 1) (nI j) I := by
  intro c
  induction c with
  | zero =>
    intro j I hT hF hj
    have e : j = 40 := by omega
    subst e
    have q : (40 : Int32) ≤ nI 40 := by decide
    rw [lp_X4_gather_15, oklp_X4_gather_15, if_pos q, if_pos q]
    exact ⟨Fk.refl _ _, hF, trivial⟩
  | succ c ih =>
    intro j I hT hF hj
    have q : ¬ (40 : Int32) ≤ nI j := nI_ge (b := 40) (by omega) (by omega)
    have d := div4 (j := j) (by omega)
    obtain ⟨X, A, a1, a2, a3⟩ := c_watch hT hb (nI (j / 4)) (oil_bw j)
    have hT2 : TR (va_up (va_up I 60 X) 61 A) r t := (hT.up (by omega)).up (by omega)
    have u := c_unlike hT2 hb
    rw [vu_s] at u
    have g := mgood_iff (A := A) hb (mk := j) a3
    have gle := gl_le r j
    have f0 : Fk kg I (va_up (va_up I 60 X) 61 A) := ((Fk.refl _ _).up (fun _ => rfl)).up (fun _ => rfl)
    have e58 : (va_up (va_up I 60 X) 61 A) 58 = I 58 := by rw [vu_o _ _ (by omega), vu_o _ _ (by omega)]
    have e59 : (va_up (va_up I 60 X) 61 A) 59 = I 59 := by rw [vu_o _ _ (by omega), vu_o _ _ (by omega)]
    have n40 : ¬ Int32.ofNat (sz 59) ≤ nI (gl r j).length := by
      rw [sz_59]
      exact nI_ge (b := 40) (by omega) (by omega)
    by_cases z : mgood r j = true
    · have eu : u0_X4_gather t (nI j) I = st2 (va_up (va_up (va_up I 60 X) 61 A) 59 (upd (I 59) (gl r j).length (nI j))) 58 0 (nI ((gl r j).length + 1)) := by
        rw [u0_X4_gather, opv_eq, d.2, d.1, a1, u.1, if_pos (g.mpr z), e58, e59, hF.1, if_neg n40, nI_clamp (by omega), nI_1]
      have hF2 : Fit (st2 (va_up (va_up (va_up I 60 X) 61 A) 59 (upd (I 59) (gl r j).length (nI j))) 58 0 (nI ((gl r j).length + 1))) (gl r (j + 1)) := by
        rw [gl_succ, if_pos z]
        refine ⟨by rw [st2_s]; simp, fun i hi => ?_⟩
        rw [st2_orow _ _ _ (by omega), vu_s]
        by_cases y : i = (gl r j).length
        · subst y; rw [pk_us, getD_r]
        · have hi2 : i < (gl r j).length := by simp at hi; omega
          rw [pk_un y, getD_l hi2]
          exact hF.2 i hi2
      have f1 : Fk kg I (st2 (va_up (va_up (va_up I 60 X) 61 A) 59 (upd (I 59) (gl r j).length (nI j))) 58 0 (nI ((gl r j).length + 1))) := (f0.up (fun _ => rfl)).st rfl
      have k := ih (j + 1) _ (hT.fk f1 kg_low) hF2 (by omega)
      rw [lp_X4_gather_15, oklp_X4_gather_15, if_neg q, if_neg q, nI_1, eu, d.2, d.1, a1, u.1, if_pos (g.mpr z), e58, hF.1, if_neg n40]
      exact ⟨f1.trans k.1, k.2.1, a2, u.2, by rw [sz_59]; exact vp_in_nI (by omega) (by omega), k.2.2⟩
    · have eu : u0_X4_gather t (nI j) I = va_up (va_up I 60 X) 61 A := by
        rw [u0_X4_gather, opv_eq, d.2, d.1, a1, u.1, if_neg (fun y => z (g.mp y))]
      have hF2 : Fit (va_up (va_up I 60 X) 61 A) (gl r (j + 1)) := by
        rw [gl_succ, if_neg z, List.append_nil]
        unfold Fit
        rw [e58, e59]
        exact hF
      have k := ih (j + 1) _ hT2 hF2 (by omega)
      rw [lp_X4_gather_15, oklp_X4_gather_15, if_neg q, if_neg q, nI_1, eu, d.2, d.1, a1, u.1, if_neg (fun y => z (g.mp y))]
      exact ⟨f0.trans k.1, k.2.1, a2, u.2, trivial, k.2.2⟩
theorem c_gather {I : Mm} {r : Vc} {t : Nat} (hT : TR I r t) (hb : RB r) (hm : MK I r) : Fk kg I (m_X4_gather I t) ∧ Fit (m_X4_gather I t) (mlist r) ∧ m_X4_gather I t 58 4 = 1 ∧ ok_X4_gather I t := by
  rw [m_X4_gather, ok_X4_gather, opv_eq, opv_eq]
  rcases hm with z | z
  · have k := gather_lp hb 40 0 (st2 I 58 0 0) (hT.st (by omega)) ⟨by rw [st2_s]; rfl, fun i hi => absurd hi (Nat.not_lt_zero i)⟩ (by omega)
    rw [nI_0] at k
    have mu : mu_up 40 0 + 1 = 40 + 1 := by
      rw [show mu_up 40 0 = mu_up (nI 40) (nI 0) from rfl, mu_up_nI (by omega) (by omega)]
    rw [if_pos z, if_pos z, mu]
    refine ⟨(((Fk.refl _ _).st rfl).trans k.1).st rfl, ?_, st2_s _ _ _ _, k.2.2⟩
    unfold Fit
    rw [st2_o _ _ _ (by omega), st2_orow _ _ _ (by omega)]
    exact k.2.1
  · have n : ¬ I 58 4 = 0 := by rw [z.1]; decide
    rw [if_neg n, if_neg n]
    exact ⟨Fk.refl _ _, ⟨z.2.1, z.2.2⟩, z.1, trivial⟩
theorem Core.gath {I M : Mm} {w : Bool} (h : Core I w) (he : Fk kg I M) (hm : MK M (I 68)) : Core M w := by
  have row : ∀ a, (∀ j, kg a j = true) → M a = I a := fun a ha => funext fun j => he a j (ha j)
  have r2 : ∀ a, a ≠ 58 → a ≠ 59 → a ≠ 60 → a ≠ 61 → M a = I a := by
    intro a h1 h2 h3 h4
    refine row a fun j => ?_
    have n1 : (a == 60) = false := by simp; omega
    have n2 : (a == 61) = false := by simp; omega
    have n3 : (a == 59) = false := by simp; omega
    have n4 : (a == 58) = false := by simp; omega
    simp [kg, n1, n2, n3, n4]
  obtain ⟨h1, h2, h3, h4, h5, h6, h7, h8, h9, h10, h11, h12⟩ := h
  have e68 := r2 68 (by omega) (by omega) (by omega) (by omega)
  have e0 := r2 0 (by omega) (by omega) (by omega) (by omega)
  have e1 := r2 1 (by omega) (by omega) (by omega) (by omega)
  have e65 := r2 65 (by omega) (by omega) (by omega) (by omega)
  have e66 := r2 66 (by omega) (by omega) (by omega) (by omega)
  have e23 := r2 23 (by omega) (by omega) (by omega) (by omega)
  have e24 := r2 24 (by omega) (by omega) (by omega) (by omega)
  have e70 := r2 70 (by omega) (by omega) (by omega) (by omega)
  have e71 := r2 71 (by omega) (by omega) (by omega) (by omega)
  have e72 := r2 72 (by omega) (by omega) (by omega) (by omega)
  refine ⟨by rw [e68]; exact h1, by rw [e68]; exact h2.congr (fun a _ _ _ _ => r2 a (by omega) (by omega) (by omega) (by omega)), ?_, by rw [e0, e65]; exact h4, by unfold TP; rw [e0, e65, e1, e66]; exact h5, by rw [e0, e65]; exact h6, by rw [e68, e23, e70]; exact h7, ?_, ?_, by rw [e0, e68, e70, e65]; exact h10, by rw [e68]; exact hm, by rw [e65, r2 51 (by omega) (by omega) (by omega) (by omega)]; exact h12⟩
  · unfold DR
    have := dr_or w
    rw [r2 (dr w + 1) (by omega) (by omega) (by omega) (by omega), r2 (dr w + 3) (by omega) (by omega) (by omega) (by omega), r2 (dr w + 5) (by omega) (by omega) (by omega) (by omega), r2 (dr w + 7) (by omega) (by omega) (by omega) (by omega)]
    exact h3
  · unfold PR
    rw [e24, e65, e68, e71]
    refine ⟨h8.1, h8.2.1, h8.2.2.1, fun d hd => ?_⟩
    rw [r2 _ (by omega) (by omega) (by omega) (by omega)]
    exact h8.2.2.2 d hd
  · unfold IR
    rw [e24, e65, e68, e72]
    refine ⟨h9.1, h9.2.1, fun k hk => ?_⟩
    have := (bw_nI (hi := 3) h9.2.1).2
    rw [r2 _ (by omega) (by omega) (by omega) (by omega)]
    exact h9.2.2 k hk
theorem Sim.fin {K I2 : Mm} {J' : Nat → Nat → Int64} {w : Bool} {v : Int32} (hK : Core K w) (h7 : K 0 7 = v) (h2 : Fr (st2 K 65 11 v) I2) (hv : v ≠ 4) : Sim I2 J' w := by
  refine ⟨(hK.trb (x := v)).fr h2, ?_, fun q => absurd ?_ hv⟩
  · rw [h2 0 7 rfl, h2 65 11 rfl, st2_s, st2_a _ _ (by omega), h7]
  · rw [h2 0 7 rfl, st2_a _ _ (by omega), h7] at q
    exact q
/-! what the model finds of them -/
def woodB (l : List Nat) : Int32 := l.foldl (fun b mk => b ||| ((1 : Int32) <<< (nI (mk / 4) &&& 31))) 0
def oilB (l : List Nat) : Int32 := l.foldl (fun b mk => b ||| ((1 : Int32) <<< (nI (mk % 4) &&& 31))) 0
def addO (r : Vc) (f : Vc) (mk : Nat) : Vc := fun x => if mout r mk (x / 4) = nI (x % 4) then f x + 1 else f x
def cntO (r : Vc) (l : List Nat) : Vc := l.foldl (addO r) (fun _ => 0)
def nam (mk : Nat) : Nat := 10 * (mk / 4) + mk % 4
theorem woodB_snoc (l : List Nat) (x : Nat) : woodB (l ++ [x]) = woodB l ||| ((1 : Int32) <<< (nI (x / 4) &&& 31)) := by
  unfold woodB
  rw [List.foldl_append]
  rfl
theorem oilB_snoc (l : List Nat) (x : Nat) : oilB (l ++ [x]) = oilB l ||| ((1 : Int32) <<< (nI (x % 4) &&& 31)) := by
  unfold oilB
  rw [List.foldl_append]
  rfl
theorem cntO_snoc (r : Vc) (l : List Nat) (x : Nat) : cntO r (l ++ [x]) = addO r (cntO r l) x := by
  unfold cntO
  rw [List.foldl_append]
  rfl
theorem mout_bw (r : Vc) (mk d : Nat) : ∃ o, o < 4 ∧ mout r mk d = nI o := by
  rcases who_bw (mrun r (nI (mk / 4)) (d + 1) (mbeg r (nI (mk % 4)))) with q | q | q | q
  · exact ⟨0, by omega, q⟩
  · exact ⟨1, by omega, q⟩
  · exact ⟨2, by omega, q⟩
  · exact ⟨3, by omega, q⟩
theorem often_lp {r : Vc} {mk : Nat} (x1 l2 l3 : Int32) : ∀ (c i : Nat) (I : Mm), (∀ d, d < 21 → I 75 d = mout r mk d) → i + c = 21 → (lp_X11_seekMakes_123 x1 l2 l3 (c + 1) (nI i) I).2 = va_up I 76 (fun x => if 4 * i ≤ x ∧ x < 84 then addO r (I 76) mk x else I 76 x) ∧ oklp_X11_seekMakes_123 x1 l2 l3 (c + 1) (nI i) I := by
  intro c
  induction c with
  | zero =>
    intro i I hA hi
    have q : (21 : Int32) ≤ nI i := nI_le (a := 21) (by omega) (by omega)
    rw [lp_X11_seekMakes_123, oklp_X11_seekMakes_123, if_pos q, if_pos q]
    have : (fun x => if 4 * i ≤ x ∧ x < 84 then addO r (I 76) mk x else I 76 x) = I 76 := funext fun k => if_neg (by omega)
    rw [this, vu_same]
    exact ⟨rfl, trivial⟩
  | succ c ih =>
    intro i I hA hi
    have q : ¬ (21 : Int32) ≤ nI i := nI_ge (b := 21) (by omega) (by omega)
    obtain ⟨o, ho, eo⟩ := mout_bw r mk i
    have ei : (4 : Int32) * nI i + nI o = nI (4 * i + o) := by
      show nI 4 * nI i + nI o = _
      rw [pk_mul, nI_add]
    rw [lp_X11_seekMakes_123, oklp_X11_seekMakes_123, if_neg q, if_neg q, nI_1, nI_clamp (by omega), hA i (by omega), eo, ei, nI_clamp (by omega), sz_75, sz_76]
    have k := ih (i + 1) (va_up I 76 (upd (I 76) (4 * i + o) (I 76 (4 * i + o) + 1))) (fun d hd => by rw [vu_o _ _ (by omega)]; exact hA d hd) (by omega)
    refine ⟨?_, vp_in_nI (by omega) (by omega), vp_in_nI (by omega) (by omega), vp_in_nI (by omega) (by omega), k.2⟩
    rw [k.1, vu_vu, vu_s]
    congr 1
    funext x
    by_cases z : 4 * (i + 1) ≤ x ∧ x < 84
    · rw [if_pos z, if_pos (by omega), addO, addO, pk_un (by omega)]
    · rw [if_neg z]
      by_cases y : 4 * i ≤ x ∧ x < 84
      · rw [if_pos y, addO, show x / 4 = i by omega, eo]
        by_cases y2 : x = 4 * i + o
        · rw [y2, pk_us, if_pos (by congr 1; omega)]
        · rw [pk_un y2, if_neg (by rw [nI_eq (by omega) (by omega)]; omega)]
      · rw [if_neg y, pk_un (by omega)]
/-- what the model's search holds behind a list of makes -/
def Skd (r : Vc) (w fo : Int32) (M : Mm) (l : List Nat) : Prop := M 65 28 = nI l.length ∧ M 65 29 = woodB l ∧ M 65 30 = oilB l ∧ (∀ x, x < 84 → M 76 x = cntO r l x) ∧ (∀ i, i < l.length → w = nI i → fo = nI (nam (l.getD i 0))) ∧ ((∀ i, i < l.length → w ≠ nI i) → fo = -1)
def ks (a j : Nat) : Bool := !(a == 73) && !(a == 75) && !(a == 76) && !(a == 65 && (j == 28 || j == 29 || j == 30))
theorem seek_lp {r : Vc} (hb : RB r) (w : Int32) : ∀ (c j : Nat) (fo : Int32) (I : Mm), I 68 = r → Skd r w fo I (gl r j) → j + c = 40 → Fk ks I (lp_X11_seekMakes_40 w (c + 1) fo (nI j) I).2.2 ∧ Skd r w (lp_X11_seekMakes_40 w (c + 1) fo (nI j) I).1 (lp_X11_seekMakes_40 w (c + 1) fo (nI j) I).2.2 (mlist r) ∧ oklp_X11_seekMakes_40 w (c + 1) fo (nI j) I := by
  intro c
  induction c with
  | zero =>
    intro j fo I hr hS hj
    have e : j = 40 := by omega
    subst e
    have q : (40 : Int32) ≤ nI 40 := by decide
    rw [lp_X11_seekMakes_40, oklp_X11_seekMakes_40, if_pos q, if_pos q]
    exact ⟨Fk.refl _ _, hS, trivial⟩
  | succ c ih =>
    intro j fo I hr hS hj
    have q : ¬ (40 : Int32) ≤ nI j := nI_ge (b := 40) (by omega) (by omega)
    have d := div4 (j := j) (by omega)
    obtain ⟨X, A, a1, a2, a3⟩ := m_layOuts hr hb d.1 d.2
    have hr2 : (va_up (va_up I 73 X) 75 A) 68 = r := by rw [vu_o _ _ (by omega), vu_o _ _ (by omega)]; exact hr
    have u := m_wrong hr2 hb
    rw [vu_s] at u
    have g := mgood_iff (A := A) hb (mk := j) a3
    have gle := gl_le r j
    have f0 : Fk ks I (va_up (va_up I 73 X) 75 A) := ((Fk.refl _ _).up (fun _ => rfl)).up (fun _ => rfl)
    have e65 : (va_up (va_up I 73 X) 75 A) 65 = I 65 := by rw [vu_o _ _ (by omega), vu_o _ _ (by omega)]
    have e76 : (va_up (va_up I 73 X) 75 A) 76 = I 76 := by rw [vu_o _ _ (by omega), vu_o _ _ (by omega)]
    obtain ⟨s1, s2, s3, s4, s5, s6⟩ := hS
    have mu : mu_up 21 0 + 1 = 21 + 1 := by
      rw [show mu_up 21 0 = mu_up (nI 21) (nI 0) from rfl, mu_up_nI (by omega) (by omega)]
    by_cases z : mgood r j = true
    · generalize hG : st2 (st2 (st2 (va_up (va_up I 73 X) 75 A) 65 28 (nI ((gl r j).length + 1))) 65 29 (woodB (gl r j) ||| ((1 : Int32) <<< (nI (j / 4) &&& 31)))) 65 30 (oilB (gl r j) ||| ((1 : Int32) <<< (nI (j % 4) &&& 31))) = G
      have G75 : ∀ d, d < 21 → G 75 d = mout r j d := fun d hd => by rw [← hG, st2_orow _ _ _ (by omega), st2_orow _ _ _ (by omega), st2_orow _ _ _ (by omega), vu_s]; exact a3 d hd
      have G76 : G 76 = I 76 := by rw [← hG, st2_orow _ _ _ (by omega), st2_orow _ _ _ (by omega), st2_orow _ _ _ (by omega), e76]
      have fG : Fk ks I G := by rw [← hG]; exact ((f0.st rfl).st rfl).st rfl
      have of := often_lp (r := r) (mk := j) w (u0_X11_seekMakes w fo (nI j) I) (nI j) 21 0 G G75 (by omega)
      rw [nI_0] at of
      have eF : u0_X11_seekMakes w fo (nI j) I = if nI (gl r j).length = w then nI (nam j) else fo := by
        rw [u0_X11_seekMakes, opv_eq, a1, e65, s1, d.2, d.1, show (10 : Int32) * nI (j / 4) = nI (10 * (j / 4)) from pk_mul 10 _, nI_add]
        rfl
      have eG : st2 (st2 (st2 (va_up (va_up I 73 X) 75 A) 65 28 ((va_up (va_up I 73 X) 75 A) 65 28 + 1)) 65 29 ((va_up (va_up I 73 X) 75 A) 65 29 ||| (1 <<< ((nI j / 4) &&& 31)))) 65 30 ((va_up (va_up I 73 X) 75 A) 65 30 ||| (1 <<< ((nI j - nI j / 4 * 4) &&& 31))) = G := by
        rw [← hG, e65, s1, s2, s3, d.2, d.1, nI_1]
      have eM : u2_X11_seekMakes w fo (nI j) I = va_up G 76 (fun x => if 4 * 0 ≤ x ∧ x < 84 then addO r (I 76) j x else I 76 x) := by
        rw [u2_X11_seekMakes, opv_eq, a1, u.1, if_pos (g.mpr z), eG, mu, of.1, G76]
      have eFF : u1_X11_seekMakes w fo (nI j) I = if nI (gl r j).length = w then nI (nam j) else fo := by
        rw [u1_X11_seekMakes, opv_eq, a1, u.1, if_pos (g.mpr z), eF]
      have f1 : Fk ks I (va_up G 76 (fun x => if 4 * 0 ≤ x ∧ x < 84 then addO r (I 76) j x else I 76 x)) := fG.up (fun _ => rfl)
      have k := ih (j + 1) (if nI (gl r j).length = w then nI (nam j) else fo) (va_up G 76 (fun x => if 4 * 0 ≤ x ∧ x < 84 then addO r (I 76) j x else I 76 x)) (by rw [vu_o _ _ (by omega), ← hG, st2_orow _ _ _ (by omega), st2_orow _ _ _ (by omega), st2_orow _ _ _ (by omega)]; exact hr2) (by
        rw [gl_succ, if_pos z]
        refine ⟨?_, ?_, ?_, fun x hx => ?_, fun i hi hw => ?_, fun hw => ?_⟩
        · rw [vu_o _ _ (by omega), ← hG, st2_o _ _ _ (by omega), st2_o _ _ _ (by omega), st2_s]
          simp
        · rw [vu_o _ _ (by omega), ← hG, st2_o _ _ _ (by omega), st2_s, woodB_snoc]
        · rw [vu_o _ _ (by omega), ← hG, st2_s, oilB_snoc]
        · rw [vu_s, if_pos (by omega), cntO_snoc]
          unfold addO
          rw [s4 x hx]
        · by_cases y : i = (gl r j).length
          · subst y
            rw [if_pos hw.symm, getD_r]
          · have hi2 : i < (gl r j).length := by simp at hi; omega
            rw [if_neg (by rw [hw, nI_eq (by omega) (by omega)]; omega), getD_l hi2]
            exact s5 i hi2 hw
        · have hl := hw (gl r j).length (by simp)
          rw [if_neg (fun y => hl y.symm)]
          exact s6 (fun i hi => hw i (by simp; omega))) (by omega)
      rw [lp_X11_seekMakes_40, oklp_X11_seekMakes_40, if_neg q, if_neg q, nI_1, eFF, eM, a1, u.1, if_pos (g.mpr z), eG, mu]
      exact ⟨f1.trans k.1, k.2.1, a2, u.2, of.2, k.2.2⟩
    · have eM : u2_X11_seekMakes w fo (nI j) I = va_up (va_up I 73 X) 75 A := by
        rw [u2_X11_seekMakes, opv_eq, a1, u.1, if_neg (fun y => z (g.mp y))]
      have eFF : u1_X11_seekMakes w fo (nI j) I = fo := by
        rw [u1_X11_seekMakes, opv_eq, a1, u.1, if_neg (fun y => z (g.mp y))]
      have k := ih (j + 1) fo (va_up (va_up I 73 X) 75 A) hr2 (by
        rw [gl_succ, if_neg z, List.append_nil]
        unfold Skd
        rw [e65, e76]
        exact ⟨s1, s2, s3, s4, s5, s6⟩) (by omega)
      rw [lp_X11_seekMakes_40, oklp_X11_seekMakes_40, if_neg q, if_neg q, nI_1, eFF, eM, a1, u.1, if_neg (fun y => z (g.mp y))]
      exact ⟨f0.trans k.1, k.2.1, a2, u.2, trivial, k.2.2⟩
theorem sfill_lp (x1 : Int32) : ∀ (c i : Nat) (I : Mm), i + c = 84 → (lp_X11_seekMakes_19 x1 (c + 1) (nI i) I).2 = va_up I 76 (fun k => if i ≤ k ∧ k < 84 then 0 else I 76 k) ∧ oklp_X11_seekMakes_19 x1 (c + 1) (nI i) I := by
  intro c
  induction c with
  | zero =>
    intro i I hi
    have q : (84 : Int32) ≤ nI i := nI_le (a := 84) (by omega) (by omega)
    rw [lp_X11_seekMakes_19, oklp_X11_seekMakes_19, if_pos q, if_pos q]
    have : (fun k => if i ≤ k ∧ k < 84 then 0 else I 76 k) = I 76 := funext fun k => if_neg (by omega)
    rw [this, vu_same]
    exact ⟨rfl, trivial⟩
  | succ c ih =>
    intro i I hi
    have q : ¬ (84 : Int32) ≤ nI i := nI_ge (b := 84) (by omega) (by omega)
    rw [lp_X11_seekMakes_19, oklp_X11_seekMakes_19, if_neg q, if_neg q, nI_1, nI_clamp (by omega), sz_76]
    have k := ih (i + 1) (va_up I 76 (upd (I 76) i 0)) (by omega)
    refine ⟨?_, vp_in_nI (by omega) (by omega), k.2⟩
    rw [k.1, vu_vu, vu_s]
    congr 1
    funext x
    by_cases h1 : x = i
    · subst h1
      rw [if_neg (by omega), if_pos (by omega), pk_us]
    · rw [pk_un h1]
      by_cases h3 : i + 1 ≤ x ∧ x < 84
      · rw [if_pos h3, if_pos (by omega)]
      · rw [if_neg h3, if_neg (by omega)]
theorem m_seek {I : Mm} {r : Vc} (hr : I 68 = r) (hb : RB r) (w : Int32) : Fk ks I (m_X11_seekMakes I w) ∧ Skd r w (f_X11_seekMakes I w) (m_X11_seekMakes I w) (mlist r) ∧ ok_X11_seekMakes I w := by
  have fl := sfill_lp w 84 0 (st2 (st2 (st2 I 65 28 0) 65 29 0) 65 30 0) (by omega)
  rw [nI_0] at fl
  have mu : mu_up 84 0 + 1 = 84 + 1 := by
    rw [show mu_up 84 0 = mu_up (nI 84) (nI 0) from rfl, mu_up_nI (by omega) (by omega)]
  have mu2 : mu_up 40 0 + 1 = 40 + 1 := by
    rw [show mu_up 40 0 = mu_up (nI 40) (nI 0) from rfl, mu_up_nI (by omega) (by omega)]
  rw [m_X11_seekMakes, f_X11_seekMakes, ok_X11_seekMakes, opv_eq, opv_eq, opv_eq, mu, mu2, fl.1]
  generalize hG : va_up (st2 (st2 (st2 I 65 28 0) 65 29 0) 65 30 0) 76 (fun k => if 0 ≤ k ∧ k < 84 then 0 else (st2 (st2 (st2 I 65 28 0) 65 29 0) 65 30 0) 76 k) = G
  have fG : Fk ks I G := by rw [← hG]; exact ((((Fk.refl _ _).st rfl).st rfl).st rfl).up (fun _ => rfl)
  have k := seek_lp hb w 40 0 (-1) G (by rw [← hG, vu_o _ _ (by omega), st2_orow _ _ _ (by omega), st2_orow _ _ _ (by omega), st2_orow _ _ _ (by omega)]; exact hr) ⟨by rw [← hG, vu_o _ _ (by omega), st2_o _ _ _ (by omega), st2_o _ _ _ (by omega), st2_s]; rfl, by rw [← hG, vu_o _ _ (by omega), st2_o _ _ _ (by omega), st2_s]; rfl, by rw [← hG, vu_o _ _ (by omega), st2_s]; rfl, fun x hx => by rw [← hG, vu_s, if_pos (by omega)]; rfl, fun i hi => absurd hi (Nat.not_lt_zero i), fun _ => rfl⟩ (by omega)
  rw [nI_0] at k
  exact ⟨fG.trans k.1, k.2.1, fl.2, k.2.2⟩
