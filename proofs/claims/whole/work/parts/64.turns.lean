/-! ===== the junior and the step ===== -/
def vfold (jr : Bool) (g : Nat → Int32) : Nat → Int32
  | 0 => if jr = true then -9 else 9
  | m + 1 => if jr = true then imax (vfold jr g m) (g m) else imin (vfold jr g m) (g m)
def val (r : Vc) : Nat → Nat → Vc → Int32
  | 0, _, v => v 0
  | c + 1, k, v => vfold (decide (k % 2 = 0)) (fun d => val r c (k + 1) (mday r (r 0) (opn v d))) ((r 5).toNatClampNeg + 1)
theorem vfold_bw (jr : Bool) {g : Nat → Int32} (hg : ∀ d, bw (g d) (-9) 9) : ∀ m, bw (vfold jr g m) (-9) 9 := by
  intro m
  induction m with
  | zero => cases jr <;> (unfold vfold bw; decide)
  | succ m ih =>
    have a := hg m
    have a1 := a.1; have a2 := a.2; have i1 := ih.1; have i2 := ih.2
    cases jr
    · show bw (imin _ _) _ _
      rw [bw, imin_toInt]; omega
    · show bw (imax _ _) _ _
      rw [bw, imax_toInt]; omega
theorem val_bw {r : Vc} (hb : RB r) : ∀ (c k D : Nat) (b v : Vc), BR r (r 0) D b v → D + c < 90000 → bw (val r c k v) (-9) 9 := by
  intro c
  induction c with
  | zero =>
    intro k D b v h hD
    have := h.2.2.2.2.2.2.2.1
    rw [h.1] at this
    exact this
  | succ c ih =>
    intro k D b v h hD
    rw [val]
    exact vfold_bw _ (fun d => ih (k + 1) (D + 1) _ _ (day_rel hb (by omega) (br_opn h d)) (by omega)) _
def kbf (k a _j : Nat) : Bool := !(decide (53 + k < a) && decide (a ≤ 57))
theorem kbf_low (k : Nat) : ∀ a, 3 ≤ a → a ≤ 22 → ∀ j, kbf k a j = true := by
  intro a h1 h2 j
  have n : decide (53 + k < a) = false := by simp; omega
  simp [kbf, n]
theorem kbf_mono {k a j : Nat} (h : kbf k a j = true) : kbf (k + 1) a j = true := by
  unfold kbf at *
  by_cases q : 53 + k < a
  · rw [decide_eq_true q, Bool.true_and] at h
    by_cases q2 : a ≤ 57
    · rw [decide_eq_true q2] at h; cases h
    · rw [decide_eq_false q2, Bool.and_false]; rfl
  · rw [decide_eq_false (show ¬ 53 + (k + 1) < a by omega), Bool.false_and]; rfl
theorem par (k : Nat) (h : k < 10) : (nI k - nI k / 2 * 2 = 0) ↔ k % 2 = 0 := by
  rw [show nI k - nI k / 2 * 2 = nI (k % 2) from pk_rem (d := 2) (by omega) (by omega) (by omega)]
  show nI (k % 2) = nI 0 ↔ _
  rw [nI_eq (by omega) (by omega)]
def kvf (k a j : Nat) : Bool := !(a == 78) && !(a == 77 && decide (7 * (k + 1) ≤ j))
theorem kvf_mono {k a j : Nat} (h : kvf k a j = true) : kvf (k + 1) a j = true := by
  unfold kvf at *
  by_cases h1 : a = 78
  · subst h1; cases (show false = true from h)
  by_cases h2 : a = 77
  · subst h2
    by_cases q : 7 * (k + 1) ≤ j
    · rw [decide_eq_true q] at h; cases (show false = true from h)
    · have : ¬ 7 * (k + 1 + 1) ≤ j := by omega
      rw [decide_eq_false this]; rfl
  · simp [h1, h2]
theorem sz_77 : sz 77 = 35 := by decide +kernel
/-- a level laid -/
theorem m_lay {I : Mm} {r v : Vc} {k d : Nat} (hr : I 68 = r) (hb : RB r) (hk : k < 4) (hd : d ≤ 9) (hv : ∀ j, j < 7 → I 77 (7 * k + j) = v j) : Fk (kvf k) I (m_X11_layLevel I (nI k) (nI d - 1)) ∧ (∀ j, j < 7 → m_X11_layLevel I (nI k) (nI d - 1) 77 (7 * (k + 1) + j) = mday r (r 0) (opn v d) j) ∧ m_X11_layLevel I (nI k) (nI d - 1) 68 = r ∧ ok_X11_layLevel I (nI k) (nI d - 1) := by
  have e7 : (7 : Int32) * nI k = nI (7 * k) := pk_mul 7 k
  have e8 : (7 : Int32) * (nI k + 1) = nI (7 * (k + 1)) := by rw [nI_1]; exact pk_mul 7 (k + 1)
  have c1 : m_X11_copy I 77 (7 * nI k) 78 0 7 = va_up I 78 (mpy (I 78) v) := by
    rw [e7]
    refine (m_cp (a := 77) (b := 78) (s := 7 * k) (d := 0) (n := 7) I (by omega) (by omega) (by omega)).trans ?_
    congr 1
    funext j
    unfold mpy
    by_cases z : j < 7
    · rw [if_pos (by omega), if_pos z, Nat.sub_zero, hv j z]
    · rw [if_neg (by omega), if_neg z]
  have o1 : ok_X11_copy I 77 (7 * nI k) 78 0 7 := by
    rw [e7]
    exact cp_ok (s := 7 * k) (d := 0) (n := 7) I (by rw [sz_77]; omega) (by rw [sz_78]; omega) (by rw [sz_77]; omega) (by rw [sz_78]; omega)
  have eu : u0_X11_layLevel I (nI k) (nI d - 1) = va_up I 78 (mpy (I 78) (opn v d)) := by
    rw [u0_X11_layLevel, opv_eq, c1]
    by_cases z : d = 0
    · subst z
      rw [if_pos (by decide)]
      rfl
    · rw [show nI d - 1 = nI (d - 1) from pk_sub (b := 1) (by omega), if_neg (nI_pos (by omega)), st2_up, vu_s, vu_vu, mpy_3, upd_mpy3]
      unfold opn
      rw [if_neg z]
  have r78 : (va_up I 78 (mpy (I 78) (opn v d))) 68 = r := by rw [vu_o _ _ (by omega)]; exact hr
  have ed : m_X11_dayOf (va_up I 78 (mpy (I 78) (opn v d))) 78 = va_up I 78 (mpy (I 78) (mday r (r 0) (opn v d))) := by
    rw [m_dayOf r78 (by omega) hb, vu_s, vu_vu, mday_mpy]
  have em : m_X11_layLevel I (nI k) (nI d - 1) = va_up (va_up I 78 (mpy (I 78) (mday r (r 0) (opn v d)))) 77 (fun j => if 7 * (k + 1) ≤ j ∧ j < 7 * (k + 1) + 7 then mpy (I 78) (mday r (r 0) (opn v d)) (0 + (j - 7 * (k + 1))) else I 77 j) := by
    rw [m_X11_layLevel, opv_eq, u1_X11_layLevel, opv_eq, eu, ed, e8]
    refine (m_cp (a := 78) (b := 77) (s := 0) (d := 7 * (k + 1)) (n := 7) _ (by omega) (by omega) (by omega)).trans ?_
    rw [vu_s, vu_o _ _ (by omega)]
  refine ⟨?_, fun j hj => ?_, ?_, ?_⟩
  · rw [em]
    intro a j hk2
    by_cases a1 : a = 78
    · subst a1; cases (show false = true from hk2)
    by_cases a2 : a = 77
    · subst a2
      rw [vu_s]
      by_cases q : 7 * (k + 1) ≤ j
      · unfold kvf at hk2
        rw [decide_eq_true q] at hk2
        cases (show false = true from hk2)
      · rw [if_neg (by omega)]
    · rw [vu_o _ _ a2, vu_o _ _ a1]
  · rw [em, vu_s, if_pos (by omega), show 0 + (7 * (k + 1) + j - 7 * (k + 1)) = j by omega]
    exact if_pos hj
  · rw [em, vu_o _ _ (by omega), vu_o _ _ (by omega)]; exact hr
  · rw [ok_X11_layLevel, opv_eq, eu, e8]
    exact ⟨o1, dayOf_ok r78 (by omega) sz_78 hb, cp_ok (s := 0) (d := 7 * (k + 1)) (n := 7) _ (by rw [sz_78]; omega) (by rw [sz_77]; omega) (by rw [sz_78]; omega) (by rw [sz_77]; omega)⟩
theorem bf_base {I : Mm} {k : Nat} (hk : k ≤ 4) : (if f_X10_within I (nI k) 0 4 = true then nI k else 0) = nI k := by
  rw [f_within, if_pos]
  unfold inb
  rw [if_neg (nI_pos (by omega)), if_neg (show ¬ (4 : Int32) < nI k from nI_nlt (a := 4) (by omega) (by omega))]
def BfOK (f : Mm → Nat → Int32 → Int32 → Int32) (m : Mm → Nat → Int32 → Int32 → Mm) (ok : Mm → Nat → Int32 → Int32 → Prop) (L : Nat) : Prop := ∀ (r v : Vc) (t k n D : Nat) (I : Mm), RB r → TR I r t → k ≤ n → n ≤ 4 → n ≤ k + L → D + n < 5000 + k → BR r (r 0) D (I (53 + k)) v → f I t (nI k) (nI n) = val r (n - k) k v ∧ Fk (kbf k) I (m I t (nI k) (nI n)) ∧ ok I t (nI k) (nI n)
def VfOK (f : Mm → Int32 → Int32 → Int32) (m : Mm → Int32 → Int32 → Mm) (ok : Mm → Int32 → Int32 → Prop) (L : Nat) : Prop := ∀ (r b v : Vc) (k n D : Nat) (I : Mm), RB r → I 68 = r → k ≤ n → n ≤ 4 → n ≤ k + L → D + n < 5000 + k → BR r (r 0) D b v → (∀ j, j < 7 → I 77 (7 * k + j) = v j) → f I (nI k) (nI n) = val r (n - k) k v ∧ Fk (kvf k) I (m I (nI k) (nI n)) ∧ ok I (nI k) (nI n)
theorem bf_0 : BfOK f_X9_bestFrom0 m_X9_bestFrom0 ok_X9_bestFrom0 0 := by
  intro r v t k n D I hb hT hkn hn hL hD hB
  by_cases q : k = n
  · subst q
    have q1 : nI k ≤ nI k := nI_le (Nat.le_refl _) (by omega)
    rw [f_X9_bestFrom0, m_X9_bestFrom0, ok_X9_bestFrom0, opv_eq, opv_eq, opv_eq, if_pos q1, if_pos q1, if_pos q1, bf_base (by omega), nI_clamp (by omega), rt_52 k (by omega), Nat.sub_self, val, sz_52]
    exact ⟨hB.1, Fk.refl _ _, vp_in_nI (by omega) (by omega)⟩
  · omega
theorem vf_0 : VfOK f_X11_valueFrom0 m_X11_valueFrom0 ok_X11_valueFrom0 0 := by
  intro r b v k n D I hb hr hkn hn hL hD hB hv
  by_cases q : k = n
  · subst q
    rw [f_X11_valueFrom0, m_X11_valueFrom0, ok_X11_valueFrom0, opv_eq, opv_eq, opv_eq, if_pos rfl, if_pos rfl, if_pos rfl, show (7 : Int32) * nI k + 0 = nI (7 * k) from by rw [Int32.add_zero]; exact pk_mul 7 k, nI_clamp (by omega), Nat.sub_self, val, sz_77]
    have := hv 0 (by omega)
    rw [Nat.add_zero] at this
    exact ⟨this, Fk.refl _ _, vp_in_nI (by omega) (by omega)⟩
  · omega
theorem vf_step {k : Nat} (hk : k < 10) {g : Nat → Int32} (gb : ∀ d, bw (g d) (-9) 9) (m : Nat) {best : Int32} (hb2 : (m = 0 ∧ best = 1000000) ∨ (1 ≤ m ∧ best = vfold (decide (k % 2 = 0)) g m)) : (if best = 1000000 then g m else (if nI k - nI k / 2 * 2 = 0 then (if g m ≤ best then best else g m) else (if best ≤ g m then best else g m))) = vfold (decide (k % 2 = 0)) g (m + 1) := by
  have g1 := (gb m).1; have g2 := (gb m).2
  rcases hb2 with ⟨m0, z⟩ | ⟨m1, z⟩
  · subst m0
    rw [if_pos z, vfold, vfold]
    by_cases e : k % 2 = 0
    · rw [decide_eq_true e, if_pos rfl, if_pos rfl, fa_eq, imax_toInt, tim9]
      omega
    · rw [decide_eq_false e, if_neg (by decide), if_neg (by decide), fa_eq, imin_toInt, ti9]
      omega
  · have vb := vfold_bw (decide (k % 2 = 0)) gb m
    have nz : ¬ best = 1000000 := by
      rw [z, fa_eq, show (1000000 : Int32).toInt = 1000000 from by decide]
      have := vb.2
      omega
    rw [if_neg nz, vfold, z]
    by_cases e : k % 2 = 0
    · rw [if_pos ((par k hk).mpr e), decide_eq_true e, if_pos rfl]
      unfold imax
      by_cases y : g m ≤ vfold true g m
      · rw [if_pos y, if_neg (by rw [fa_le] at y; rw [fa_lt]; omega)]
      · rw [if_neg y, if_pos (by rw [fa_le] at y; rw [fa_lt]; omega)]
    · rw [if_neg (fun y => e ((par k hk).mp y)), decide_eq_false e, if_neg (show ¬ false = true by decide)]
      unfold imin
      by_cases y : vfold false g m ≤ g m
      · rw [if_pos y, if_neg (by rw [fa_le] at y; rw [fa_lt]; omega)]
      · rw [if_neg y, if_pos (by rw [fa_le] at y; rw [fa_lt]; omega)]
theorem bf_lp1 {r v : Vc} {t k n D : Nat} (hb : RB r) (hkn : k < n) (hn : n ≤ 4) (hL : n ≤ k + 1) (hD : D + n < 5000 + k) (prev : BfOK f_X9_bestFrom0 m_X9_bestFrom0 ok_X9_bestFrom0 0) : ∀ (c m f : Nat) (I : Mm), TR I r t → BR r (r 0) D (I (53 + k)) v → m + c = (r 5).toNatClampNeg + 1 → c < f → (lp_X9_bestFrom1_63 t (nI k) (nI n) (decide (k % 2 = 0)) f (vfold (decide (k % 2 = 0)) (fun d => val r (n - k - 1) (k + 1) (mday r (r 0) (opn v d))) m) (nI m) I).1 = vfold (decide (k % 2 = 0)) (fun d => val r (n - k - 1) (k + 1) (mday r (r 0) (opn v d))) ((r 5).toNatClampNeg + 1) ∧ Fk (kbf k) I (lp_X9_bestFrom1_63 t (nI k) (nI n) (decide (k % 2 = 0)) f (vfold (decide (k % 2 = 0)) (fun d => val r (n - k - 1) (k + 1) (mday r (r 0) (opn v d))) m) (nI m) I).2.2 ∧ oklp_X9_bestFrom1_63 t (nI k) (nI n) (decide (k % 2 = 0)) f (vfold (decide (k % 2 = 0)) (fun d => val r (n - k - 1) (k + 1) (mday r (r 0) (opn v d))) m) (nI m) I := by
  have hV := hb.nV.2
  intro c
  induction c with
  | zero =>
    intro m f I hT hB hm hf
    obtain ⟨f, rfl⟩ : ∃ g, f = g + 1 := ⟨f - 1, by omega⟩
    have q : nI (r 5).toNatClampNeg < nI m := nI_lt (by omega) (by omega)
    rw [lp_X9_bestFrom1_63, oklp_X9_bestFrom1_63, (hT.cnt hb).1, if_pos q, if_pos q, show (r 5).toNatClampNeg + 1 = m by omega]
    exact ⟨rfl, Fk.refl _ _, trivial⟩
  | succ c ih =>
    intro m f I hT hB hm hf
    obtain ⟨f, rfl⟩ : ∃ g, f = g + 1 := ⟨f - 1, by omega⟩
    have q : ¬ nI (r 5).toNatClampNeg < nI m := nI_nlt (by omega) (by omega)
    obtain ⟨⟨X, p1, p2⟩, p3⟩ := c_passTurn hT hb (k := k) (d := m) (by omega) (by omega) (by omega) hB
    have hT2 : TR (va_up I (54 + k) X) r t := hT.up (by omega)
    obtain ⟨b1, b2, b3⟩ := prev r (mday r (r 0) (opn v m)) t (k + 1) n (D + 1) (va_up I (54 + k) X) hb hT2 (by omega) hn (by omega) (by omega) (by rw [show 53 + (k + 1) = 54 + k by omega, vu_s]; exact p2)
    rw [show n - (k + 1) = n - k - 1 by omega] at b1
    have f1 : Fk (kbf k) I (va_up I (54 + k) X) := (Fk.refl _ _).up (fun j => by
      unfold kbf
      rw [decide_eq_true (show 53 + k < 54 + k by omega), decide_eq_true (show 54 + k ≤ 57 by omega)]
      rfl)
    have f2 : Fk (kbf k) I (m_X9_bestFrom0 (va_up I (54 + k) X) t (nI (k + 1)) (nI n)) := f1.trans (fun a j hk => b2 a j (kbf_mono hk))
    have eu : u1_X9_bestFrom1 t (nI k) (nI n) (decide (k % 2 = 0)) (vfold (decide (k % 2 = 0)) (fun d => val r (n - k - 1) (k + 1) (mday r (r 0) (opn v d))) m) (nI m) I = vfold (decide (k % 2 = 0)) (fun d => val r (n - k - 1) (k + 1) (mday r (r 0) (opn v d))) (m + 1) := by
      rw [u1_X9_bestFrom1, opv_eq, p1, nI_1, b1]
      rfl
    have kk := ih (m + 1) f (m_X9_bestFrom0 (va_up I (54 + k) X) t (nI (k + 1)) (nI n)) (hT.fk f2 (kbf_low k)) (by
      have e : m_X9_bestFrom0 (va_up I (54 + k) X) t (nI (k + 1)) (nI n) (53 + k) = I (53 + k) := funext fun j => f2 (53 + k) j (by
        unfold kbf
        rw [decide_eq_false (show ¬ 53 + k < 53 + k by omega), Bool.false_and]
        rfl)
      rw [e]; exact hB) (by omega) (by omega)
    rw [lp_X9_bestFrom1_63, oklp_X9_bestFrom1_63, (hT.cnt hb).1, if_neg q, if_neg q, eu, p1, nI_1, nI_1]
    exact ⟨kk.1, f2.trans kk.2.1, p3, b3, kk.2.2⟩
theorem bf_1 : BfOK f_X9_bestFrom1 m_X9_bestFrom1 ok_X9_bestFrom1 1 := by
  intro r v t k n D I hb hT hkn hn hL hD hB
  by_cases q : k = n
  · subst q
    have q1 : nI k ≤ nI k := nI_le (Nat.le_refl _) (by omega)
    rw [f_X9_bestFrom1, m_X9_bestFrom1, ok_X9_bestFrom1, opv_eq, opv_eq, opv_eq, if_pos q1, if_pos q1, if_pos q1, bf_base (by omega), nI_clamp (by omega), rt_52 k (by omega), Nat.sub_self, val, sz_52]
    exact ⟨hB.1, Fk.refl _ _, vp_in_nI (by omega) (by omega)⟩
  · have q1 : ¬ nI n ≤ nI k := nI_ge (by omega) (by omega)
    have q4 : nI k < 4 := nI_lt (b := 4) (by omega) (by omega)
    have hV := hb.nV.2
    have ep : (if nI k - nI k / 2 * 2 = 0 then true else false) = decide (k % 2 = 0) := by
      by_cases z : k % 2 = 0
      · rw [if_pos ((par k (by omega)).mpr z), decide_eq_true z]
      · rw [if_neg (fun y => z ((par k (by omega)).mp y)), decide_eq_false z]
    have kk := bf_lp1 (v := v) (t := t) hb (show k < n by omega) hn hL hD bf_0 ((r 5).toNatClampNeg + 1) 0 10 I hT hB (by omega) (by omega)
    have e0 : u0_X9_bestFrom1 (nI k) = vfold (decide (k % 2 = 0)) (fun d => val r (n - k - 1) (k + 1) (mday r (r 0) (opn v d))) 0 := by
      rw [u0_X9_bestFrom1, opv_eq, ep]
      rfl
    rw [nI_0] at kk
    rw [f_X9_bestFrom1, m_X9_bestFrom1, ok_X9_bestFrom1, opv_eq, opv_eq, opv_eq, if_neg q1, if_neg q1, if_neg q1, if_pos q4, if_pos q4, if_pos q4, ep, opq_eq, e0, show n - k = n - k - 1 + 1 by omega, val, show n - k - 1 + 1 - 1 = n - k - 1 by omega]
    exact kk
theorem vf_lp1 {r b v : Vc} {k n D : Nat} (hb : RB r) (hkn : k < n) (hn : n ≤ 4) (hL : n ≤ k + 1) (hD : D + n < 5000 + k) (hB : BR r (r 0) D b v) (prev : VfOK f_X11_valueFrom0 m_X11_valueFrom0 ok_X11_valueFrom0 0) : ∀ (c m f : Nat) (I : Mm) (best : Int32), I 68 = r → (∀ j, j < 7 → I 77 (7 * k + j) = v j) → ((m = 0 ∧ best = 1000000) ∨ (1 ≤ m ∧ best = vfold (decide (k % 2 = 0)) (fun d => val r (n - k - 1) (k + 1) (mday r (r 0) (opn v d))) m)) → m + c = (r 5).toNatClampNeg + 1 → c < f → (lp_X11_valueFrom1_24 (nI k) (nI n) f best (nI m - 1) I).1 = vfold (decide (k % 2 = 0)) (fun d => val r (n - k - 1) (k + 1) (mday r (r 0) (opn v d))) ((r 5).toNatClampNeg + 1) ∧ Fk (kvf k) I (lp_X11_valueFrom1_24 (nI k) (nI n) f best (nI m - 1) I).2.2 ∧ oklp_X11_valueFrom1_24 (nI k) (nI n) f best (nI m - 1) I := by
  have hV := hb.nV.2
  have gb : ∀ d, bw (val r (n - k - 1) (k + 1) (mday r (r 0) (opn v d))) (-9) 9 := fun d => val_bw hb _ _ (D + 1) _ _ (day_rel hb (by omega) (br_opn hB d)) (by omega)
  intro c
  induction c with
  | zero =>
    intro m f I best hr hv hb2 hm hf
    obtain ⟨f, rfl⟩ : ∃ g, f = g + 1 := ⟨f - 1, by omega⟩
    have e5 : I 68 5 = nI (r 5).toNatClampNeg := by rw [hr]; exact hb.nV.1
    have em : nI m - 1 = nI (r 5).toNatClampNeg := by
      rw [show m = (r 5).toNatClampNeg + 1 by omega, nI_pred]
    have q : nI (r 5).toNatClampNeg ≤ nI m - 1 := by rw [em]; exact nI_le (Nat.le_refl _) (by omega)
    rw [lp_X11_valueFrom1_24, oklp_X11_valueFrom1_24, e5, if_pos q, if_pos q, show (r 5).toNatClampNeg + 1 = m by omega]
    rcases hb2 with z | z
    · omega
    · exact ⟨z.2, Fk.refl _ _, trivial⟩
  | succ c ih =>
    intro m f I best hr hv hb2 hm hf
    obtain ⟨f, rfl⟩ : ∃ g, f = g + 1 := ⟨f - 1, by omega⟩
    have e5 : I 68 5 = nI (r 5).toNatClampNeg := by rw [hr]; exact hb.nV.1
    have q : ¬ nI (r 5).toNatClampNeg ≤ nI m - 1 := by
      rw [fa_le, nI_toInt (by omega), fb_subI (by rw [nI_toInt (by omega), ti1]; omega) (by rw [nI_toInt (by omega), ti1]; omega), nI_toInt (by omega), ti1]
      omega
    obtain ⟨l1, l2, l3, l4⟩ := m_lay (I := I) (v := v) (d := m) hr hb (k := k) (by omega) (by omega) hv
    obtain ⟨b1, b2, b3⟩ := prev r (cday r (copn b m)) (mday r (r 0) (opn v m)) (k + 1) n (D + 1) (m_X11_layLevel I (nI k) (nI m - 1)) hb l3 (by omega) hn (by omega) (by omega) (day_rel hb (by omega) (br_opn hB m)) l2
    rw [show n - (k + 1) = n - k - 1 by omega] at b1
    have f2 : Fk (kvf k) I (m_X11_valueFrom0 (m_X11_layLevel I (nI k) (nI m - 1)) (nI (k + 1)) (nI n)) := l1.trans (fun a j hk => b2 a j (kvf_mono hk))
    have key := vf_step (k := k) (by omega) gb m hb2
    have kk := ih (m + 1) f (m_X11_valueFrom0 (m_X11_layLevel I (nI k) (nI m - 1)) (nI (k + 1)) (nI n)) (vfold (decide (k % 2 = 0)) (fun d => val r (n - k - 1) (k + 1) (mday r (r 0) (opn v d))) (m + 1)) (by rw [← hr]; exact funext fun j => f2 68 j rfl) (fun j hj => by
      rw [f2 77 (7 * k + j) (by
        unfold kvf
        rw [decide_eq_false (show ¬ 7 * (k + 1) ≤ 7 * k + j by omega)]
        rfl)]
      exact hv j hj) (Or.inr ⟨by omega, rfl⟩) (by omega) (by omega)
    have es : nI m - 1 + 1 = nI (m + 1) - 1 := by rw [nI_pred, Int32.sub_add_cancel]
    have eu : u0_X11_valueFrom1 (nI k) (nI n) best (nI m - 1) I = vfold (decide (k % 2 = 0)) (fun d => val r (n - k - 1) (k + 1) (mday r (r 0) (opn v d))) (m + 1) := by
      rw [u0_X11_valueFrom1, opv_eq, nI_1, b1]
      exact key
    rw [lp_X11_valueFrom1_24, oklp_X11_valueFrom1_24, e5, if_neg q, if_neg q, eu, es, nI_1]
    exact ⟨kk.1, f2.trans kk.2.1, l4, b3, kk.2.2⟩
theorem vf_1 : VfOK f_X11_valueFrom1 m_X11_valueFrom1 ok_X11_valueFrom1 1 := by
  intro r b v k n D I hb hr hkn hn hL hD hB hv
  by_cases q : k = n
  · subst q
    rw [f_X11_valueFrom1, m_X11_valueFrom1, ok_X11_valueFrom1, opv_eq, opv_eq, opv_eq, if_pos rfl, if_pos rfl, if_pos rfl, show (7 : Int32) * nI k + 0 = nI (7 * k) from by rw [Int32.add_zero]; exact pk_mul 7 k, nI_clamp (by omega), Nat.sub_self, val, sz_77]
    have := hv 0 (by omega)
    rw [Nat.add_zero] at this
    exact ⟨this, Fk.refl _ _, vp_in_nI (by omega) (by omega)⟩
  · have q1 : ¬ nI k = nI n := by rw [nI_eq (by omega) (by omega)]; exact q
    have hV := hb.nV.2
    have kk := vf_lp1 (v := v) hb (show k < n by omega) hn hL hD hB vf_0 ((r 5).toNatClampNeg + 1) 0 10 I 1000000 hr hv (Or.inl ⟨rfl, rfl⟩) (by omega) (by omega)
    rw [show nI 0 - 1 = (-1 : Int32) from by decide] at kk
    rw [f_X11_valueFrom1, m_X11_valueFrom1, ok_X11_valueFrom1, opv_eq, opv_eq, opv_eq, if_neg q1, if_neg q1, if_neg q1, opq_eq, show n - k = n - k - 1 + 1 by omega, val]
    exact kk
theorem bf_lp2 {r v : Vc} {t k n D : Nat} (hb : RB r) (hkn : k < n) (hn : n ≤ 4) (hL : n ≤ k + 2) (hD : D + n < 5000 + k) (prev : BfOK f_X9_bestFrom1 m_X9_bestFrom1 ok_X9_bestFrom1 1) : ∀ (c m f : Nat) (I : Mm), TR I r t → BR r (r 0) D (I (53 + k)) v → m + c = (r 5).toNatClampNeg + 1 → c < f → (lp_X9_bestFrom2_63 t (nI k) (nI n) (decide (k % 2 = 0)) f (vfold (decide (k % 2 = 0)) (fun d => val r (n - k - 1) (k + 1) (mday r (r 0) (opn v d))) m) (nI m) I).1 = vfold (decide (k % 2 = 0)) (fun d => val r (n - k - 1) (k + 1) (mday r (r 0) (opn v d))) ((r 5).toNatClampNeg + 1) ∧ Fk (kbf k) I (lp_X9_bestFrom2_63 t (nI k) (nI n) (decide (k % 2 = 0)) f (vfold (decide (k % 2 = 0)) (fun d => val r (n - k - 1) (k + 1) (mday r (r 0) (opn v d))) m) (nI m) I).2.2 ∧ oklp_X9_bestFrom2_63 t (nI k) (nI n) (decide (k % 2 = 0)) f (vfold (decide (k % 2 = 0)) (fun d => val r (n - k - 1) (k + 1) (mday r (r 0) (opn v d))) m) (nI m) I := by
  have hV := hb.nV.2
  intro c
  induction c with
  | zero =>
    intro m f I hT hB hm hf
    obtain ⟨f, rfl⟩ : ∃ g, f = g + 1 := ⟨f - 1, by omega⟩
    have q : nI (r 5).toNatClampNeg < nI m := nI_lt (by omega) (by omega)
    rw [lp_X9_bestFrom2_63, oklp_X9_bestFrom2_63, (hT.cnt hb).1, if_pos q, if_pos q, show (r 5).toNatClampNeg + 1 = m by omega]
    exact ⟨rfl, Fk.refl _ _, trivial⟩
  | succ c ih =>
    intro m f I hT hB hm hf
    obtain ⟨f, rfl⟩ : ∃ g, f = g + 1 := ⟨f - 1, by omega⟩
    have q : ¬ nI (r 5).toNatClampNeg < nI m := nI_nlt (by omega) (by omega)
    obtain ⟨⟨X, p1, p2⟩, p3⟩ := c_passTurn hT hb (k := k) (d := m) (by omega) (by omega) (by omega) hB
    have hT2 : TR (va_up I (54 + k) X) r t := hT.up (by omega)
    obtain ⟨b1, b2, b3⟩ := prev r (mday r (r 0) (opn v m)) t (k + 1) n (D + 1) (va_up I (54 + k) X) hb hT2 (by omega) hn (by omega) (by omega) (by rw [show 53 + (k + 1) = 54 + k by omega, vu_s]; exact p2)
    rw [show n - (k + 1) = n - k - 1 by omega] at b1
    have f1 : Fk (kbf k) I (va_up I (54 + k) X) := (Fk.refl _ _).up (fun j => by
      unfold kbf
      rw [decide_eq_true (show 53 + k < 54 + k by omega), decide_eq_true (show 54 + k ≤ 57 by omega)]
      rfl)
    have f2 : Fk (kbf k) I (m_X9_bestFrom1 (va_up I (54 + k) X) t (nI (k + 1)) (nI n)) := f1.trans (fun a j hk => b2 a j (kbf_mono hk))
    have eu : u1_X9_bestFrom2 t (nI k) (nI n) (decide (k % 2 = 0)) (vfold (decide (k % 2 = 0)) (fun d => val r (n - k - 1) (k + 1) (mday r (r 0) (opn v d))) m) (nI m) I = vfold (decide (k % 2 = 0)) (fun d => val r (n - k - 1) (k + 1) (mday r (r 0) (opn v d))) (m + 1) := by
      rw [u1_X9_bestFrom2, opv_eq, p1, nI_1, b1]
      rfl
    have kk := ih (m + 1) f (m_X9_bestFrom1 (va_up I (54 + k) X) t (nI (k + 1)) (nI n)) (hT.fk f2 (kbf_low k)) (by
      have e : m_X9_bestFrom1 (va_up I (54 + k) X) t (nI (k + 1)) (nI n) (53 + k) = I (53 + k) := funext fun j => f2 (53 + k) j (by
        unfold kbf
        rw [decide_eq_false (show ¬ 53 + k < 53 + k by omega), Bool.false_and]
        rfl)
      rw [e]; exact hB) (by omega) (by omega)
    rw [lp_X9_bestFrom2_63, oklp_X9_bestFrom2_63, (hT.cnt hb).1, if_neg q, if_neg q, eu, p1, nI_1, nI_1]
    exact ⟨kk.1, f2.trans kk.2.1, p3, b3, kk.2.2⟩
theorem bf_2 : BfOK f_X9_bestFrom2 m_X9_bestFrom2 ok_X9_bestFrom2 2 := by
  intro r v t k n D I hb hT hkn hn hL hD hB
  by_cases q : k = n
  · subst q
    have q1 : nI k ≤ nI k := nI_le (Nat.le_refl _) (by omega)
    rw [f_X9_bestFrom2, m_X9_bestFrom2, ok_X9_bestFrom2, opv_eq, opv_eq, opv_eq, if_pos q1, if_pos q1, if_pos q1, bf_base (by omega), nI_clamp (by omega), rt_52 k (by omega), Nat.sub_self, val, sz_52]
    exact ⟨hB.1, Fk.refl _ _, vp_in_nI (by omega) (by omega)⟩
  · have q1 : ¬ nI n ≤ nI k := nI_ge (by omega) (by omega)
    have q4 : nI k < 4 := nI_lt (b := 4) (by omega) (by omega)
    have hV := hb.nV.2
    have ep : (if nI k - nI k / 2 * 2 = 0 then true else false) = decide (k % 2 = 0) := by
      by_cases z : k % 2 = 0
      · rw [if_pos ((par k (by omega)).mpr z), decide_eq_true z]
      · rw [if_neg (fun y => z ((par k (by omega)).mp y)), decide_eq_false z]
    have kk := bf_lp2 (v := v) (t := t) hb (show k < n by omega) hn hL hD bf_1 ((r 5).toNatClampNeg + 1) 0 10 I hT hB (by omega) (by omega)
    have e0 : u0_X9_bestFrom2 (nI k) = vfold (decide (k % 2 = 0)) (fun d => val r (n - k - 1) (k + 1) (mday r (r 0) (opn v d))) 0 := by
      rw [u0_X9_bestFrom2, opv_eq, ep]
      rfl
    rw [nI_0] at kk
    rw [f_X9_bestFrom2, m_X9_bestFrom2, ok_X9_bestFrom2, opv_eq, opv_eq, opv_eq, if_neg q1, if_neg q1, if_neg q1, if_pos q4, if_pos q4, if_pos q4, ep, opq_eq, e0, show n - k = n - k - 1 + 1 by omega, val, show n - k - 1 + 1 - 1 = n - k - 1 by omega]
    exact kk
theorem vf_lp2 {r b v : Vc} {k n D : Nat} (hb : RB r) (hkn : k < n) (hn : n ≤ 4) (hL : n ≤ k + 2) (hD : D + n < 5000 + k) (hB : BR r (r 0) D b v) (prev : VfOK f_X11_valueFrom1 m_X11_valueFrom1 ok_X11_valueFrom1 1) : ∀ (c m f : Nat) (I : Mm) (best : Int32), I 68 = r → (∀ j, j < 7 → I 77 (7 * k + j) = v j) → ((m = 0 ∧ best = 1000000) ∨ (1 ≤ m ∧ best = vfold (decide (k % 2 = 0)) (fun d => val r (n - k - 1) (k + 1) (mday r (r 0) (opn v d))) m)) → m + c = (r 5).toNatClampNeg + 1 → c < f → (lp_X11_valueFrom2_24 (nI k) (nI n) f best (nI m - 1) I).1 = vfold (decide (k % 2 = 0)) (fun d => val r (n - k - 1) (k + 1) (mday r (r 0) (opn v d))) ((r 5).toNatClampNeg + 1) ∧ Fk (kvf k) I (lp_X11_valueFrom2_24 (nI k) (nI n) f best (nI m - 1) I).2.2 ∧ oklp_X11_valueFrom2_24 (nI k) (nI n) f best (nI m - 1) I := by
  have hV := hb.nV.2
  have gb : ∀ d, bw (val r (n - k - 1) (k + 1) (mday r (r 0) (opn v d))) (-9) 9 := fun d => val_bw hb _ _ (D + 1) _ _ (day_rel hb (by omega) (br_opn hB d)) (by omega)
  intro c
  induction c with
  | zero =>
    intro m f I best hr hv hb2 hm hf
    obtain ⟨f, rfl⟩ : ∃ g, f = g + 1 := ⟨f - 1, by omega⟩
    have e5 : I 68 5 = nI (r 5).toNatClampNeg := by rw [hr]; exact hb.nV.1
    have em : nI m - 1 = nI (r 5).toNatClampNeg := by
      rw [show m = (r 5).toNatClampNeg + 1 by omega, nI_pred]
    have q : nI (r 5).toNatClampNeg ≤ nI m - 1 := by rw [em]; exact nI_le (Nat.le_refl _) (by omega)
    rw [lp_X11_valueFrom2_24, oklp_X11_valueFrom2_24, e5, if_pos q, if_pos q, show (r 5).toNatClampNeg + 1 = m by omega]
    rcases hb2 with z | z
    · omega
    · exact ⟨z.2, Fk.refl _ _, trivial⟩
  | succ c ih =>
    intro m f I best hr hv hb2 hm hf
    obtain ⟨f, rfl⟩ : ∃ g, f = g + 1 := ⟨f - 1, by omega⟩
    have e5 : I 68 5 = nI (r 5).toNatClampNeg := by rw [hr]; exact hb.nV.1
    have q : ¬ nI (r 5).toNatClampNeg ≤ nI m - 1 := by
      rw [fa_le, nI_toInt (by omega), fb_subI (by rw [nI_toInt (by omega), ti1]; omega) (by rw [nI_toInt (by omega), ti1]; omega), nI_toInt (by omega), ti1]
      omega
    obtain ⟨l1, l2, l3, l4⟩ := m_lay (I := I) (v := v) (d := m) hr hb (k := k) (by omega) (by omega) hv
    obtain ⟨b1, b2, b3⟩ := prev r (cday r (copn b m)) (mday r (r 0) (opn v m)) (k + 1) n (D + 1) (m_X11_layLevel I (nI k) (nI m - 1)) hb l3 (by omega) hn (by omega) (by omega) (day_rel hb (by omega) (br_opn hB m)) l2
    rw [show n - (k + 1) = n - k - 1 by omega] at b1
    have f2 : Fk (kvf k) I (m_X11_valueFrom1 (m_X11_layLevel I (nI k) (nI m - 1)) (nI (k + 1)) (nI n)) := l1.trans (fun a j hk => b2 a j (kvf_mono hk))
    have key := vf_step (k := k) (by omega) gb m hb2
    have kk := ih (m + 1) f (m_X11_valueFrom1 (m_X11_layLevel I (nI k) (nI m - 1)) (nI (k + 1)) (nI n)) (vfold (decide (k % 2 = 0)) (fun d => val r (n - k - 1) (k + 1) (mday r (r 0) (opn v d))) (m + 1)) (by rw [← hr]; exact funext fun j => f2 68 j rfl) (fun j hj => by
      rw [f2 77 (7 * k + j) (by
        unfold kvf
        rw [decide_eq_false (show ¬ 7 * (k + 1) ≤ 7 * k + j by omega)]
        rfl)]
      exact hv j hj) (Or.inr ⟨by omega, rfl⟩) (by omega) (by omega)
    have es : nI m - 1 + 1 = nI (m + 1) - 1 := by rw [nI_pred, Int32.sub_add_cancel]
    have eu : u0_X11_valueFrom2 (nI k) (nI n) best (nI m - 1) I = vfold (decide (k % 2 = 0)) (fun d => val r (n - k - 1) (k + 1) (mday r (r 0) (opn v d))) (m + 1) := by
      rw [u0_X11_valueFrom2, opv_eq, nI_1, b1]
      exact key
    rw [lp_X11_valueFrom2_24, oklp_X11_valueFrom2_24, e5, if_neg q, if_neg q, eu, es, nI_1]
    exact ⟨kk.1, f2.trans kk.2.1, l4, b3, kk.2.2⟩
theorem vf_2 : VfOK f_X11_valueFrom2 m_X11_valueFrom2 ok_X11_valueFrom2 2 := by
  intro r b v k n D I hb hr hkn hn hL hD hB hv
  by_cases q : k = n
  · subst q
    rw [f_X11_valueFrom2, m_X11_valueFrom2, ok_X11_valueFrom2, opv_eq, opv_eq, opv_eq, if_pos rfl, if_pos rfl, if_pos rfl, show (7 : Int32) * nI k + 0 = nI (7 * k) from by rw [Int32.add_zero]; exact pk_mul 7 k, nI_clamp (by omega), Nat.sub_self, val, sz_77]
    have := hv 0 (by omega)
    rw [Nat.add_zero] at this
    exact ⟨this, Fk.refl _ _, vp_in_nI (by omega) (by omega)⟩
  · have q1 : ¬ nI k = nI n := by rw [nI_eq (by omega) (by omega)]; exact q
    have hV := hb.nV.2
    have kk := vf_lp2 (v := v) hb (show k < n by omega) hn hL hD hB vf_1 ((r 5).toNatClampNeg + 1) 0 10 I 1000000 hr hv (Or.inl ⟨rfl, rfl⟩) (by omega) (by omega)
    rw [show nI 0 - 1 = (-1 : Int32) from by decide] at kk
    rw [f_X11_valueFrom2, m_X11_valueFrom2, ok_X11_valueFrom2, opv_eq, opv_eq, opv_eq, if_neg q1, if_neg q1, if_neg q1, opq_eq, show n - k = n - k - 1 + 1 by omega, val]
    exact kk
theorem bf_lp3 {r v : Vc} {t k n D : Nat} (hb : RB r) (hkn : k < n) (hn : n ≤ 4) (hL : n ≤ k + 3) (hD : D + n < 5000 + k) (prev : BfOK f_X9_bestFrom2 m_X9_bestFrom2 ok_X9_bestFrom2 2) : ∀ (c m f : Nat) (I : Mm), TR I r t → BR r (r 0) D (I (53 + k)) v → m + c = (r 5).toNatClampNeg + 1 → c < f → (lp_X9_bestFrom3_63 t (nI k) (nI n) (decide (k % 2 = 0)) f (vfold (decide (k % 2 = 0)) (fun d => val r (n - k - 1) (k + 1) (mday r (r 0) (opn v d))) m) (nI m) I).1 = vfold (decide (k % 2 = 0)) (fun d => val r (n - k - 1) (k + 1) (mday r (r 0) (opn v d))) ((r 5).toNatClampNeg + 1) ∧ Fk (kbf k) I (lp_X9_bestFrom3_63 t (nI k) (nI n) (decide (k % 2 = 0)) f (vfold (decide (k % 2 = 0)) (fun d => val r (n - k - 1) (k + 1) (mday r (r 0) (opn v d))) m) (nI m) I).2.2 ∧ oklp_X9_bestFrom3_63 t (nI k) (nI n) (decide (k % 2 = 0)) f (vfold (decide (k % 2 = 0)) (fun d => val r (n - k - 1) (k + 1) (mday r (r 0) (opn v d))) m) (nI m) I := by
  have hV := hb.nV.2
  intro c
  induction c with
  | zero =>
    intro m f I hT hB hm hf
    obtain ⟨f, rfl⟩ : ∃ g, f = g + 1 := ⟨f - 1, by omega⟩
    have q : nI (r 5).toNatClampNeg < nI m := nI_lt (by omega) (by omega)
    rw [lp_X9_bestFrom3_63, oklp_X9_bestFrom3_63, (hT.cnt hb).1, if_pos q, if_pos q, show (r 5).toNatClampNeg + 1 = m by omega]
    exact ⟨rfl, Fk.refl _ _, trivial⟩
  | succ c ih =>
    intro m f I hT hB hm hf
    obtain ⟨f, rfl⟩ : ∃ g, f = g + 1 := ⟨f - 1, by omega⟩
    have q : ¬ nI (r 5).toNatClampNeg < nI m := nI_nlt (by omega) (by omega)
    obtain ⟨⟨X, p1, p2⟩, p3⟩ := c_passTurn hT hb (k := k) (d := m) (by omega) (by omega) (by omega) hB
    have hT2 : TR (va_up I (54 + k) X) r t := hT.up (by omega)
    obtain ⟨b1, b2, b3⟩ := prev r (mday r (r 0) (opn v m)) t (k + 1) n (D + 1) (va_up I (54 + k) X) hb hT2 (by omega) hn (by omega) (by omega) (by rw [show 53 + (k + 1) = 54 + k by omega, vu_s]; exact p2)
    rw [show n - (k + 1) = n - k - 1 by omega] at b1
    have f1 : Fk (kbf k) I (va_up I (54 + k) X) := (Fk.refl _ _).up (fun j => by
      unfold kbf
      rw [decide_eq_true (show 53 + k < 54 + k by omega), decide_eq_true (show 54 + k ≤ 57 by omega)]
      rfl)
    have f2 : Fk (kbf k) I (m_X9_bestFrom2 (va_up I (54 + k) X) t (nI (k + 1)) (nI n)) := f1.trans (fun a j hk => b2 a j (kbf_mono hk))
    have eu : u1_X9_bestFrom3 t (nI k) (nI n) (decide (k % 2 = 0)) (vfold (decide (k % 2 = 0)) (fun d => val r (n - k - 1) (k + 1) (mday r (r 0) (opn v d))) m) (nI m) I = vfold (decide (k % 2 = 0)) (fun d => val r (n - k - 1) (k + 1) (mday r (r 0) (opn v d))) (m + 1) := by
      rw [u1_X9_bestFrom3, opv_eq, p1, nI_1, b1]
      rfl
    have kk := ih (m + 1) f (m_X9_bestFrom2 (va_up I (54 + k) X) t (nI (k + 1)) (nI n)) (hT.fk f2 (kbf_low k)) (by
      have e : m_X9_bestFrom2 (va_up I (54 + k) X) t (nI (k + 1)) (nI n) (53 + k) = I (53 + k) := funext fun j => f2 (53 + k) j (by
        unfold kbf
        rw [decide_eq_false (show ¬ 53 + k < 53 + k by omega), Bool.false_and]
        rfl)
      rw [e]; exact hB) (by omega) (by omega)
    rw [lp_X9_bestFrom3_63, oklp_X9_bestFrom3_63, (hT.cnt hb).1, if_neg q, if_neg q, eu, p1, nI_1, nI_1]
    exact ⟨kk.1, f2.trans kk.2.1, p3, b3, kk.2.2⟩
theorem bf_3 : BfOK f_X9_bestFrom3 m_X9_bestFrom3 ok_X9_bestFrom3 3 := by
  intro r v t k n D I hb hT hkn hn hL hD hB
  by_cases q : k = n
  · subst q
    have q1 : nI k ≤ nI k := nI_le (Nat.le_refl _) (by omega)
    rw [f_X9_bestFrom3, m_X9_bestFrom3, ok_X9_bestFrom3, opv_eq, opv_eq, opv_eq, if_pos q1, if_pos q1, if_pos q1, bf_base (by omega), nI_clamp (by omega), rt_52 k (by omega), Nat.sub_self, val, sz_52]
    exact ⟨hB.1, Fk.refl _ _, vp_in_nI (by omega) (by omega)⟩
  · have q1 : ¬ nI n ≤ nI k := nI_ge (by omega) (by omega)
    have q4 : nI k < 4 := nI_lt (b := 4) (by omega) (by omega)
    have hV := hb.nV.2
    have ep : (if nI k - nI k / 2 * 2 = 0 then true else false) = decide (k % 2 = 0) := by
      by_cases z : k % 2 = 0
      · rw [if_pos ((par k (by omega)).mpr z), decide_eq_true z]
      · rw [if_neg (fun y => z ((par k (by omega)).mp y)), decide_eq_false z]
    have kk := bf_lp3 (v := v) (t := t) hb (show k < n by omega) hn hL hD bf_2 ((r 5).toNatClampNeg + 1) 0 10 I hT hB (by omega) (by omega)
    have e0 : u0_X9_bestFrom3 (nI k) = vfold (decide (k % 2 = 0)) (fun d => val r (n - k - 1) (k + 1) (mday r (r 0) (opn v d))) 0 := by
      rw [u0_X9_bestFrom3, opv_eq, ep]
      rfl
    rw [nI_0] at kk
    rw [f_X9_bestFrom3, m_X9_bestFrom3, ok_X9_bestFrom3, opv_eq, opv_eq, opv_eq, if_neg q1, if_neg q1, if_neg q1, if_pos q4, if_pos q4, if_pos q4, ep, opq_eq, e0, show n - k = n - k - 1 + 1 by omega, val, show n - k - 1 + 1 - 1 = n - k - 1 by omega]
    exact kk
theorem vf_lp3 {r b v : Vc} {k n D : Nat} (hb : RB r) (hkn : k < n) (hn : n ≤ 4) (hL : n ≤ k + 3) (hD : D + n < 5000 + k) (hB : BR r (r 0) D b v) (prev : VfOK f_X11_valueFrom2 m_X11_valueFrom2 ok_X11_valueFrom2 2) : ∀ (c m f : Nat) (I : Mm) (best : Int32), I 68 = r → (∀ j, j < 7 → I 77 (7 * k + j) = v j) → ((m = 0 ∧ best = 1000000) ∨ (1 ≤ m ∧ best = vfold (decide (k % 2 = 0)) (fun d => val r (n - k - 1) (k + 1) (mday r (r 0) (opn v d))) m)) → m + c = (r 5).toNatClampNeg + 1 → c < f → (lp_X11_valueFrom3_24 (nI k) (nI n) f best (nI m - 1) I).1 = vfold (decide (k % 2 = 0)) (fun d => val r (n - k - 1) (k + 1) (mday r (r 0) (opn v d))) ((r 5).toNatClampNeg + 1) ∧ Fk (kvf k) I (lp_X11_valueFrom3_24 (nI k) (nI n) f best (nI m - 1) I).2.2 ∧ oklp_X11_valueFrom3_24 (nI k) (nI n) f best (nI m - 1) I := by
  have hV := hb.nV.2
  have gb : ∀ d, bw (val r (n - k - 1) (k + 1) (mday r (r 0) (opn v d))) (-9) 9 := fun d => val_bw hb _ _ (D + 1) _ _ (day_rel hb (by omega) (br_opn hB d)) (by omega)
  intro c
  induction c with
  | zero =>
    intro m f I best hr hv hb2 hm hf
    obtain ⟨f, rfl⟩ : ∃ g, f = g + 1 := ⟨f - 1, by omega⟩
    have e5 : I 68 5 = nI (r 5).toNatClampNeg := by rw [hr]; exact hb.nV.1
    have em : nI m - 1 = nI (r 5).toNatClampNeg := by
      rw [show m = (r 5).toNatClampNeg + 1 by omega, nI_pred]
    have q : nI (r 5).toNatClampNeg ≤ nI m - 1 := by rw [em]; exact nI_le (Nat.le_refl _) (by omega)
    rw [lp_X11_valueFrom3_24, oklp_X11_valueFrom3_24, e5, if_pos q, if_pos q, show (r 5).toNatClampNeg + 1 = m by omega]
    rcases hb2 with z | z
    · omega
    · exact ⟨z.2, Fk.refl _ _, trivial⟩
  | succ c ih =>
    intro m f I best hr hv hb2 hm hf
    obtain ⟨f, rfl⟩ : ∃ g, f = g + 1 := ⟨f - 1, by omega⟩
    have e5 : I 68 5 = nI (r 5).toNatClampNeg := by rw [hr]; exact hb.nV.1
    have q : ¬ nI (r 5).toNatClampNeg ≤ nI m - 1 := by
      rw [fa_le, nI_toInt (by omega), fb_subI (by rw [nI_toInt (by omega), ti1]; omega) (by rw [nI_toInt (by omega), ti1]; omega), nI_toInt (by omega), ti1]
      omega
    obtain ⟨l1, l2, l3, l4⟩ := m_lay (I := I) (v := v) (d := m) hr hb (k := k) (by omega) (by omega) hv
    obtain ⟨b1, b2, b3⟩ := prev r (cday r (copn b m)) (mday r (r 0) (opn v m)) (k + 1) n (D + 1) (m_X11_layLevel I (nI k) (nI m - 1)) hb l3 (by omega) hn (by omega) (by omega) (day_rel hb (by omega) (br_opn hB m)) l2
    rw [show n - (k + 1) = n - k - 1 by omega] at b1
    have f2 : Fk (kvf k) I (m_X11_valueFrom2 (m_X11_layLevel I (nI k) (nI m - 1)) (nI (k + 1)) (nI n)) := l1.trans (fun a j hk => b2 a j (kvf_mono hk))
    have key := vf_step (k := k) (by omega) gb m hb2
    have kk := ih (m + 1) f (m_X11_valueFrom2 (m_X11_layLevel I (nI k) (nI m - 1)) (nI (k + 1)) (nI n)) (vfold (decide (k % 2 = 0)) (fun d => val r (n - k - 1) (k + 1) (mday r (r 0) (opn v d))) (m + 1)) (by rw [← hr]; exact funext fun j => f2 68 j rfl) (fun j hj => by
      rw [f2 77 (7 * k + j) (by
        unfold kvf
        rw [decide_eq_false (show ¬ 7 * (k + 1) ≤ 7 * k + j by omega)]
        rfl)]
      exact hv j hj) (Or.inr ⟨by omega, rfl⟩) (by omega) (by omega)
    have es : nI m - 1 + 1 = nI (m + 1) - 1 := by rw [nI_pred, Int32.sub_add_cancel]
    have eu : u0_X11_valueFrom3 (nI k) (nI n) best (nI m - 1) I = vfold (decide (k % 2 = 0)) (fun d => val r (n - k - 1) (k + 1) (mday r (r 0) (opn v d))) (m + 1) := by
      rw [u0_X11_valueFrom3, opv_eq, nI_1, b1]
      exact key
    rw [lp_X11_valueFrom3_24, oklp_X11_valueFrom3_24, e5, if_neg q, if_neg q, eu, es, nI_1]
    exact ⟨kk.1, f2.trans kk.2.1, l4, b3, kk.2.2⟩
theorem vf_3 : VfOK f_X11_valueFrom3 m_X11_valueFrom3 ok_X11_valueFrom3 3 := by
  intro r b v k n D I hb hr hkn hn hL hD hB hv
  by_cases q : k = n
  · subst q
    rw [f_X11_valueFrom3, m_X11_valueFrom3, ok_X11_valueFrom3, opv_eq, opv_eq, opv_eq, if_pos rfl, if_pos rfl, if_pos rfl, show (7 : Int32) * nI k + 0 = nI (7 * k) from by rw [Int32.add_zero]; exact pk_mul 7 k, nI_clamp (by omega), Nat.sub_self, val, sz_77]
    have := hv 0 (by omega)
    rw [Nat.add_zero] at this
    exact ⟨this, Fk.refl _ _, vp_in_nI (by omega) (by omega)⟩
  · have q1 : ¬ nI k = nI n := by rw [nI_eq (by omega) (by omega)]; exact q
    have hV := hb.nV.2
    have kk := vf_lp3 (v := v) hb (show k < n by omega) hn hL hD hB vf_2 ((r 5).toNatClampNeg + 1) 0 10 I 1000000 hr hv (Or.inl ⟨rfl, rfl⟩) (by omega) (by omega)
    rw [show nI 0 - 1 = (-1 : Int32) from by decide] at kk
    rw [f_X11_valueFrom3, m_X11_valueFrom3, ok_X11_valueFrom3, opv_eq, opv_eq, opv_eq, if_neg q1, if_neg q1, if_neg q1, opq_eq, show n - k = n - k - 1 + 1 by omega, val]
    exact kk
theorem bf_lp4 {r v : Vc} {t k n D : Nat} (hb : RB r) (hkn : k < n) (hn : n ≤ 4) (hL : n ≤ k + 4) (hD : D + n < 5000 + k) (prev : BfOK f_X9_bestFrom3 m_X9_bestFrom3 ok_X9_bestFrom3 3) : ∀ (c m f : Nat) (I : Mm), TR I r t → BR r (r 0) D (I (53 + k)) v → m + c = (r 5).toNatClampNeg + 1 → c < f → (lp_X9_bestFrom4_63 t (nI k) (nI n) (decide (k % 2 = 0)) f (vfold (decide (k % 2 = 0)) (fun d => val r (n - k - 1) (k + 1) (mday r (r 0) (opn v d))) m) (nI m) I).1 = vfold (decide (k % 2 = 0)) (fun d => val r (n - k - 1) (k + 1) (mday r (r 0) (opn v d))) ((r 5).toNatClampNeg + 1) ∧ Fk (kbf k) I (lp_X9_bestFrom4_63 t (nI k) (nI n) (decide (k % 2 = 0)) f (vfold (decide (k % 2 = 0)) (fun d => val r (n - k - 1) (k + 1) (mday r (r 0) (opn v d))) m) (nI m) I).2.2 ∧ oklp_X9_bestFrom4_63 t (nI k) (nI n) (decide (k % 2 = 0)) f (vfold (decide (k % 2 = 0)) (fun d => val r (n - k - 1) (k + 1) (mday r (r 0) (opn v d))) m) (nI m) I := by
  have hV := hb.nV.2
  intro c
  induction c with
  | zero =>
    intro m f I hT hB hm hf
    obtain ⟨f, rfl⟩ : ∃ g, f = g + 1 := ⟨f - 1, by omega⟩
    have q : nI (r 5).toNatClampNeg < nI m := nI_lt (by omega) (by omega)
    rw [lp_X9_bestFrom4_63, oklp_X9_bestFrom4_63, (hT.cnt hb).1, if_pos q, if_pos q, show (r 5).toNatClampNeg + 1 = m by omega]
    exact ⟨rfl, Fk.refl _ _, trivial⟩
  | succ c ih =>
    intro m f I hT hB hm hf
    obtain ⟨f, rfl⟩ : ∃ g, f = g + 1 := ⟨f - 1, by omega⟩
    have q : ¬ nI (r 5).toNatClampNeg < nI m := nI_nlt (by omega) (by omega)
    obtain ⟨⟨X, p1, p2⟩, p3⟩ := c_passTurn hT hb (k := k) (d := m) (by omega) (by omega) (by omega) hB
    have hT2 : TR (va_up I (54 + k) X) r t := hT.up (by omega)
    obtain ⟨b1, b2, b3⟩ := prev r (mday r (r 0) (opn v m)) t (k + 1) n (D + 1) (va_up I (54 + k) X) hb hT2 (by omega) hn (by omega) (by omega) (by rw [show 53 + (k + 1) = 54 + k by omega, vu_s]; exact p2)
    rw [show n - (k + 1) = n - k - 1 by omega] at b1
    have f1 : Fk (kbf k) I (va_up I (54 + k) X) := (Fk.refl _ _).up (fun j => by
      unfold kbf
      rw [decide_eq_true (show 53 + k < 54 + k by omega), decide_eq_true (show 54 + k ≤ 57 by omega)]
      rfl)
    have f2 : Fk (kbf k) I (m_X9_bestFrom3 (va_up I (54 + k) X) t (nI (k + 1)) (nI n)) := f1.trans (fun a j hk => b2 a j (kbf_mono hk))
    have eu : u1_X9_bestFrom4 t (nI k) (nI n) (decide (k % 2 = 0)) (vfold (decide (k % 2 = 0)) (fun d => val r (n - k - 1) (k + 1) (mday r (r 0) (opn v d))) m) (nI m) I = vfold (decide (k % 2 = 0)) (fun d => val r (n - k - 1) (k + 1) (mday r (r 0) (opn v d))) (m + 1) := by
      rw [u1_X9_bestFrom4, opv_eq, p1, nI_1, b1]
      rfl
    have kk := ih (m + 1) f (m_X9_bestFrom3 (va_up I (54 + k) X) t (nI (k + 1)) (nI n)) (hT.fk f2 (kbf_low k)) (by
      have e : m_X9_bestFrom3 (va_up I (54 + k) X) t (nI (k + 1)) (nI n) (53 + k) = I (53 + k) := funext fun j => f2 (53 + k) j (by
        unfold kbf
        rw [decide_eq_false (show ¬ 53 + k < 53 + k by omega), Bool.false_and]
        rfl)
      rw [e]; exact hB) (by omega) (by omega)
    rw [lp_X9_bestFrom4_63, oklp_X9_bestFrom4_63, (hT.cnt hb).1, if_neg q, if_neg q, eu, p1, nI_1, nI_1]
    exact ⟨kk.1, f2.trans kk.2.1, p3, b3, kk.2.2⟩
theorem bf_4 : BfOK f_X9_bestFrom4 m_X9_bestFrom4 ok_X9_bestFrom4 4 := by
  intro r v t k n D I hb hT hkn hn hL hD hB
  by_cases q : k = n
  · subst q
    have q1 : nI k ≤ nI k := nI_le (Nat.le_refl _) (by omega)
    rw [f_X9_bestFrom4, m_X9_bestFrom4, ok_X9_bestFrom4, opv_eq, opv_eq, opv_eq, if_pos q1, if_pos q1, if_pos q1, bf_base (by omega), nI_clamp (by omega), rt_52 k (by omega), Nat.sub_self, val, sz_52]
    exact ⟨hB.1, Fk.refl _ _, vp_in_nI (by omega) (by omega)⟩
  · have q1 : ¬ nI n ≤ nI k := nI_ge (by omega) (by omega)
    have q4 : nI k < 4 := nI_lt (b := 4) (by omega) (by omega)
    have hV := hb.nV.2
    have ep : (if nI k - nI k / 2 * 2 = 0 then true else false) = decide (k % 2 = 0) := by
      by_cases z : k % 2 = 0
      · rw [if_pos ((par k (by omega)).mpr z), decide_eq_true z]
      · rw [if_neg (fun y => z ((par k (by omega)).mp y)), decide_eq_false z]
    have kk := bf_lp4 (v := v) (t := t) hb (show k < n by omega) hn hL hD bf_3 ((r 5).toNatClampNeg + 1) 0 10 I hT hB (by omega) (by omega)
    have e0 : u0_X9_bestFrom4 (nI k) = vfold (decide (k % 2 = 0)) (fun d => val r (n - k - 1) (k + 1) (mday r (r 0) (opn v d))) 0 := by
      rw [u0_X9_bestFrom4, opv_eq, ep]
      rfl
    rw [nI_0] at kk
    rw [f_X9_bestFrom4, m_X9_bestFrom4, ok_X9_bestFrom4, opv_eq, opv_eq, opv_eq, if_neg q1, if_neg q1, if_neg q1, if_pos q4, if_pos q4, if_pos q4, ep, opq_eq, e0, show n - k = n - k - 1 + 1 by omega, val, show n - k - 1 + 1 - 1 = n - k - 1 by omega]
    exact kk
theorem vf_lp4 {r b v : Vc} {k n D : Nat} (hb : RB r) (hkn : k < n) (hn : n ≤ 4) (hL : n ≤ k + 4) (hD : D + n < 5000 + k) (hB : BR r (r 0) D b v) (prev : VfOK f_X11_valueFrom3 m_X11_valueFrom3 ok_X11_valueFrom3 3) : ∀ (c m f : Nat) (I : Mm) (best : Int32), I 68 = r → (∀ j, j < 7 → I 77 (7 * k + j) = v j) → ((m = 0 ∧ best = 1000000) ∨ (1 ≤ m ∧ best = vfold (decide (k % 2 = 0)) (fun d => val r (n - k - 1) (k + 1) (mday r (r 0) (opn v d))) m)) → m + c = (r 5).toNatClampNeg + 1 → c < f → (lp_X11_valueFrom4_24 (nI k) (nI n) f best (nI m - 1) I).1 = vfold (decide (k % 2 = 0)) (fun d => val r (n - k - 1) (k + 1) (mday r (r 0) (opn v d))) ((r 5).toNatClampNeg + 1) ∧ Fk (kvf k) I (lp_X11_valueFrom4_24 (nI k) (nI n) f best (nI m - 1) I).2.2 ∧ oklp_X11_valueFrom4_24 (nI k) (nI n) f best (nI m - 1) I := by
  have hV := hb.nV.2
  have gb : ∀ d, bw (val r (n - k - 1) (k + 1) (mday r (r 0) (opn v d))) (-9) 9 := fun d => val_bw hb _ _ (D + 1) _ _ (day_rel hb (by omega) (br_opn hB d)) (by omega)
  intro c
  induction c with
  | zero =>
    intro m f I best hr hv hb2 hm hf
    obtain ⟨f, rfl⟩ : ∃ g, f = g + 1 := ⟨f - 1, by omega⟩
    have e5 : I 68 5 = nI (r 5).toNatClampNeg := by rw [hr]; exact hb.nV.1
    have em : nI m - 1 = nI (r 5).toNatClampNeg := by
      rw [show m = (r 5).toNatClampNeg + 1 by omega, nI_pred]
    have q : nI (r 5).toNatClampNeg ≤ nI m - 1 := by rw [em]; exact nI_le (Nat.le_refl _) (by omega)
    rw [lp_X11_valueFrom4_24, oklp_X11_valueFrom4_24, e5, if_pos q, if_pos q, show (r 5).toNatClampNeg + 1 = m by omega]
    rcases hb2 with z | z
    · omega
    · exact ⟨z.2, Fk.refl _ _, trivial⟩
  | succ c ih =>
    intro m f I best hr hv hb2 hm hf
    obtain ⟨f, rfl⟩ : ∃ g, f = g + 1 := ⟨f - 1, by omega⟩
    have e5 : I 68 5 = nI (r 5).toNatClampNeg := by rw [hr]; exact hb.nV.1
    have q : ¬ nI (r 5).toNatClampNeg ≤ nI m - 1 := by
      rw [fa_le, nI_toInt (by omega), fb_subI (by rw [nI_toInt (by omega), ti1]; omega) (by rw [nI_toInt (by omega), ti1]; omega), nI_toInt (by omega), ti1]
      omega
    obtain ⟨l1, l2, l3, l4⟩ := m_lay (I := I) (v := v) (d := m) hr hb (k := k) (by omega) (by omega) hv
    obtain ⟨b1, b2, b3⟩ := prev r (cday r (copn b m)) (mday r (r 0) (opn v m)) (k + 1) n (D + 1) (m_X11_layLevel I (nI k) (nI m - 1)) hb l3 (by omega) hn (by omega) (by omega) (day_rel hb (by omega) (br_opn hB m)) l2
    rw [show n - (k + 1) = n - k - 1 by omega] at b1
    have f2 : Fk (kvf k) I (m_X11_valueFrom3 (m_X11_layLevel I (nI k) (nI m - 1)) (nI (k + 1)) (nI n)) := l1.trans (fun a j hk => b2 a j (kvf_mono hk))
    have key := vf_step (k := k) (by omega) gb m hb2
    have kk := ih (m + 1) f (m_X11_valueFrom3 (m_X11_layLevel I (nI k) (nI m - 1)) (nI (k + 1)) (nI n)) (vfold (decide (k % 2 = 0)) (fun d => val r (n - k - 1) (k + 1) (mday r (r 0) (opn v d))) (m + 1)) (by rw [← hr]; exact funext fun j => f2 68 j rfl) (fun j hj => by
      rw [f2 77 (7 * k + j) (by
        unfold kvf
        rw [decide_eq_false (show ¬ 7 * (k + 1) ≤ 7 * k + j by omega)]
        rfl)]
      exact hv j hj) (Or.inr ⟨by omega, rfl⟩) (by omega) (by omega)
    have es : nI m - 1 + 1 = nI (m + 1) - 1 := by rw [nI_pred, Int32.sub_add_cancel]
    have eu : u0_X11_valueFrom4 (nI k) (nI n) best (nI m - 1) I = vfold (decide (k % 2 = 0)) (fun d => val r (n - k - 1) (k + 1) (mday r (r 0) (opn v d))) (m + 1) := by
      rw [u0_X11_valueFrom4, opv_eq, nI_1, b1]
      exact key
    rw [lp_X11_valueFrom4_24, oklp_X11_valueFrom4_24, e5, if_neg q, if_neg q, eu, es, nI_1]
    exact ⟨kk.1, f2.trans kk.2.1, l4, b3, kk.2.2⟩
theorem vf_4 : VfOK f_X11_valueFrom4 m_X11_valueFrom4 ok_X11_valueFrom4 4 := by
  intro r b v k n D I hb hr hkn hn hL hD hB hv
  by_cases q : k = n
  · subst q
    rw [f_X11_valueFrom4, m_X11_valueFrom4, ok_X11_valueFrom4, opv_eq, opv_eq, opv_eq, if_pos rfl, if_pos rfl, if_pos rfl, show (7 : Int32) * nI k + 0 = nI (7 * k) from by rw [Int32.add_zero]; exact pk_mul 7 k, nI_clamp (by omega), Nat.sub_self, val, sz_77]
    have := hv 0 (by omega)
    rw [Nat.add_zero] at this
    exact ⟨this, Fk.refl _ _, vp_in_nI (by omega) (by omega)⟩
  · have q1 : ¬ nI k = nI n := by rw [nI_eq (by omega) (by omega)]; exact q
    have hV := hb.nV.2
    have kk := vf_lp4 (v := v) hb (show k < n by omega) hn hL hD hB vf_3 ((r 5).toNatClampNeg + 1) 0 10 I 1000000 hr hv (Or.inl ⟨rfl, rfl⟩) (by omega) (by omega)
    rw [show nI 0 - 1 = (-1 : Int32) from by decide] at kk
    rw [f_X11_valueFrom4, m_X11_valueFrom4, ok_X11_valueFrom4, opv_eq, opv_eq, opv_eq, if_neg q1, if_neg q1, if_neg q1, opq_eq, show n - k = n - k - 1 + 1 by omega, val]
    exact kk
theorem kp_kbf {k a j : Nat} (h : kp a j = true) : kbf k a j = true := by
  have s := kp_kse h
  unfold kse at s
  unfold kbf
  by_cases q : 54 ≤ a ∧ a ≤ 57
  · rw [if_pos q] at s; cases s
  · by_cases q1 : 53 + k < a
    · rw [decide_eq_false (show ¬ a ≤ 57 by omega), Bool.and_false]; rfl
    · rw [decide_eq_false q1, Bool.false_and]; rfl
theorem kp_kvf {k a j : Nat} (h : kp a j = true) : kvf k a j = true := by
  by_cases h1 : a = 78
  · subst h1; cases (show false = true from h)
  by_cases h2 : a = 77
  · subst h2; cases (show false = true from h)
  simp [kvf, h1, h2]
theorem lay0 (I : Mm) : m_X11_copy I 70 0 77 0 7 = va_up I 77 (fun j => if j < 7 then I 70 j else I 77 j) ∧ ok_X11_copy I 70 0 77 0 7 := by
  refine ⟨(m_cp (a := 70) (b := 77) (s := 0) (d := 0) (n := 7) I (by omega) (by omega) (by omega)).trans ?_, cp_ok (s := 0) (d := 0) (n := 7) I (by rw [sz_70]; omega) (by rw [sz_77]; omega) (by rw [sz_70]; omega) (by rw [sz_77]; omega)⟩
  congr 1
  funext j
  by_cases z : j < 7
  · rw [if_pos (by omega), if_pos z]
    congr 1
    omega
  · rw [if_neg (by omega), if_neg z]
theorem st_value : St_value Sim := by
  intro I J w x1 h
  have hb := h.1.1
  have hB := h.1.2.2.2.2.2.2.1
  have hT : TR (st2 I 0 7 0) (I 68) (td w) := h.1.2.1.st (by omega)
  simp only [ok_X10_value, m_X10_value, f_X10_value, u0_X10_value, u1_X10_value, f_X9_played, m_X9_played, ok_X9_played, ok_X11_value, m_X11_value, f_X11_value, opv_eq, cr, f_within, m_refused, f_why, f_no]
  by_cases q : gv (I 0 4) (inb x1 0 4) = 0
  · obtain ⟨n, -, hn, rfl⟩ := inb_nI (lo := 0) (hi := 4) (by omega) (gv_t q).2 (by omega)
    simp only [q, if_true]
    have cp : m_X0_copy (st2 I 0 7 0) 53 23 = va_up (st2 I 0 7 0) 53 (cpy (I 53) (I 23)) := by rw [m_copy, st7_row _ _ (show (53 : Nat) ≠ 0 by omega), st7_row _ _ (show (23 : Nat) ≠ 0 by omega)]
    obtain ⟨a1, a2, a3⟩ := bf_4 (I 68) (I 70) (td w) 0 n 999 (va_up (st2 I 0 7 0) 53 (cpy (I 53) (I 23))) hb (hT.up (by omega)) (by omega) hn (by omega) (by omega) (by rw [Nat.add_zero, vu_s]; exact br_congr hB (fun j hj => if_pos hj) (fun _ _ => rfl))
    rw [nI_0, Nat.sub_zero] at a1
    rw [nI_0] at a2 a3
    rw [cp]
    generalize m_X9_bestFrom4 (va_up (st2 I 0 7 0) 53 (cpy (I 53) (I 23))) (td w) 0 (nI n) = K at *
    have fK : Fr (st2 I 0 7 0) K := ((Fr.refl _).up (fun _ => rfl)).trans (fun a j hk => a2 a j (kp_kbf hk))
    have k14 : m_X11_good K 65 14 = I 0 4 := by rw [good_14, fK 65 14 rfl, st7_row _ _ (by omega), h.hc]
    have k68 : m_X11_good K 68 = I 68 := by rw [good_row _ (by omega), fK.row (a := 68) (fun _ => rfl), st7_row _ _ (by omega)]
    have k70 : m_X11_good K 70 = I 70 := by rw [good_row _ (by omega), fK.row (a := 70) (fun _ => rfl), st7_row _ _ (by omega)]
    have l0 := lay0 (m_X11_good K)
    obtain ⟨b1, b2, b3⟩ := vf_4 (I 68) (I 23) (I 70) 0 n 999 (va_up (m_X11_good K) 77 (fun j => if j < 7 then m_X11_good K 70 j else m_X11_good K 77 j)) hb (by rw [vu_o _ _ (by omega)]; exact k68) (by omega) hn (by omega) (by omega) hB (fun j hj => by rw [vu_s, if_pos (by omega), k70]; congr 1; omega)
    rw [nI_0, Nat.sub_zero] at b1
    rw [nI_0] at b2 b3
    rw [k14]
    simp only [q, if_true, l0.1]
    refine ⟨⟨by omega, a3⟩, ⟨l0.2, b3⟩, by rw [a1, b1], ?_⟩
    exact h.done (v := 0) fK ((fr_good _).trans (((Fr.refl _).up (fun _ => rfl)).trans (fun a j hk => b2 a j (kp_kvf hk)))) (by decide)
  · simp only [if_neg q, h.g14]
    exact ⟨trivial, trivial, trivial, h.bad (gv_4 _ _)⟩
/-! which vent the junior opens first -/
theorem opens_lp {r b v : Vc} {t n : Nat} (hb : RB r) (h1 : 1 ≤ n) (hn : n ≤ 4) (hB : BR r (r 0) 999 b v) (l2 : Int32) : ∀ (c m f : Nat) (I I' : Mm) (vt bc bm : Int32), TR I r t → BR r (r 0) 999 (I 53) v → I' 68 = r → (∀ j, j < 7 → I' 77 (7 * 0 + j) = v j) → ((bc = -10 ∧ bm = -1000000) ∨ bc = bm) → m + c = (r 5).toNatClampNeg + 1 → c < f → (lp_X9_firstOpened_21 t 23 (nI n) f vt bc (nI m) I).1 = (lp_X11_opens_48 (nI n) l2 f vt bm (nI m - 1) I').1 ∧ Fk (kbf 0) I (lp_X9_firstOpened_21 t 23 (nI n) f vt bc (nI m) I).2.2.2 ∧ Fk (kvf 0) I' (lp_X11_opens_48 (nI n) l2 f vt bm (nI m - 1) I').2.2.2 ∧ oklp_X9_firstOpened_21 t 23 (nI n) f vt bc (nI m) I ∧ oklp_X11_opens_48 (nI n) l2 f vt bm (nI m - 1) I' := by
  have hV := hb.nV.2
  intro c
  induction c with
  | zero =>
    intro m f I I' vt bc bm hT hB1 hr hv hbb hm hf
    obtain ⟨f, rfl⟩ : ∃ g, f = g + 1 := ⟨f - 1, by omega⟩
    have q : nI (r 5).toNatClampNeg < nI m := nI_lt (by omega) (by omega)
    have e5 : I' 68 5 = nI (r 5).toNatClampNeg := by rw [hr]; exact hb.nV.1
    have em : nI m - 1 = nI (r 5).toNatClampNeg := by
      rw [show m = (r 5).toNatClampNeg + 1 by omega, nI_pred]
    have q2 : nI (r 5).toNatClampNeg ≤ nI m - 1 := by rw [em]; exact nI_le (Nat.le_refl _) (by omega)
    rw [lp_X9_firstOpened_21, oklp_X9_firstOpened_21, lp_X11_opens_48, oklp_X11_opens_48, (hT.cnt hb).1, e5, if_pos q, if_pos q, if_pos q2, if_pos q2]
    exact ⟨rfl, Fk.refl _ _, Fk.refl _ _, trivial, trivial⟩
  | succ c ih =>
    intro m f I I' vt bc bm hT hB1 hr hv hbb hm hf
    obtain ⟨f, rfl⟩ : ∃ g, f = g + 1 := ⟨f - 1, by omega⟩
    have q : ¬ nI (r 5).toNatClampNeg < nI m := nI_nlt (by omega) (by omega)
    have e5 : I' 68 5 = nI (r 5).toNatClampNeg := by rw [hr]; exact hb.nV.1
    have q2 : ¬ nI (r 5).toNatClampNeg ≤ nI m - 1 := by
      rw [fa_le, nI_toInt (by omega), fb_subI (by rw [nI_toInt (by omega), ti1]; omega) (by rw [nI_toInt (by omega), ti1]; omega), nI_toInt (by omega), ti1]
      omega
    obtain ⟨⟨X, p1, p2⟩, p3⟩ := c_passTurn hT hb (k := 0) (d := m) (v := v) (D := 999) (by omega) (by omega) (by omega) hB1
    rw [nI_0] at p1 p3
    obtain ⟨b1, b2, b3⟩ := bf_4 r (mday r (r 0) (opn v m)) t 1 n 1000 (va_up I (54 + 0) X) hb (hT.up (by omega)) h1 hn (by omega) (by omega) (by rw [show 53 + 1 = 54 + 0 by omega, vu_s]; exact p2)
    rw [show nI 1 = 1 from rfl] at b1 b2 b3
    obtain ⟨l1, l3, l4, l5⟩ := m_lay (I := I') (v := v) (d := m) hr hb (k := 0) (by omega) (by omega) hv
    rw [nI_0] at l1 l3 l4 l5
    obtain ⟨c1, c2, c3⟩ := vf_4 r (cday r (copn b m)) (mday r (r 0) (opn v m)) 1 n 1000 (m_X11_layLevel I' 0 (nI m - 1)) hb l4 h1 hn (by omega) (by omega) (day_rel hb (by omega) (br_opn hB m)) l3
    rw [show nI 1 = 1 from rfl] at c1 c2 c3
    have f1 : Fk (kbf 0) I (m_X9_bestFrom4 (va_up I (54 + 0) X) t 1 (nI n)) := ((Fk.refl _ _).up (fun j => rfl)).trans (fun a j hk => b2 a j (kbf_mono hk))
    have f2 : Fk (kvf 0) I' (m_X11_valueFrom4 (m_X11_layLevel I' 0 (nI m - 1)) 1 (nI n)) := l1.trans (fun a j hk => c2 a j (kvf_mono hk))
    have gb := val_bw hb (n - 1) 1 1000 (cday r (copn b m)) (mday r (r 0) (opn v m)) (day_rel hb (by omega) (br_opn hB m)) (by omega)
    have es : nI m - 1 + 1 = nI (m + 1) - 1 := by rw [nI_pred, Int32.sub_add_cancel]
    generalize hx : val r (n - 1) 1 (mday r (r 0) (opn v m)) = x at *
    have g1 := gb.1; have g2 := gb.2
    have cmp : (bm < x) ↔ ¬ x ≤ bc := by
      rw [fa_lt, fa_le]
      rcases hbb with ⟨z1, z2⟩ | z
      · rw [z1, z2, show (-10 : Int32).toInt = -10 from by decide, show (-1000000 : Int32).toInt = -1000000 from by decide]
        omega
      · rw [z]; omega
    have ev : (if 0 ≤ nI m - 1 then nI m - 1 else (-2 : Int32)) = (if nI m = 0 then (-2 : Int32) else nI m - 1) := by
      by_cases z : m = 0
      · subst z; decide
      · rw [show nI m - 1 = nI (m - 1) from pk_sub (b := 1) (by omega), if_pos (nI_pos' (by omega)), if_neg (nI_ne0 (by omega) (by omega))]
    have eu1 : u0_X9_firstOpened t (nI n) vt bc (nI m) I = if x ≤ bc then vt else (if nI m = 0 then (-2 : Int32) else nI m - 1) := by
      rw [u0_X9_firstOpened, opv_eq, p1, b1]
    have eu2 : u1_X9_firstOpened t (nI n) bc (nI m) I = if x ≤ bc then bc else x := by
      rw [u1_X9_firstOpened, opv_eq, p1, b1]
    have ev1 : u0_X11_opens (nI n) vt bm (nI m - 1) I' = if x ≤ bc then vt else (if nI m = 0 then (-2 : Int32) else nI m - 1) := by
      rw [u0_X11_opens, opv_eq, c1, ev]
      by_cases y : x ≤ bc
      · rw [if_pos y, if_neg (fun z => cmp.mp z y)]
      · rw [if_neg y, if_pos (cmp.mpr y)]
    have ev2 : u1_X11_opens (nI n) bm (nI m - 1) I' = if x ≤ bc then bm else x := by
      rw [u1_X11_opens, opv_eq, c1]
      by_cases y : x ≤ bc
      · rw [if_pos y, if_neg (fun z => cmp.mp z y)]
      · rw [if_neg y, if_pos (cmp.mpr y)]
    have kk := ih (m + 1) f (m_X9_bestFrom4 (va_up I (54 + 0) X) t 1 (nI n)) (m_X11_valueFrom4 (m_X11_layLevel I' 0 (nI m - 1)) 1 (nI n)) (if x ≤ bc then vt else (if nI m = 0 then (-2 : Int32) else nI m - 1)) (if x ≤ bc then bc else x) (if x ≤ bc then bm else x) (hT.fk f1 (kbf_low 0)) (by
      have e : m_X9_bestFrom4 (va_up I (54 + 0) X) t 1 (nI n) 53 = I 53 := funext fun j => f1 53 j rfl
      rw [e]; exact hB1) (by rw [← hr]; exact funext fun j => f2 68 j rfl) (fun j hj => by
      rw [f2 77 (7 * 0 + j) (by
        unfold kvf
        rw [decide_eq_false (show ¬ 7 * (0 + 1) ≤ 7 * 0 + j by omega)]
        rfl)]
      exact hv j hj) (by
      by_cases y : x ≤ bc
      · rw [if_pos y, if_pos y]; exact hbb
      · rw [if_neg y, if_neg y]; exact Or.inr rfl) (by omega) (by omega)
    rw [lp_X9_firstOpened_21, oklp_X9_firstOpened_21, lp_X11_opens_48, oklp_X11_opens_48, (hT.cnt hb).1, e5, if_neg q, if_neg q, if_neg q2, if_neg q2, eu1, eu2, ev1, ev2, es, nI_1, p1]
    exact ⟨kk.1, f1.trans kk.2.1, f2.trans kk.2.2.1, ⟨p3, b3, kk.2.2.2.1⟩, l5, c3, kk.2.2.2.2⟩
theorem st_opens : St_opens Sim := by
  intro I J w x1 h
  have hb := h.1.1
  have hV := hb.nV.2
  have hB := h.1.2.2.2.2.2.2.1
  have hT : TR (st2 I 0 7 0) (I 68) (td w) := h.1.2.1.st (by omega)
  simp only [ok_X10_opens, m_X10_opens, f_X10_opens, u0_X10_opens, u1_X10_opens, u2_X10_opens, f_X9_firstOpened, m_X9_firstOpened, ok_X9_firstOpened, ok_X11_opens, m_X11_opens, f_X11_opens, opv_eq, cr, f_within, m_refused, f_why, f_no, opq_eq]
  by_cases q : gv (I 0 4) (inb x1 1 4) = 0
  · obtain ⟨n, hn1, hn, rfl⟩ := inb_nI (lo := 1) (hi := 4) (by omega) (gv_t q).2 (by omega)
    simp only [q, if_true]
    have cp : m_X0_copy (st2 I 0 7 0) 53 23 = va_up (st2 I 0 7 0) 53 (cpy (I 53) (I 23)) := by rw [m_copy, st7_row _ _ (show (53 : Nat) ≠ 0 by omega), st7_row _ _ (show (23 : Nat) ≠ 0 by omega)]
    rw [cp]
    generalize hG : va_up (st2 I 0 7 0) 53 (cpy (I 53) (I 23)) = G
    have key : ∀ (M : Mm) (l2 : Int32), M 68 = I 68 → (∀ j, j < 7 → M 77 (7 * 0 + j) = I 70 j) → _ := fun M l2 (m68 : M 68 = I 68) (m77 : ∀ j, j < 7 → M 77 (7 * 0 + j) = I 70 j) => opens_lp (t := td w) (n := n) hb hn1 hn hB l2 ((I 68 5).toNatClampNeg + 1) 0 10 G M (-2) (-10) (-1000000) (by rw [← hG]; exact hT.up (by omega)) (by rw [← hG, vu_s]; exact br_congr hB (fun j hj => if_pos hj) (fun _ _ => rfl)) m68 m77 (Or.inl ⟨rfl, rfl⟩) (by omega) (by omega)
    rw [← nI_0]
    generalize hC : lp_X9_firstOpened_21 (td w) 23 (nI n) 10 (-2) (-10) (nI 0) G = C at key ⊢
    obtain ⟨-, a2, -, a4, -⟩ := key (va_up I 77 (I 70)) 0 (by rw [vu_o _ _ (by omega)]) (fun j hj => by rw [vu_s]; congr 1; omega)
    have fK : Fr (st2 I 0 7 (nI 0)) C.2.2.2 := by
      have : Fr (st2 I 0 7 0) G := by rw [← hG]; exact (Fr.refl _).up (fun _ => rfl)
      exact this.trans (fun a j hk => a2 a j (kp_kbf hk))
    have k14 : m_X11_good C.2.2.2 65 14 = I 0 4 := by rw [good_14, fK 65 14 rfl, st7_row _ _ (by omega), h.hc]
    have k68 : m_X11_good C.2.2.2 68 = I 68 := by rw [good_row _ (by omega), fK.row (a := 68) (fun _ => rfl), st7_row _ _ (by omega)]
    have k70 : m_X11_good C.2.2.2 70 = I 70 := by rw [good_row _ (by omega), fK.row (a := 70) (fun _ => rfl), st7_row _ _ (by omega)]
    have l0 := lay0 (m_X11_good C.2.2.2)
    obtain ⟨b1, -, b3, -, b5⟩ := key (va_up (m_X11_good C.2.2.2) 77 (fun j => if j < 7 then m_X11_good C.2.2.2 70 j else m_X11_good C.2.2.2 77 j)) 0 (by rw [vu_o _ _ (by omega)]; exact k68) (fun j hj => by rw [vu_s, if_pos (by omega), k70]; congr 1; omega)
    rw [show nI 0 - 1 = (-1 : Int32) from by decide] at b1 b3 b5
    have q' : gv (I 0 4) (inb (nI n) 1 4) = nI 0 := q
    have l0' : m_X11_copy (m_X11_good C.2.2.2) 70 (nI 0) 77 (nI 0) 7 = va_up (m_X11_good C.2.2.2) 77 (fun j => if j < 7 then m_X11_good C.2.2.2 70 j else m_X11_good C.2.2.2 77 j) := l0.1
    have b1' : C.1 = (lp_X11_opens_48 (nI n) (nI 0) 10 (-2) (-1000000) (-1) (va_up (m_X11_good C.2.2.2) 77 (fun j => if j < 7 then m_X11_good C.2.2.2 70 j else m_X11_good C.2.2.2 77 j))).1 := b1
    have b3' : Fk (kvf 0) (va_up (m_X11_good C.2.2.2) 77 (fun j => if j < 7 then m_X11_good C.2.2.2 70 j else m_X11_good C.2.2.2 77 j)) (lp_X11_opens_48 (nI n) (nI 0) 10 (-2) (-1000000) (-1) (va_up (m_X11_good C.2.2.2) 77 (fun j => if j < 7 then m_X11_good C.2.2.2 70 j else m_X11_good C.2.2.2 77 j))).2.2.2 := b3
    rw [k14, q', if_pos rfl, if_pos rfl, if_pos rfl, l0']
    refine ⟨⟨by omega, a4⟩, ⟨l0.2, b5⟩, b1', ?_⟩
    exact h.done (v := 0) fK ((fr_good _).trans (((Fr.refl _).up (fun _ => rfl)).trans (fun a j hk => b3' a j (kp_kvf hk)))) (by decide)
  · simp only [if_neg q, h.g14]
    exact ⟨trivial, trivial, trivial, h.bad (gv_4 _ _)⟩
