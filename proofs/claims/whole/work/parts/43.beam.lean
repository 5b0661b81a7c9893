def cdamp (r : Vc) (who d : Int32) : Int32 := if wthr who = 1 then imin 100 (d + r 3) else (if wthr who = 2 then imax 0 (d - r 4) else d)
def creach (damp oil wood : Int32) : Int32 := if damp < (100 - (10 * wood)) then 1 + oil else imax 0 ((1 + oil) - 1)
def cturn (a p s : Int32) : Int32 := a + (imax (-s) (imin s ((imax (-9) (imin 9 p)) - a)))
def cang (r : Vc) (b : Vc) : Int32 := cturn (b 0) (((cdamp r (cwho b) (b 1) - 50) / 10) + pullS r (b 4) (r 5).toNatClampNeg 0 0) (creach (cdamp r (cwho b) (b 1)) (b 3) (b 2))
def cwet (b : Vc) (l : Int32) : Int32 := if 20 < b 6 then b 7 else (b 7) ||| (if l = 1 then 1 <<< ((b 6) &&& 31) else 0)
def cfine (b : Vc) (l : Int32) : Int32 := if 20 < b 6 then b 8 else (b 8) ||| (if l = 2 then 1 <<< ((b 6) &&& 31) else 0)
/-- a day of the class, over its beam -/
def cday (r : Vc) (b : Vc) : Vc := fun j => if j = 0 then cang r b else if j = 1 then cdamp r (cwho b) (b 1) else if j = 4 then 0 else if j = 5 then wthr (cwho b) else if j = 6 then b 6 + 1 else if j = 7 then cwet b (wthr (cwho b)) else if j = 8 then cfine b (wthr (cwho b)) else b j
theorem c_passDay {I : Mm} {r : Vc} {t a : Nat} (h : TR I r t) (hb : RB r) (ha : 22 < a) : m_X0_passDay I a t = va_up I a (cday r (I a)) := by
  have ht := h.1
  have hat : t ≠ a := by omega
  have hT0 := h
  obtain ⟨-, g0, g1, g2, g3, g4, g5, g6, -⟩ := h
  have e0 : u0_X0_passDay I a = wthr (cwho (I a)) := by
    simp only [u0_X0_passDay, opv_eq, f_whoIs]
    rfl
  have e1 : u1_X0_passDay I a t = st2 (st2 I a 5 (wthr (cwho (I a)))) a 1 (cdamp r (cwho (I a)) (I a 1)) := by
    simp only [u1_X0_passDay, opv_eq, e0, g4, g5, cdamp]
    by_cases q1 : wthr (cwho (I a)) = 1
    · rw [if_pos q1, if_pos q1]
    · rw [if_neg q1, if_neg q1]
      by_cases q2 : wthr (cwho (I a)) = 2
      · rw [if_pos q2, if_pos q2]
      · rw [if_neg q2, if_neg q2]
        have : (st2 I a 5 (wthr (cwho (I a)))) a 1 = I a 1 := st2_o _ _ _ (by omega)
        rw [← this, st2_same]
  have e2 : m_X0_noteWeather (u1_X0_passDay I a t) a = st2 (st2 (st2 (st2 I a 5 (wthr (cwho (I a)))) a 1 (cdamp r (cwho (I a)) (I a 1))) a 7 (cwet (I a) (wthr (cwho (I a))))) a 8 (cfine (I a) (wthr (cwho (I a)))) := by
    rw [e1]
    simp only [m_X0_noteWeather, u0_X0_noteWeather, opv_eq, cwet, cfine]
    have k6 : (st2 (st2 I a 5 (wthr (cwho (I a)))) a 1 (cdamp r (cwho (I a)) (I a 1))) a 6 = I a 6 := by rw [st2_o _ _ _ (by omega), st2_o _ _ _ (by omega)]
    have k5 : (st2 (st2 I a 5 (wthr (cwho (I a)))) a 1 (cdamp r (cwho (I a)) (I a 1))) a 5 = wthr (cwho (I a)) := by rw [st2_o _ _ _ (by omega), st2_s]
    have k7 : (st2 (st2 I a 5 (wthr (cwho (I a)))) a 1 (cdamp r (cwho (I a)) (I a 1))) a 7 = I a 7 := by rw [st2_o _ _ _ (by omega), st2_o _ _ _ (by omega)]
    have k8 : (st2 (st2 I a 5 (wthr (cwho (I a)))) a 1 (cdamp r (cwho (I a)) (I a 1))) a 8 = I a 8 := by rw [st2_o _ _ _ (by omega), st2_o _ _ _ (by omega)]
    rw [k6, k5, k7, k8]
    by_cases q : 20 < I a 6
    · rw [if_pos q, if_pos q, if_pos q, ← k7, st2_same, ← k8, st2_same]
    · rw [if_neg q, if_neg q, if_neg q]
  simp only [m_X0_passDay, opv_eq]
  rw [e2]
  generalize hB : st2 (st2 (st2 (st2 I a 5 (wthr (cwho (I a)))) a 1 (cdamp r (cwho (I a)) (I a 1))) a 7 (cwet (I a) (wthr (cwho (I a))))) a 8 (cfine (I a) (wthr (cwho (I a)))) = B
  have hT : TR B r t := by
    rw [← hB]
    exact TR.st (TR.st (TR.st (TR.st hT0 (Or.inl ha)) (Or.inl ha)) (Or.inl ha)) (Or.inl ha)
  have b0 : B a 0 = I a 0 := by rw [← hB, st2_o _ _ _ (by omega), st2_o _ _ _ (by omega), st2_o _ _ _ (by omega), st2_o _ _ _ (by omega)]
  have b1 : B a 1 = cdamp r (cwho (I a)) (I a 1) := by rw [← hB, st2_o _ _ _ (by omega), st2_o _ _ _ (by omega), st2_s]
  have b2 : B a 2 = I a 2 := by rw [← hB, st2_o _ _ _ (by omega), st2_o _ _ _ (by omega), st2_o _ _ _ (by omega), st2_o _ _ _ (by omega)]
  have b3 : B a 3 = I a 3 := by rw [← hB, st2_o _ _ _ (by omega), st2_o _ _ _ (by omega), st2_o _ _ _ (by omega), st2_o _ _ _ (by omega)]
  have b4 : B a 4 = I a 4 := by rw [← hB, st2_o _ _ _ (by omega), st2_o _ _ _ (by omega), st2_o _ _ _ (by omega), st2_o _ _ _ (by omega)]
  have b6 : B a 6 = I a 6 := by rw [← hB, st2_o _ _ _ (by omega), st2_o _ _ _ (by omega), st2_o _ _ _ (by omega), st2_o _ _ _ (by omega)]
  have eA : f_X0_turned B a ((f_X0_pullOfDamp B (B a 1)) + (f_X8_pullOfVents B t (B a 4))) (B a 1) = cang r (I a) := by
    rw [c_pullOfVents hT hb]
    simp only [f_X0_turned, f_X0_reach, u0_X0_reach, f_X0_pullOfDamp, opv_eq, b0, b1, b2, b3, b4]
    rfl
  rw [eA, b6, ← hB]
  funext x j
  by_cases hx : x = a
  · subst hx
    rw [vu_s]
    match j with
    | 0 => simp [st2, va_up, cday]
    | 1 => simp [st2, va_up, cday]
    | 2 => simp [st2, va_up, cday]
    | 3 => simp [st2, va_up, cday]
    | 4 => simp [st2, va_up, cday]
    | 5 => simp [st2, va_up, cday]
    | 6 => simp [st2, va_up, cday]
    | 7 => simp [st2, va_up, cday]
    | 8 => simp [st2, va_up, cday]
    | n + 9 => simp [st2, va_up, cday]
  · rw [st2_a _ _ hx, st2_a _ _ hx, st2_a _ _ hx, st2_a _ _ hx, st2_a _ _ hx, st2_a _ _ hx, st2_a _ _ hx, vu_o _ _ hx]
theorem bound_eq (x : Int32) : imax (-9) (imin 9 x) = mbound x := by
  rw [fa_eq]
  rw [imax_toInt, imin_toInt, mbound]
  split
  · rename_i h
    rw [fa_le] at h
    split
    · rename_i h2
      rw [fa_le] at h2
      rw [ti9, tim9] at *
      omega
    · rename_i h2
      rw [fa_le] at h2
      rw [ti9, tim9] at *
      omega
  · rename_i h
    rw [fa_le] at h
    rw [ti9, tim9] at *
    omega
theorem bound_bw (x : Int32) : bw (mbound x) (-9) 9 := by
  rw [← bound_eq, bw, imax_toInt, imin_toInt, ti9, tim9]
  omega
theorem step_eq {damp oil wood : Int32} (ho : bw oil 0 3) : creach damp oil wood = mstep damp oil wood ∧ bw (mstep damp oil wood) 0 4 := by
  have h1 : (1 + oil).toInt = 1 + oil.toInt := by
    have := ho.1; have := ho.2
    rw [fb_addI (by rw [ti1]; omega) (by rw [ti1]; omega), ti1]
  have h2 : (1 + oil - 1).toInt = oil.toInt := by
    have := ho.1; have := ho.2
    rw [fb_subI (by rw [ti1, h1]; omega) (by rw [ti1, h1]; omega), ti1, h1]
    omega
  have h3 : (1 + oil - 0).toInt = 1 + oil.toInt := by
    rw [Int32.sub_zero, h1]
  unfold creach mstep
  have := ho.1; have := ho.2
  by_cases q : damp < (100 - (10 * wood))
  · rw [if_pos q, if_pos q]
    rw [show b2i false = 0 from rfl, if_pos (by rw [fa_le, ti0, h3]; omega), Int32.sub_zero]
    refine ⟨rfl, ?_⟩
    rw [bw, h1]
    omega
  · rw [if_neg q, if_neg q]
    rw [show b2i true = 1 from rfl, if_pos (by rw [fa_le, ti0, h2]; omega)]
    refine ⟨?_, ?_⟩
    · rw [fa_eq, imax_toInt, h2, ti0]
      omega
    · rw [bw, h2]
      omega
theorem near_eq {a p s : Int32} (ha : bw a (-9) 9) (hs : bw s 0 4) : cturn a p s = mnear a (mbound p) s ∧ bw (mnear a (mbound p) s) (-9) 9 := by
  have hb := bound_bw p
  have := ha.1; have := ha.2; have := hb.1; have := hb.2; have := hs.1; have := hs.2
  have h1 : (mbound p - a).toInt = (mbound p).toInt - a.toInt := fb_subI (by omega) (by omega)
  have h2 : (-s).toInt = -s.toInt := fb_negI (by omega)
  have key : imax (-s) (imin s (mbound p - a)) = (if (mbound p - a) ≤ s then (if (-s) ≤ (mbound p - a) then mbound p - a else -s) else s) := by
    rw [fa_eq, imax_toInt, imin_toInt]
    split
    · rename_i q
      rw [fa_le] at q
      split
      · rename_i q2
        rw [fa_le] at q2
        omega
      · rename_i q2
        rw [fa_le] at q2
        omega
    · rename_i q
      rw [fa_le] at q
      omega
  have e : cturn a p s = mnear a (mbound p) s := by
    unfold cturn mnear
    rw [bound_eq, key]
  refine ⟨e, ?_⟩
  rw [← e]
  unfold cturn
  rw [bound_eq]
  have h3 : (imax (-s) (imin s (mbound p - a))).toInt = max (-s.toInt) (min s.toInt ((mbound p).toInt - a.toInt)) := by
    rw [imax_toInt, imin_toInt, h1, h2]
  rw [bw, fb_addI (by rw [h3]; omega) (by rw [h3]; omega), h3]
  omega
theorem who_bw (v : Vc) : pwho v = 0 ∨ pwho v = 1 ∨ pwho v = 2 ∨ pwho v = 3 := by
  unfold pwho
  by_cases h1 : v 0 < 3 - v 2
  · by_cases h2 : -(v 0) < 3 - v 2
    · rw [if_pos h1, if_pos h2]; left; rfl
    · rw [if_pos h1, if_neg h2]; right; right; left; rfl
  · by_cases h2 : -(v 0) < 3 - v 2
    · rw [if_neg h1, if_pos h2]; right; left; rfl
    · rw [if_neg h1, if_neg h2]; right; right; right; rfl
theorem wthr_bw (x : Int32) : wthr x = 0 ∨ wthr x = 1 ∨ wthr x = 2 := by
  unfold wthr
  split
  · right; left; rfl
  · split
    · right; right; rfl
    · left; rfl
theorem damp_eq {r : Vc} (hb : RB r) {who d : Int32} (hd : bw d 0 100) : cdamp r who d = mdamp r who d ∧ bw (mdamp r who d) 0 100 := by
  have h3 := hb.2.2.2.1
  have h4 := hb.2.2.2.2.1
  have := hd.1; have := hd.2; have := h3.1; have := h3.2; have := h4.1; have := h4.2
  have e3 : (d + r 3).toInt = d.toInt + (r 3).toInt := fb_addI (by omega) (by omega)
  have e4 : (d - r 4).toInt = d.toInt - (r 4).toInt := fb_subI (by omega) (by omega)
  have e5 : (-(r 4)).toInt = -(r 4).toInt := fb_negI (by omega)
  have e6 : (d + -(r 4)).toInt = d.toInt - (r 4).toInt := by
    rw [fb_addI (by rw [e5]; omega) (by rw [e5]; omega), e5]
    omega
  have t100 := ti100
  have t0 := ti0
  by_cases q1 : who = 1
  · subst q1
    unfold cdamp mdamp
    rw [show wthr 1 = 1 from rfl, if_pos rfl, if_pos rfl]
    refine ⟨?_, ?_⟩
    · rw [fa_eq, imin_toInt]
      split
      · rename_i q; rw [fa_le] at q
        split
        · omega
        · rename_i q2; rw [fa_le] at q2
          omega
      · rename_i q; rw [fa_le] at q
        omega
    · unfold bw
      split
      · rename_i q; rw [fa_le] at q
        split
        · omega
        · rename_i q2; rw [fa_le] at q2
          omega
      · rename_i q; rw [fa_le] at q
        omega
  · by_cases q2 : who = 2
    · subst q2
      have m2 : (if (2 : Int32) = 1 then r 3 else (if (2 : Int32) = 2 then -(r 4) else 0)) = -(r 4) := by rw [if_neg (by decide), if_pos rfl]
      have c2 : (if (2 : Int32) = 1 then imin 100 (d + r 3) else (if (2 : Int32) = 2 then imax 0 (d - r 4) else d)) = imax 0 (d - r 4) := by rw [if_neg (by decide), if_pos rfl]
      unfold cdamp mdamp
      rw [show wthr 2 = 2 from rfl, m2, c2]
      refine ⟨?_, ?_⟩
      · rw [fa_eq, imax_toInt]
        split
        · rename_i q; rw [fa_le] at q
          split
          · rename_i q2; rw [fa_le] at q2
            omega
          · rename_i q2; rw [fa_le] at q2
            omega
        · rename_i q; rw [fa_le] at q
          omega
      · unfold bw
        split
        · rename_i q; rw [fa_le] at q
          split
          · rename_i q2; rw [fa_le] at q2
            omega
          · omega
        · rename_i q; rw [fa_le] at q
          omega
    · have w0 : wthr who = 0 := by unfold wthr; rw [if_neg q1, if_neg q2]
      unfold cdamp mdamp
      rw [w0, if_neg (by decide), if_neg (by decide), if_neg q1, if_neg q2, Int32.add_zero, if_pos (by rw [fa_le]; omega), if_pos (by rw [fa_le]; omega)]
      exact ⟨rfl, hd⟩
theorem mkept_bit (r : Vc) (d l : Int32) : ∀ (c j : Nat) (acc : Int32) (k : Nat), j + c ≤ 32 → k < 32 → bt (mkept r d l c j acc) k = (bt acc k || (decide (j ≤ k) && decide (k < j + c) && (decide (r (25 + 3 * k) = d) && decide (r (25 + 3 * k + 1) = l)))) := by
  intro c
  induction c with
  | zero =>
    intro j acc k h1 h2
    have : (decide (j ≤ k) && decide (k < j + 0)) = false := by
      simp
    rw [mkept, this]
    simp
  | succ c ih =>
    intro j acc k h1 h2
    rw [mkept, ih (j + 1) _ k (by omega) h2, b_or]
    have hz : bt (if r (25 + 3 * j) = d then (if r (25 + 3 * j + 1) = l then (1 : Int32) <<< (nI j &&& 31) else 0) else 0) k = (decide (j = k) && (decide (r (25 + 3 * k) = d) && decide (r (25 + 3 * k + 1) = l))) := by
      by_cases e : j = k
      · subst e
        by_cases q1 : r (25 + 3 * j) = d
        · by_cases q2 : r (25 + 3 * j + 1) = l
          · rw [if_pos q1, if_pos q2, b_one (by omega) h2]; simp [q1, q2]
          · rw [if_pos q1, if_neg q2, b_0]; simp [q2]
        · rw [if_neg q1, b_0]; simp [q1]
      · have : (decide (j = k) && (decide (r (25 + 3 * k) = d) && decide (r (25 + 3 * k + 1) = l))) = false := by simp [e]
        rw [this]
        split
        · split
          · rw [b_one (by omega) h2]; simp [e]
          · exact b_0 k
        · exact b_0 k
    rw [hz]
    by_cases e : j = k
    · subst e
      have : ¬ (j + 1 ≤ j) := by omega
      simp [this]
    · by_cases e2 : j ≤ k
      · have h3 : j + 1 ≤ k := by omega
        have h4 : (k < j + 1 + c) ↔ (k < j + (c + 1)) := by omega
        simp [e, e2, h3, h4]
      · have h3 : ¬ j + 1 ≤ k := by omega
        simp [e, e2, h3]
def kb (r : Vc) (b : Vc) (k : Nat) : Bool := decide ((r (25 + 3 * k)).toInt < (b 6).toInt) && bt (if r (25 + 3 * k + 1) = 1 then b 7 else b 8) (r (25 + 3 * k)).toNatClampNeg
def KR (r : Vc) (b v : Vc) : Prop := (∀ k, k < (r 6).toNatClampNeg → bt (v 6) k = kb r b k) ∧ (∀ d : Nat, (b 6).toInt ≤ d → d ≤ 20 → bt (b 7) d = false ∧ bt (b 8) d = false)
/-- a beam of the class against a row of the model -/
def BR (r : Vc) (wood : Int32) (D : Nat) (b v : Vc) : Prop := b 0 = v 0 ∧ b 1 = v 1 ∧ b 2 = wood ∧ b 3 = v 2 ∧ b 4 = v 3 ∧ b 5 = v 5 ∧ b 6 = v 4 ∧ bw (b 0) (-9) 9 ∧ bw (b 1) 0 100 ∧ bw (b 3) 0 3 ∧ bw (b 6) 0 D ∧ bw (b 5) 0 2 ∧ KR r b v
theorem BR.who {r : Vc} {wood : Int32} {D : Nat} {b v : Vc} (h : BR r wood D b v) : cwho b = pwho v := by
  unfold cwho pwho
  rw [h.1, h.2.2.2.1]
theorem and31 {n : Nat} (h : n < 32) : nI n &&& 31 = nI n := by
  have := (by decide +kernel : ∀ n, n < 32 → nI n &&& 31 = nI n)
  exact this n h
theorem cday_0 (r b : Vc) : cday r b 0 = cang r b := by simp [cday]
theorem cday_1 (r b : Vc) : cday r b 1 = cdamp r (cwho b) (b 1) := by simp [cday]
theorem cday_2 (r b : Vc) : cday r b 2 = b 2 := by simp [cday]
theorem cday_3 (r b : Vc) : cday r b 3 = b 3 := by simp [cday]
theorem cday_4 (r b : Vc) : cday r b 4 = 0 := by simp [cday]
theorem cday_5 (r b : Vc) : cday r b 5 = wthr (cwho b) := by simp [cday]
theorem cday_6 (r b : Vc) : cday r b 6 = b 6 + 1 := by simp [cday]
theorem cday_7 (r b : Vc) : cday r b 7 = cwet b (wthr (cwho b)) := by simp [cday]
theorem cday_8 (r b : Vc) : cday r b 8 = cfine b (wthr (cwho b)) := by simp [cday]
theorem mday_0 (r : Vc) (wood : Int32) (v : Vc) : mday r wood v 0 = mang r wood v := by simp [mday]
theorem mday_1 (r : Vc) (wood : Int32) (v : Vc) : mday r wood v 1 = mdamp r (pwho v) (v 1) := by simp [mday]
theorem mday_2 (r : Vc) (wood : Int32) (v : Vc) : mday r wood v 2 = v 2 := by simp [mday]
theorem mday_3 (r : Vc) (wood : Int32) (v : Vc) : mday r wood v 3 = 0 := by simp [mday]
theorem mday_4 (r : Vc) (wood : Int32) (v : Vc) : mday r wood v 4 = v 4 + 1 := by simp [mday]
theorem mday_5 (r : Vc) (wood : Int32) (v : Vc) : mday r wood v 5 = wthr (pwho v) := by simp [mday]
theorem mday_6 (r : Vc) (wood : Int32) (v : Vc) : mday r wood v 6 = mkept r (v 4) (wthr (pwho v)) (r 6).toNatClampNeg 0 (v 6) := by simp [mday]
theorem day_kr1 {r : Vc} {wood : Int32} {D : Nat} {b v : Vc} (hb : RB r) (hD : D < 1000000) (hw : cwho b = pwho v) (h6 : b 6 = v 4) (g6 : bw (b 6) 0 D) (hk : ∀ k, k < (r 6).toNatClampNeg → bt (v 6) k = kb r b k) (hz : ∀ d : Nat, (b 6).toInt ≤ d → d ≤ 20 → bt (b 7) d = false ∧ bt (b 8) d = false) : ∀ k, k < (r 6).toNatClampNeg → bt (mday r wood v 6) k = kb r (cday r b) k := by
  have n6 := bw_nI (hi := D) g6
  have d6 : (b 6 + 1).toInt = (b 6).toInt + 1 := by
    have := g6.1; have := g6.2
    rw [fb_addI (by rw [ti1]; omega) (by rw [ti1]; omega), ti1]
  have i6 := clampI g6.1
  intro k hk6
  have hP := hb.nP
  have hpl := hb.plan hk6
  have old := hk k hk6
  rw [mday_6, mkept_bit r _ _ _ 0 _ k (by omega) (by omega), old]
  have c6 := cday_6 r b
  have c7 := cday_7 r b
  have c8 := cday_8 r b
  unfold kb
  rw [c6, c7, c8, d6]
  have i25 := clampI hpl.1.1
  have b25 := hpl.1.2
  generalize hdd : (r (25 + 3 * k)).toNatClampNeg = dd at *
  have hdd20 : dd ≤ 20 := by omega
  rcases Nat.lt_trichotomy dd (b 6).toNatClampNeg with q | q | q
  · -- a day gone by
    have x1 : (r (25 + 3 * k)).toInt < (b 6).toInt := by omega
    have x2 : (r (25 + 3 * k)).toInt < (b 6).toInt + 1 := by omega
    have x3 : ¬ r (25 + 3 * k) = v 4 := by
      rw [← h6, fa_eq]; omega
    have w7 : bt (cwet b (wthr (cwho b))) dd = bt (b 7) dd := by
      unfold cwet
      split
      · rfl
      · rename_i q20
        rw [fa_lt, ti20] at q20
        rw [b_or]
        split
        · rw [n6.1, b_one (by omega) (by omega)]
          have : ¬ (b 6).toNatClampNeg = dd := by omega
          simp [this]
        · rw [b_0]; simp
    have w8 : bt (cfine b (wthr (cwho b))) dd = bt (b 8) dd := by
      unfold cfine
      split
      · rfl
      · rename_i q20
        rw [fa_lt, ti20] at q20
        rw [b_or]
        split
        · rw [n6.1, b_one (by omega) (by omega)]
          have : ¬ (b 6).toNatClampNeg = dd := by omega
          simp [this]
        · rw [b_0]; simp
    by_cases y : r (25 + 3 * k + 1) = 1
    · simp [x1, x2, x3, y, w7]
    · simp [x1, x2, x3, y, w8]
  · -- this day
    have x1 : ¬ (r (25 + 3 * k)).toInt < (b 6).toInt := by omega
    have x2 : (r (25 + 3 * k)).toInt < (b 6).toInt + 1 := by omega
    have x3 : r (25 + 3 * k) = v 4 := by
      rw [← h6, fa_eq]; omega
    have z := hz dd (by omega) hdd20
    have q20 : ¬ (20 : Int32) < b 6 := by rw [fa_lt, ti20]; omega
    have w7 : bt (cwet b (wthr (cwho b))) dd = decide (wthr (cwho b) = 1) := by
      unfold cwet
      rw [if_neg q20, b_or, z.1]
      split
      · rename_i y; rw [n6.1, b_one (by omega) (by omega)]; simp [q, y]
      · rename_i y; rw [b_0]; simp [y]
    have w8 : bt (cfine b (wthr (cwho b))) dd = decide (wthr (cwho b) = 2) := by
      unfold cfine
      rw [if_neg q20, b_or, z.2]
      split
      · rename_i y; rw [n6.1, b_one (by omega) (by omega)]; simp [q, y]
      · rename_i y; rw [b_0]; simp [y]
    have l2 : r (25 + 3 * k + 1) = 1 ∨ r (25 + 3 * k + 1) = 2 := by
      have := hpl.2.1.1; have := hpl.2.1.2
      rw [fa_eq, fa_eq, ti1, ti2]
      omega
    rw [← hw]
    rcases l2 with y | y
    · rw [y, if_pos rfl, if_pos rfl, w7]
      have : ((1 : Int32) = wthr (cwho b)) ↔ (wthr (cwho b) = 1) := eq_comm
      rw [decide_eq_false x1, decide_eq_true x2]
      simp [x3, hk6, this]
    · rw [y, if_neg (by decide), if_neg (by decide), w8]
      have : ((2 : Int32) = wthr (cwho b)) ↔ (wthr (cwho b) = 2) := eq_comm
      rw [decide_eq_false x1, decide_eq_true x2]
      simp [x3, hk6, this]
  · -- a later day
    have x1 : ¬ (r (25 + 3 * k)).toInt < (b 6).toInt := by omega
    have x2 : ¬ (r (25 + 3 * k)).toInt < (b 6).toInt + 1 := by omega
    have x3 : ¬ r (25 + 3 * k) = v 4 := by
      rw [← h6, fa_eq]; omega
    simp [x1, x2, x3]
theorem day_kr2 {r : Vc} {D : Nat} {b : Vc} (hD : D < 1000000) (g6 : bw (b 6) 0 D) (hz : ∀ d : Nat, (b 6).toInt ≤ d → d ≤ 20 → bt (b 7) d = false ∧ bt (b 8) d = false) : ∀ d : Nat, (cday r b 6).toInt ≤ d → d ≤ 20 → bt (cday r b 7) d = false ∧ bt (cday r b 8) d = false := by
  have n6 := bw_nI (hi := D) g6
  have d6 : (b 6 + 1).toInt = (b 6).toInt + 1 := by
    have := g6.1; have := g6.2
    rw [fb_addI (by rw [ti1]; omega) (by rw [ti1]; omega), ti1]
  have i6 := clampI g6.1
  intro d hd1 hd2
  have c6 := cday_6 r b
  rw [c6, d6] at hd1
  have z := hz d (by omega) hd2
  have c7 := cday_7 r b
  have c8 := cday_8 r b
  have q20 : ¬ (20 : Int32) < b 6 := by rw [fa_lt, ti20]; omega
  have ne : ¬ (b 6).toNatClampNeg = d := by omega
  rw [c7, c8]
  unfold cwet cfine
  rw [if_neg q20, if_neg q20, b_or, b_or, z.1, z.2]
  constructor
  · split
    · rw [n6.1, b_one (by omega) (by omega)]; simp [ne]
    · rw [b_0]; rfl
  · split
    · rw [n6.1, b_one (by omega) (by omega)]; simp [ne]
    · rw [b_0]; rfl
theorem day_rel {r : Vc} {wood : Int32} {D : Nat} {b v : Vc} (hb : RB r) (hD : D < 1000000) (h : BR r wood D b v) : BR r wood (D + 1) (cday r b) (mday r wood v) := by
  have hw := h.who
  obtain ⟨h0, h1, h2, h3, h4, h5, h6, g0, g1, g3, g6, g5, hk, hz⟩ := h
  have hd := damp_eq hb (who := pwho v) (d := v 1) (by rw [← h1]; exact g1)
  have hs := step_eq (damp := mdamp r (pwho v) (v 1)) (oil := v 2) (wood := wood) (by rw [← h3]; exact g3)
  have ha := near_eq (a := v 0) (p := pullS r (v 3) (r 5).toNatClampNeg 0 ((mdamp r (pwho v) (v 1) - 50) / 10)) (by rw [← h0]; exact g0) hs.2
  have hp : ((mdamp r (pwho v) (v 1) - 50) / 10) + pullS r (v 3) (r 5).toNatClampNeg 0 0 = pullS r (v 3) (r 5).toNatClampNeg 0 ((mdamp r (pwho v) (v 1) - 50) / 10) := by
    rw [← pullS_add, Int32.add_zero]
  have e0 : cang r b = mang r wood v := by
    unfold cang mang
    rw [hw, h0, h1, h2, h3, h4, hd.1, hp, hs.1, ha.1]
  have e1 : cdamp r (cwho b) (b 1) = mdamp r (pwho v) (v 1) := by rw [hw, h1, hd.1]
  have k1 := day_kr1 (wood := wood) hb hD hw h6 g6 hk hz
  have k2 := day_kr2 (r := r) hD g6 hz
  have e6 : bw (b 6 + 1) 0 ((D + 1 : Nat) : Int) := by
    have := g6.1; have := g6.2
    unfold bw
    rw [fb_addI (by rw [ti1]; omega) (by rw [ti1]; omega), ti1]
    omega
  have e5 : bw (wthr (cwho b)) 0 2 := by
    rcases wthr_bw (cwho b) with q | q | q <;> rw [q] <;> unfold bw <;> decide
  have ea : bw (mang r wood v) (-9) 9 := ha.2
  unfold BR
  rw [cday_0, cday_1, cday_2, cday_3, cday_4, cday_5, mday_0, mday_1, mday_2, mday_3, mday_4, mday_5]
  refine ⟨e0, e1, h2, h3, rfl, by rw [hw], by rw [cday_6, h6], by rw [e0]; exact ea, by rw [e1]; exact hd.2, g3, by rw [cday_6]; exact e6, e5, k1, k2⟩
