/-- the told data of the model, in bounds -/
def RB (r : Vc) : Prop := bw (r 0) 0 9 ∧ bw (r 1) 0 3 ∧ bw (r 2) 0 100 ∧ bw (r 3) 0 30 ∧ bw (r 4) 0 30 ∧ bw (r 5) 0 4 ∧ bw (r 6) 0 6 ∧ bw (r 7) 0 5 ∧ bw (r 8) 0 6 ∧ bw (r 9) 0 9 ∧ bw (r 10) 0 100 ∧ (∀ k, k < (r 5).toNatClampNeg → bw (r (13 + 3 * k)) 1 2 ∧ bw (r (13 + 3 * k + 1)) 1 9 ∧ bw (r (13 + 3 * k + 2)) 0 99) ∧ (∀ k, k < (r 6).toNatClampNeg → bw (r (25 + 3 * k)) 0 20 ∧ bw (r (25 + 3 * k + 1)) 1 2 ∧ bw (r (25 + 3 * k + 2)) 0 99) ∧ (∀ k, k < (r 7).toNatClampNeg → bw (r (43 + 2 * k)) 0 20 ∧ bw (r (43 + 2 * k + 1)) 0 3) ∧ (∀ k, k < (r 9).toNatClampNeg → bw (r (53 + 3 * k)) 0 ((r 8).toInt - 1) ∧ bw (r (53 + 3 * k + 1)) 0 ((r 8).toInt - 1) ∧ bw (r (53 + 3 * k + 2)) 1 99)
/-- a table of the class against a stretch of the model's -/
def TB (I : Mm) (r : Vc) (c n w room off : Nat) : Prop := I c 0 = nI room ∧ I c 1 = nI w ∧ I c 3 = nI n ∧ n ≤ room ∧ sz (rt c 2) = room * w ∧ rt c 2 = c + 1 ∧ ∀ j, j < n * w → I (c + 1) j = r (off + j)
def TR (I : Mm) (r : Vc) (t : Nat) : Prop := (t = 3 ∨ t = 14) ∧ I t 0 = r 10 ∧ I t 1 = r 0 ∧ I t 2 = r 1 ∧ I t 3 = r 2 ∧ I t 4 = r 3 ∧ I t 5 = r 4 ∧ I t 6 = r 8 ∧ TB I r (t + 1) (r 5).toNatClampNeg 3 4 13 ∧ TB I r (t + 3) (r 6).toNatClampNeg 3 6 25 ∧ TB I r (t + 5) (r 7).toNatClampNeg 2 5 43 ∧ TB I r (t + 7) (r 9).toNatClampNeg 3 9 53
theorem rt_7 {t : Nat} (h : t = 3 ∨ t = 14) : rt t 7 = t + 1 := by rcases h with rfl | rfl <;> rfl
theorem rt_8 {t : Nat} (h : t = 3 ∨ t = 14) : rt t 8 = t + 3 := by rcases h with rfl | rfl <;> rfl
theorem rt_9 {t : Nat} (h : t = 3 ∨ t = 14) : rt t 9 = t + 5 := by rcases h with rfl | rfl <;> rfl
theorem rt_10 {t : Nat} (h : t = 3 ∨ t = 14) : rt t 10 = t + 7 := by rcases h with rfl | rfl <;> rfl
theorem td_or (w : Bool) : td w = 3 ∨ td w = 14 := by cases w <;> simp [td]
theorem dr_or (w : Bool) : dr w = 3 ∨ dr w = 14 := by cases w <;> simp [dr]
theorem TR.congr {I I' : Mm} {r : Vc} {t : Nat} (h : TR I r t) (he : ∀ a, 3 ≤ a → a ≤ 22 → a ≠ 12 → a ≠ 13 → I' a = I a) : TR I' r t := by
  obtain ⟨ht, h0, h1, h2, h3, h4, h5, h6, hv, hp, hs, hd⟩ := h
  have key : ∀ c n w room off, 3 ≤ c → c + 1 ≤ 22 → c ≠ 12 → c ≠ 13 → c + 1 ≠ 12 → c + 1 ≠ 13 → TB I r c n w room off → TB I' r c n w room off := by
    intro c n w room off g1 g2 g3 g4 g5 g6 g
    unfold TB at g ⊢
    rw [he c g1 (by omega) g3 g4, he (c + 1) (by omega) g2 g5 g6]
    exact g
  have e := he t (by omega) (by omega) (by omega) (by omega)
  refine ⟨ht, by rw [e]; exact h0, by rw [e]; exact h1, by rw [e]; exact h2, by rw [e]; exact h3, by rw [e]; exact h4, by rw [e]; exact h5, by rw [e]; exact h6, key _ _ _ _ _ (by omega) (by omega) (by omega) (by omega) (by omega) (by omega) hv, key _ _ _ _ _ (by omega) (by omega) (by omega) (by omega) (by omega) (by omega) hp, key _ _ _ _ _ (by omega) (by omega) (by omega) (by omega) (by omega) (by omega) hs, key _ _ _ _ _ (by omega) (by omega) (by omega) (by omega) (by omega) (by omega) hd⟩
theorem TR.up {I : Mm} {r : Vc} {t a : Nat} {f : Vc} (h : TR I r t) (ha : 22 < a ∨ a < 3 ∨ a = 12 ∨ a = 13) : TR (va_up I a f) r t := h.congr fun b h1 h2 h3 h4 => vu_o I f (by omega)
theorem TR.st {I : Mm} {r : Vc} {t a j : Nat} {x : Int32} (h : TR I r t) (ha : 22 < a ∨ a < 3 ∨ a = 12 ∨ a = 13) : TR (st2 I a j x) r t := h.congr fun b h1 h2 h3 h4 => st2_orow I j x (by omega)
theorem kp_told {a : Nat} (h1 : 3 ≤ a) (h2 : a ≤ 22) (h3 : a ≠ 12) (h4 : a ≠ 13) (j : Nat) : kp a j = true := by
  unfold kp
  rw [if_neg (by omega), if_neg (by omega), if_neg (by omega)]
  have : a ≤ 11 ∨ 14 ≤ a := by omega
  rcases this with q | q
  · simp [h1, q]
  · have : a ≤ 45 := by omega
    simp [q, this]
theorem TR.fr {I I' : Mm} {r : Vc} {t : Nat} (h : TR I r t) (hf : Fr I I') : TR I' r t := h.congr fun a h1 h2 h3 h4 => hf.row (kp_told h1 h2 h3 h4)
theorem cell_in {I : Mm} {r : Vc} {c n w room off k j : Nat} (h : TB I r c n w room off) (hr : room * w < 1000) (hk : k < n) (hj : j < w) : f_X7_cell I c (nI k) (nI j) = r (off + (k * w + j)) := by
  obtain ⟨h0, h1, h3, h4, h5, h6, h7⟩ := h
  have e1 : k * w + j < n * w := by
    have := Nat.mul_le_mul_right w (show k + 1 ≤ n by omega)
    rw [Nat.add_mul] at this
    omega
  have e2 : n * w ≤ room * w := Nat.mul_le_mul_right w h4
  have e3 : n ≤ n * w := Nat.le_mul_of_pos_right n (by omega)
  have e4 : w ≤ n * w := Nat.le_mul_of_pos_left w (by omega)
  simp only [f_X7_cell, u1_X7_cell, u0_X7_cell, f_X7_holds, u0_X7_holds, opv_eq]
  rw [h3, h1, h5, if_neg (nI_pos (by omega)), if_neg (nI_ge hk (by omega)), if_pos rfl, if_neg (nI_pos (by omega)), if_neg (nI_ge hj (by omega)), if_pos rfl, pk_mul, nI_add, if_neg (nI_pos (by omega)), show Int32.ofNat (room * w) = nI (room * w) from rfl, if_neg (nI_ge (show k * w + j < room * w by omega) (by omega)), nI_clamp (by omega), h6, h7 _ e1]
theorem cell_out {I : Mm} {r : Vc} {c n w room off k : Nat} {x : Int32} (h : TB I r c n w room off) (hk : n ≤ k) (hk2 : k < 2 ^ 31) : f_X7_cell I c (nI k) x = 0 := by
  obtain ⟨h0, h1, h3, h4, h5, h6, h7⟩ := h
  simp only [f_X7_cell, u1_X7_cell, u0_X7_cell, f_X7_holds, u0_X7_holds, opv_eq]
  rw [h3, if_neg (nI_pos (by omega)), if_pos (nI_le hk (by omega))]
  simp
theorem cell_neg {I : Mm} {c : Nat} {x y : Int32} (h : y < 0) : f_X7_cell I c y x = 0 := by
  simp only [f_X7_cell, u1_X7_cell, u0_X7_cell, f_X7_holds, u0_X7_holds, opv_eq]
  rw [if_pos h]
  simp
def vS (r : Vc) (k : Nat) : Int32 := if r (13 + 3 * k) = 1 then r (13 + 3 * k + 1) else -(r (13 + 3 * k + 1))
def pullS (r : Vc) (o : Int32) : Nat → Nat → Int32 → Int32
  | 0, _, acc => acc
  | c + 1, j, acc => pullS r o c (j + 1) (if bt o j = true then acc + vS r j else acc)
theorem pullS_add (r : Vc) (o x : Int32) : ∀ (c j : Nat) (acc : Int32), pullS r o c j (x + acc) = x + pullS r o c j acc := by
  intro c
  induction c with
  | zero => intro j acc; rfl
  | succ c ih =>
    intro j acc
    rw [pullS, pullS]
    by_cases h : bt o j = true
    · rw [if_pos h, if_pos h, Int32.add_assoc, ih]
    · rw [if_neg h, if_neg h, ih]
theorem c_pull {I : Mm} {r : Vc} {t : Nat} (h : TR I r t) (hb : RB r) (o : Int32) : ∀ (c j : Nat) (acc : Int32), j + c = (r 5).toNatClampNeg → (lp_X8_pullOfVents_4 I t o (c + 1) acc (nI j)).1 = pullS r o c j acc := by
  have hv := h.2.2.2.2.2.2.2.2.1
  have hn : (r 5).toNatClampNeg ≤ 4 := (bw_nI (hi := 4) hb.2.2.2.2.2.1).2
  have ht := rt_7 h.1
  intro c
  induction c with
  | zero =>
    intro j acc hj
    rw [lp_X8_pullOfVents_4, ht, hv.2.2.1, if_pos (nI_le (by omega) (by omega))]
    rfl
  | succ c ih =>
    intro j acc hj
    rw [lp_X8_pullOfVents_4, ht, hv.2.2.1, if_neg (nI_ge (by omega) (by omega)), nI_1, ih (j + 1) _ (by omega), pullS]
    congr 1
    simp only [u1_X8_pullOfVents, u0_X8_pullOfVents, opv_eq, ht]
    rw [show (0 : Int32) = nI 0 from rfl, show f_X7_cell I (t + 1) (nI j) 1 = f_X7_cell I (t + 1) (nI j) (nI 1) from rfl, cell_in hv (by omega) (by omega) (by omega), cell_in hv (by omega) (by omega) (by omega)]
    have e1 : 13 + (j * 3 + 0) = 13 + 3 * j := by omega
    have e2 : 13 + (j * 3 + 1) = 13 + 3 * j + 1 := by omega
    rw [e1, e2]
    by_cases q : bt o j = true
    · rw [if_pos ((bit_at o (by omega)).mpr q), if_pos q]; rfl
    · rw [if_neg (fun z => q ((bit_at o (by omega)).mp z)), if_neg q]
theorem c_pullOfVents {I : Mm} {r : Vc} {t : Nat} (h : TR I r t) (hb : RB r) (o : Int32) : f_X8_pullOfVents I t o = pullS r o (r 5).toNatClampNeg 0 0 := by
  have hv := h.2.2.2.2.2.2.2.2.1
  have hn : (r 5).toNatClampNeg ≤ 4 := (bw_nI (hi := 4) hb.2.2.2.2.2.1).2
  rw [f_X8_pullOfVents, opv_eq, rt_7 h.1, hv.2.2.1]
  rw [show (0 : Int32) = nI 0 from rfl, mu_up_nI (by omega) (by omega), c_pull h hb o _ 0 _ (by omega)]
  rfl
theorem ix13 {k : Nat} (h : k < 1000) : ((13 : Int32) + 3 * nI k).toNatClampNeg = 13 + 3 * k := by
  show (nI 13 + nI 3 * nI k).toNatClampNeg = _
  rw [pk_mul, nI_add, nI_clamp (by omega)]
theorem ix13a {k c : Nat} (h : k < 1000) (hc : c < 10) : (((13 : Int32) + 3 * nI k) + nI c).toNatClampNeg = 13 + 3 * k + c := by
  show ((nI 13 + nI 3 * nI k) + nI c).toNatClampNeg = _
  rw [pk_mul, nI_add, nI_add, nI_clamp (by omega)]
theorem ix25 {k : Nat} (h : k < 1000) : ((25 : Int32) + 3 * nI k).toNatClampNeg = 25 + 3 * k := by
  show (nI 25 + nI 3 * nI k).toNatClampNeg = _
  rw [pk_mul, nI_add, nI_clamp (by omega)]
theorem ix25a {k c : Nat} (h : k < 1000) (hc : c < 10) : (((25 : Int32) + 3 * nI k) + nI c).toNatClampNeg = 25 + 3 * k + c := by
  show ((nI 25 + nI 3 * nI k) + nI c).toNatClampNeg = _
  rw [pk_mul, nI_add, nI_add, nI_clamp (by omega)]
theorem vp_nI {n N : Nat} (h : n < N) (hN : N < 2 ^ 31) : vp_in (nI n) N := vp_in_nI h hN
theorem sz_68 : sz 68 = 224 := by decide +kernel
theorem in13 {k c : Nat} (h : k < 60) (hc : c < 10) : vp_in (((13 : Int32) + 3 * nI k) + nI c) (sz 68) := by
  show vp_in ((nI 13 + nI 3 * nI k) + nI c) (sz 68)
  rw [pk_mul, nI_add, nI_add, sz_68]
  exact vp_in_nI (by omega) (by omega)
theorem in25 {k c : Nat} (h : k < 60) (hc : c < 10) : vp_in (((25 : Int32) + 3 * nI k) + nI c) (sz 68) := by
  show vp_in ((nI 25 + nI 3 * nI k) + nI c) (sz 68)
  rw [pk_mul, nI_add, nI_add, sz_68]
  exact vp_in_nI (by omega) (by omega)
theorem in13' {k : Nat} (h : k < 60) : vp_in ((13 : Int32) + 3 * nI k) (sz 68) := by
  have := in13 (c := 0) h (by omega)
  rwa [nI_0, Int32.add_zero] at this
theorem in25' {k : Nat} (h : k < 60) : vp_in ((25 : Int32) + 3 * nI k) (sz 68) := by
  have := in25 (c := 0) h (by omega)
  rwa [nI_0, Int32.add_zero] at this
theorem RB.nV {r : Vc} (hb : RB r) : r 5 = nI (r 5).toNatClampNeg ∧ (r 5).toNatClampNeg ≤ 4 := bw_nI (hi := 4) hb.2.2.2.2.2.1
theorem RB.nP {r : Vc} (hb : RB r) : r 6 = nI (r 6).toNatClampNeg ∧ (r 6).toNatClampNeg ≤ 6 := bw_nI (hi := 6) hb.2.2.2.2.2.2.1
theorem RB.nS {r : Vc} (hb : RB r) : r 7 = nI (r 7).toNatClampNeg ∧ (r 7).toNatClampNeg ≤ 5 := bw_nI (hi := 5) hb.2.2.2.2.2.2.2.1
theorem RB.nF {r : Vc} (hb : RB r) : r 8 = nI (r 8).toNatClampNeg ∧ (r 8).toNatClampNeg ≤ 6 := bw_nI (hi := 6) hb.2.2.2.2.2.2.2.2.1
theorem RB.nD {r : Vc} (hb : RB r) : r 9 = nI (r 9).toNatClampNeg ∧ (r 9).toNatClampNeg ≤ 9 := bw_nI (hi := 9) hb.2.2.2.2.2.2.2.2.2.1
theorem RB.vent {r : Vc} (hb : RB r) {k : Nat} (hk : k < (r 5).toNatClampNeg) : bw (r (13 + 3 * k)) 1 2 ∧ bw (r (13 + 3 * k + 1)) 1 9 ∧ bw (r (13 + 3 * k + 2)) 0 99 := hb.2.2.2.2.2.2.2.2.2.2.2.1 k hk
theorem RB.plan {r : Vc} (hb : RB r) {k : Nat} (hk : k < (r 6).toNatClampNeg) : bw (r (25 + 3 * k)) 0 20 ∧ bw (r (25 + 3 * k + 1)) 1 2 ∧ bw (r (25 + 3 * k + 2)) 0 99 := hb.2.2.2.2.2.2.2.2.2.2.2.2.1 k hk
theorem RB.saw {r : Vc} (hb : RB r) {k : Nat} (hk : k < (r 7).toNatClampNeg) : bw (r (43 + 2 * k)) 0 20 ∧ bw (r (43 + 2 * k + 1)) 0 3 := hb.2.2.2.2.2.2.2.2.2.2.2.2.2.1 k hk
theorem RB.ditch {r : Vc} (hb : RB r) {k : Nat} (hk : k < (r 9).toNatClampNeg) : bw (r (53 + 3 * k)) 0 ((r 8).toInt - 1) ∧ bw (r (53 + 3 * k + 1)) 0 ((r 8).toInt - 1) ∧ bw (r (53 + 3 * k + 2)) 1 99 := hb.2.2.2.2.2.2.2.2.2.2.2.2.2.2 k hk
theorem m_pull {I : Mm} {r : Vc} {a : Nat} (hr : I 68 = r) (hb : RB r) : ∀ (c j : Nat) (acc : Int32), j + c = (r 5).toNatClampNeg → (lp_X11_pullOf_9 I a (c + 1) acc (nI j)).1 = pullS r (I a 3) c j acc := by
  have hn := hb.nV
  intro c
  induction c with
  | zero =>
    intro j acc hj
    rw [lp_X11_pullOf_9, hr, hn.1, if_pos (nI_le (by omega) (by omega))]
    rfl
  | succ c ih =>
    intro j acc hj
    rw [lp_X11_pullOf_9, hr, hn.1, if_neg (nI_ge (by omega) (by omega)), nI_1, ih (j + 1) _ (by omega), pullS]
    congr 1
    simp only [u1_X11_pullOf, u0_X11_pullOf, f_X11_hasBit, opv_eq, hr]
    rw [ix13 (by omega), show ((13 : Int32) + 3 * nI j + 1) = ((13 : Int32) + 3 * nI j + nI 1) from rfl, ix13a (by omega) (by omega)]
    by_cases q : bt (I a 3) j = true
    · rw [if_pos ((bit_at _ (by omega)).mpr q), if_pos rfl, if_pos q]; rfl
    · rw [if_neg (fun z => q ((bit_at _ (by omega)).mp z)), if_neg (by simp), if_neg q]
theorem m_pull_ok {I : Mm} {r : Vc} {a : Nat} (hr : I 68 = r) (hb : RB r) (ha : 7 ≤ sz a) (ha2 : sz a < 1000) : ∀ (c j : Nat) (acc : Int32), j + c = (r 5).toNatClampNeg → oklp_X11_pullOf_9 I a (c + 1) acc (nI j) := by
  have hn := hb.nV
  intro c
  induction c with
  | zero =>
    intro j acc hj
    rw [oklp_X11_pullOf_9, hr, hn.1, if_pos (nI_le (by omega) (by omega))]
    trivial
  | succ c ih =>
    intro j acc hj
    rw [oklp_X11_pullOf_9, hr, hn.1, if_neg (nI_ge (by omega) (by omega)), nI_1]
    refine ⟨vp_in_nI (n := 3) (by omega) (by omega), ?_, ih (j + 1) _ (by omega)⟩
    split
    · exact ⟨in13' (by omega), in13 (c := 1) (by omega) (by omega)⟩
    · trivial
def pwho (v : Vc) : Int32 := (b2i (if v 0 < 3 - v 2 then false else true)) + (if -(v 0) < 3 - v 2 then 0 else 2)
def cwho (b : Vc) : Int32 := (b2i (if b 0 < 3 - b 3 then false else true)) + (if -(b 0) < 3 - b 3 then 0 else 2)
theorem f_whoOf (I : Mm) (a : Nat) : f_X11_whoOf I a = pwho (I a) := by rw [f_X11_whoOf, opv_eq]; rfl
theorem f_whoIs (I : Mm) (a : Nat) : f_X0_whoIsOut I a = cwho (I a) := by rw [f_X0_whoIsOut, opv_eq]; rfl
def wthr (who : Int32) : Int32 := if who = 1 then 1 else (if who = 2 then 2 else 0)
def mdamp (r : Vc) (who d : Int32) : Int32 := if (d + (if who = 1 then r 3 else (if who = 2 then -(r 4) else 0))) ≤ 100 then (if 0 ≤ (d + (if who = 1 then r 3 else (if who = 2 then -(r 4) else 0))) then (d + (if who = 1 then r 3 else (if who = 2 then -(r 4) else 0))) else 0) else 100
def mbound (x : Int32) : Int32 := if x ≤ 9 then (if (-9) ≤ x then x else (-9)) else 9
def mstep (damp oil wood : Int32) : Int32 := if 0 ≤ ((1 + oil) - (b2i (if damp < (100 - (10 * wood)) then false else true))) then (1 + oil) - (b2i (if damp < (100 - (10 * wood)) then false else true)) else 0
def mnear (a p s : Int32) : Int32 := a + (if (p - a) ≤ s then (if (-s) ≤ (p - a) then p - a else -s) else s)
def mang (r : Vc) (wood : Int32) (v : Vc) : Int32 := mnear (v 0) (mbound (pullS r (v 3) (r 5).toNatClampNeg 0 ((mdamp r (pwho v) (v 1) - 50) / 10))) (mstep (mdamp r (pwho v) (v 1)) (v 2) wood)
def mkept (r : Vc) (d l : Int32) : Nat → Nat → Int32 → Int32
  | 0, _, acc => acc
  | c + 1, j, acc => mkept r d l c (j + 1) (acc ||| (if r (25 + 3 * j) = d then (if r (25 + 3 * j + 1) = l then 1 <<< (nI j &&& 31) else 0) else 0))
/-- a day of the model, over its row -/
def mday (r : Vc) (wood : Int32) (v : Vc) : Vc := fun j => if j = 0 then mang r wood v else if j = 1 then mdamp r (pwho v) (v 1) else if j = 3 then 0 else if j = 4 then v 4 + 1 else if j = 5 then wthr (pwho v) else if j = 6 then mkept r (v 4) (wthr (pwho v)) (r 6).toNatClampNeg 0 (v 6) else v j
theorem m_dayloop {r : Vc} {a : Nat} (ha : a ≠ 68) (hb : RB r) (x2 l3 l4 : Int32) : ∀ (c j : Nat) (I : Mm), I 68 = r → j + c = (r 6).toNatClampNeg → (lp_X11_dayBy_120 a x2 l3 l4 (c + 1) (nI j) I).2 = st2 I a 6 (mkept r (I a 4) (I a 5) c j (I a 6)) := by
  have hn := hb.nP
  intro c
  induction c with
  | zero =>
    intro j I hr hj
    rw [lp_X11_dayBy_120, hr, hn.1, if_pos (nI_le (by omega) (by omega)), mkept, st2_same]
  | succ c ih =>
    intro j I hr hj
    rw [lp_X11_dayBy_120, hr, hn.1, if_neg (nI_ge (by omega) (by omega)), nI_1, ih (j + 1) _ (by rw [st2_orow _ _ _ (Ne.symm ha)]; exact hr) (by omega), st2_st2, mkept, st2_s, st2_o _ _ _ (by omega), st2_o _ _ _ (by omega)]
    congr 2
    simp only [u3_X11_dayBy, opv_eq, hr]
    rw [ix25 (by omega), show ((25 : Int32) + 3 * nI j + 1) = ((25 : Int32) + 3 * nI j + nI 1) from rfl, ix25a (by omega) (by omega)]
theorem m_dayloop_ok {r : Vc} {a : Nat} (ha : a ≠ 68) (hs : 7 ≤ sz a) (hs2 : sz a < 1000) (hb : RB r) (x2 l3 l4 : Int32) : ∀ (c j : Nat) (I : Mm), I 68 = r → j + c = (r 6).toNatClampNeg → oklp_X11_dayBy_120 a x2 l3 l4 (c + 1) (nI j) I := by
  have hn := hb.nP
  intro c
  induction c with
  | zero =>
    intro j I hr hj
    rw [oklp_X11_dayBy_120, hr, hn.1, if_pos (nI_le (by omega) (by omega))]
    trivial
  | succ c ih =>
    intro j I hr hj
    rw [oklp_X11_dayBy_120, hr, hn.1, if_neg (nI_ge (by omega) (by omega)), nI_1]
    refine ⟨vp_in_nI (n := 6) (by omega) (by omega), in25' (by omega), vp_in_nI (n := 4) (by omega) (by omega), ?_, vp_in_nI (n := 6) (by omega) (by omega), ih (j + 1) _ (by rw [st2_orow _ _ _ (Ne.symm ha)]; exact hr) (by omega)⟩
    split
    · exact ⟨in25 (c := 1) (by omega) (by omega), vp_in_nI (n := 5) (by omega) (by omega)⟩
    · trivial
theorem m_dayBy {I : Mm} {r : Vc} {a : Nat} (hr : I 68 = r) (ha : a ≠ 68) (hb : RB r) (wood : Int32) : m_X11_dayBy I a wood = va_up I a (mday r wood (I a)) := by
  have hn := hb.nP
  have hv := hb.nV
  simp only [m_X11_dayBy, opv_eq]
  have hr2 : (st2 (st2 I a 5 (u0_X11_dayBy I a)) a 1 (u2_X11_dayBy I a)) 68 = r := by rw [st2_orow _ _ _ (Ne.symm ha), st2_orow _ _ _ (Ne.symm ha)]; exact hr
  have e1 : f_X11_pullOf (st2 (st2 I a 5 (u0_X11_dayBy I a)) a 1 (u2_X11_dayBy I a)) a = mbound (pullS r (I a 3) (r 5).toNatClampNeg 0 ((u2_X11_dayBy I a - 50) / 10)) := by
    rw [f_X11_pullOf, opv_eq, f_X11_bound, opv_eq, hr2, hv.1]
    rw [show (0 : Int32) = nI 0 from rfl, mu_up_nI (by omega) (by omega)]
    rw [m_pull hr2 hb _ 0 _ (by omega), f_X11_towards, opv_eq, st2_s, st2_o _ _ _ (by omega), st2_o _ _ _ (by omega), nI_clamp (by omega)]
    rfl
  have e2 : ∀ x y z, f_X11_nearer (st2 (st2 I a 5 (u0_X11_dayBy I a)) a 1 (u2_X11_dayBy I a)) x y z = mnear x y z := by
    intro x y z
    simp only [f_X11_nearer, u0_X11_nearer, opv_eq]
    rfl
  have e3 : ∀ x y z, f_X11_stepOf (st2 (st2 I a 5 (u0_X11_dayBy I a)) a 1 (u2_X11_dayBy I a)) x y z = mstep x y z := by
    intro x y z
    simp only [f_X11_stepOf, u0_X11_stepOf, opv_eq]
    rfl
  have e4 : u2_X11_dayBy I a = mdamp r (pwho (I a)) (I a 1) := by
    simp only [u2_X11_dayBy, u1_X11_dayBy, opv_eq, f_whoOf, hr]
    rfl
  have e5 : u0_X11_dayBy I a = wthr (pwho (I a)) := by
    simp only [u0_X11_dayBy, opv_eq, f_whoOf]
    rfl
  rw [e1, e2, e3, e4, e5]
  generalize hB : st2 (st2 (st2 (st2 I a 5 (wthr (pwho (I a)))) a 1 (mdamp r (pwho (I a)) (I a 1))) a 0 (mnear (I a 0) (mbound (pullS r (I a 3) (r 5).toNatClampNeg 0 ((mdamp r (pwho (I a)) (I a 1) - 50) / 10))) (mstep (mdamp r (pwho (I a)) (I a 1)) (I a 2) wood))) a 3 0 = B
  have hB68 : B 68 = r := by rw [← hB, st2_orow _ _ _ (Ne.symm ha), st2_orow _ _ _ (Ne.symm ha), st2_orow _ _ _ (Ne.symm ha), st2_orow _ _ _ (Ne.symm ha)]; exact hr
  rw [hB68, hn.1, show mu_up (nI (r 6).toNatClampNeg) 0 = mu_up (nI (r 6).toNatClampNeg) (nI 0) from rfl, mu_up_nI (by omega) (by omega)]
  rw [show ∀ n l x y, lp_X11_dayBy_120 a wood x y n 0 l = lp_X11_dayBy_120 a wood x y n (nI 0) l from fun _ _ _ _ => rfl, m_dayloop ha hb _ _ _ _ 0 B hB68 (by omega)]
  have b4 : B a 4 = I a 4 := by rw [← hB, st2_o _ _ _ (by omega), st2_o _ _ _ (by omega), st2_o _ _ _ (by omega), st2_o _ _ _ (by omega)]
  have b5 : B a 5 = wthr (pwho (I a)) := by rw [← hB, st2_o _ _ _ (by omega), st2_o _ _ _ (by omega), st2_o _ _ _ (by omega), st2_s]
  have b6 : B a 6 = I a 6 := by rw [← hB, st2_o _ _ _ (by omega), st2_o _ _ _ (by omega), st2_o _ _ _ (by omega), st2_o _ _ _ (by omega)]
  rw [b4, b5, b6, st2_o _ _ _ (by omega), b4, ← hB]
  funext x j
  by_cases hx : x = a
  · subst hx
    rw [vu_s]
    match j with
    | 0 => simp [st2, va_up, mday, mang]
    | 1 => simp [st2, va_up, mday]
    | 2 => simp [st2, va_up, mday]
    | 3 => simp [st2, va_up, mday]
    | 4 => simp [st2, va_up, mday]
    | 5 => simp [st2, va_up, mday]
    | 6 => simp [st2, va_up, mday]
    | n + 7 => simp [st2, va_up, mday]
  · rw [st2_a _ _ hx, st2_a _ _ hx, st2_a _ _ hx, st2_a _ _ hx, st2_a _ _ hx, st2_a _ _ hx, vu_o _ _ hx]
theorem m_dayBy_ok {I : Mm} {r : Vc} {a : Nat} (hr : I 68 = r) (ha : a ≠ 68) (hs : 7 ≤ sz a) (hs2 : sz a < 1000) (hb : RB r) (wood : Int32) : ok_X11_dayBy I a wood := by
  have hn := hb.nP
  have hv := hb.nV
  have hr2 : ∀ x y, (st2 (st2 I a 5 x) a 1 y) 68 = r := by intro x y; rw [st2_orow _ _ _ (Ne.symm ha), st2_orow _ _ _ (Ne.symm ha)]; exact hr
  have v0 : vp_in (0 : Int32) (sz a) := vp_in_nI (n := 0) (by omega) (by omega)
  have v1 : vp_in (1 : Int32) (sz a) := vp_in_nI (n := 1) (by omega) (by omega)
  have v2 : vp_in (2 : Int32) (sz a) := vp_in_nI (n := 2) (by omega) (by omega)
  have v3 : vp_in (3 : Int32) (sz a) := vp_in_nI (n := 3) (by omega) (by omega)
  have v4 : vp_in (4 : Int32) (sz a) := vp_in_nI (n := 4) (by omega) (by omega)
  have v5 : vp_in (5 : Int32) (sz a) := vp_in_nI (n := 5) (by omega) (by omega)
  simp only [ok_X11_dayBy, ok_X11_whoOf, ok_X11_pullOf, opv_eq]
  refine ⟨⟨v2, v0, v0⟩, v5, v1, v1, v0, ⟨v1, ?_⟩, v1, v2, v0, v3, ?_, v4, v4⟩
  · rw [hr2, hv.1, show (0 : Int32) = nI 0 from rfl, mu_up_nI (by omega) (by omega)]
    exact m_pull_ok (hr2 _ _) hb hs hs2 _ 0 _ (by omega)
  · have e : ∀ x y z, (st2 (st2 (st2 (st2 I a 5 x) a 1 y) a 0 z) a 3 0) 68 = r := by intro x y z; rw [st2_orow _ _ _ (Ne.symm ha), st2_orow _ _ _ (Ne.symm ha)]; exact hr2 x y
    rw [e, hn.1, show ∀ E, mu_up E 0 = mu_up E (nI 0) from fun _ => rfl, mu_up_nI (by omega) (by omega), show ∀ n l x y, oklp_X11_dayBy_120 a wood x y n 0 l = oklp_X11_dayBy_120 a wood x y n (nI 0) l from fun _ _ _ _ => rfl]
    exact m_dayloop_ok ha hs hs2 hb _ _ _ _ 0 _ (e _ _ _) (by omega)
