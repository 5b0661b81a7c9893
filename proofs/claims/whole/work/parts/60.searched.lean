/-! ===== rows of vents: all of them, in their order ===== -/
def Rn (V : Nat) : Nat → Nat → Nat
  | 0, _ => 0
  | n + 1, i => 10 * Rn V n (i / (V + 1)) + i % (V + 1)
def isR (V : Nat) : Nat → Nat → Bool
  | 0, x => x == 0
  | n + 1, x => decide (x % 10 ≤ V) && isR V n (x / 10)
theorem pV : ∀ V, V < 5 → ∀ n, n < 5 → (V + 1) ^ n ≤ 625 ∧ 1 ≤ (V + 1) ^ n := by decide +kernel
theorem rows_are : ∀ V, V < 5 → ∀ n, n < 5 → (List.range ((V + 1) ^ n)).map (Rn V n) = (List.range (10 ^ n)).filter (isR V n) := by decide +kernel
def rdB (V n i : Nat) : Bool := (List.range n).all (fun k => decide (dg (Rn V n i) n k ≤ V)) && (decide (num (dg (Rn V n i) n) n = Rn V n i) && decide (Rn V n i < 10000))
theorem rdB_t : ∀ V, V < 5 → ∀ n, n < 5 → ∀ i, i < 625 → i < (V + 1) ^ n → rdB V n i = true := by decide +kernel
theorem row_dg (V : Nat) (hV : V < 5) (n : Nat) (hn : n < 5) (i : Nat) (hi : i < 625) (h : i < (V + 1) ^ n) : (∀ k, k < n → dg (Rn V n i) n k ≤ V) ∧ num (dg (Rn V n i) n) n = Rn V n i ∧ Rn V n i < 10000 := by
  have t := rdB_t V hV n hn i hi h
  unfold rdB at t
  rw [Bool.and_eq_true, Bool.and_eq_true, List.all_eq_true] at t
  exact ⟨fun k hk => of_decide_eq_true (t.1 k (List.mem_range.mpr hk)), of_decide_eq_true t.2.1, of_decide_eq_true t.2.2⟩
def nxB (V n i : Nat) : Bool := (List.range n).any (fun c0 => (List.range c0).all (fun j => decide (dg (Rn V n i) n j = dg (Rn V n (i + 1)) n j)) && (decide (dg (Rn V n i) n c0 < V) && (decide (dg (Rn V n (i + 1)) n c0 = dg (Rn V n i) n c0 + 1) && (List.range n).all (fun j => !(decide (c0 < j)) || (decide (dg (Rn V n i) n j = V) && decide (dg (Rn V n (i + 1)) n j = 0))))))
theorem nxB_t : ∀ V, V < 5 → ∀ n, n < 5 → ∀ i, i < 625 → i + 1 < (V + 1) ^ n → nxB V n i = true := by decide +kernel
theorem row_next (V : Nat) (hV : V < 5) (n : Nat) (hn : n < 5) (i : Nat) (hi : i < 625) (h : i + 1 < (V + 1) ^ n) : ∃ c0, c0 < n ∧ (∀ j, j < c0 → dg (Rn V n i) n j = dg (Rn V n (i + 1)) n j) ∧ dg (Rn V n i) n c0 < V ∧ dg (Rn V n (i + 1)) n c0 = dg (Rn V n i) n c0 + 1 ∧ ∀ j, j < n → c0 < j → dg (Rn V n i) n j = V ∧ dg (Rn V n (i + 1)) n j = 0 := by
  have t := nxB_t V hV n hn i hi h
  unfold nxB at t
  rw [List.any_eq_true] at t
  obtain ⟨c0, h0, t⟩ := t
  rw [Bool.and_eq_true, Bool.and_eq_true, Bool.and_eq_true, List.all_eq_true, List.all_eq_true] at t
  refine ⟨c0, List.mem_range.mp h0, fun j hj => of_decide_eq_true (t.1 j (List.mem_range.mpr hj)), of_decide_eq_true t.2.1, of_decide_eq_true t.2.2.1, fun j hj hc => ?_⟩
  have u := t.2.2.2 j (List.mem_range.mpr hj)
  rw [decide_eq_true hc, Bool.not_true, Bool.false_or, Bool.and_eq_true] at u
  exact ⟨of_decide_eq_true u.1, of_decide_eq_true u.2⟩
theorem Rn_0 (V : Nat) : ∀ n, Rn V n 0 = 0 := by
  intro n
  induction n with
  | zero => rfl
  | succ n ih => rw [Rn, Nat.zero_div, ih, Nat.zero_mod]
theorem dg_0 (n k : Nat) : dg 0 n k = 0 := by
  unfold dg
  rw [Nat.zero_div]
def cstep (sc : Nat → Int32) (s : Int32 × Int32) (x : Nat) : Int32 × Int32 := if sc x ≤ s.2 then s else (nI x, sc x)
def cst (sc : Nat → Int32) (l : List Nat) : Int32 × Int32 := l.foldl (cstep sc) (-2, -2147483648)
theorem cst_snoc (sc : Nat → Int32) (l : List Nat) (x : Nat) : cst sc (l ++ [x]) = cstep sc (cst sc l) x := by
  unfold cst
  rw [List.foldl_append]
  rfl
def kse (a j : Nat) : Bool := if 54 ≤ a ∧ a ≤ 57 then false else (!(a == 51 && !(j == 0)) && !(a == 50) && !(a == 49 && (j == 0 || j == 1)))
theorem kse_low : ∀ a, 3 ≤ a → a ≤ 22 → ∀ j, kse a j = true := by
  intro a h1 h2 j
  unfold kse
  rw [if_neg (by omega)]
  have n1 : (a == 51) = false := by simp; omega
  have n2 : (a == 50) = false := by simp; omega
  have n3 : (a == 49) = false := by simp; omega
  simp [n1, n2, n3]
theorem kse_kfo {a j : Nat} (h : kse a j = true) : kfo a j = true := by
  unfold kse at h
  unfold kfo
  by_cases q : 54 ≤ a ∧ a ≤ 57
  · rw [if_pos q] at h; cases h
  · rw [if_neg q] at h ⊢
    simp only [Bool.and_eq_true] at h
    exact h.1.1
theorem search_lp {r v : Vc} {t n V : Nat} {fr aim : Int32} (hb : RB r) (hV : V = (r 5).toNatClampNeg) (h1 : 1 ≤ n) (hn : n ≤ 4) : ∀ (c i ch : Nat) (I : Mm), TR I r t → I 23 6 = fr → (i < (V + 1) ^ n → PK I (dg (Rn V n i) n) n V ∧ RK r I (dg (Rn V n i) n) v ch) → ch ≤ n → (I 49 0, I 49 1) = cst (fun x => scr r v fr n aim (dg x n)) ((List.range i).map (Rn V n)) → i + c = (V + 1) ^ n → Fk kse I (lp_X9_search_49 t 23 (nI n) aim (nI ((V + 1) ^ n)) (c + 1) (nI ch) (nI i) I).2.2 ∧ ((lp_X9_search_49 t 23 (nI n) aim (nI ((V + 1) ^ n)) (c + 1) (nI ch) (nI i) I).2.2 49 0, (lp_X9_search_49 t 23 (nI n) aim (nI ((V + 1) ^ n)) (c + 1) (nI ch) (nI i) I).2.2 49 1) = cst (fun x => scr r v fr n aim (dg x n)) ((List.range ((V + 1) ^ n)).map (Rn V n)) ∧ oklp_X9_search_49 t 23 (nI n) aim (nI ((V + 1) ^ n)) (c + 1) (nI ch) (nI i) I := by
  have hV4 := hb.nV.2
  have hT625 := pV V (by omega) n (by omega)
  intro c
  induction c with
  | zero =>
    intro i ch I hT h23 hrow hch hst hi
    have q : nI ((V + 1) ^ n) ≤ nI i := nI_le (by omega) (by omega)
    have e : i = (V + 1) ^ n := by omega
    rw [lp_X9_search_49, oklp_X9_search_49, if_pos q, if_pos q, ← e]
    exact ⟨Fk.refl _ _, hst, trivial⟩
  | succ c ih =>
    intro i ch I hT h23 hrow hch hst hi
    have q : ¬ nI ((V + 1) ^ n) ≤ nI i := nI_ge (by omega) (by omega)
    obtain ⟨hP, hR⟩ := hrow (by omega)
    obtain ⟨dV, dN, dX⟩ := row_dg V (by omega) n (by omega) i (by omega) (by omega)
    generalize hx : Rn V n i = x at *
    have fo := c_follow (n := n) (k := ch) hT hb hn hch (by rw [← hV]; exact hP) hR
    generalize hM1 : m_X9_follow I t (nI ch) (nI n) = M1 at *
    obtain ⟨f1, hR1, o1⟩ := fo
    have hT1 : TR M1 r t := hT.fk f1 kfo_low
    have e50 : M1 50 = I 50 := funext fun j => f1 50 j rfl
    have hP1 : PK M1 (dg x n) n V := fun k hk => by rw [e50]; exact hP k hk
    have e231 : M1 23 6 = fr := by rw [f1 23 6 rfl]; exact h23
    have e491 : M1 49 1 = I 49 1 := f1 49 1 rfl
    have e490 : M1 49 0 = I 49 0 := f1 49 0 rfl
    have sc := c_score (n := n) (d := dg x n) hT1 hb hn (by rw [← hV]; exact hP1) hR1 aim
    rw [e231] at sc
    have dgt := c_digits (I := st2 M1 49 1 (scr r v fr n aim (dg x n))) (d := dg x n) (n := n) (V := V) hn (fun k hk => by rw [st2_orow _ _ _ (by omega)]; exact hP1 k hk)
    have eu : u1_X9_search t 23 (nI n) aim (nI ch) I = if scr r v fr n aim (dg x n) ≤ I 49 1 then M1 else st2 (st2 M1 49 1 (scr r v fr n aim (dg x n))) 49 0 (nI x) := by
      rw [u1_X9_search, opv_eq, hM1, sc.1, e491, dgt.1, dN]
    obtain ⟨M2, hM2⟩ : ∃ M2, M2 = (if scr r v fr n aim (dg x n) ≤ I 49 1 then M1 else st2 (st2 M1 49 1 (scr r v fr n aim (dg x n))) 49 0 (nI x)) := ⟨_, rfl⟩
    have m2o : ∀ a, a ≠ 49 → M2 a = M1 a := by
      intro a ha
      rw [hM2]
      split
      · rfl
      · rw [st2_orow _ _ _ ha, st2_orow _ _ _ ha]
    have m249 : (M2 49 0, M2 49 1) = cstep (fun x => scr r v fr n aim (dg x n)) (I 49 0, I 49 1) x := by
      rw [hM2]
      unfold cstep
      split
      · rw [e490, e491]
      · rw [st2_s, st2_o _ _ _ (by omega), st2_s]
    have f2 : Fk kse I M2 := by
      have g : Fk kse I M1 := fun a j h => f1 a j (kse_kfo h)
      rw [hM2]
      split
      · exact g
      · exact (g.st rfl).st rfl
    have hT2 : TR M2 r t := hT.fk f2 kse_low
    have cV : M2 (rt t 7) 3 = nI V := by rw [(hT2.cnt hb).1, hV]
    have md : mu_dn (nI n - 1) + 1 = n + 1 := by
      rw [show nI n - 1 = nI (n - 1) from pk_sub (b := 1) (by omega), mu_dn_nI (by omega)]
      omega
    obtain ⟨⟨ch', A, c1, c2, c3⟩, okn, spec⟩ := next_lp (V := V) hn (by omega) n (n + 1) M2 (Nat.le_refl _) (by omega)
    have en1 : f_X9_nextRow M2 (nI n) (nI V) = (lp_X9_nextRow_4 (nI n) (nI V) (n + 1) (nI n - 1) M2).1 := by rw [f_X9_nextRow, opv_eq, md]
    have en2 : m_X9_nextRow M2 (nI n) (nI V) = (lp_X9_nextRow_4 (nI n) (nI V) (n + 1) (nI n - 1) M2).2 := by rw [m_X9_nextRow, opv_eq, md]
    have en3 : ok_X9_nextRow M2 (nI n) (nI V) := by rw [ok_X9_nextRow, opv_eq, md]; exact okn
    have hst2 : (M2 49 0, M2 49 1) = cst (fun x => scr r v fr n aim (dg x n)) ((List.range (i + 1)).map (Rn V n)) := by
      rw [m249, List.range_succ, List.map_append, List.map_cons, List.map_nil, hx, cst_snoc, ← hst]
    have fin : ∃ ch2 A2, ch2 ≤ n ∧ f_X9_nextRow M2 (nI n) (nI V) = nI ch2 ∧ m_X9_nextRow M2 (nI n) (nI V) = va_up M2 50 A2 ∧ (i + 1 < (V + 1) ^ n → PK (va_up M2 50 A2) (dg (Rn V n (i + 1)) n) n V ∧ RK r (va_up M2 50 A2) (dg (Rn V n (i + 1)) n) v ch2) := by
      by_cases z : i + 1 < (V + 1) ^ n
      · obtain ⟨c0, h0, same, lt, inc, rest⟩ := row_next V (by omega) n (by omega) i (by omega) z
        rw [hx] at same lt inc rest
        have s := spec c0 (dg x n c0) h0 (by rw [m2o 50 (by omega)]; exact (hP1 c0 h0).1) lt (fun j j1 j2 => by rw [m2o 50 (by omega), (hP1 j j2).1, (rest j j2 j1).1])
        obtain ⟨d2, -, -⟩ := row_dg V (by omega) n (by omega) (i + 1) (by omega) z
        refine ⟨c0, _, by omega, by rw [en1]; exact s.1, by rw [en2]; exact s.2, fun _ => ⟨fun k hk => ⟨?_, d2 k hk⟩, fun k hk => ?_⟩⟩
        · rw [vu_s]
          show (if k = c0 then _ else if c0 < k ∧ k < n then _ else _) = _
          by_cases k1 : k = c0
          · rw [if_pos k1, k1, inc]
          · rw [if_neg k1]
            by_cases k2 : c0 < k
            · rw [if_pos ⟨k2, hk⟩, (rest k hk k2).2]
              rfl
            · rw [if_neg (by omega), m2o 50 (by omega), (hP1 k hk).1, same k (by omega)]
        · have := hR1 k (by omega)
          rw [vu_o _ _ (by omega), vu_o _ _ (by omega), m2o _ (by omega), m2o _ (by omega), ← runD_congr k (fun j hj => same j (by omega))]
          exact this
      · exact ⟨ch', A, c1, by rw [en1]; exact c2, by rw [en2]; exact c3, fun y => absurd y z⟩
    obtain ⟨ch2, A2, g1, g2, g3, g4⟩ := fin
    have f3 : Fk kse I (va_up M2 50 A2) := f2.up (fun _ => rfl)
    have kk := ih (i + 1) ch2 (va_up M2 50 A2) (hT.fk f3 kse_low) (by rw [vu_o _ _ (by omega), m2o _ (by omega)]; exact e231) g4 g1 (by rw [vu_o _ _ (by omega)]; exact hst2) (by omega)
    rw [lp_X9_search_49, oklp_X9_search_49, if_neg q, if_neg q, u2_X9_search, opv_eq, eu, ← hM2, cV, g2, g3, nI_1, hM1, sc.1, e491]
    refine ⟨f3.trans kk.1, kk.2.1, o1, sc.2, ?_, en3, kk.2.2⟩
    split
    · trivial
    · exact dgt.2
theorem kp_kse {a j : Nat} (h : kp a j = true) : kse a j = true := by
  by_cases h0 : 54 ≤ a ∧ a ≤ 57
  · have : kp a j = false := by
      unfold kp
      rw [if_neg (by omega), if_neg (by omega), if_neg (by omega)]
      have n1 : decide (a < 2) = false := by simp; omega
      have n2 : decide (a ≤ 11) = false := by simp; omega
      have n3 : decide (a ≤ 45) = false := by simp; omega
      have n4 : (a == 59) = false := by simp; omega
      have n5 : (a == 66) = false := by simp; omega
      have n6 : (a == 68) = false := by simp; omega
      have n7 : (a == 70) = false := by simp; omega
      have n8 : (a == 71) = false := by simp; omega
      have n9 : (a == 72) = false := by simp; omega
      simp [n1, n2, n3, n4, n5, n6, n7, n8, n9]
    rw [this] at h
    cases h
  · unfold kse
    rw [if_neg h0]
    by_cases h1 : a = 50
    · subst h1; cases (show false = true from h)
    by_cases h2 : a = 49
    · subst h2; cases (show false = true from h)
    by_cases h3 : a = 51
    · subst h3
      have hj : (j == 0) = true := h
      simp [hj]
    · simp [h1, h2, h3]
/-- the class has searched -/
theorem Sim.found {I : Mm} {J : Nat → Nat → Int64} {w : Bool} (h : Sim I J w) (aim : Int32) {n : Nat} (h1 : 1 ≤ n) (hn : n ≤ 4) : ∃ K, m_X9_search (st2 I 0 7 0) (td w) 23 (nI n) aim = K ∧ ok_X9_search (st2 I 0 7 0) (td w) 23 (nI n) aim ∧ Fr (st2 I 0 7 0) K ∧ (K 49 0, K 49 1) = cst (fun x => scr (I 68) (I 70) (I 70 4) n aim (dg x n)) ((List.range (10 ^ n)).filter (isR (I 68 5).toNatClampNeg n)) := by
  have hb := h.1.1
  have hB := h.1.2.2.2.2.2.2.1
  have hV := hb.nV.2
  have h51 := h.1.2.2.2.2.2.2.2.2.2.2.2.2
  have hT : TR (st2 I 0 7 0) (I 68) (td w) := h.1.2.1.st (by omega)
  have hT625 := pV (I 68 5).toNatClampNeg (by omega) n (by omega)
  have fl := m_fill (va_up (st2 (st2 (st2 I 0 7 0) 49 0 (-2)) 49 1 (-2147483648)) 53 (cpy (I 53) (I 23))) (a := 50) (N := 4) 0 (by omega) sz_50
  have e1 : m_X0_copy (st2 (st2 (st2 I 0 7 0) 49 0 (-2)) 49 1 (-2147483648)) 53 23 = va_up (st2 (st2 (st2 I 0 7 0) 49 0 (-2)) 49 1 (-2147483648)) 53 (cpy (I 53) (I 23)) := by
    rw [m_copy, st2_orow _ _ _ (show (53 : Nat) ≠ 49 by omega), st2_orow _ _ _ (show (53 : Nat) ≠ 49 by omega), st2_orow _ _ _ (show (23 : Nat) ≠ 49 by omega), st2_orow _ _ _ (show (23 : Nat) ≠ 49 by omega), st7_row _ _ (show (53 : Nat) ≠ 0 by omega), st7_row _ _ (show (23 : Nat) ≠ 0 by omega)]
  obtain ⟨G, hG⟩ : ∃ G, G = u0_X9_search (st2 I 0 7 0) 23 := ⟨_, rfl⟩
  have eG : G = va_up (va_up (st2 (st2 (st2 I 0 7 0) 49 0 (-2)) 49 1 (-2147483648)) 53 (cpy (I 53) (I 23))) 50 (fun k => if k < 4 then 0 else va_up (st2 (st2 (st2 I 0 7 0) 49 0 (-2)) 49 1 (-2147483648)) 53 (cpy (I 53) (I 23)) 50 k) := by
    rw [hG, u0_X9_search, opv_eq, e1, fl.1]
  have fG : Fr (st2 I 0 7 0) G := by
    rw [eG]
    exact ((((Fr.refl _).st rfl).st rfl).up (fun _ => rfl)).up (fun _ => rfl)
  have hTG : TR G (I 68) (td w) := hT.fr fG
  have G0 : G 49 0 = -2 := by rw [eG, vu_o _ _ (by omega), vu_o _ _ (by omega), st2_o _ _ _ (by omega), st2_s]
  have G1 : G 49 1 = -2147483648 := by rw [eG, vu_o _ _ (by omega), vu_o _ _ (by omega), st2_s]
  have G50 : ∀ k, k < 4 → G 50 k = 0 := fun k hk => by rw [eG, vu_s, if_pos hk]
  have G53 : G 53 = cpy (I 53) (I 23) := by rw [eG, vu_o _ _ (by omega), vu_s]
  have G51 : G 51 0 = 0 := by rw [fG 51 0 rfl, st7_row _ _ (by omega)]; exact h51
  have G23 : G 23 6 = I 70 4 := by rw [fG 23 6 rfl, st7_row _ _ (by omega)]; exact hB.days.1
  have s := search_lp (aim := aim) (v := I 70) (fr := I 70 4) (t := td w) hb rfl h1 hn ((I 68 5).toNatClampNeg + 1 |> fun b => b ^ n) 0 0 G hTG G23 (fun _ => ⟨fun k hk => by rw [Rn_0, dg_0, G50 k (by omega)]; exact ⟨rfl, by omega⟩, fun k hk => by
      have : k = 0 := by omega
      subst this
      rw [Nat.add_zero, G53, G51]
      exact ⟨br_congr hB (fun j hj => if_pos hj) (fun _ _ => rfl), rfl⟩⟩) (by omega) (by rw [G0, G1]; rfl) (by simp)
  have cV : G (rt (td w) 7) 3 = nI (I 68 5).toNatClampNeg := (hTG.cnt hb).1
  have mu : mu_up (nI (((I 68 5).toNatClampNeg + 1) ^ n)) 0 + 1 = ((I 68 5).toNatClampNeg + 1) ^ n + 1 := by
    rw [show mu_up (nI (((I 68 5).toNatClampNeg + 1) ^ n)) 0 = mu_up (nI (((I 68 5).toNatClampNeg + 1) ^ n)) (nI 0) from rfl, mu_up_nI (by omega) (Nat.zero_le _), Nat.sub_zero]
  rw [nI_0, rows_are _ (by omega) n (by omega)] at s
  have s' : Fk kse G (lp_X9_search_49 (td w) 23 (nI n) aim (nI (((I 68 5).toNatClampNeg + 1) ^ n)) (((I 68 5).toNatClampNeg + 1) ^ n + 1) 0 0 G).2.2 ∧ _ := s
  refine ⟨_, ?_, ?_, ?_, s'.2.1⟩
  · rw [m_X9_search, opv_eq, ← hG, cV, c_rowsOf _ hn, mu]
  · rw [ok_X9_search, opv_eq, ← hG, cV, c_rowsOf _ hn, mu, e1]
    exact ⟨by omega, fl.2, s'.2.2⟩
  · exact fG.trans (fun a j hk => s'.1 a j (kp_kse hk))
