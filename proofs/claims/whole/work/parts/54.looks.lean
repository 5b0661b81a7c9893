theorem kp_ks {a j : Nat} (h : kp a j = true) : ks a j = true := by
  by_cases h1 : a = 73
  · subst h1; cases (show false = true from h)
  by_cases h2 : a = 75
  · subst h2; cases (show false = true from h)
  by_cases h3 : a = 76
  · subst h3; cases (show false = true from h)
  have n1 : (a == 73) = false := by simp [h1]
  have n2 : (a == 75) = false := by simp [h2]
  have n3 : (a == 76) = false := by simp [h3]
  by_cases h4 : a = 65
  · subst h4
    by_cases j1 : j = 28
    · subst j1; exact absurd h (by decide)
    by_cases j2 : j = 29
    · subst j2; exact absurd h (by decide)
    by_cases j3 : j = 30
    · subst j3; exact absurd h (by decide)
    simp [ks, j1, j2, j3]
  · have n4 : (a == 65) = false := by simp [h4]
    simp [ks, n1, n2, n3, n4]
theorem fr_ks {I M : Mm} (h : Fk ks I M) : Fr I M := fun a j hk => h a j (kp_ks hk)
theorem Sim.gat {I : Mm} {J : Nat → Nat → Int64} {w : Bool} (h : Sim I J w) : ∃ K, m_X4_gather (st2 I 0 7 0) (td w) = K ∧ ok_X4_gather (st2 I 0 7 0) (td w) ∧ Core K w ∧ K 0 7 = 0 ∧ Fit K (mlist (I 68)) ∧ m_X11_good K 68 = I 68 ∧ TR K (I 68) (td w) ∧ m_X11_good K 65 14 = I 0 4 ∧ K 68 = I 68 := by
  have hT : TR (st2 I 0 7 0) (I 68) (td w) := h.1.2.1.st (by omega)
  have hC : Core (st2 I 0 7 0) w := h.1.ref
  have hm := hC.2.2.2.2.2.2.2.2.2.2.1
  rw [st7_row _ _ (by omega)] at hm
  have g := c_gather hT h.1.1 hm
  have k68 : m_X4_gather (st2 I 0 7 0) (td w) 68 = I 68 := by
    rw [← st7_row I 0 (show (68 : Nat) ≠ 0 by omega)]
    exact funext fun j => g.1 68 j rfl
  refine ⟨_, rfl, g.2.2.2, hC.gath g.1 ?_, ?_, g.2.1, by rw [good_row _ (by omega)]; exact k68, hT.fk g.1 kg_low, ?_, k68⟩
  · rw [st7_row _ _ (by omega)]
    exact Or.inr ⟨g.2.2.1, g.2.1.1, g.2.1.2⟩
  · rw [g.1 0 7 rfl, st2_s]
  · rw [good_14, g.1 65 14 rfl, st7_row _ _ (by omega), h.hc]
theorem st_makes : St_makes Sim := by
  intro I J w h
  simp only [ok_X10_makes, m_X10_makes, f_X10_makes, u0_X10_makes, u1_X10_makes, ok_X10_gathered, m_X10_gathered, ok_X11_makes, m_X11_makes, f_X11_makes, opv_eq, cr, m_refused, f_no]
  by_cases q : gv (I 0 4) true = 0
  · have qc := (gv_t q).1
    simp only [q, if_true]
    obtain ⟨K, eK, ok, hC, h7, hF, k68, -, k14, -⟩ := h.gat
    have m := m_seek k68 h.1.1 (-1)
    rw [eK, k14, if_neg qc, if_neg qc, if_neg qc]
    exact ⟨ok, m.2.2, by rw [hF.1, m.2.1.1], Sim.fin hC h7 ((fr_good _).trans (fr_ks m.1)) (by decide)⟩
  · obtain ⟨qc, g1⟩ := gvn q
    simp only [if_neg q, h.g14, if_pos qc]
    rw [g1]
    exact ⟨trivial, trivial, trivial, h.bad (by decide)⟩
def bitsB (b : Bool) (l : List Nat) : Int32 := if b = true then oilB l else woodB l
theorem bitsB_snoc (b : Bool) (l : List Nat) (x : Nat) : bitsB b (l ++ [x]) = bitsB b l ||| ((1 : Int32) <<< ((if b = true then nI (x % 4) else nI (x / 4)) &&& 31)) := by
  unfold bitsB
  cases b
  · simp only [Bool.false_eq_true, if_false]; exact woodB_snoc l x
  · simp only [if_true]; exact oilB_snoc l x
theorem take_snoc {l : List Nat} {i : Nat} (h : i < l.length) : l.take (i + 1) = l.take i ++ [l.getD i 0] := by
  rw [List.take_succ]
  simp [List.getD, h]
theorem bits_lp {K : Mm} {l : List Nat} (hF : Fit K l) (hl : l.length ≤ 40) (h40 : ∀ i, i < l.length → l.getD i 0 < 40) (b : Bool) : ∀ (c i : Nat) (acc : Int32), i + c = l.length → acc = bitsB b (l.take i) → (lp_X4_bitsOf_4 K b (c + 1) acc (nI i)).1 = bitsB b l ∧ oklp_X4_bitsOf_4 K b (c + 1) acc (nI i) := by
  intro c
  induction c with
  | zero =>
    intro i acc hi ha
    rw [lp_X4_bitsOf_4, oklp_X4_bitsOf_4, hF.1, if_pos (nI_le (by omega) (by omega)), if_pos (nI_le (by omega) (by omega))]
    refine ⟨?_, trivial⟩
    show acc = _
    rw [ha, List.take_of_length_le (by omega)]
  | succ c ih =>
    intro i acc hi ha
    have q : ¬ nI l.length ≤ nI i := nI_ge (by omega) (by omega)
    have q2 : ¬ Int32.ofNat 40 ≤ nI i := nI_ge (b := 40) (by omega) (by omega)
    have d := div4 (j := l.getD i 0) (by have := h40 i (by omega); omega)
    have eu : u0_X4_bitsOf K b (nI i) = if b = true then nI (l.getD i 0 % 4) else nI (l.getD i 0 / 4) := by
      rw [u0_X4_bitsOf, opv_eq, nI_clamp (by omega), hF.2 i (by omega), d.2, d.1]
    have k := ih (i + 1) (acc ||| ((1 : Int32) <<< ((if b = true then nI (l.getD i 0 % 4) else nI (l.getD i 0 / 4)) &&& 31))) (by omega) (by rw [take_snoc (by omega), bitsB_snoc, ha])
    rw [lp_X4_bitsOf_4, oklp_X4_bitsOf_4, hF.1, sz_59, if_neg q, if_neg q, if_neg q2, if_neg q2, nI_1, eu]
    exact ⟨k.1, vp_in_nI (by omega) (by omega), k.2⟩
theorem ml_le (r : Vc) : (mlist r).length ≤ 40 := gl_le r 40
theorem ml_lt {r : Vc} {i : Nat} (hi : i < (mlist r).length) : (mlist r).getD i 0 < 40 := gl_lt (j := 40) hi
theorem c_bits {K : Mm} {r : Vc} (hF : Fit K (mlist r)) (b : Bool) : f_X4_bitsOf K b = bitsB b (mlist r) ∧ ok_X4_bitsOf K b := by
  have hl := ml_le r
  rw [f_X4_bitsOf, ok_X4_bitsOf, opv_eq, opv_eq, hF.1, show (0 : Int32) = nI 0 from rfl, mu_up_nI (by omega) (by omega), Nat.sub_zero]
  exact bits_lp hF hl (fun i hi => ml_lt hi) b _ 0 _ (by omega) (by cases b <;> rfl)
theorem m_bits {M : Mm} {r : Vc} {w fo : Int32} (h : Skd r w fo M (mlist r)) (b : Bool) : (if b = true then M 65 30 else M 65 29) = bitsB b (mlist r) := by
  unfold bitsB
  rw [h.2.1, h.2.2.1]
theorem st_could : St_could Sim := by
  intro I J w x1 h
  simp only [ok_X10_could, m_X10_could, f_X10_could, u0_X10_could, u1_X10_could, ok_X10_gathered, m_X10_gathered, ok_X11_could, m_X11_could, f_X11_could, u0_X11_could, opv_eq, cr, m_refused, f_no]
  by_cases q : gv (I 0 4) true = 0
  · have qc := (gv_t q).1
    simp only [q, if_true]
    obtain ⟨K, eK, ok, hC, h7, hF, k68, -, k14, -⟩ := h.gat
    have m := m_seek k68 h.1.1 (-1)
    have b := c_bits hF x1
    rw [eK, k14, if_neg qc, if_neg qc, if_neg qc, m_bits m.2.1]
    exact ⟨⟨ok, b.2⟩, m.2.2, b.1, Sim.fin hC h7 ((fr_good _).trans (fr_ks m.1)) (by decide)⟩
  · obtain ⟨qc, g1⟩ := gvn q
    simp only [if_neg q, h.g14, if_pos qc]
    rw [g1]
    exact ⟨trivial, trivial, trivial, h.bad (by decide)⟩
theorem only_lp {K M : Mm} {b : Bool} {x : Int32} (hx : (if b = true then M 65 30 else M 65 29) = x) : ∀ (c j : Nat), j + c = 10 → lp_X4_onlyOne_8 K b x (c + 1) (nI j) = (lp_X11_surely_25 M b (c + 1) (nI j)).1 ∧ (lp_X11_surely_25 M b (c + 1) (nI j)).2 = M := by
  intro c
  induction c with
  | zero =>
    intro j hj
    have q1 : (9 : Int32) < nI j := nI_lt (a := 9) (by omega) (by omega)
    have q2 : (10 : Int32) ≤ nI j := nI_le (a := 10) (by omega) (by omega)
    rw [lp_X4_onlyOne_8, lp_X11_surely_25, if_pos q1, if_pos q2]
    exact ⟨rfl, rfl⟩
  | succ c ih =>
    intro j hj
    have q1 : ¬ (9 : Int32) < nI j := nI_nlt (b := j) (a := 9) (by omega) (by omega)
    have q2 : ¬ (10 : Int32) ≤ nI j := nI_ge (b := 10) (by omega) (by omega)
    have k := ih (j + 1) (by omega)
    rw [lp_X4_onlyOne_8, lp_X11_surely_25, if_neg q1, if_neg q2, hx, nI_1]
    by_cases z : x = 1 <<< (nI j &&& 31)
    · rw [if_pos z, if_pos z]
      exact ⟨rfl, rfl⟩
    · rw [if_neg z, if_neg z]
      exact k
theorem st_surely : St_surely Sim := by
  intro I J w x1 h
  simp only [ok_X10_surely, m_X10_surely, f_X10_surely, u0_X10_surely, u1_X10_surely, ok_X10_gathered, m_X10_gathered, f_X4_onlyOne, ok_X4_onlyOne, ok_X11_surely, m_X11_surely, f_X11_surely, opv_eq, cr, m_refused, f_no]
  by_cases q : gv (I 0 4) true = 0
  · have qc := (gv_t q).1
    simp only [q, if_true]
    obtain ⟨K, eK, ok, hC, h7, hF, k68, -, k14, -⟩ := h.gat
    have m := m_seek k68 h.1.1 (-1)
    have b := c_bits hF x1
    have mu1 : mu_le 9 0 + 1 = 10 + 1 := by rw [show mu_le 9 0 = mu_le (nI 9) (nI 0) from rfl, mu_le_nI (by omega) (by omega)]
    have mu2 : mu_up 10 0 + 1 = 10 + 1 := by rw [show mu_up 10 0 = mu_up (nI 10) (nI 0) from rfl, mu_up_nI (by omega) (by omega)]
    have o := only_lp (K := K) (m_bits m.2.1 x1) 10 0 (by omega)
    rw [nI_0] at o
    rw [eK, k14, if_neg qc, if_neg qc, if_neg qc, b.1, mu1, mu2, o.2]
    exact ⟨⟨ok, b.2⟩, m.2.2, o.1, Sim.fin hC h7 ((fr_good _).trans (fr_ks m.1)) (by decide)⟩
  · obtain ⟨qc, g1⟩ := gvn q
    simp only [if_neg q, h.g14, if_pos qc]
    rw [g1]
    exact ⟨trivial, trivial, trivial, h.bad (by decide)⟩
theorem st_makeAt : St_makeAt Sim := by
  intro I J w x1 h
  have hb := h.1.1
  simp only [ok_X10_makeAt, m_X10_makeAt, f_X10_makeAt, u0_X10_makeAt, u1_X10_makeAt, u2_X10_makeAt, ok_X10_gathered, m_X10_gathered, ok_X11_makeAt, m_X11_makeAt, f_X11_makeAt, u0_X11_makeAt, u1_X11_makeAt, opv_eq, cl, m_lacks, f_no, f_within]
  by_cases qc : I 0 4 = 0
  · have l1 : ∀ b, lv (I 0 4) b = 1 := fun b => by unfold lv; rw [if_pos qc]
    simp only [if_pos qc, l1, h.g14]
    refine ⟨⟨trivial, ?_⟩, trivial, ?_, h.bad (by decide)⟩
    · rw [if_neg (by decide)]; trivial
    · rw [if_neg (by decide)]
  · have g := c_gather h.1.2.1 hb h.1.2.2.2.2.2.2.2.2.2.2.1
    have hC : Core (m_X4_gather I (td w)) w := h.1.gath g.1 (Or.inr ⟨g.2.2.1, g.2.1.1, g.2.1.2⟩)
    have hF := g.2.1
    have e4 : m_X4_gather I (td w) 0 4 = I 0 4 := g.1 0 4 rfl
    have e68 : m_X4_gather I (td w) 68 = I 68 := funext fun j => g.1 68 j rfl
    have e14 : m_X4_gather I (td w) 65 14 = I 65 14 := g.1 65 14 rfl
    have hl := ml_le (I 68)
    simp only [if_neg qc]
    generalize m_X4_gather I (td w) = K at *
    rw [hF.1, e4]
    have k68 : ∀ v, m_X11_good (st2 K 0 7 v) 68 = I 68 := fun v => by rw [good_row _ (by omega), st7_row _ _ (by omega), e68]
    have k14 : ∀ v, m_X11_good (st2 K 0 7 v) 65 14 = I 0 4 := fun v => by rw [good_14, st7_row _ _ (by omega), e14, h.hc]
    have eB : (if inb x1 0 (nI (mlist (I 68)).length - 1) = true then true else false) = inb x1 0 (nI (mlist (I 68)).length - 1) := by cases inb x1 0 (nI (mlist (I 68)).length - 1) <;> rfl
    rw [eB]
    by_cases z : inb x1 0 (nI (mlist (I 68)).length - 1) = true
    · obtain ⟨i, hi, rfl⟩ := inb_cnt (y := nI (mlist (I 68)).length) rfl (by omega) z
      have l0 : lv (I 0 4) (inb (nI i) 0 (nI (mlist (I 68)).length - 1)) = 0 := by unfold lv; rw [if_neg qc, if_pos z]
      rw [l0, if_pos rfl, if_pos rfl, k14, if_neg qc, if_neg qc, if_neg qc, if_pos (nI_pos' (by omega)), if_pos (nI_pos' (by omega)), if_pos (nI_pos' (by omega))]
      have m := m_seek (k68 0) hb (nI i)
      have fo := m.2.1.2.2.2.2.1 i hi rfl
      have lt := ml_lt hi
      have nl : nam ((mlist (I 68)).getD i 0) < 1000 := by unfold nam; omega
      rw [fo, if_pos (nI_pos' (by omega)), if_pos (nI_pos' (by omega))]
      have d := div4 (j := (mlist (I 68)).getD i 0) (by omega)
      refine ⟨⟨g.2.2.2, ?_⟩, m.2.2, ?_, Sim.fin (v := 0) hC.ref (st2_s _ _ _ _) ((fr_good _).trans (fr_ks m.1)) (by decide)⟩
      · rw [ok_X4_nameOf, opv_eq, st7_row _ _ (by omega), hF.1, sz_59, if_neg (nI_pos (by omega)), if_neg (nI_ge hi (by omega)), if_neg (show ¬ Int32.ofNat 40 ≤ nI i from nI_ge (b := 40) (by omega) (by omega))]
        exact ⟨vp_in_nI (by omega) (by omega), vp_in_nI (by omega) (by omega)⟩
      · rw [f_X4_nameOf, opv_eq, u0_X4_nameOf, opv_eq, st7_row _ _ (by omega), st7_row _ _ (by omega), hF.1, sz_59, if_neg (nI_pos (by omega)), if_neg (nI_ge hi (by omega)), if_neg (show ¬ Int32.ofNat 40 ≤ nI i from nI_ge (b := 40) (by omega) (by omega)), nI_clamp (by omega), hF.2 i hi, d.2, d.1, show nI ((mlist (I 68)).getD i 0 / 4) * 10 = nI ((mlist (I 68)).getD i 0 / 4 * 10) from pk_mul _ 10, nI_add]
        congr 1
        unfold nam
        omega
    · have l1 : lv (I 0 4) (inb x1 0 (nI (mlist (I 68)).length - 1)) = 1 := by unfold lv; rw [if_neg qc, if_neg z]
      have n10 : ¬ (1 : Int32) = 0 := by decide
      rw [l1, if_neg n10, if_neg n10, k14, if_neg qc, if_neg qc, if_neg qc]
      by_cases y : (0 : Int32) ≤ x1
      · have m := m_seek (k68 1) hb x1
        have fo := m.2.1.2.2.2.2.2 (fun i hi e => z (by
          rw [e]
          unfold inb
          rw [if_neg (nI_pos (by omega)), show nI (mlist (I 68)).length - 1 = nI ((mlist (I 68)).length - 1) from pk_sub (b := 1) (by omega), if_neg (nI_nlt (by omega) (by omega))]))
        rw [if_pos y, if_pos y, if_pos y, fo, if_neg (by decide), if_neg (by decide)]
        refine ⟨⟨g.2.2.2, trivial⟩, m.2.2, rfl, Sim.fin (v := 1) hC.ref (st2_s _ _ _ _) ?_ (by decide)⟩
        rw [m_X11_no, opv_eq]
        have f1 := (fr_good (st2 K 0 7 1)).trans (fr_ks m.1)
        intro a j hk
        by_cases a1 : a = 65
        · subst a1
          by_cases j1 : j = 11
          · subst j1; rw [st2_s, st2_s]
          · rw [st2_o _ _ _ j1, st2_o _ _ _ j1, f1 65 j hk, st2_o _ _ _ j1]
        · rw [st2_a _ _ a1, st2_a _ _ a1, f1 a j hk, st2_a _ _ a1]
      · rw [if_neg y, if_neg y, if_neg y]
        exact ⟨⟨g.2.2.2, trivial⟩, trivial, rfl, Sim.fin (v := 1) hC.ref (st2_s _ _ _ _) (fr_no _ _) (by decide)⟩
