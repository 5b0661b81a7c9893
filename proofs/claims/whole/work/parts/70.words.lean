/-! ===== words ===== -/
theorem pk32_pos {d : Nat → Nat} {n : Nat} (h : ∀ i, i < n → 1 ≤ d i) (hn : 0 < n) : 0 < pk32 d n := by
  obtain ⟨m, rfl⟩ : ∃ g, n = g + 1 := ⟨n - 1, by omega⟩
  rw [pk32]
  have := h m (by omega)
  omega
theorem pk32_lt {d : Nat → Nat} : ∀ n, (∀ i, i < n → d i < 32) → pk32 d n < 32 ^ n := by
  intro n
  induction n with
  | zero => intro _; exact Nat.one_pos
  | succ n ih =>
    intro h
    have a := ih (fun i hi => h i (by omega))
    have b := h n (by omega)
    rw [pk32, Nat.pow_succ]
    omega
theorem pk32_inj {d d' : Nat → Nat} : ∀ n n', (∀ i, i < n → 1 ≤ d i ∧ d i < 32) → (∀ i, i < n' → 1 ≤ d' i ∧ d' i < 32) → pk32 d n = pk32 d' n' → n = n' ∧ ∀ i, i < n → d i = d' i := by
  intro n
  induction n with
  | zero =>
    intro n' _ h2 e
    cases n' with
    | zero => exact ⟨rfl, fun i hi => absurd hi (by omega)⟩
    | succ m =>
      have := pk32_pos (d := d') (n := m + 1) (fun i hi => (h2 i hi).1) (by omega)
      rw [← e, pk32] at this
      omega
  | succ n ih =>
    intro n' h1 h2 e
    cases n' with
    | zero =>
      have := pk32_pos (d := d) (n := n + 1) (fun i hi => (h1 i hi).1) (by omega)
      rw [e, pk32] at this
      omega
    | succ m =>
      rw [pk32, pk32] at e
      have a := h1 n (by omega)
      have b := h2 m (by omega)
      have k := ih m (fun i hi => h1 i (by omega)) (fun i hi => h2 i (by omega)) (by omega)
      have en := k.1
      subst en
      refine ⟨rfl, fun i hi => ?_⟩
      by_cases z : i = n
      · subst z; omega
      · exact k.2 i (by omega)
theorem ld_in {x : Int32} (h : cL x = true) : 1 ≤ ld x ∧ ld x < 32 := by
  obtain ⟨_, h1, h2⟩ := cL_dg h
  unfold ld
  omega
theorem ld_inj {x y : Int32} (h : cL x = true) (h' : cL y = true) (e : ld x = ld y) : x = y := by
  obtain ⟨a, h1, h2⟩ := cL_dg h
  obtain ⟨b, h3, h4⟩ := cL_dg h'
  unfold ld at e
  rw [a, b]
  congr 1
  omega
def slen (s : Nat) : Nat := lenS.getD s 0
def sch (s i : Nat) : Int32 := sCh s (nI i)
theorem str_all : (List.range 22).all (fun s => decide (1 ≤ slen s) && decide (slen s ≤ 8) && (List.range (slen s)).all (fun i => cL (sch s i))) = true := by decide +kernel
theorem str_ok {s : Nat} (h : s < 22) : 1 ≤ slen s ∧ slen s ≤ 8 ∧ ∀ i, i < slen s → cL (sch s i) = true := by
  have k := List.all_eq_true.mp str_all s (List.mem_range.mpr h)
  simp only [Bool.and_eq_true, decide_eq_true_eq] at k
  exact ⟨k.1.1, k.1.2, fun i hi => List.all_eq_true.mp k.2 i (List.mem_range.mpr hi)⟩
theorem ck_str (I : Mm) (J : Nat → Nat → Int64) {s : Nat} (hs : s < 22) : ∀ (c l f : Nat), l + c = slen s → c < f → (lp_X6_isWord_15 I J s f (lN (pk32 (fun i => ld (sch s i)) l)) (nI l)).1 = lN (pk32 (fun i => ld (sch s i)) (slen s)) ∧ oklp_X6_isWord_15 I J s f (lN (pk32 (fun i => ld (sch s i)) l)) (nI l) := by
  obtain ⟨_, s8, sl⟩ := str_ok hs
  have es : sLen s = nI (slen s) := rfl
  intro c
  induction c with
  | zero =>
    intro l f hl hf
    obtain ⟨f, rfl⟩ : ∃ g, f = g + 1 := ⟨f - 1, by omega⟩
    have z : nI (slen s) ≤ nI l := nI_le (by omega) (by omega)
    rw [lp_X6_isWord_15, oklp_X6_isWord_15, es, if_pos z, if_pos z, show l = slen s by omega]
    exact ⟨rfl, trivial⟩
  | succ c ih =>
    intro l f hl hf
    obtain ⟨f, rfl⟩ : ∃ g, f = g + 1 := ⟨f - 1, by omega⟩
    have z : ¬ nI (slen s) ≤ nI l := nI_ge (by omega) (by omega)
    rw [lp_X6_isWord_15, oklp_X6_isWord_15, es, if_neg z, if_neg z]
    have k := ih (l + 1) f (by omega) (by omega)
    have e := cL_pk (sl l (by omega)) (pk32 (fun i => ld (sch s i)) l)
    rw [show sCh s (nI l) = sch s l from rfl, e, nI_1]
    exact ⟨k.1, vp_in_nI (show l < slen s by omega) (show slen s < 2 ^ 31 by omega), k.2⟩
/-- the token's letters are those of word s -/
def isS (M : Mm) (s : Nat) : Prop := M 65 8 = nI (slen s) ∧ ∀ i, i < slen s → M 67 i = sch s i
theorem cw_eq {I : Mm} {J : Nat → Nat → Int64} {M : Mm} {s : Nat} (hs : s < 22) (h6 : I 2 6 = 1) (hw : Wr J M) : (f_X6_isWord I J s = true ↔ isS M s) ∧ ok_X6_isWord I J s := by
  obtain ⟨s1, s8, sl⟩ := str_ok hs
  have k := ck_str I J hs (slen s) 0 (mu_up (sLen s) 0 + 1) (by omega) (by rw [show mu_up (sLen s) 0 = mu_up (nI (slen s)) (nI 0) from rfl, mu_up_nI (by omega) (by omega)]; omega)
  rw [show lN (pk32 (fun i => ld (sch s i)) 0) = 0 from rfl, show nI 0 = (0 : Int32) from rfl] at k
  rw [f_X6_isWord, ok_X6_isWord, opv_eq, opv_eq, if_pos h6, if_pos h6, u0_X6_isWord, opv_eq, k.1]
  refine ⟨?_, k.2⟩
  obtain ⟨c, c1, c8, m8, ml, jw⟩ := hw
  rw [jw]
  have d1 : ∀ i, i < slen s → 1 ≤ ld (sch s i) ∧ ld (sch s i) < 32 := fun i hi => ld_in (sl i hi)
  have d2 : ∀ i, i < c → 1 ≤ ld (M 67 i) ∧ ld (M 67 i) < 32 := fun i hi => ld_in (ml i hi)
  have b1 := pk32_lt (d := fun i => ld (sch s i)) (slen s) (fun i hi => (d1 i hi).2)
  have b2 := pk32_lt (d := fun i => ld (M 67 i)) c (fun i hi => (d2 i hi).2)
  have p1 : 32 ^ slen s ≤ 32 ^ 8 := Nat.pow_le_pow_right (by omega) s8
  have p2 : 32 ^ c ≤ 32 ^ 8 := Nat.pow_le_pow_right (by omega) c8
  have p3 : (32 : Nat) ^ 8 < 2 ^ 63 := by decide
  have key : lg_cmp (lN (pk32 (fun i => ld (sch s i)) (slen s))) (lN (pk32 (fun i => ld (M 67 i)) c)) = 0 ↔ isS M s := by
    rw [lg_cmp_eq, pk_lEQ (by omega) (by omega)]
    constructor
    · intro e
      have q := pk32_inj _ _ d1 d2 e
      refine ⟨by rw [m8, q.1], fun i hi => ld_inj (ml i (by omega)) (sl i hi) (q.2 i hi).symm⟩
    · intro e
      have ec : c = slen s := (nI_eq (by omega) (by omega)).mp (m8.symm.trans e.1)
      rw [ec]
      exact pk32_congr _ (fun i hi => by rw [e.2 i hi])
  by_cases z : lg_cmp (lN (pk32 (fun i => ld (sch s i)) (slen s))) (lN (pk32 (fun i => ld (M 67 i)) c)) = 0
  · rw [if_pos z]; exact ⟨fun _ => key.mp z, fun _ => rfl⟩
  · rw [if_neg z]; exact ⟨fun h => absurd h (by decide), fun h => absurd (key.mpr h) z⟩
theorem mk_str {M : Mm} {s : Nat} (s8 : slen s ≤ 8) (m8 : M 65 8 = nI (slen s)) : ∀ (c l f : Nat) (b : Bool), l + c = slen s → c < f → ((lp_X11_isWord_32 M s f b (nI l)).1 = true ↔ b = true ∧ ∀ i, l ≤ i → i < slen s → M 67 i = sch s i) ∧ oklp_X11_isWord_32 M s f b (nI l) := by
  intro c
  induction c with
  | zero =>
    intro l f b hl hf
    obtain ⟨f, rfl⟩ : ∃ g, f = g + 1 := ⟨f - 1, by omega⟩
    have z : nI (slen s) ≤ nI l := nI_le (by omega) (by omega)
    rw [lp_X11_isWord_32, oklp_X11_isWord_32, m8, if_pos z, if_pos z]
    exact ⟨⟨fun h => ⟨h, fun i h1 h2 => absurd h2 (by omega)⟩, fun h => h.1⟩, trivial⟩
  | succ c ih =>
    intro l f b hl hf
    obtain ⟨f, rfl⟩ : ∃ g, f = g + 1 := ⟨f - 1, by omega⟩
    have z : ¬ nI (slen s) ≤ nI l := nI_ge (by omega) (by omega)
    rw [lp_X11_isWord_32, oklp_X11_isWord_32, m8, if_neg z, if_neg z, nI_1]
    have k := ih (l + 1) f (u0_X11_isWord M s b (nI l)) (by omega) (by omega)
    have eu : u0_X11_isWord M s b (nI l) = true ↔ b = true ∧ M 67 l = sch s l := by
      rw [u0_X11_isWord, opv_eq, nI_clamp (by omega), show sCh s (nI l) = sch s l from rfl]
      by_cases q : b = true
      · rw [if_pos q]
        by_cases q2 : M 67 l = sch s l
        · rw [if_pos q2]; exact ⟨fun _ => ⟨q, q2⟩, fun _ => rfl⟩
        · rw [if_neg q2]; exact ⟨fun h => absurd h (by decide), fun h => absurd h.2 q2⟩
      · rw [if_neg q]; exact ⟨fun h => absurd h (by decide), fun h => absurd h.1 q⟩
    refine ⟨?_, ?_, k.2⟩
    · rw [k.1, eu]
      constructor
      · intro h
        refine ⟨h.1.1, fun i h1 h2 => ?_⟩
        by_cases q : i = l
        · subst q; exact h.1.2
        · exact h.2 i (by omega) h2
      · intro h
        exact ⟨⟨h.1, h.2 l (by omega) (by omega)⟩, fun i h1 h2 => h.2 i (by omega) h2⟩
    · split
      · exact ⟨vp_in_nI (by rw [show sz 67 = 8 from by decide +kernel]; omega) (by rw [show sz 67 = 8 from by decide +kernel]; omega), vp_in_nI (show l < slen s by omega) (show slen s < 2 ^ 31 by omega)⟩
      · trivial
theorem mw_eq {M : Mm} {s : Nat} (hs : s < 22) (h13 : M 65 13 = 0) (h6 : M 65 6 = 2) : (f_X11_isWord M s = true ↔ isS M s) ∧ ok_X11_isWord M s := by
  obtain ⟨s1, s8, sl⟩ := str_ok hs
  rw [f_X11_isWord, ok_X11_isWord, opv_eq, opv_eq, if_pos h13, if_pos h6, if_pos h13, if_pos h6, show sLen s = nI (slen s) from rfl]
  by_cases z : M 65 8 = nI (slen s)
  · have k := mk_str s8 z (slen s) 0 (mu_up (M 65 8) 0 + 1) true (by omega) (by rw [z, show (0 : Int32) = nI 0 from rfl, mu_up_nI (by omega) (by omega)]; omega)
    rw [show nI 0 = (0 : Int32) from rfl] at k
    rw [if_pos z, if_pos z, k.1]
    exact ⟨⟨fun h => ⟨z, fun i hi => h.2 i (by omega) hi⟩, fun h => ⟨rfl, fun i _ hi => h.2 i hi⟩⟩, k.2⟩
  · rw [if_neg z, if_neg z]
    exact ⟨⟨fun h => absurd h (by decide), fun h => absurd h.1 z⟩, trivial⟩
/-- both ask alike whether the token is word s -/
theorem tk_word {I : Mm} {J : Nat → Nat → Int64} {M : Mm} {s : Nat} (ht : Tk I J M) (h13 : M 65 13 = 0) (hs : s < 22) : f_X6_isWord I J s = f_X11_isWord M s ∧ ok_X6_isWord I J s ∧ ok_X11_isWord M s := by
  have no : I 2 6 ≠ 1 → M 65 6 ≠ 2 → f_X6_isWord I J s = f_X11_isWord M s ∧ ok_X6_isWord I J s ∧ ok_X11_isWord M s := by
    intro a b
    rw [f_X6_isWord, ok_X6_isWord, f_X11_isWord, ok_X11_isWord, opv_eq, opv_eq, opv_eq, opv_eq, if_neg a, if_neg a, if_pos h13, if_pos h13, if_neg b, if_neg b]
    exact ⟨rfl, trivial, trivial⟩
  rcases ht.2 with ⟨a, b, _⟩ | ⟨a, b, _, w⟩ | ⟨a, b, _⟩ | ⟨a, b, _⟩ | ⟨a, b⟩
  · exact no (by rw [a]; decide) (by rw [b]; decide)
  · have c := cw_eq hs a w
    have m := mw_eq hs h13 b
    refine ⟨?_, c.2, m.2⟩
    have e := c.1.trans m.1.symm
    cases hx : f_X6_isWord I J s <;> cases hy : f_X11_isWord M s
    · rfl
    · rw [hx, hy] at e; exact absurd (e.mpr rfl) (by decide)
    · rw [hx, hy] at e; exact absurd (e.mp rfl) (by decide)
    · rfl
  · exact no (by rw [a]; decide) (by rw [b]; decide)
  · exact no (by rw [a]; decide) (by rw [b]; decide)
  · exact no (by rw [a]; decide) (by rw [b]; decide)
theorem word_kind {M : Mm} {s : Nat} (h : f_X11_isWord M s = true) : M 65 6 = 2 ∧ M 65 13 = 0 := by
  rw [f_X11_isWord, opv_eq] at h
  by_cases a : M 65 13 = 0
  · rw [if_pos a] at h
    by_cases b : M 65 6 = 2
    · exact ⟨b, a⟩
    · rw [if_neg b] at h; cases h
  · rw [if_neg a] at h; cases h
