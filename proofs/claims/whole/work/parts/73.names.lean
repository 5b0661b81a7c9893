/-! ===== names ===== -/
def npk (r : Vc) (n : Nat) : Nat := pk32 (fun i => ld (r (96 + 8 * n + i))) (r (80 + n)).toNatClampNeg
/-- the model's rows of names hold names or nothing -/
def NO (r : Vc) : Prop := ∀ n, n < 16 → ∃ c, c ≤ 8 ∧ r (80 + n) = nI c ∧ ∀ i, i < c → cL (r (96 + 8 * n + i)) = true
def tpk (M : Mm) (c : Nat) : Nat := pk32 (fun i => ld (M 67 i)) c
theorem sz_69 : sz 69 = 224 := by decide +kernel
theorem sz_67 : sz 67 = 8 := by decide +kernel
theorem find_in {M : Mm} {n c : Nat} (hn : n < 16) (hc : c ≤ 8) (h8 : M 65 8 = nI c) : ∀ (k l f : Nat) (b : Bool), l + k = c → k < f → ((lp_X11_find_44 M (nI n) f b (nI l)).1 = true ↔ b = true ∧ ∀ i, l ≤ i → i < c → M 69 (96 + 8 * n + i) = M 67 i) ∧ oklp_X11_find_44 M (nI n) f b (nI l) := by
  intro k
  induction k with
  | zero =>
    intro l f b hl hf
    obtain ⟨f, rfl⟩ : ∃ g, f = g + 1 := ⟨f - 1, by omega⟩
    have z : nI c ≤ nI l := nI_le (by omega) (by omega)
    rw [lp_X11_find_44, oklp_X11_find_44, h8, if_pos z, if_pos z]
    exact ⟨⟨fun h => ⟨h, fun i h1 h2 => absurd h2 (by omega)⟩, fun h => h.1⟩, trivial⟩
  | succ k ih =>
    intro l f b hl hf
    obtain ⟨f, rfl⟩ : ∃ g, f = g + 1 := ⟨f - 1, by omega⟩
    have z : ¬ nI c ≤ nI l := nI_ge (by omega) (by omega)
    have e96 : (96 : Int32) + 8 * nI n + nI l = nI (96 + 8 * n + l) := by
      rw [show (96 : Int32) = nI 96 from rfl, show (8 : Int32) = nI 8 from rfl, pk_mul, nI_add, nI_add]
    rw [lp_X11_find_44, oklp_X11_find_44, h8, if_neg z, if_neg z, nI_1, e96]
    by_cases q : b = true
    · rw [if_pos q, if_pos q]
      have kk := ih (l + 1) f (u1_X11_find M (nI n) (nI l)) (by omega) (by omega)
      have eu : u1_X11_find M (nI n) (nI l) = true ↔ M 69 (96 + 8 * n + l) = M 67 l := by
        rw [u1_X11_find, opv_eq, e96, nI_clamp (by omega), nI_clamp (by omega)]
        by_cases q2 : M 69 (96 + 8 * n + l) = M 67 l
        · rw [if_pos q2]; exact ⟨fun _ => q2, fun _ => rfl⟩
        · rw [if_neg q2]; exact ⟨fun h => absurd h (by decide), fun h => absurd h q2⟩
      refine ⟨?_, vp_in_nI (by rw [sz_69]; omega) (by rw [sz_69]; omega), vp_in_nI (by rw [sz_67]; omega) (by rw [sz_67]; omega), kk.2⟩
      rw [kk.1, eu]
      constructor
      · intro h
        refine ⟨q, fun i h1 h2 => ?_⟩
        by_cases q2 : i = l
        · subst q2; exact h.1
        · exact h.2 i (by omega) h2
      · intro h
        exact ⟨h.2 l (by omega) (by omega), fun i h1 h2 => h.2 i (by omega) h2⟩
    · rw [if_neg q, if_neg q]
      exact ⟨⟨fun h => absurd h q, fun h => absurd h.1 q⟩, trivial⟩
/-- row n holds the token's name -/
def sm (M : Mm) (c n : Nat) : Prop := M 69 (80 + n) ≠ 0 ∧ npk (M 69) n = tpk M c
theorem find_same {M : Mm} {n c : Nat} (hn : n < 16) (h1 : 1 ≤ c) (hc : c ≤ 8) (h8 : M 65 8 = nI c) (hl : ∀ i, i < c → cL (M 67 i) = true) (ho : NO (M 69)) : ((lp_X11_find_44 M (nI n) (mu_up (M 65 8) 0 + 1) (u0_X11_find M (nI n)) 0).1 = true ↔ sm M c n) ∧ oklp_X11_find_44 M (nI n) (mu_up (M 65 8) 0 + 1) (u0_X11_find M (nI n)) 0 := by
  have k := find_in hn hc h8 c 0 (mu_up (M 65 8) 0 + 1) (u0_X11_find M (nI n)) (by omega) (by rw [h8, show (0 : Int32) = nI 0 from rfl, mu_up_nI (by omega) (by omega)]; omega)
  rw [show nI 0 = (0 : Int32) from rfl] at k
  refine ⟨?_, k.2⟩
  rw [k.1]
  obtain ⟨d, d8, ed, el⟩ := ho n hn
  have eu : u0_X11_find M (nI n) = true ↔ d ≠ 0 ∧ d = c := by
    rw [u0_X11_find, opv_eq, show (80 : Int32) + nI n = nI (80 + n) by rw [show (80 : Int32) = nI 80 from rfl, nI_add], nI_clamp (by omega), ed, h8]
    by_cases z : d = 0
    · subst z
      rw [if_pos (by decide)]
      exact ⟨fun h => absurd h (by decide), fun h => absurd rfl h.1⟩
    · rw [if_neg (nI_nle (by omega) (by omega))]
      by_cases z2 : d = c
      · rw [if_pos (by rw [z2])]; exact ⟨fun _ => ⟨z, z2⟩, fun _ => rfl⟩
      · rw [if_neg (fun q => z2 ((nI_eq (by omega) (by omega)).mp q))]; exact ⟨fun h => absurd h (by decide), fun h => absurd h.2 z2⟩
  rw [eu]
  unfold sm npk tpk
  rw [ed, nI_clamp (by omega)]
  constructor
  · intro h
    obtain ⟨⟨a, b⟩, e⟩ := h
    subst b
    exact ⟨nI_ne0 (by omega) (by omega), pk32_congr _ (fun i hi => by rw [e i (by omega) hi])⟩
  · intro h
    have q := pk32_inj _ _ (fun i hi => ld_in (el i hi)) (fun i hi => ld_in (hl i hi)) h.2
    have e := q.1
    subst e
    exact ⟨⟨by omega, rfl⟩, fun i _ hi => ld_inj (el i hi) (hl i hi) (q.2 i hi)⟩
theorem find_lp {M : Mm} {c : Nat} (h1 : 1 ≤ c) (hc : c ≤ 8) (h8 : M 65 8 = nI c) (hl : ∀ i, i < c → cL (M 67 i) = true) (ho : NO (M 69)) : ∀ (k l f : Nat), l + k = 16 → k < f → ((lp_X11_find_2 M f (nI l) = -1 ∧ ∀ n, l ≤ n → n < 16 → ¬ sm M c n) ∨ ∃ n, n < 16 ∧ lp_X11_find_2 M f (nI l) = nI n ∧ sm M c n) ∧ oklp_X11_find_2 M f (nI l) := by
  intro k
  induction k with
  | zero =>
    intro l f hl hf
    obtain ⟨f, rfl⟩ : ∃ g, f = g + 1 := ⟨f - 1, by omega⟩
    have z : (16 : Int32) ≤ nI l := nI_le (a := 16) (by omega) (by omega)
    rw [lp_X11_find_2, oklp_X11_find_2, if_pos z, if_pos z]
    exact ⟨Or.inl ⟨rfl, fun n h1 h2 => absurd h2 (by omega)⟩, trivial⟩
  | succ k ih =>
    intro l f hlk hf
    obtain ⟨f, rfl⟩ : ∃ g, f = g + 1 := ⟨f - 1, by omega⟩
    have z : ¬ (16 : Int32) ≤ nI l := nI_ge (b := 16) (by omega) (by omega)
    have s := find_same (n := l) (by omega) h1 hc h8 hl ho
    have v : vp_in (80 + nI l) (sz 69) := by
      rw [show (80 : Int32) + nI l = nI (80 + l) by rw [show (80 : Int32) = nI 80 from rfl, nI_add], sz_69]
      exact vp_in_nI (by omega) (by omega)
    have kk := ih (l + 1) f (by omega) (by omega)
    rw [lp_X11_find_2, oklp_X11_find_2, if_neg z, if_neg z, nI_1]
    have vv : (if M 69 (80 + nI l).toNatClampNeg ≤ 0 then True else vp_in (80 + nI l) (sz 69)) := by
      by_cases y : M 69 (80 + nI l).toNatClampNeg ≤ 0
      · rw [if_pos y]; exact True.intro
      · rw [if_neg y]; exact v
    by_cases q : sm M c l
    · rw [if_pos (s.1.mpr q), if_pos (s.1.mpr q)]
      exact ⟨Or.inr ⟨l, by omega, rfl, q⟩, v, vv, s.2, trivial⟩
    · rw [if_neg (fun h => q (s.1.mp h)), if_neg (fun h => q (s.1.mp h))]
      refine ⟨?_, v, vv, s.2, kk.2⟩
      rcases kk.1 with ⟨a, b⟩ | b
      · refine Or.inl ⟨a, fun n h1 h2 => ?_⟩
        by_cases e : n = l
        · subst e; exact q
        · exact b n (by omega) h2
      · exact Or.inr b
theorem find_eq {M : Mm} {c : Nat} (h1 : 1 ≤ c) (hc : c ≤ 8) (h8 : M 65 8 = nI c) (hl : ∀ i, i < c → cL (M 67 i) = true) (ho : NO (M 69)) : ((f_X11_find M = -1 ∧ ∀ n, n < 16 → ¬ sm M c n) ∨ ∃ n, n < 16 ∧ f_X11_find M = nI n ∧ sm M c n) ∧ ok_X11_find M := by
  have k := find_lp h1 hc h8 hl ho 16 0 (opq 100) (by omega) (by rw [opq_eq]; omega)
  rw [show nI 0 = (0 : Int32) from rfl] at k
  rw [f_X11_find, ok_X11_find, opv_eq, opv_eq]
  refine ⟨?_, k.2⟩
  rcases k.1 with ⟨a, b⟩ | b
  · exact Or.inl ⟨a, fun n hn => b n (by omega) hn⟩
  · exact Or.inr b
/-! the class's list of names -/
theorem sz_12 : sz 12 = 16 := by decide +kernel
theorem sz_13 : sz 13 = 16 := by decide +kernel
theorem num_lp {I : Mm} {J : Nat → Nat → Int64} {k : Nat} (hk : k ≤ 16) (h14 : I 2 14 = nI k) : ∀ (c l f : Nat), l + c = k → c < f → ((lp_X6_nameNumber_2 I J f (nI l) = -1 ∧ ∀ i, l ≤ i → i < k → J 12 i ≠ J 2 8) ∨ ∃ i, i < k ∧ lp_X6_nameNumber_2 I J f (nI l) = nI i ∧ J 12 i = J 2 8) ∧ oklp_X6_nameNumber_2 I J f (nI l) := by
  intro c
  induction c with
  | zero =>
    intro l f hl hf
    obtain ⟨f, rfl⟩ : ∃ g, f = g + 1 := ⟨f - 1, by omega⟩
    have z : nI k ≤ nI l := nI_le (by omega) (by omega)
    rw [lp_X6_nameNumber_2, oklp_X6_nameNumber_2, h14, if_pos z, if_pos z]
    exact ⟨Or.inl ⟨rfl, fun i h1 h2 => absurd h2 (by omega)⟩, trivial⟩
  | succ c ih =>
    intro l f hl hf
    obtain ⟨f, rfl⟩ : ∃ g, f = g + 1 := ⟨f - 1, by omega⟩
    have z : ¬ nI k ≤ nI l := nI_ge (by omega) (by omega)
    have z2 : ¬ Int32.ofNat (sz 12) ≤ nI l := by rw [sz_12]; exact nI_ge (b := 16) (by omega) (by omega)
    have v : vp_in (nI l) (sz 12) := vp_in_nI (by rw [sz_12]; omega) (by rw [sz_12]; omega)
    have kk := ih (l + 1) f (by omega) (by omega)
    rw [lp_X6_nameNumber_2, oklp_X6_nameNumber_2, h14, if_neg z, if_neg z, if_neg z2, if_neg z2, nI_clamp (by omega), nI_1]
    by_cases q : J 12 l = J 2 8
    · have q' : lg_cmp (J 12 l) (J 2 8) = 0 := by rw [lg_cmp_eq]; exact q
      rw [if_pos q', if_pos q']
      exact ⟨Or.inr ⟨l, by omega, rfl, q⟩, v, trivial⟩
    · have q' : ¬ lg_cmp (J 12 l) (J 2 8) = 0 := fun h => q (by rw [lg_cmp_eq] at h; exact h)
      rw [if_neg q', if_neg q']
      refine ⟨?_, v, kk.2⟩
      rcases kk.1 with ⟨a, b⟩ | b
      · refine Or.inl ⟨a, fun i h1 h2 => ?_⟩
        by_cases e : i = l
        · subst e; exact q
        · exact b i (by omega) h2
      · exact Or.inr b
theorem num_eq {I : Mm} {J : Nat → Nat → Int64} {k : Nat} (hk : k ≤ 16) (h14 : I 2 14 = nI k) : ((f_X6_nameNumber I J = -1 ∧ ∀ i, i < k → J 12 i ≠ J 2 8) ∨ ∃ i, i < k ∧ f_X6_nameNumber I J = nI i ∧ J 12 i = J 2 8) ∧ ok_X6_nameNumber I J := by
  have q := num_lp (J := J) hk h14 k 0 (mu_up (I 2 14) 0 + 1) (by omega) (by rw [h14, show (0 : Int32) = nI 0 from rfl, mu_up_nI (by omega) (by omega)]; omega)
  rw [show nI 0 = (0 : Int32) from rfl] at q
  rw [f_X6_nameNumber, ok_X6_nameNumber, opv_eq, opv_eq]
  refine ⟨?_, q.2⟩
  rcases q.1 with ⟨a, b⟩ | b
  · exact Or.inl ⟨a, fun n hn => b n (by omega) hn⟩
  · exact Or.inr b
/-- the names told, as both hold them -/
def NM (I : Mm) (J : Nat → Nat → Int64) (r : Vc) (k : Nat) : Prop := k ≤ 16 ∧ I 2 14 = nI k ∧ NO r ∧ (∀ i, i < k → ∃ n, n < 16 ∧ r (80 + n) ≠ 0 ∧ J 12 i = lN (npk r n) ∧ I 13 i = (if n < 6 then nI n else -1)) ∧ (∀ n, n < 16 → r (80 + n) ≠ 0 → ∃ i, i < k ∧ J 12 i = lN (npk r n)) ∧ (∀ n m, n < 16 → m < 16 → r (80 + n) ≠ 0 → npk r n = npk r m → n = m)
theorem npk_lt {r : Vc} {n : Nat} (ho : NO r) (hn : n < 16) : npk r n < 2 ^ 63 := by
  obtain ⟨d, d8, ed, el⟩ := ho n hn
  unfold npk
  rw [ed, nI_clamp (by omega)]
  have b := pk32_lt (d := fun i => ld (r (96 + 8 * n + i))) d (fun i hi => (ld_in (el i hi)).2)
  have p2 : 32 ^ d ≤ 32 ^ 8 := Nat.pow_le_pow_right (by omega) d8
  have p3 : (32 : Nat) ^ 8 < 2 ^ 63 := by decide
  omega
/-- both look a name up alike -/
theorem look_name {I M : Mm} {J : Nat → Nat → Int64} {k : Nat} (h : NM I J (M 69) k) (hw : Wr J M) : ok_X6_nameNumber I J ∧ ok_X11_find M ∧ ((f_X6_nameNumber I J = -1 ∧ f_X11_find M = -1 ∧ ∀ c, M 65 8 = nI c → c ≤ 8 → ∀ n, n < 16 → ¬ sm M c n) ∨ ∃ i n, i < k ∧ n < 16 ∧ f_X6_nameNumber I J = nI i ∧ f_X11_find M = nI n ∧ I 13 i = (if n < 6 then nI n else -1) ∧ M 69 (80 + n) ≠ 0) := by
  obtain ⟨hk, h14, ho, hi, hn, hu⟩ := h
  obtain ⟨c, c1, c8, m8, ml, jw⟩ := hw
  have a := num_eq (J := J) hk h14
  have b := find_eq c1 c8 m8 ml ho
  have bt : tpk M c < 2 ^ 63 := by
    have b2 := pk32_lt (d := fun i => ld (M 67 i)) c (fun i hi => (ld_in (ml i hi)).2)
    have p2 : 32 ^ c ≤ 32 ^ 8 := Nat.pow_le_pow_right (by omega) c8
    have p3 : (32 : Nat) ^ 8 < 2 ^ 63 := by decide
    unfold tpk
    omega
  refine ⟨a.2, b.2, ?_⟩
  rcases a.1 with ⟨a1, a2⟩ | ⟨i, hik, a1, a2⟩
  · rcases b.1 with ⟨b1, b2⟩ | ⟨n, hn16, b1, b2⟩
    · refine Or.inl ⟨a1, b1, fun c' e8 h8 n hn => ?_⟩
      have ec : c' = c := (nI_eq (by omega) (by omega)).mp (e8.symm.trans m8)
      rw [ec]
      exact b2 n hn
    · exfalso
      obtain ⟨i, hik, e⟩ := hn n hn16 b2.1
      refine a2 i hik ?_
      rw [e, jw, b2.2]
      rfl
  · obtain ⟨n', hn', s', e', f'⟩ := hi i hik
    rw [a2, jw] at e'
    have e2 : tpk M c = npk (M 69) n' := (pk_lEQ bt (npk_lt ho hn')).mp e'
    rcases b.1 with ⟨b1, b2⟩ | ⟨n, hn16, b1, b2⟩
    · exact absurd ⟨s', e2.symm⟩ (b2 n' hn')
    · have e3 : n = n' := hu n n' hn16 hn' b2.1 (b2.2.trans e2)
      subst e3
      exact Or.inr ⟨i, n, hik, hn16, a1, b1, f', b2.1⟩
