theorem same_ev2 {args : Array Value} {s : State} {a b : Term} {q : Nat} (h : (Cond.eq a b).before args s = true) (ha : a.eval args s none [] s = some (.ref q)) (hb : ∃ r, b.eval args s none [] s = some (.ref r)) : b.eval args s none [] s = some (.ref q) := by
  obtain ⟨r, hr⟩ := hb
  by_cases e : q = r
  · rw [hr, e]
  · exfalso
    simp [Cond.before, Cond.holds, Cond.value, hr, ha, e] at h
theorem inj_all : ∀ i, i < 23 → ∀ j, j < 23 → (lenS.getD i 0 = lenS.getD j 0 ∧ ∀ q, q < lenS.getD i 0 → (bytS.getD i []).getD q 0 = (bytS.getD j []).getD q 0) → i = j := by decide +kernel
/-- two Strings that are one have one text -/
theorem str_inj {A : Nat → Prop} {s : State} {H : Heap} {a v u n m : Nat} {f g : Nat → Int32} (hn : n < 2 ^ 31) (hm : m < 2 ^ 31) (h1 : va_OF "java/lang/String" "value" "[B" (.ref v) a A s H) (h2 : va_OF "java/lang/String" "value" "[B" (.ref u) a A s H) (t1 : va_T .byte v n (fun j => .int (f j)) A s H) (t2 : va_T .byte u m (fun j => .int (g j)) A s H) : n = m ∧ ∀ q, q < n → f q = g q := by
  obtain ⟨cf, k, i, fd, cell, e1, e2, e3, e4, e5, e6⟩ := h1
  obtain ⟨cf', k', i', fd', cell', e1', e2', e3', e4', e5', e6'⟩ := h2
  rw [e1] at e1'
  cases e1'
  rw [e3] at e3'
  cases e3'
  rw [e5] at e5'
  cases e5'
  obtain ⟨c1, g1, g2, g3, g4, g5, g6, g7⟩ := t1
  obtain ⟨c2, k1, k2, k3, k4, k5, k6, k7⟩ := t2
  rw [g1] at k1
  cases k1
  have hnm : n = m := by
    rw [g5] at k5
    exact (nI_eq hn hm).mp k5
  subst hnm
  refine ⟨rfl, fun q hq => ?_⟩
  have := (g6 q hq).symm.trans (k6 q hq)
  simpa using this
set_option maxHeartbeats 4000000 in
set_option maxRecDepth 20000 in
theorem env_of {p : Program} {s : State} {m : MethodId} {meth : Method} {c : Code} {b L : Nat} {xs : Nat → Int32} (l : Launch) (C0 : lw_At p s m meth c b L xs) : ∃ k : KT, kL k = l ∧ kB k = s.heap.size ∧ kS k = (b, L, xs) ∧ EnvAt k s s.heap := by
  obtain ⟨hx, hb, hr, hml, hown, hts, hX, hbl, hlocks, hgv⟩ := C0
  have hs := flat_of_before _ hgv
  have hA : ∀ a : Nat, a < s.heap.size → ¬ (fun q : Nat => s.heap.size ≤ q) a := fun a h q => absurd h (Nat.not_lt.mpr q)
  obtain ⟨c0, iS0, hK0⟩ := u_known (C := RX0) (T := TX0) (N := 9) (n := 9) hts (fun w h => big_lw (inX0 w h)) (hts _ (tn1 193 (by decide +kernel)))
  obtain ⟨c1, iS1, hK1⟩ := u_known (C := RX2) (T := TX2) (N := 2) (n := 2) hts (fun w h => big_lw (inX2 w h)) (hts _ (tn2 28 (by decide +kernel)))
  obtain ⟨c2, iS2, hK2⟩ := u_known (C := RX3) (T := TX3) (N := 4) (n := 4) hts (fun w h => big_lw (inX3 w h)) (hts _ (tn2 105 (by decide +kernel)))
  obtain ⟨c3, iS3, hK3⟩ := u_known (C := RX4) (T := TX4) (N := 8) (n := 8) hts (fun w h => big_lw (inX4 w h)) (hts _ (tn2 69 (by decide +kernel)))
  obtain ⟨c4, iS4, hK4⟩ := u_known (C := RX5) (T := TX5) (N := 5) (n := 5) hts (fun w h => big_lw (inX5 w h)) (hts _ (tn2 1 (by decide +kernel)))
  obtain ⟨c5, iS5, hK5⟩ := u_known (C := RX6) (T := TX6) (N := 16) (n := 16) hts (fun w h => big_lw (inX6 w h)) (hts _ (tn1 32 (by decide +kernel)))
  obtain ⟨c6, iS6, hK6⟩ := u_known (C := RX7) (T := TX7) (N := 4) (n := 4) hts (fun w h => big_lw (inX7 w h)) (hts _ (tn1 44 (by decide +kernel)))
  obtain ⟨c7, iS7, hK7⟩ := u_known (C := RX8) (T := TX8) (N := 11) (n := 11) hts (fun w h => big_lw (inX8 w h)) (hts _ (tn1 38 (by decide +kernel)))
  obtain ⟨c8, iS8, hK8⟩ := u_known (C := RX9) (T := TX9) (N := 5) (n := 5) hts (fun w h => big_lw (inX9 w h)) (hts _ (tn2 43 (by decide +kernel)))
  obtain ⟨c9, iS9, hK9⟩ := u_known (C := RX10) (T := TX10) (N := 12) (n := 12) hts (fun w h => big_lw (inX10 w h)) (hts _ (tn1 24 (by decide +kernel)))
  obtain ⟨c10, iS10, hK10⟩ := u_known (C := RX11) (T := TX11) (N := 40) (n := 40) hts (fun w h => big_lw (inX11 w h)) (hts _ (tn5 224 (by decide +kernel)))
  obtain ⟨cAB, kAB, coB, b1B, b2B, b3B⟩ := Cond.arrayClass_spec (type := .byte) (hts _ (tn1 188 (by decide +kernel)))
  obtain ⟨cAI, kAI, coI, b1I, b2I, b3I⟩ := Cond.arrayClass_spec (type := .int) (hts _ (tn1 67 (by decide +kernel)))
  obtain ⟨cAJ, kAJ, coJ, b1J, b2J, b3J⟩ := Cond.arrayClass_spec (type := .long) (hts _ (tn1 189 (by decide +kernel)))
  have hov : (Cond.arrayOver (.object RX0)).before #[Value.ref b] s = true := (hts _ (tn2 7 (by decide +kernel)))
  obtain ⟨coR, cAR, kAR, r1, r2, r3, r4, r5⟩ := Cond.arrayOver_spec hov
  obtain ⟨a0, v0, e0, o0⟩ := str_one (tm := (.string "ChaletRule$Reader" 80)) (len := 6) (byt := [99, 104, 97, 108, 101, 116]) (A := fun q : Nat => s.heap.size ≤ q) (by decide) (hs _ (by decide +kernel)) (hs _ (by decide +kernel)) (hs _ (by decide +kernel)) (hs _ (by decide +kernel)) (fun j hj => match j, hj with | 0, _ => hs _ (by decide +kernel) | 1, _ => hs _ (by decide +kernel) | 2, _ => hs _ (by decide +kernel) | 3, _ => hs _ (by decide +kernel) | 4, _ => hs _ (by decide +kernel) | 5, _ => hs _ (by decide +kernel) | j + 6, h => absurd h (by omega)) hA
  obtain ⟨a1, v1, e1, o1⟩ := str_one (tm := (.string "ChaletRule$Reader" 89)) (len := 7) (byt := [119, 101, 97, 116, 104, 101, 114]) (A := fun q : Nat => s.heap.size ≤ q) (by decide) (hs _ (by decide +kernel)) (hs _ (by decide +kernel)) (hs _ (by decide +kernel)) (hs _ (by decide +kernel)) (fun j hj => match j, hj with | 0, _ => hs _ (by decide +kernel) | 1, _ => hs _ (by decide +kernel) | 2, _ => hs _ (by decide +kernel) | 3, _ => hs _ (by decide +kernel) | 4, _ => hs _ (by decide +kernel) | 5, _ => hs _ (by decide +kernel) | 6, _ => hs _ (by decide +kernel) | j + 7, h => absurd h (by omega)) hA
  obtain ⟨a2, v2, e2, o2⟩ := str_one (tm := (.string "ChaletRule$Reader" 94)) (len := 4) (byt := [118, 101, 110, 116]) (A := fun q : Nat => s.heap.size ≤ q) (by decide) (hs _ (by decide +kernel)) (hs _ (by decide +kernel)) (hs _ (by decide +kernel)) (hs _ (by decide +kernel)) (fun j hj => match j, hj with | 0, _ => hs _ (by decide +kernel) | 1, _ => hs _ (by decide +kernel) | 2, _ => hs _ (by decide +kernel) | 3, _ => hs _ (by decide +kernel) | j + 4, h => absurd h (by omega)) hA
  obtain ⟨a3, v3, e3, o3⟩ := str_one (tm := (.string "ChaletRule$Reader" 108)) (len := 4) (byt := [112, 108, 97, 110]) (A := fun q : Nat => s.heap.size ≤ q) (by decide) (hs _ (by decide +kernel)) (hs _ (by decide +kernel)) (hs _ (by decide +kernel)) (hs _ (by decide +kernel)) (fun j hj => match j, hj with | 0, _ => hs _ (by decide +kernel) | 1, _ => hs _ (by decide +kernel) | 2, _ => hs _ (by decide +kernel) | 3, _ => hs _ (by decide +kernel) | j + 4, h => absurd h (by omega)) hA
  obtain ⟨a4, v4, e4, o4⟩ := str_one (tm := (.string "ChaletRule$Reader" 116)) (len := 3) (byt := [115, 97, 119]) (A := fun q : Nat => s.heap.size ≤ q) (by decide) (hs _ (by decide +kernel)) (hs _ (by decide +kernel)) (hs _ (by decide +kernel)) (hs _ (by decide +kernel)) (fun j hj => match j, hj with | 0, _ => hs _ (by decide +kernel) | 1, _ => hs _ (by decide +kernel) | 2, _ => hs _ (by decide +kernel) | j + 3, h => absurd h (by omega)) hA
  obtain ⟨a5, v5, e5, o5⟩ := str_one (tm := (.string "ChaletRule$Reader" 124)) (len := 5) (byt := [102, 105, 101, 108, 100]) (A := fun q : Nat => s.heap.size ≤ q) (by decide) (hs _ (by decide +kernel)) (hs _ (by decide +kernel)) (hs _ (by decide +kernel)) (hs _ (by decide +kernel)) (fun j hj => match j, hj with | 0, _ => hs _ (by decide +kernel) | 1, _ => hs _ (by decide +kernel) | 2, _ => hs _ (by decide +kernel) | 3, _ => hs _ (by decide +kernel) | 4, _ => hs _ (by decide +kernel) | j + 5, h => absurd h (by omega)) hA
  obtain ⟨a6, v6, e6, o6⟩ := str_one (tm := (.string "ChaletRule$Reader" 242)) (len := 5) (byt := [100, 105, 116, 99, 104]) (A := fun q : Nat => s.heap.size ≤ q) (by decide) (hs _ (by decide +kernel)) (hs _ (by decide +kernel)) (hs _ (by decide +kernel)) (hs _ (by decide +kernel)) (fun j hj => match j, hj with | 0, _ => hs _ (by decide +kernel) | 1, _ => hs _ (by decide +kernel) | 2, _ => hs _ (by decide +kernel) | 3, _ => hs _ (by decide +kernel) | 4, _ => hs _ (by decide +kernel) | j + 5, h => absurd h (by omega)) hA
  obtain ⟨a7, v7, e7, o7⟩ := str_one (tm := (.string "ChaletRule$Reader" 138)) (len := 4) (byt := [100, 97, 109, 112]) (A := fun q : Nat => s.heap.size ≤ q) (by decide) (hs _ (by decide +kernel)) (hs _ (by decide +kernel)) (hs _ (by decide +kernel)) (hs _ (by decide +kernel)) (fun j hj => match j, hj with | 0, _ => hs _ (by decide +kernel) | 1, _ => hs _ (by decide +kernel) | 2, _ => hs _ (by decide +kernel) | 3, _ => hs _ (by decide +kernel) | j + 4, h => absurd h (by omega)) hA
  obtain ⟨a8, v8, e8, o8⟩ := str_one (tm := (.string "ChaletRule$Reader" 152)) (len := 4) (byt := [119, 111, 111, 100]) (A := fun q : Nat => s.heap.size ≤ q) (by decide) (hs _ (by decide +kernel)) (hs _ (by decide +kernel)) (hs _ (by decide +kernel)) (hs _ (by decide +kernel)) (fun j hj => match j, hj with | 0, _ => hs _ (by decide +kernel) | 1, _ => hs _ (by decide +kernel) | 2, _ => hs _ (by decide +kernel) | 3, _ => hs _ (by decide +kernel) | j + 4, h => absurd h (by omega)) hA
  obtain ⟨a9, v9, e9, o9⟩ := str_one (tm := (.string "ChaletRule$Reader" 156)) (len := 3) (byt := [111, 105, 108]) (A := fun q : Nat => s.heap.size ≤ q) (by decide) (hs _ (by decide +kernel)) (hs _ (by decide +kernel)) (hs _ (by decide +kernel)) (hs _ (by decide +kernel)) (fun j hj => match j, hj with | 0, _ => hs _ (by decide +kernel) | 1, _ => hs _ (by decide +kernel) | 2, _ => hs _ (by decide +kernel) | j + 3, h => absurd h (by omega)) hA
  obtain ⟨a10, v10, e10, o10⟩ := str_one (tm := (.string "ChaletRule$Reader" 160)) (len := 4) (byt := [103, 117, 115, 116]) (A := fun q : Nat => s.heap.size ≤ q) (by decide) (hs _ (by decide +kernel)) (hs _ (by decide +kernel)) (hs _ (by decide +kernel)) (hs _ (by decide +kernel)) (fun j hj => match j, hj with | 0, _ => hs _ (by decide +kernel) | 1, _ => hs _ (by decide +kernel) | 2, _ => hs _ (by decide +kernel) | 3, _ => hs _ (by decide +kernel) | j + 4, h => absurd h (by omega)) hA
  obtain ⟨a11, v11, e11, o11⟩ := str_one (tm := (.string "ChaletRule$Reader" 164)) (len := 3) (byt := [119, 101, 116]) (A := fun q : Nat => s.heap.size ≤ q) (by decide) (hs _ (by decide +kernel)) (hs _ (by decide +kernel)) (hs _ (by decide +kernel)) (hs _ (by decide +kernel)) (fun j hj => match j, hj with | 0, _ => hs _ (by decide +kernel) | 1, _ => hs _ (by decide +kernel) | 2, _ => hs _ (by decide +kernel) | j + 3, h => absurd h (by omega)) hA
  obtain ⟨a12, v12, e12, o12⟩ := str_one (tm := (.string "ChaletRule$Reader" 168)) (len := 4) (byt := [102, 105, 110, 101]) (A := fun q : Nat => s.heap.size ≤ q) (by decide) (hs _ (by decide +kernel)) (hs _ (by decide +kernel)) (hs _ (by decide +kernel)) (hs _ (by decide +kernel)) (fun j hj => match j, hj with | 0, _ => hs _ (by decide +kernel) | 1, _ => hs _ (by decide +kernel) | 2, _ => hs _ (by decide +kernel) | 3, _ => hs _ (by decide +kernel) | j + 4, h => absurd h (by omega)) hA
  obtain ⟨a13, v13, e13, o13⟩ := str_one (tm := (.string "ChaletRule$Reader" 183)) (len := 5) (byt := [99, 111, 115, 116, 115]) (A := fun q : Nat => s.heap.size ≤ q) (by decide) (hs _ (by decide +kernel)) (hs _ (by decide +kernel)) (hs _ (by decide +kernel)) (hs _ (by decide +kernel)) (fun j hj => match j, hj with | 0, _ => hs _ (by decide +kernel) | 1, _ => hs _ (by decide +kernel) | 2, _ => hs _ (by decide +kernel) | 3, _ => hs _ (by decide +kernel) | 4, _ => hs _ (by decide +kernel) | j + 5, h => absurd h (by omega)) hA
  obtain ⟨a14, v14, e14, o14⟩ := str_one (tm := (.string "ChaletRule$Reader" 189)) (len := 2) (byt := [111, 110]) (A := fun q : Nat => s.heap.size ≤ q) (by decide) (hs _ (by decide +kernel)) (hs _ (by decide +kernel)) (hs _ (by decide +kernel)) (hs _ (by decide +kernel)) (fun j hj => match j, hj with | 0, _ => hs _ (by decide +kernel) | 1, _ => hs _ (by decide +kernel) | j + 2, h => absurd h (by omega)) hA
  obtain ⟨a15, v15, e15, o15⟩ := str_one (tm := (.string "ChaletRule$Reader" 191)) (len := 5) (byt := [119, 111, 114, 116, 104]) (A := fun q : Nat => s.heap.size ≤ q) (by decide) (hs _ (by decide +kernel)) (hs _ (by decide +kernel)) (hs _ (by decide +kernel)) (hs _ (by decide +kernel)) (fun j hj => match j, hj with | 0, _ => hs _ (by decide +kernel) | 1, _ => hs _ (by decide +kernel) | 2, _ => hs _ (by decide +kernel) | 3, _ => hs _ (by decide +kernel) | 4, _ => hs _ (by decide +kernel) | j + 5, h => absurd h (by omega)) hA
  obtain ⟨a16, v16, e16, o16⟩ := str_one (tm := (.string "ChaletRule$Reader" 193)) (len := 3) (byt := [100, 97, 121]) (A := fun q : Nat => s.heap.size ≤ q) (by decide) (hs _ (by decide +kernel)) (hs _ (by decide +kernel)) (hs _ (by decide +kernel)) (hs _ (by decide +kernel)) (fun j hj => match j, hj with | 0, _ => hs _ (by decide +kernel) | 1, _ => hs _ (by decide +kernel) | 2, _ => hs _ (by decide +kernel) | j + 3, h => absurd h (by omega)) hA
  obtain ⟨a17, v17, e17, o17⟩ := str_one (tm := (.string "ChaletRule$Reader" 226)) (len := 4) (byt := [110, 111, 110, 101]) (A := fun q : Nat => s.heap.size ≤ q) (by decide) (hs _ (by decide +kernel)) (hs _ (by decide +kernel)) (hs _ (by decide +kernel)) (hs _ (by decide +kernel)) (fun j hj => match j, hj with | 0, _ => hs _ (by decide +kernel) | 1, _ => hs _ (by decide +kernel) | 2, _ => hs _ (by decide +kernel) | 3, _ => hs _ (by decide +kernel) | j + 4, h => absurd h (by omega)) hA
  obtain ⟨a18, v18, e18, o18⟩ := str_one (tm := (.string "ChaletRule$Reader" 228)) (len := 2) (byt := [104, 101]) (A := fun q : Nat => s.heap.size ≤ q) (by decide) (hs _ (by decide +kernel)) (hs _ (by decide +kernel)) (hs _ (by decide +kernel)) (hs _ (by decide +kernel)) (fun j hj => match j, hj with | 0, _ => hs _ (by decide +kernel) | 1, _ => hs _ (by decide +kernel) | j + 2, h => absurd h (by omega)) hA
  obtain ⟨a19, v19, e19, o19⟩ := str_one (tm := (.string "ChaletRule$Reader" 230)) (len := 3) (byt := [115, 104, 101]) (A := fun q : Nat => s.heap.size ≤ q) (by decide) (hs _ (by decide +kernel)) (hs _ (by decide +kernel)) (hs _ (by decide +kernel)) (hs _ (by decide +kernel)) (fun j hj => match j, hj with | 0, _ => hs _ (by decide +kernel) | 1, _ => hs _ (by decide +kernel) | 2, _ => hs _ (by decide +kernel) | j + 3, h => absurd h (by omega)) hA
  obtain ⟨a20, v20, e20, o20⟩ := str_one (tm := (.string "ChaletRule$Reader" 232)) (len := 4) (byt := [98, 111, 116, 104]) (A := fun q : Nat => s.heap.size ≤ q) (by decide) (hs _ (by decide +kernel)) (hs _ (by decide +kernel)) (hs _ (by decide +kernel)) (hs _ (by decide +kernel)) (fun j hj => match j, hj with | 0, _ => hs _ (by decide +kernel) | 1, _ => hs _ (by decide +kernel) | 2, _ => hs _ (by decide +kernel) | 3, _ => hs _ (by decide +kernel) | j + 4, h => absurd h (by omega)) hA
  obtain ⟨a21, v21, e21, o21⟩ := str_one (tm := (.string "ChaletRule$Reader" 214)) (len := 7) (byt := [99, 97, 114, 114, 105, 101, 115]) (A := fun q : Nat => s.heap.size ≤ q) (by decide) (hs _ (by decide +kernel)) (hs _ (by decide +kernel)) (hs _ (by decide +kernel)) (hs _ (by decide +kernel)) (fun j hj => match j, hj with | 0, _ => hs _ (by decide +kernel) | 1, _ => hs _ (by decide +kernel) | 2, _ => hs _ (by decide +kernel) | 3, _ => hs _ (by decide +kernel) | 4, _ => hs _ (by decide +kernel) | 5, _ => hs _ (by decide +kernel) | 6, _ => hs _ (by decide +kernel) | j + 7, h => absurd h (by omega)) hA
  obtain ⟨a22, v22, e22, o22⟩ := str_one (tm := (.string "ChaletRule" 312)) (len := 21) (byt := [110, 111, 32, 115, 117, 99, 104, 32, 112, 108, 97, 110, 32, 119, 97, 115, 32, 107, 101, 112, 116]) (A := fun q : Nat => s.heap.size ≤ q) (by decide) (hs _ (by decide +kernel)) (hs _ (by decide +kernel)) (hs _ (by decide +kernel)) (hs _ (by decide +kernel)) (fun j hj => match j, hj with | 0, _ => hs _ (by decide +kernel) | 1, _ => hs _ (by decide +kernel) | 2, _ => hs _ (by decide +kernel) | 3, _ => hs _ (by decide +kernel) | 4, _ => hs _ (by decide +kernel) | 5, _ => hs _ (by decide +kernel) | 6, _ => hs _ (by decide +kernel) | 7, _ => hs _ (by decide +kernel) | 8, _ => hs _ (by decide +kernel) | 9, _ => hs _ (by decide +kernel) | 10, _ => hs _ (by decide +kernel) | 11, _ => hs _ (by decide +kernel) | 12, _ => hs _ (by decide +kernel) | 13, _ => hs _ (by decide +kernel) | 14, _ => hs _ (by decide +kernel) | 15, _ => hs _ (by decide +kernel) | 16, _ => hs _ (by decide +kernel) | 17, _ => hs _ (by decide +kernel) | 18, _ => hs _ (by decide +kernel) | 19, _ => hs _ (by decide +kernel) | 20, _ => hs _ (by decide +kernel) | j + 21, h => absurd h (by omega)) hA
  have w0_129 : (Term.string "ChaletRuleModel" 129).eval #[Value.ref b] s none [] s = some (.ref a0) := by
    have hex := Cond.exactly_spec (args := #[Value.ref b]) (first := s) (o := none) (s := s) (idx := []) (t := (.string "ChaletRuleModel" 129)) (cls := "java/lang/String") (hs _ (by decide +kernel))
    obtain ⟨q, _, _, _, hq, _⟩ := hex
    exact same_ev2 (hs (.eq (.string "ChaletRule$Reader" 80) (.string "ChaletRuleModel" 129)) (by decide +kernel)) e0 ⟨q, hq⟩
  have w7_219 : (Term.string "ChaletRuleModel" 219).eval #[Value.ref b] s none [] s = some (.ref a7) := by
    have hex := Cond.exactly_spec (args := #[Value.ref b]) (first := s) (o := none) (s := s) (idx := []) (t := (.string "ChaletRuleModel" 219)) (cls := "java/lang/String") (hs _ (by decide +kernel))
    obtain ⟨q, _, _, _, hq, _⟩ := hex
    exact same_ev2 (hs (.eq (.string "ChaletRule$Reader" 138) (.string "ChaletRuleModel" 219)) (by decide +kernel)) e7 ⟨q, hq⟩
  have w8_225 : (Term.string "ChaletRuleModel" 225).eval #[Value.ref b] s none [] s = some (.ref a8) := by
    have hex := Cond.exactly_spec (args := #[Value.ref b]) (first := s) (o := none) (s := s) (idx := []) (t := (.string "ChaletRuleModel" 225)) (cls := "java/lang/String") (hs _ (by decide +kernel))
    obtain ⟨q, _, _, _, hq, _⟩ := hex
    exact same_ev2 (hs (.eq (.string "ChaletRule$Reader" 152) (.string "ChaletRuleModel" 225)) (by decide +kernel)) e8 ⟨q, hq⟩
  have w9_227 : (Term.string "ChaletRuleModel" 227).eval #[Value.ref b] s none [] s = some (.ref a9) := by
    have hex := Cond.exactly_spec (args := #[Value.ref b]) (first := s) (o := none) (s := s) (idx := []) (t := (.string "ChaletRuleModel" 227)) (cls := "java/lang/String") (hs _ (by decide +kernel))
    obtain ⟨q, _, _, _, hq, _⟩ := hex
    exact same_ev2 (hs (.eq (.string "ChaletRule$Reader" 156) (.string "ChaletRuleModel" 227)) (by decide +kernel)) e9 ⟨q, hq⟩
  have w10_229 : (Term.string "ChaletRuleModel" 229).eval #[Value.ref b] s none [] s = some (.ref a10) := by
    have hex := Cond.exactly_spec (args := #[Value.ref b]) (first := s) (o := none) (s := s) (idx := []) (t := (.string "ChaletRuleModel" 229)) (cls := "java/lang/String") (hs _ (by decide +kernel))
    obtain ⟨q, _, _, _, hq, _⟩ := hex
    exact same_ev2 (hs (.eq (.string "ChaletRule$Reader" 160) (.string "ChaletRuleModel" 229)) (by decide +kernel)) e10 ⟨q, hq⟩
  have w1_131 : (Term.string "ChaletRuleModel" 131).eval #[Value.ref b] s none [] s = some (.ref a1) := by
    have hex := Cond.exactly_spec (args := #[Value.ref b]) (first := s) (o := none) (s := s) (idx := []) (t := (.string "ChaletRuleModel" 131)) (cls := "java/lang/String") (hs _ (by decide +kernel))
    obtain ⟨q, _, _, _, hq, _⟩ := hex
    exact same_ev2 (hs (.eq (.string "ChaletRule$Reader" 89) (.string "ChaletRuleModel" 131)) (by decide +kernel)) e1 ⟨q, hq⟩
  have w11_164 : (Term.string "ChaletRuleModel" 164).eval #[Value.ref b] s none [] s = some (.ref a11) := by
    have hex := Cond.exactly_spec (args := #[Value.ref b]) (first := s) (o := none) (s := s) (idx := []) (t := (.string "ChaletRuleModel" 164)) (cls := "java/lang/String") (hs _ (by decide +kernel))
    obtain ⟨q, _, _, _, hq, _⟩ := hex
    exact same_ev2 (hs (.eq (.string "ChaletRule$Reader" 164) (.string "ChaletRuleModel" 164)) (by decide +kernel)) e11 ⟨q, hq⟩
  have w12_166 : (Term.string "ChaletRuleModel" 166).eval #[Value.ref b] s none [] s = some (.ref a12) := by
    have hex := Cond.exactly_spec (args := #[Value.ref b]) (first := s) (o := none) (s := s) (idx := []) (t := (.string "ChaletRuleModel" 166)) (cls := "java/lang/String") (hs _ (by decide +kernel))
    obtain ⟨q, _, _, _, hq, _⟩ := hex
    exact same_ev2 (hs (.eq (.string "ChaletRule$Reader" 168) (.string "ChaletRuleModel" 166)) (by decide +kernel)) e12 ⟨q, hq⟩
  have w2_133 : (Term.string "ChaletRuleModel" 133).eval #[Value.ref b] s none [] s = some (.ref a2) := by
    have hex := Cond.exactly_spec (args := #[Value.ref b]) (first := s) (o := none) (s := s) (idx := []) (t := (.string "ChaletRuleModel" 133)) (cls := "java/lang/String") (hs _ (by decide +kernel))
    obtain ⟨q, _, _, _, hq, _⟩ := hex
    exact same_ev2 (hs (.eq (.string "ChaletRule$Reader" 94) (.string "ChaletRuleModel" 133)) (by decide +kernel)) e2 ⟨q, hq⟩
  have w3_135 : (Term.string "ChaletRuleModel" 135).eval #[Value.ref b] s none [] s = some (.ref a3) := by
    have hex := Cond.exactly_spec (args := #[Value.ref b]) (first := s) (o := none) (s := s) (idx := []) (t := (.string "ChaletRuleModel" 135)) (cls := "java/lang/String") (hs _ (by decide +kernel))
    obtain ⟨q, _, _, _, hq, _⟩ := hex
    exact same_ev2 (hs (.eq (.string "ChaletRule$Reader" 108) (.string "ChaletRuleModel" 135)) (by decide +kernel)) e3 ⟨q, hq⟩
  have w4_137 : (Term.string "ChaletRuleModel" 137).eval #[Value.ref b] s none [] s = some (.ref a4) := by
    have hex := Cond.exactly_spec (args := #[Value.ref b]) (first := s) (o := none) (s := s) (idx := []) (t := (.string "ChaletRuleModel" 137)) (cls := "java/lang/String") (hs _ (by decide +kernel))
    obtain ⟨q, _, _, _, hq, _⟩ := hex
    exact same_ev2 (hs (.eq (.string "ChaletRule$Reader" 116) (.string "ChaletRuleModel" 137)) (by decide +kernel)) e4 ⟨q, hq⟩
  have w5_139 : (Term.string "ChaletRuleModel" 139).eval #[Value.ref b] s none [] s = some (.ref a5) := by
    have hex := Cond.exactly_spec (args := #[Value.ref b]) (first := s) (o := none) (s := s) (idx := []) (t := (.string "ChaletRuleModel" 139)) (cls := "java/lang/String") (hs _ (by decide +kernel))
    obtain ⟨q, _, _, _, hq, _⟩ := hex
    exact same_ev2 (hs (.eq (.string "ChaletRule$Reader" 124) (.string "ChaletRuleModel" 139)) (by decide +kernel)) e5 ⟨q, hq⟩
  have w6_141 : (Term.string "ChaletRuleModel" 141).eval #[Value.ref b] s none [] s = some (.ref a6) := by
    have hex := Cond.exactly_spec (args := #[Value.ref b]) (first := s) (o := none) (s := s) (idx := []) (t := (.string "ChaletRuleModel" 141)) (cls := "java/lang/String") (hs _ (by decide +kernel))
    obtain ⟨q, _, _, _, hq, _⟩ := hex
    exact same_ev2 (hs (.eq (.string "ChaletRule$Reader" 242) (.string "ChaletRuleModel" 141)) (by decide +kernel)) e6 ⟨q, hq⟩
  have w13_237 : (Term.string "ChaletRuleModel" 237).eval #[Value.ref b] s none [] s = some (.ref a13) := by
    have hex := Cond.exactly_spec (args := #[Value.ref b]) (first := s) (o := none) (s := s) (idx := []) (t := (.string "ChaletRuleModel" 237)) (cls := "java/lang/String") (hs _ (by decide +kernel))
    obtain ⟨q, _, _, _, hq, _⟩ := hex
    exact same_ev2 (hs (.eq (.string "ChaletRule$Reader" 183) (.string "ChaletRuleModel" 237)) (by decide +kernel)) e13 ⟨q, hq⟩
  have w14_239 : (Term.string "ChaletRuleModel" 239).eval #[Value.ref b] s none [] s = some (.ref a14) := by
    have hex := Cond.exactly_spec (args := #[Value.ref b]) (first := s) (o := none) (s := s) (idx := []) (t := (.string "ChaletRuleModel" 239)) (cls := "java/lang/String") (hs _ (by decide +kernel))
    obtain ⟨q, _, _, _, hq, _⟩ := hex
    exact same_ev2 (hs (.eq (.string "ChaletRule$Reader" 189) (.string "ChaletRuleModel" 239)) (by decide +kernel)) e14 ⟨q, hq⟩
  have w15_241 : (Term.string "ChaletRuleModel" 241).eval #[Value.ref b] s none [] s = some (.ref a15) := by
    have hex := Cond.exactly_spec (args := #[Value.ref b]) (first := s) (o := none) (s := s) (idx := []) (t := (.string "ChaletRuleModel" 241)) (cls := "java/lang/String") (hs _ (by decide +kernel))
    obtain ⟨q, _, _, _, hq, _⟩ := hex
    exact same_ev2 (hs (.eq (.string "ChaletRule$Reader" 191) (.string "ChaletRuleModel" 241)) (by decide +kernel)) e15 ⟨q, hq⟩
  have w16_243 : (Term.string "ChaletRuleModel" 243).eval #[Value.ref b] s none [] s = some (.ref a16) := by
    have hex := Cond.exactly_spec (args := #[Value.ref b]) (first := s) (o := none) (s := s) (idx := []) (t := (.string "ChaletRuleModel" 243)) (cls := "java/lang/String") (hs _ (by decide +kernel))
    obtain ⟨q, _, _, _, hq, _⟩ := hex
    exact same_ev2 (hs (.eq (.string "ChaletRule$Reader" 193) (.string "ChaletRuleModel" 243)) (by decide +kernel)) e16 ⟨q, hq⟩
  have w17_245 : (Term.string "ChaletRuleModel" 245).eval #[Value.ref b] s none [] s = some (.ref a17) := by
    have hex := Cond.exactly_spec (args := #[Value.ref b]) (first := s) (o := none) (s := s) (idx := []) (t := (.string "ChaletRuleModel" 245)) (cls := "java/lang/String") (hs _ (by decide +kernel))
    obtain ⟨q, _, _, _, hq, _⟩ := hex
    exact same_ev2 (hs (.eq (.string "ChaletRule$Reader" 226) (.string "ChaletRuleModel" 245)) (by decide +kernel)) e17 ⟨q, hq⟩
  have w18_247 : (Term.string "ChaletRuleModel" 247).eval #[Value.ref b] s none [] s = some (.ref a18) := by
    have hex := Cond.exactly_spec (args := #[Value.ref b]) (first := s) (o := none) (s := s) (idx := []) (t := (.string "ChaletRuleModel" 247)) (cls := "java/lang/String") (hs _ (by decide +kernel))
    obtain ⟨q, _, _, _, hq, _⟩ := hex
    exact same_ev2 (hs (.eq (.string "ChaletRule$Reader" 228) (.string "ChaletRuleModel" 247)) (by decide +kernel)) e18 ⟨q, hq⟩
  have w19_249 : (Term.string "ChaletRuleModel" 249).eval #[Value.ref b] s none [] s = some (.ref a19) := by
    have hex := Cond.exactly_spec (args := #[Value.ref b]) (first := s) (o := none) (s := s) (idx := []) (t := (.string "ChaletRuleModel" 249)) (cls := "java/lang/String") (hs _ (by decide +kernel))
    obtain ⟨q, _, _, _, hq, _⟩ := hex
    exact same_ev2 (hs (.eq (.string "ChaletRule$Reader" 230) (.string "ChaletRuleModel" 249)) (by decide +kernel)) e19 ⟨q, hq⟩
  have w20_251 : (Term.string "ChaletRuleModel" 251).eval #[Value.ref b] s none [] s = some (.ref a20) := by
    have hex := Cond.exactly_spec (args := #[Value.ref b]) (first := s) (o := none) (s := s) (idx := []) (t := (.string "ChaletRuleModel" 251)) (cls := "java/lang/String") (hs _ (by decide +kernel))
    obtain ⟨q, _, _, _, hq, _⟩ := hex
    exact same_ev2 (hs (.eq (.string "ChaletRule$Reader" 232) (.string "ChaletRuleModel" 251)) (by decide +kernel)) e20 ⟨q, hq⟩
  have w21_256 : (Term.string "ChaletRuleModel" 256).eval #[Value.ref b] s none [] s = some (.ref a21) := by
    have hex := Cond.exactly_spec (args := #[Value.ref b]) (first := s) (o := none) (s := s) (idx := []) (t := (.string "ChaletRuleModel" 256)) (cls := "java/lang/String") (hs _ (by decide +kernel))
    obtain ⟨q, _, _, _, hq, _⟩ := hex
    exact same_ev2 (hs (.eq (.string "ChaletRule$Reader" 214) (.string "ChaletRuleModel" 256)) (by decide +kernel)) e21 ⟨q, hq⟩
  refine ⟨(l, s.heap.size, (fun k => [c0, c1, c2, c3, c4, c5, c6, c7, c8, c9, c10].getD k 0, fun k => [iS0, iS1, iS2, iS3, iS4, iS5, iS6, iS7, iS8, iS9, iS10].getD k (fun _ => 0)), (cAB, cAI, cAJ, cAR), fun i => [a0, a1, a2, a3, a4, a5, a6, a7, a8, a9, a10, a11, a12, a13, a14, a15, a16, a17, a18, a19, a20, a21, a22].getD i 0, fun i => [v0, v1, v2, v3, v4, v5, v6, v7, v8, v9, v10, v11, v12, v13, v14, v15, v16, v17, v18, v19, v20, v21, v22].getD i 0, (b, L, xs)), rfl, rfl, rfl, ?_⟩
  have hstr : ∀ i : Nat, i < 23 → va_O "java/lang/String" ([a0, a1, a2, a3, a4, a5, a6, a7, a8, a9, a10, a11, a12, a13, a14, a15, a16, a17, a18, a19, a20, a21, a22].getD i 0) (fun q : Nat => s.heap.size ≤ q) s s.heap ∧ va_OF "java/lang/String" "coder" "B" (.int 0) ([a0, a1, a2, a3, a4, a5, a6, a7, a8, a9, a10, a11, a12, a13, a14, a15, a16, a17, a18, a19, a20, a21, a22].getD i 0) (fun q : Nat => s.heap.size ≤ q) s s.heap ∧ va_OF "java/lang/String" "value" "[B" (.ref ([v0, v1, v2, v3, v4, v5, v6, v7, v8, v9, v10, v11, v12, v13, v14, v15, v16, v17, v18, v19, v20, v21, v22].getD i 0)) ([a0, a1, a2, a3, a4, a5, a6, a7, a8, a9, a10, a11, a12, a13, a14, a15, a16, a17, a18, a19, a20, a21, a22].getD i 0) (fun q : Nat => s.heap.size ≤ q) s s.heap ∧ va_T .byte ([v0, v1, v2, v3, v4, v5, v6, v7, v8, v9, v10, v11, v12, v13, v14, v15, v16, v17, v18, v19, v20, v21, v22].getD i 0) (lenS.getD i 0) (fun j => .int ((bytS.getD i []).getD j 0)) (fun q : Nat => s.heap.size ≤ q) s s.heap := fun i hi => match i, hi with | 0, _ => o0 | 1, _ => o1 | 2, _ => o2 | 3, _ => o3 | 4, _ => o4 | 5, _ => o5 | 6, _ => o6 | 7, _ => o7 | 8, _ => o8 | 9, _ => o9 | 10, _ => o10 | 11, _ => o11 | 12, _ => o12 | 13, _ => o13 | 14, _ => o14 | 15, _ => o15 | 16, _ => o16 | 17, _ => o17 | 18, _ => o18 | 19, _ => o19 | 20, _ => o20 | 21, _ => o21 | 22, _ => o22 | i + 23, h => absurd h (by omega)
  refine ⟨⟨?_, ?_⟩, ⟨hstr, ?_⟩, ?_, ?_, hX, hbl, Nat.le_refl _, va_Nw.of rfl (hts _ l_X6_219), ⟨va_Nw.of rfl (hts _ l_X9_81), va_Nw.of rfl (hts _ l_X5_31)⟩, ?_, va_AO.of hov, ?_, ?_, va_Nw.of rfl (hts _ (tn5 162 (by decide +kernel))), va_Nw.of rfl (hts _ (tn5 164 (by decide +kernel))), va_Nw.of rfl (hts _ (tn5 166 (by decide +kernel))), va_Nw.of rfl (hts _ (tn5 160 (by decide +kernel)))⟩
  · intro c q hq
    match c, hq with
    | 0, hq => cases hq; exact hK0
    | 1, hq => cases hq; exact hK1
    | 2, hq => cases hq; exact hK2
    | 3, hq => cases hq; exact hK3
    | 4, hq => cases hq; exact hK4
    | 5, hq => cases hq; exact hK5
    | 6, hq => cases hq; exact hK6
    | 7, hq => cases hq; exact hK7
    | 8, hq => cases hq; exact hK8
    | 9, hq => cases hq; exact hK9
    | 10, hq => cases hq; exact hK10
    | c + 11, hq => simp [classes] at hq
  · intro k q hq
    match k, hq with
    | 0, hq => cases hq; exact ⟨fun n z => ⟨(fun k h => by cases h), kAB, b2B, coB, b3B⟩, b1B⟩
    | 1, hq => cases hq; exact ⟨fun n z => ⟨(fun k h => by cases h), kAI, b2I, coI, b3I⟩, b1I⟩
    | 2, hq => cases hq; exact ⟨fun n z => ⟨(fun k h => by cases h), kAJ, b2J, coJ, b3J⟩, b1J⟩
    | 3, hq => cases hq; exact ⟨fun n z => ⟨(fun k h => by cases h), kAR, r3, coR, r4⟩, kAR, coR, r3, r4, r1, r5⟩
    | k + 4, hq => simp [tys] at hq
  · intro i j hi hj hij
    obtain ⟨_, _, h1, t1⟩ := hstr i hi
    obtain ⟨_, _, h2, t2⟩ := hstr j hj
    have hij' : [a0, a1, a2, a3, a4, a5, a6, a7, a8, a9, a10, a11, a12, a13, a14, a15, a16, a17, a18, a19, a20, a21, a22].getD i 0 = [a0, a1, a2, a3, a4, a5, a6, a7, a8, a9, a10, a11, a12, a13, a14, a15, a16, a17, a18, a19, a20, a21, a22].getD j 0 := hij
    rw [hij'] at h1
    exact inj_all i hi j hj (str_inj (s_all i hi).2.1 (s_all j hj).2.1 h1 h2 t1 t2)
  · exact List.forall_mem_cons.mpr ⟨vk_R.of (hts _ (tn2 221 (by decide +kernel))) e0, List.forall_mem_cons.mpr ⟨vk_R.of (hts _ (tn3 34 (by decide +kernel))) e1, List.forall_mem_cons.mpr ⟨vk_R.of (hts _ (tn3 35 (by decide +kernel))) e2, List.forall_mem_cons.mpr ⟨vk_R.of (hts _ (tn3 36 (by decide +kernel))) e3, List.forall_mem_cons.mpr ⟨vk_R.of (hts _ (tn3 37 (by decide +kernel))) e4, List.forall_mem_cons.mpr ⟨vk_R.of (hts _ (tn3 38 (by decide +kernel))) e5, List.forall_mem_cons.mpr ⟨vk_R.of (hts _ (tn3 39 (by decide +kernel))) e6, List.forall_mem_cons.mpr ⟨vk_R.of (hts _ (tn3 48 (by decide +kernel))) e7, List.forall_mem_cons.mpr ⟨vk_R.of (hts _ (tn3 58 (by decide +kernel))) e8, List.forall_mem_cons.mpr ⟨vk_R.of (hts _ (tn3 59 (by decide +kernel))) e9, List.forall_mem_cons.mpr ⟨vk_R.of (hts _ (tn3 60 (by decide +kernel))) e10, List.forall_mem_cons.mpr ⟨vk_R.of (hts _ (tn3 65 (by decide +kernel))) e11, List.forall_mem_cons.mpr ⟨vk_R.of (hts _ (tn3 66 (by decide +kernel))) e12, List.forall_mem_cons.mpr ⟨vk_R.of (hts _ (tn3 95 (by decide +kernel))) e13, List.forall_mem_cons.mpr ⟨vk_R.of (hts _ (tn3 108 (by decide +kernel))) e14, List.forall_mem_cons.mpr ⟨vk_R.of (hts _ (tn3 109 (by decide +kernel))) e15, List.forall_mem_cons.mpr ⟨vk_R.of (hts _ (tn3 114 (by decide +kernel))) e16, List.forall_mem_cons.mpr ⟨vk_R.of (hts _ (tn3 131 (by decide +kernel))) e17, List.forall_mem_cons.mpr ⟨vk_R.of (hts _ (tn3 132 (by decide +kernel))) e18, List.forall_mem_cons.mpr ⟨vk_R.of (hts _ (tn3 133 (by decide +kernel))) e19, List.forall_mem_cons.mpr ⟨vk_R.of (hts _ (tn3 134 (by decide +kernel))) e20, List.forall_mem_cons.mpr ⟨vk_R.of (hts _ (tn3 151 (by decide +kernel))) e21, List.forall_mem_cons.mpr ⟨vk_R.of (hts _ (tn5 197 (by decide +kernel))) e22, List.forall_mem_cons.mpr ⟨vk_R.of (hts _ (tn6 151 (by decide +kernel))) w0_129, List.forall_mem_cons.mpr ⟨vk_R.of (hts _ (tn6 166 (by decide +kernel))) w7_219, List.forall_mem_cons.mpr ⟨vk_R.of (hts _ (tn6 187 (by decide +kernel))) w8_225, List.forall_mem_cons.mpr ⟨vk_R.of (hts _ (tn6 188 (by decide +kernel))) w9_227, List.forall_mem_cons.mpr ⟨vk_R.of (hts _ (tn6 189 (by decide +kernel))) w10_229, List.forall_mem_cons.mpr ⟨vk_R.of (hts _ (tn6 190 (by decide +kernel))) w1_131, List.forall_mem_cons.mpr ⟨vk_R.of (hts _ (tn6 199 (by decide +kernel))) w11_164, List.forall_mem_cons.mpr ⟨vk_R.of (hts _ (tn6 200 (by decide +kernel))) w12_166, List.forall_mem_cons.mpr ⟨vk_R.of (hts _ (tn6 201 (by decide +kernel))) w2_133, List.forall_mem_cons.mpr ⟨vk_R.of (hts _ (tn6 214 (by decide +kernel))) w3_135, List.forall_mem_cons.mpr ⟨vk_R.of (hts _ (tn6 215 (by decide +kernel))) w4_137, List.forall_mem_cons.mpr ⟨vk_R.of (hts _ (tn6 216 (by decide +kernel))) w5_139, List.forall_mem_cons.mpr ⟨vk_R.of (hts _ (tn6 217 (by decide +kernel))) w6_141, List.forall_mem_cons.mpr ⟨vk_R.of (hts _ (tn6 226 (by decide +kernel))) w13_237, List.forall_mem_cons.mpr ⟨vk_R.of (hts _ (tn6 231 (by decide +kernel))) w14_239, List.forall_mem_cons.mpr ⟨vk_R.of (hts _ (tn6 232 (by decide +kernel))) w15_241, List.forall_mem_cons.mpr ⟨vk_R.of (hts _ (tn6 237 (by decide +kernel))) w16_243, List.forall_mem_cons.mpr ⟨vk_R.of (hts _ (tn6 238 (by decide +kernel))) w17_245, List.forall_mem_cons.mpr ⟨vk_R.of (hts _ (tn6 239 (by decide +kernel))) w18_247, List.forall_mem_cons.mpr ⟨vk_R.of (hts _ (tn7 0 (by decide +kernel))) w19_249, List.forall_mem_cons.mpr ⟨vk_R.of (hts _ (tn7 1 (by decide +kernel))) w20_251, List.forall_mem_cons.mpr ⟨vk_R.of (hts _ (tn7 14 (by decide +kernel))) w21_256, fun _ h => absurd h List.not_mem_nil⟩⟩⟩⟩⟩⟩⟩⟩⟩⟩⟩⟩⟩⟩⟩⟩⟩⟩⟩⟩⟩⟩⟩⟩⟩⟩⟩⟩⟩⟩⟩⟩⟩⟩⟩⟩⟩⟩⟩⟩⟩⟩⟩⟩⟩
  · exact va_Zof (hts _ (tn2 235 (by decide +kernel))) (hts _ (tn1 13 (by decide +kernel))) (va_eqt (hs (.eq (.static "java/lang/String" "COMPACT_STRINGS" "Z") (.int 1)) (by decide +kernel))) hA
  · exact va_Zqof (hts _ (tn3 11 (by decide +kernel))) (hts _ (tn1 15 (by decide +kernel))) (hs (.isRef (.static "jdk/internal/util/Preconditions" "SIOOBE_FORMATTER" "Ljava/util/function/BiFunction;")) (by decide +kernel)) hA
  · exact vx_Zqof (hts _ (tn5 185 (by decide +kernel))) (hts _ (tn1 19 (by decide +kernel))) (hs (.isRef (.static "java/lang/Throwable" "UNASSIGNED_STACK" "[Ljava/lang/StackTraceElement;")) (by decide +kernel)) hA
  · exact vx_Zqof (hts _ (tn5 187 (by decide +kernel))) (hts _ (tn1 19 (by decide +kernel))) (hs (.isRef (.static "java/lang/Throwable" "SUPPRESSED_SENTINEL" "Ljava/util/List;")) (by decide +kernel)) hA
