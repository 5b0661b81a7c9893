section GL
variable {k : KT} {mi : MI} {R : Room} {F : FinT} {nc ns pc : Nat} {vs : List (Option Value)} {st : List Value} {M : MM}
def okb : Option Value → Bool
  | none => true
  | some v => v.category == 1
theorem okp_of {vs : List (Option Value)} {i : Nat} {x : Option Value} (h : vs[i]? = some x) (hb : okb x = true) : okp vs (i + 1) := by
  intro v _ hv
  rw [show i + 1 - 1 = i from rfl, h] at hv
  cases hv
  simpa [okb] using hb
theorem okp_0 {vs : List (Option Value)} : okp vs 0 := fun _ h => absurd rfl h
def b2i (b : Bool) : Int32 := if b then 1 else 0
theorem nar_b (b : Bool) : narrow .boolean (.int (b2i b)) = .int (b2i b) := by cases b <;> decide
theorem b2i_0 {b : Bool} : b2i b = 0 ↔ b = false := by cases b <;> decide
theorem b2i_1 {b : Bool} : b2i b = 1 ↔ b = true := by cases b <;> decide
theorem G.eq {vs' : List (Option Value)} {st' : List Value} {M' : MM} (hv : vs = vs') (hs : st = st') (hM : M = M') (h : G k mi R F nc ns pc vs' st' M') : G k mi R F nc ns pc vs st M := by subst hv; subst hs; subst hM; exact h
theorem g_cut {pc' : Nat} {vs' : List (Option Value)} {st' : List Value} {M' : MM} (h1 : G k mi R F nc ns pc' vs' st' M' → G k mi R F nc ns pc vs st M) (h2 : G k mi R F nc ns pc' vs' st' M') : G k mi R F nc ns pc vs st M := h1 h2
theorem g_ifz {b : Bool} {off : Int} (tgt : Nat) (hd : decode (cd mi) pc = .ok (.ifCond .eq off, 3)) (ht : (pc : Int) + off = (tgt : Int)) (ht2 : b = false → G k mi R F nc ns tgt vs st M) (hf2 : b = true → G k mi R F nc ns (pc + 3) vs st M) : G k mi R F nc ns pc vs (.int (b2i b) :: st) M :=
  g_if_eq tgt hd ht (fun h => ht2 (b2i_0.mp h)) (fun h => hf2 (by cases b with | true => rfl | false => exact absurd rfl h))
theorem g_ifnz {b : Bool} {off : Int} (tgt : Nat) (hd : decode (cd mi) pc = .ok (.ifCond .ne off, 3)) (ht : (pc : Int) + off = (tgt : Int)) (ht2 : b = true → G k mi R F nc ns tgt vs st M) (hf2 : b = false → G k mi R F nc ns (pc + 3) vs st M) : G k mi R F nc ns pc vs (.int (b2i b) :: st) M :=
  g_if_ne tgt hd ht (fun h => ht2 (by cases b with | true => rfl | false => exact absurd rfl h)) (fun h => hf2 (b2i_0.mp h))
/-- a loop whose state is told by a number that goes up to n -/
theorem g_loop {pc' : Nat} (vs' : Nat → List (Option Value)) (M' : Nat → MM) (n : Nat) (Inv : Nat → Prop) (i0 : Nat) (hi : i0 ≤ n) (h0 : Inv i0) (step : ∀ j, j < n → Inv j → (Inv (j + 1) → G k mi R F nc ns pc' (vs' (j + 1)) st (M' (j + 1))) → G k mi R F nc ns pc' (vs' j) st (M' j)) (last : Inv n → G k mi R F nc ns pc' (vs' n) st (M' n)) : G k mi R F nc ns pc' (vs' i0) st (M' i0) := by
  have key : ∀ d j, j + d = n → Inv j → G k mi R F nc ns pc' (vs' j) st (M' j) := by
    intro d
    induction d with
    | zero => intro j hj hI; obtain rfl : j = n := by omega
              exact last hI
    | succ d ih => intro j hj hI; exact step j (by omega) hI (fun h => ih (j + 1) (by omega) h)
  exact key (n - i0) i0 (by omega) h0
/-- a loop with a measure -/
theorem g_while {α : Type} {pc' : Nat} (vs' : α → List (Option Value)) (M' : α → MM) (Inv : α → Prop) (mu : α → Nat) (step : ∀ x, Inv x → (∀ y, Inv y → mu y < mu x → G k mi R F nc ns pc' (vs' y) st (M' y)) → G k mi R F nc ns pc' (vs' x) st (M' x)) (x : α) (hx : Inv x) : G k mi R F nc ns pc' (vs' x) st (M' x) := by
  have key : ∀ n x, mu x < n → Inv x → G k mi R F nc ns pc' (vs' x) st (M' x) := by
    intro n
    induction n with
    | zero => intro x h; omega
    | succ n ih => intro x h hI; exact step x hI (fun y hy hlt => ih y (by omega) hy)
  exact key (mu x + 1) x (by omega) hx
theorem g_isn0 {x : Int32} {o0 : Option Value} {r : List (Option Value)} (hd : decode (cd mi) pc = .ok (.istore_n 0, 1)) (h : G k mi R F nc ns (pc + 1) (some (.int x) :: r) st M) : G k mi R F nc ns pc (o0 :: r) (.int x :: st) M :=
  g_istore_n (i := 0) rfl (by simp) okp_0 hd h
theorem g_is0 {x : Int32} {o0 : Option Value} {r : List (Option Value)} (hd : decode (cd mi) pc = .ok (.istore 0, 2)) (h : G k mi R F nc ns (pc + 2) (some (.int x) :: r) st M) : G k mi R F nc ns pc (o0 :: r) (.int x :: st) M :=
  g_istore (by simp) okp_0 hd h
theorem g_asn0 {x : Nat} {o0 : Option Value} {r : List (Option Value)} (hd : decode (cd mi) pc = .ok (.astore_n 0, 1)) (h : G k mi R F nc ns (pc + 1) (some (.ref x) :: r) st M) : G k mi R F nc ns pc (o0 :: r) (.ref x :: st) M :=
  g_astore_n (i := 0) rfl (by simp) okp_0 hd h
theorem g_as0 {x : Nat} {o0 : Option Value} {r : List (Option Value)} (hd : decode (cd mi) pc = .ok (.astore 0, 2)) (h : G k mi R F nc ns (pc + 2) (some (.ref x) :: r) st M) : G k mi R F nc ns pc (o0 :: r) (.ref x :: st) M :=
  g_astore (by simp) okp_0 hd h
theorem g_lsn0 {x : Int64} {o0 o1 : Option Value} {r : List (Option Value)} (hd : decode (cd mi) pc = .ok (.lstore_n 0, 1)) (h : G k mi R F nc ns (pc + 1) (some (.long x) :: none :: r) st M) : G k mi R F nc ns pc (o0 :: o1 :: r) (.long x :: st) M :=
  g_lstore_n (i := 0) rfl (by simp) okp_0 hd h
theorem g_ls0 {x : Int64} {o0 o1 : Option Value} {r : List (Option Value)} (hd : decode (cd mi) pc = .ok (.lstore 0, 2)) (h : G k mi R F nc ns (pc + 2) (some (.long x) :: none :: r) st M) : G k mi R F nc ns pc (o0 :: o1 :: r) (.long x :: st) M :=
  g_lstore (by simp) okp_0 hd h
theorem g_ic0 {n : Int} {x : Int32} {_u : Nat} {r : List (Option Value)} (v : Int32) (hv : x + Int32.ofInt n = v) (hd : decode (cd mi) pc = .ok (.iinc 0 n, 3)) (h : G k mi R F nc ns (pc + 3) (some (.int v) :: r) st M) : G k mi R F nc ns pc (some (.int x) :: r) st M :=
  g_iinc (i := 0) v rfl hv okp_0 hd h
theorem g_isn1 {x : Int32} {o0 o1 : Option Value} {r : List (Option Value)} (hb : okb o0 = true) (hd : decode (cd mi) pc = .ok (.istore_n 1, 1)) (h : G k mi R F nc ns (pc + 1) (o0 :: some (.int x) :: r) st M) : G k mi R F nc ns pc (o0 :: o1 :: r) (.int x :: st) M :=
  g_istore_n (i := 1) rfl (by simp) (okp_of (i := 0) (x := o0) rfl hb) hd h
theorem g_is1 {x : Int32} {o0 o1 : Option Value} {r : List (Option Value)} (hb : okb o0 = true) (hd : decode (cd mi) pc = .ok (.istore 1, 2)) (h : G k mi R F nc ns (pc + 2) (o0 :: some (.int x) :: r) st M) : G k mi R F nc ns pc (o0 :: o1 :: r) (.int x :: st) M :=
  g_istore (by simp) (okp_of (i := 0) (x := o0) rfl hb) hd h
theorem g_asn1 {x : Nat} {o0 o1 : Option Value} {r : List (Option Value)} (hb : okb o0 = true) (hd : decode (cd mi) pc = .ok (.astore_n 1, 1)) (h : G k mi R F nc ns (pc + 1) (o0 :: some (.ref x) :: r) st M) : G k mi R F nc ns pc (o0 :: o1 :: r) (.ref x :: st) M :=
  g_astore_n (i := 1) rfl (by simp) (okp_of (i := 0) (x := o0) rfl hb) hd h
theorem g_as1 {x : Nat} {o0 o1 : Option Value} {r : List (Option Value)} (hb : okb o0 = true) (hd : decode (cd mi) pc = .ok (.astore 1, 2)) (h : G k mi R F nc ns (pc + 2) (o0 :: some (.ref x) :: r) st M) : G k mi R F nc ns pc (o0 :: o1 :: r) (.ref x :: st) M :=
  g_astore (by simp) (okp_of (i := 0) (x := o0) rfl hb) hd h
theorem g_lsn1 {x : Int64} {o0 o1 o2 : Option Value} {r : List (Option Value)} (hb : okb o0 = true) (hd : decode (cd mi) pc = .ok (.lstore_n 1, 1)) (h : G k mi R F nc ns (pc + 1) (o0 :: some (.long x) :: none :: r) st M) : G k mi R F nc ns pc (o0 :: o1 :: o2 :: r) (.long x :: st) M :=
  g_lstore_n (i := 1) rfl (by simp) (okp_of (i := 0) (x := o0) rfl hb) hd h
theorem g_ls1 {x : Int64} {o0 o1 o2 : Option Value} {r : List (Option Value)} (hb : okb o0 = true) (hd : decode (cd mi) pc = .ok (.lstore 1, 2)) (h : G k mi R F nc ns (pc + 2) (o0 :: some (.long x) :: none :: r) st M) : G k mi R F nc ns pc (o0 :: o1 :: o2 :: r) (.long x :: st) M :=
  g_lstore (by simp) (okp_of (i := 0) (x := o0) rfl hb) hd h
theorem g_ic1 {n : Int} {x : Int32} {o0 : Option Value} {r : List (Option Value)} (v : Int32) (hv : x + Int32.ofInt n = v) (hb : okb o0 = true) (hd : decode (cd mi) pc = .ok (.iinc 1 n, 3)) (h : G k mi R F nc ns (pc + 3) (o0 :: some (.int v) :: r) st M) : G k mi R F nc ns pc (o0 :: some (.int x) :: r) st M :=
  g_iinc (i := 1) v rfl hv (okp_of (i := 0) (x := o0) rfl hb) hd h
theorem g_isn2 {x : Int32} {o0 o1 o2 : Option Value} {r : List (Option Value)} (hb : okb o1 = true) (hd : decode (cd mi) pc = .ok (.istore_n 2, 1)) (h : G k mi R F nc ns (pc + 1) (o0 :: o1 :: some (.int x) :: r) st M) : G k mi R F nc ns pc (o0 :: o1 :: o2 :: r) (.int x :: st) M :=
  g_istore_n (i := 2) rfl (by simp) (okp_of (i := 1) (x := o1) rfl hb) hd h
theorem g_is2 {x : Int32} {o0 o1 o2 : Option Value} {r : List (Option Value)} (hb : okb o1 = true) (hd : decode (cd mi) pc = .ok (.istore 2, 2)) (h : G k mi R F nc ns (pc + 2) (o0 :: o1 :: some (.int x) :: r) st M) : G k mi R F nc ns pc (o0 :: o1 :: o2 :: r) (.int x :: st) M :=
  g_istore (by simp) (okp_of (i := 1) (x := o1) rfl hb) hd h
theorem g_asn2 {x : Nat} {o0 o1 o2 : Option Value} {r : List (Option Value)} (hb : okb o1 = true) (hd : decode (cd mi) pc = .ok (.astore_n 2, 1)) (h : G k mi R F nc ns (pc + 1) (o0 :: o1 :: some (.ref x) :: r) st M) : G k mi R F nc ns pc (o0 :: o1 :: o2 :: r) (.ref x :: st) M :=
  g_astore_n (i := 2) rfl (by simp) (okp_of (i := 1) (x := o1) rfl hb) hd h
theorem g_as2 {x : Nat} {o0 o1 o2 : Option Value} {r : List (Option Value)} (hb : okb o1 = true) (hd : decode (cd mi) pc = .ok (.astore 2, 2)) (h : G k mi R F nc ns (pc + 2) (o0 :: o1 :: some (.ref x) :: r) st M) : G k mi R F nc ns pc (o0 :: o1 :: o2 :: r) (.ref x :: st) M :=
  g_astore (by simp) (okp_of (i := 1) (x := o1) rfl hb) hd h
theorem g_lsn2 {x : Int64} {o0 o1 o2 o3 : Option Value} {r : List (Option Value)} (hb : okb o1 = true) (hd : decode (cd mi) pc = .ok (.lstore_n 2, 1)) (h : G k mi R F nc ns (pc + 1) (o0 :: o1 :: some (.long x) :: none :: r) st M) : G k mi R F nc ns pc (o0 :: o1 :: o2 :: o3 :: r) (.long x :: st) M :=
  g_lstore_n (i := 2) rfl (by simp) (okp_of (i := 1) (x := o1) rfl hb) hd h
theorem g_ls2 {x : Int64} {o0 o1 o2 o3 : Option Value} {r : List (Option Value)} (hb : okb o1 = true) (hd : decode (cd mi) pc = .ok (.lstore 2, 2)) (h : G k mi R F nc ns (pc + 2) (o0 :: o1 :: some (.long x) :: none :: r) st M) : G k mi R F nc ns pc (o0 :: o1 :: o2 :: o3 :: r) (.long x :: st) M :=
  g_lstore (by simp) (okp_of (i := 1) (x := o1) rfl hb) hd h
theorem g_ic2 {n : Int} {x : Int32} {o0 o1 : Option Value} {r : List (Option Value)} (v : Int32) (hv : x + Int32.ofInt n = v) (hb : okb o1 = true) (hd : decode (cd mi) pc = .ok (.iinc 2 n, 3)) (h : G k mi R F nc ns (pc + 3) (o0 :: o1 :: some (.int v) :: r) st M) : G k mi R F nc ns pc (o0 :: o1 :: some (.int x) :: r) st M :=
  g_iinc (i := 2) v rfl hv (okp_of (i := 1) (x := o1) rfl hb) hd h
theorem g_isn3 {x : Int32} {o0 o1 o2 o3 : Option Value} {r : List (Option Value)} (hb : okb o2 = true) (hd : decode (cd mi) pc = .ok (.istore_n 3, 1)) (h : G k mi R F nc ns (pc + 1) (o0 :: o1 :: o2 :: some (.int x) :: r) st M) : G k mi R F nc ns pc (o0 :: o1 :: o2 :: o3 :: r) (.int x :: st) M :=
  g_istore_n (i := 3) rfl (by simp) (okp_of (i := 2) (x := o2) rfl hb) hd h
theorem g_is3 {x : Int32} {o0 o1 o2 o3 : Option Value} {r : List (Option Value)} (hb : okb o2 = true) (hd : decode (cd mi) pc = .ok (.istore 3, 2)) (h : G k mi R F nc ns (pc + 2) (o0 :: o1 :: o2 :: some (.int x) :: r) st M) : G k mi R F nc ns pc (o0 :: o1 :: o2 :: o3 :: r) (.int x :: st) M :=
  g_istore (by simp) (okp_of (i := 2) (x := o2) rfl hb) hd h
theorem g_asn3 {x : Nat} {o0 o1 o2 o3 : Option Value} {r : List (Option Value)} (hb : okb o2 = true) (hd : decode (cd mi) pc = .ok (.astore_n 3, 1)) (h : G k mi R F nc ns (pc + 1) (o0 :: o1 :: o2 :: some (.ref x) :: r) st M) : G k mi R F nc ns pc (o0 :: o1 :: o2 :: o3 :: r) (.ref x :: st) M :=
  g_astore_n (i := 3) rfl (by simp) (okp_of (i := 2) (x := o2) rfl hb) hd h
theorem g_as3 {x : Nat} {o0 o1 o2 o3 : Option Value} {r : List (Option Value)} (hb : okb o2 = true) (hd : decode (cd mi) pc = .ok (.astore 3, 2)) (h : G k mi R F nc ns (pc + 2) (o0 :: o1 :: o2 :: some (.ref x) :: r) st M) : G k mi R F nc ns pc (o0 :: o1 :: o2 :: o3 :: r) (.ref x :: st) M :=
  g_astore (by simp) (okp_of (i := 2) (x := o2) rfl hb) hd h
theorem g_lsn3 {x : Int64} {o0 o1 o2 o3 o4 : Option Value} {r : List (Option Value)} (hb : okb o2 = true) (hd : decode (cd mi) pc = .ok (.lstore_n 3, 1)) (h : G k mi R F nc ns (pc + 1) (o0 :: o1 :: o2 :: some (.long x) :: none :: r) st M) : G k mi R F nc ns pc (o0 :: o1 :: o2 :: o3 :: o4 :: r) (.long x :: st) M :=
  g_lstore_n (i := 3) rfl (by simp) (okp_of (i := 2) (x := o2) rfl hb) hd h
theorem g_ls3 {x : Int64} {o0 o1 o2 o3 o4 : Option Value} {r : List (Option Value)} (hb : okb o2 = true) (hd : decode (cd mi) pc = .ok (.lstore 3, 2)) (h : G k mi R F nc ns (pc + 2) (o0 :: o1 :: o2 :: some (.long x) :: none :: r) st M) : G k mi R F nc ns pc (o0 :: o1 :: o2 :: o3 :: o4 :: r) (.long x :: st) M :=
  g_lstore (by simp) (okp_of (i := 2) (x := o2) rfl hb) hd h
theorem g_ic3 {n : Int} {x : Int32} {o0 o1 o2 : Option Value} {r : List (Option Value)} (v : Int32) (hv : x + Int32.ofInt n = v) (hb : okb o2 = true) (hd : decode (cd mi) pc = .ok (.iinc 3 n, 3)) (h : G k mi R F nc ns (pc + 3) (o0 :: o1 :: o2 :: some (.int v) :: r) st M) : G k mi R F nc ns pc (o0 :: o1 :: o2 :: some (.int x) :: r) st M :=
  g_iinc (i := 3) v rfl hv (okp_of (i := 2) (x := o2) rfl hb) hd h
theorem g_is4 {x : Int32} {o0 o1 o2 o3 o4 : Option Value} {r : List (Option Value)} (hb : okb o3 = true) (hd : decode (cd mi) pc = .ok (.istore 4, 2)) (h : G k mi R F nc ns (pc + 2) (o0 :: o1 :: o2 :: o3 :: some (.int x) :: r) st M) : G k mi R F nc ns pc (o0 :: o1 :: o2 :: o3 :: o4 :: r) (.int x :: st) M :=
  g_istore (by simp) (okp_of (i := 3) (x := o3) rfl hb) hd h
theorem g_as4 {x : Nat} {o0 o1 o2 o3 o4 : Option Value} {r : List (Option Value)} (hb : okb o3 = true) (hd : decode (cd mi) pc = .ok (.astore 4, 2)) (h : G k mi R F nc ns (pc + 2) (o0 :: o1 :: o2 :: o3 :: some (.ref x) :: r) st M) : G k mi R F nc ns pc (o0 :: o1 :: o2 :: o3 :: o4 :: r) (.ref x :: st) M :=
  g_astore (by simp) (okp_of (i := 3) (x := o3) rfl hb) hd h
theorem g_ls4 {x : Int64} {o0 o1 o2 o3 o4 o5 : Option Value} {r : List (Option Value)} (hb : okb o3 = true) (hd : decode (cd mi) pc = .ok (.lstore 4, 2)) (h : G k mi R F nc ns (pc + 2) (o0 :: o1 :: o2 :: o3 :: some (.long x) :: none :: r) st M) : G k mi R F nc ns pc (o0 :: o1 :: o2 :: o3 :: o4 :: o5 :: r) (.long x :: st) M :=
  g_lstore (by simp) (okp_of (i := 3) (x := o3) rfl hb) hd h
theorem g_ic4 {n : Int} {x : Int32} {o0 o1 o2 o3 : Option Value} {r : List (Option Value)} (v : Int32) (hv : x + Int32.ofInt n = v) (hb : okb o3 = true) (hd : decode (cd mi) pc = .ok (.iinc 4 n, 3)) (h : G k mi R F nc ns (pc + 3) (o0 :: o1 :: o2 :: o3 :: some (.int v) :: r) st M) : G k mi R F nc ns pc (o0 :: o1 :: o2 :: o3 :: some (.int x) :: r) st M :=
  g_iinc (i := 4) v rfl hv (okp_of (i := 3) (x := o3) rfl hb) hd h
theorem g_is5 {x : Int32} {o0 o1 o2 o3 o4 o5 : Option Value} {r : List (Option Value)} (hb : okb o4 = true) (hd : decode (cd mi) pc = .ok (.istore 5, 2)) (h : G k mi R F nc ns (pc + 2) (o0 :: o1 :: o2 :: o3 :: o4 :: some (.int x) :: r) st M) : G k mi R F nc ns pc (o0 :: o1 :: o2 :: o3 :: o4 :: o5 :: r) (.int x :: st) M :=
  g_istore (by simp) (okp_of (i := 4) (x := o4) rfl hb) hd h
theorem g_as5 {x : Nat} {o0 o1 o2 o3 o4 o5 : Option Value} {r : List (Option Value)} (hb : okb o4 = true) (hd : decode (cd mi) pc = .ok (.astore 5, 2)) (h : G k mi R F nc ns (pc + 2) (o0 :: o1 :: o2 :: o3 :: o4 :: some (.ref x) :: r) st M) : G k mi R F nc ns pc (o0 :: o1 :: o2 :: o3 :: o4 :: o5 :: r) (.ref x :: st) M :=
  g_astore (by simp) (okp_of (i := 4) (x := o4) rfl hb) hd h
theorem g_ls5 {x : Int64} {o0 o1 o2 o3 o4 o5 o6 : Option Value} {r : List (Option Value)} (hb : okb o4 = true) (hd : decode (cd mi) pc = .ok (.lstore 5, 2)) (h : G k mi R F nc ns (pc + 2) (o0 :: o1 :: o2 :: o3 :: o4 :: some (.long x) :: none :: r) st M) : G k mi R F nc ns pc (o0 :: o1 :: o2 :: o3 :: o4 :: o5 :: o6 :: r) (.long x :: st) M :=
  g_lstore (by simp) (okp_of (i := 4) (x := o4) rfl hb) hd h
theorem g_ic5 {n : Int} {x : Int32} {o0 o1 o2 o3 o4 : Option Value} {r : List (Option Value)} (v : Int32) (hv : x + Int32.ofInt n = v) (hb : okb o4 = true) (hd : decode (cd mi) pc = .ok (.iinc 5 n, 3)) (h : G k mi R F nc ns (pc + 3) (o0 :: o1 :: o2 :: o3 :: o4 :: some (.int v) :: r) st M) : G k mi R F nc ns pc (o0 :: o1 :: o2 :: o3 :: o4 :: some (.int x) :: r) st M :=
  g_iinc (i := 5) v rfl hv (okp_of (i := 4) (x := o4) rfl hb) hd h
theorem g_is6 {x : Int32} {o0 o1 o2 o3 o4 o5 o6 : Option Value} {r : List (Option Value)} (hb : okb o5 = true) (hd : decode (cd mi) pc = .ok (.istore 6, 2)) (h : G k mi R F nc ns (pc + 2) (o0 :: o1 :: o2 :: o3 :: o4 :: o5 :: some (.int x) :: r) st M) : G k mi R F nc ns pc (o0 :: o1 :: o2 :: o3 :: o4 :: o5 :: o6 :: r) (.int x :: st) M :=
  g_istore (by simp) (okp_of (i := 5) (x := o5) rfl hb) hd h
theorem g_as6 {x : Nat} {o0 o1 o2 o3 o4 o5 o6 : Option Value} {r : List (Option Value)} (hb : okb o5 = true) (hd : decode (cd mi) pc = .ok (.astore 6, 2)) (h : G k mi R F nc ns (pc + 2) (o0 :: o1 :: o2 :: o3 :: o4 :: o5 :: some (.ref x) :: r) st M) : G k mi R F nc ns pc (o0 :: o1 :: o2 :: o3 :: o4 :: o5 :: o6 :: r) (.ref x :: st) M :=
  g_astore (by simp) (okp_of (i := 5) (x := o5) rfl hb) hd h
theorem g_ls6 {x : Int64} {o0 o1 o2 o3 o4 o5 o6 o7 : Option Value} {r : List (Option Value)} (hb : okb o5 = true) (hd : decode (cd mi) pc = .ok (.lstore 6, 2)) (h : G k mi R F nc ns (pc + 2) (o0 :: o1 :: o2 :: o3 :: o4 :: o5 :: some (.long x) :: none :: r) st M) : G k mi R F nc ns pc (o0 :: o1 :: o2 :: o3 :: o4 :: o5 :: o6 :: o7 :: r) (.long x :: st) M :=
  g_lstore (by simp) (okp_of (i := 5) (x := o5) rfl hb) hd h
theorem g_ic6 {n : Int} {x : Int32} {o0 o1 o2 o3 o4 o5 : Option Value} {r : List (Option Value)} (v : Int32) (hv : x + Int32.ofInt n = v) (hb : okb o5 = true) (hd : decode (cd mi) pc = .ok (.iinc 6 n, 3)) (h : G k mi R F nc ns (pc + 3) (o0 :: o1 :: o2 :: o3 :: o4 :: o5 :: some (.int v) :: r) st M) : G k mi R F nc ns pc (o0 :: o1 :: o2 :: o3 :: o4 :: o5 :: some (.int x) :: r) st M :=
  g_iinc (i := 6) v rfl hv (okp_of (i := 5) (x := o5) rfl hb) hd h
theorem g_is7 {x : Int32} {o0 o1 o2 o3 o4 o5 o6 o7 : Option Value} {r : List (Option Value)} (hb : okb o6 = true) (hd : decode (cd mi) pc = .ok (.istore 7, 2)) (h : G k mi R F nc ns (pc + 2) (o0 :: o1 :: o2 :: o3 :: o4 :: o5 :: o6 :: some (.int x) :: r) st M) : G k mi R F nc ns pc (o0 :: o1 :: o2 :: o3 :: o4 :: o5 :: o6 :: o7 :: r) (.int x :: st) M :=
  g_istore (by simp) (okp_of (i := 6) (x := o6) rfl hb) hd h
theorem g_as7 {x : Nat} {o0 o1 o2 o3 o4 o5 o6 o7 : Option Value} {r : List (Option Value)} (hb : okb o6 = true) (hd : decode (cd mi) pc = .ok (.astore 7, 2)) (h : G k mi R F nc ns (pc + 2) (o0 :: o1 :: o2 :: o3 :: o4 :: o5 :: o6 :: some (.ref x) :: r) st M) : G k mi R F nc ns pc (o0 :: o1 :: o2 :: o3 :: o4 :: o5 :: o6 :: o7 :: r) (.ref x :: st) M :=
  g_astore (by simp) (okp_of (i := 6) (x := o6) rfl hb) hd h
theorem g_ls7 {x : Int64} {o0 o1 o2 o3 o4 o5 o6 o7 o8 : Option Value} {r : List (Option Value)} (hb : okb o6 = true) (hd : decode (cd mi) pc = .ok (.lstore 7, 2)) (h : G k mi R F nc ns (pc + 2) (o0 :: o1 :: o2 :: o3 :: o4 :: o5 :: o6 :: some (.long x) :: none :: r) st M) : G k mi R F nc ns pc (o0 :: o1 :: o2 :: o3 :: o4 :: o5 :: o6 :: o7 :: o8 :: r) (.long x :: st) M :=
  g_lstore (by simp) (okp_of (i := 6) (x := o6) rfl hb) hd h
theorem g_ic7 {n : Int} {x : Int32} {o0 o1 o2 o3 o4 o5 o6 : Option Value} {r : List (Option Value)} (v : Int32) (hv : x + Int32.ofInt n = v) (hb : okb o6 = true) (hd : decode (cd mi) pc = .ok (.iinc 7 n, 3)) (h : G k mi R F nc ns (pc + 3) (o0 :: o1 :: o2 :: o3 :: o4 :: o5 :: o6 :: some (.int v) :: r) st M) : G k mi R F nc ns pc (o0 :: o1 :: o2 :: o3 :: o4 :: o5 :: o6 :: some (.int x) :: r) st M :=
  g_iinc (i := 7) v rfl hv (okp_of (i := 6) (x := o6) rfl hb) hd h
theorem g_is8 {x : Int32} {o0 o1 o2 o3 o4 o5 o6 o7 o8 : Option Value} {r : List (Option Value)} (hb : okb o7 = true) (hd : decode (cd mi) pc = .ok (.istore 8, 2)) (h : G k mi R F nc ns (pc + 2) (o0 :: o1 :: o2 :: o3 :: o4 :: o5 :: o6 :: o7 :: some (.int x) :: r) st M) : G k mi R F nc ns pc (o0 :: o1 :: o2 :: o3 :: o4 :: o5 :: o6 :: o7 :: o8 :: r) (.int x :: st) M :=
  g_istore (by simp) (okp_of (i := 7) (x := o7) rfl hb) hd h
theorem g_as8 {x : Nat} {o0 o1 o2 o3 o4 o5 o6 o7 o8 : Option Value} {r : List (Option Value)} (hb : okb o7 = true) (hd : decode (cd mi) pc = .ok (.astore 8, 2)) (h : G k mi R F nc ns (pc + 2) (o0 :: o1 :: o2 :: o3 :: o4 :: o5 :: o6 :: o7 :: some (.ref x) :: r) st M) : G k mi R F nc ns pc (o0 :: o1 :: o2 :: o3 :: o4 :: o5 :: o6 :: o7 :: o8 :: r) (.ref x :: st) M :=
  g_astore (by simp) (okp_of (i := 7) (x := o7) rfl hb) hd h
theorem g_ls8 {x : Int64} {o0 o1 o2 o3 o4 o5 o6 o7 o8 o9 : Option Value} {r : List (Option Value)} (hb : okb o7 = true) (hd : decode (cd mi) pc = .ok (.lstore 8, 2)) (h : G k mi R F nc ns (pc + 2) (o0 :: o1 :: o2 :: o3 :: o4 :: o5 :: o6 :: o7 :: some (.long x) :: none :: r) st M) : G k mi R F nc ns pc (o0 :: o1 :: o2 :: o3 :: o4 :: o5 :: o6 :: o7 :: o8 :: o9 :: r) (.long x :: st) M :=
  g_lstore (by simp) (okp_of (i := 7) (x := o7) rfl hb) hd h
theorem g_ic8 {n : Int} {x : Int32} {o0 o1 o2 o3 o4 o5 o6 o7 : Option Value} {r : List (Option Value)} (v : Int32) (hv : x + Int32.ofInt n = v) (hb : okb o7 = true) (hd : decode (cd mi) pc = .ok (.iinc 8 n, 3)) (h : G k mi R F nc ns (pc + 3) (o0 :: o1 :: o2 :: o3 :: o4 :: o5 :: o6 :: o7 :: some (.int v) :: r) st M) : G k mi R F nc ns pc (o0 :: o1 :: o2 :: o3 :: o4 :: o5 :: o6 :: o7 :: some (.int x) :: r) st M :=
  g_iinc (i := 8) v rfl hv (okp_of (i := 7) (x := o7) rfl hb) hd h
theorem g_is9 {x : Int32} {o0 o1 o2 o3 o4 o5 o6 o7 o8 o9 : Option Value} {r : List (Option Value)} (hb : okb o8 = true) (hd : decode (cd mi) pc = .ok (.istore 9, 2)) (h : G k mi R F nc ns (pc + 2) (o0 :: o1 :: o2 :: o3 :: o4 :: o5 :: o6 :: o7 :: o8 :: some (.int x) :: r) st M) : G k mi R F nc ns pc (o0 :: o1 :: o2 :: o3 :: o4 :: o5 :: o6 :: o7 :: o8 :: o9 :: r) (.int x :: st) M :=
  g_istore (by simp) (okp_of (i := 8) (x := o8) rfl hb) hd h
theorem g_as9 {x : Nat} {o0 o1 o2 o3 o4 o5 o6 o7 o8 o9 : Option Value} {r : List (Option Value)} (hb : okb o8 = true) (hd : decode (cd mi) pc = .ok (.astore 9, 2)) (h : G k mi R F nc ns (pc + 2) (o0 :: o1 :: o2 :: o3 :: o4 :: o5 :: o6 :: o7 :: o8 :: some (.ref x) :: r) st M) : G k mi R F nc ns pc (o0 :: o1 :: o2 :: o3 :: o4 :: o5 :: o6 :: o7 :: o8 :: o9 :: r) (.ref x :: st) M :=
  g_astore (by simp) (okp_of (i := 8) (x := o8) rfl hb) hd h
theorem g_ls9 {x : Int64} {o0 o1 o2 o3 o4 o5 o6 o7 o8 o9 o10 : Option Value} {r : List (Option Value)} (hb : okb o8 = true) (hd : decode (cd mi) pc = .ok (.lstore 9, 2)) (h : G k mi R F nc ns (pc + 2) (o0 :: o1 :: o2 :: o3 :: o4 :: o5 :: o6 :: o7 :: o8 :: some (.long x) :: none :: r) st M) : G k mi R F nc ns pc (o0 :: o1 :: o2 :: o3 :: o4 :: o5 :: o6 :: o7 :: o8 :: o9 :: o10 :: r) (.long x :: st) M :=
  g_lstore (by simp) (okp_of (i := 8) (x := o8) rfl hb) hd h
theorem g_ic9 {n : Int} {x : Int32} {o0 o1 o2 o3 o4 o5 o6 o7 o8 : Option Value} {r : List (Option Value)} (v : Int32) (hv : x + Int32.ofInt n = v) (hb : okb o8 = true) (hd : decode (cd mi) pc = .ok (.iinc 9 n, 3)) (h : G k mi R F nc ns (pc + 3) (o0 :: o1 :: o2 :: o3 :: o4 :: o5 :: o6 :: o7 :: o8 :: some (.int v) :: r) st M) : G k mi R F nc ns pc (o0 :: o1 :: o2 :: o3 :: o4 :: o5 :: o6 :: o7 :: o8 :: some (.int x) :: r) st M :=
  g_iinc (i := 9) v rfl hv (okp_of (i := 8) (x := o8) rfl hb) hd h
theorem g_is10 {x : Int32} {o0 o1 o2 o3 o4 o5 o6 o7 o8 o9 o10 : Option Value} {r : List (Option Value)} (hb : okb o9 = true) (hd : decode (cd mi) pc = .ok (.istore 10, 2)) (h : G k mi R F nc ns (pc + 2) (o0 :: o1 :: o2 :: o3 :: o4 :: o5 :: o6 :: o7 :: o8 :: o9 :: some (.int x) :: r) st M) : G k mi R F nc ns pc (o0 :: o1 :: o2 :: o3 :: o4 :: o5 :: o6 :: o7 :: o8 :: o9 :: o10 :: r) (.int x :: st) M :=
  g_istore (by simp) (okp_of (i := 9) (x := o9) rfl hb) hd h
theorem g_as10 {x : Nat} {o0 o1 o2 o3 o4 o5 o6 o7 o8 o9 o10 : Option Value} {r : List (Option Value)} (hb : okb o9 = true) (hd : decode (cd mi) pc = .ok (.astore 10, 2)) (h : G k mi R F nc ns (pc + 2) (o0 :: o1 :: o2 :: o3 :: o4 :: o5 :: o6 :: o7 :: o8 :: o9 :: some (.ref x) :: r) st M) : G k mi R F nc ns pc (o0 :: o1 :: o2 :: o3 :: o4 :: o5 :: o6 :: o7 :: o8 :: o9 :: o10 :: r) (.ref x :: st) M :=
  g_astore (by simp) (okp_of (i := 9) (x := o9) rfl hb) hd h
theorem g_ls10 {x : Int64} {o0 o1 o2 o3 o4 o5 o6 o7 o8 o9 o10 o11 : Option Value} {r : List (Option Value)} (hb : okb o9 = true) (hd : decode (cd mi) pc = .ok (.lstore 10, 2)) (h : G k mi R F nc ns (pc + 2) (o0 :: o1 :: o2 :: o3 :: o4 :: o5 :: o6 :: o7 :: o8 :: o9 :: some (.long x) :: none :: r) st M) : G k mi R F nc ns pc (o0 :: o1 :: o2 :: o3 :: o4 :: o5 :: o6 :: o7 :: o8 :: o9 :: o10 :: o11 :: r) (.long x :: st) M :=
  g_lstore (by simp) (okp_of (i := 9) (x := o9) rfl hb) hd h
theorem g_ic10 {n : Int} {x : Int32} {o0 o1 o2 o3 o4 o5 o6 o7 o8 o9 : Option Value} {r : List (Option Value)} (v : Int32) (hv : x + Int32.ofInt n = v) (hb : okb o9 = true) (hd : decode (cd mi) pc = .ok (.iinc 10 n, 3)) (h : G k mi R F nc ns (pc + 3) (o0 :: o1 :: o2 :: o3 :: o4 :: o5 :: o6 :: o7 :: o8 :: o9 :: some (.int v) :: r) st M) : G k mi R F nc ns pc (o0 :: o1 :: o2 :: o3 :: o4 :: o5 :: o6 :: o7 :: o8 :: o9 :: some (.int x) :: r) st M :=
  g_iinc (i := 10) v rfl hv (okp_of (i := 9) (x := o9) rfl hb) hd h
theorem g_is11 {x : Int32} {o0 o1 o2 o3 o4 o5 o6 o7 o8 o9 o10 o11 : Option Value} {r : List (Option Value)} (hb : okb o10 = true) (hd : decode (cd mi) pc = .ok (.istore 11, 2)) (h : G k mi R F nc ns (pc + 2) (o0 :: o1 :: o2 :: o3 :: o4 :: o5 :: o6 :: o7 :: o8 :: o9 :: o10 :: some (.int x) :: r) st M) : G k mi R F nc ns pc (o0 :: o1 :: o2 :: o3 :: o4 :: o5 :: o6 :: o7 :: o8 :: o9 :: o10 :: o11 :: r) (.int x :: st) M :=
  g_istore (by simp) (okp_of (i := 10) (x := o10) rfl hb) hd h
theorem g_as11 {x : Nat} {o0 o1 o2 o3 o4 o5 o6 o7 o8 o9 o10 o11 : Option Value} {r : List (Option Value)} (hb : okb o10 = true) (hd : decode (cd mi) pc = .ok (.astore 11, 2)) (h : G k mi R F nc ns (pc + 2) (o0 :: o1 :: o2 :: o3 :: o4 :: o5 :: o6 :: o7 :: o8 :: o9 :: o10 :: some (.ref x) :: r) st M) : G k mi R F nc ns pc (o0 :: o1 :: o2 :: o3 :: o4 :: o5 :: o6 :: o7 :: o8 :: o9 :: o10 :: o11 :: r) (.ref x :: st) M :=
  g_astore (by simp) (okp_of (i := 10) (x := o10) rfl hb) hd h
theorem g_ls11 {x : Int64} {o0 o1 o2 o3 o4 o5 o6 o7 o8 o9 o10 o11 o12 : Option Value} {r : List (Option Value)} (hb : okb o10 = true) (hd : decode (cd mi) pc = .ok (.lstore 11, 2)) (h : G k mi R F nc ns (pc + 2) (o0 :: o1 :: o2 :: o3 :: o4 :: o5 :: o6 :: o7 :: o8 :: o9 :: o10 :: some (.long x) :: none :: r) st M) : G k mi R F nc ns pc (o0 :: o1 :: o2 :: o3 :: o4 :: o5 :: o6 :: o7 :: o8 :: o9 :: o10 :: o11 :: o12 :: r) (.long x :: st) M :=
  g_lstore (by simp) (okp_of (i := 10) (x := o10) rfl hb) hd h
theorem g_ic11 {n : Int} {x : Int32} {o0 o1 o2 o3 o4 o5 o6 o7 o8 o9 o10 : Option Value} {r : List (Option Value)} (v : Int32) (hv : x + Int32.ofInt n = v) (hb : okb o10 = true) (hd : decode (cd mi) pc = .ok (.iinc 11 n, 3)) (h : G k mi R F nc ns (pc + 3) (o0 :: o1 :: o2 :: o3 :: o4 :: o5 :: o6 :: o7 :: o8 :: o9 :: o10 :: some (.int v) :: r) st M) : G k mi R F nc ns pc (o0 :: o1 :: o2 :: o3 :: o4 :: o5 :: o6 :: o7 :: o8 :: o9 :: o10 :: some (.int x) :: r) st M :=
  g_iinc (i := 11) v rfl hv (okp_of (i := 10) (x := o10) rfl hb) hd h
theorem g_is12 {x : Int32} {o0 o1 o2 o3 o4 o5 o6 o7 o8 o9 o10 o11 o12 : Option Value} {r : List (Option Value)} (hb : okb o11 = true) (hd : decode (cd mi) pc = .ok (.istore 12, 2)) (h : G k mi R F nc ns (pc + 2) (o0 :: o1 :: o2 :: o3 :: o4 :: o5 :: o6 :: o7 :: o8 :: o9 :: o10 :: o11 :: some (.int x) :: r) st M) : G k mi R F nc ns pc (o0 :: o1 :: o2 :: o3 :: o4 :: o5 :: o6 :: o7 :: o8 :: o9 :: o10 :: o11 :: o12 :: r) (.int x :: st) M :=
  g_istore (by simp) (okp_of (i := 11) (x := o11) rfl hb) hd h
theorem g_as12 {x : Nat} {o0 o1 o2 o3 o4 o5 o6 o7 o8 o9 o10 o11 o12 : Option Value} {r : List (Option Value)} (hb : okb o11 = true) (hd : decode (cd mi) pc = .ok (.astore 12, 2)) (h : G k mi R F nc ns (pc + 2) (o0 :: o1 :: o2 :: o3 :: o4 :: o5 :: o6 :: o7 :: o8 :: o9 :: o10 :: o11 :: some (.ref x) :: r) st M) : G k mi R F nc ns pc (o0 :: o1 :: o2 :: o3 :: o4 :: o5 :: o6 :: o7 :: o8 :: o9 :: o10 :: o11 :: o12 :: r) (.ref x :: st) M :=
  g_astore (by simp) (okp_of (i := 11) (x := o11) rfl hb) hd h
theorem g_ls12 {x : Int64} {o0 o1 o2 o3 o4 o5 o6 o7 o8 o9 o10 o11 o12 o13 : Option Value} {r : List (Option Value)} (hb : okb o11 = true) (hd : decode (cd mi) pc = .ok (.lstore 12, 2)) (h : G k mi R F nc ns (pc + 2) (o0 :: o1 :: o2 :: o3 :: o4 :: o5 :: o6 :: o7 :: o8 :: o9 :: o10 :: o11 :: some (.long x) :: none :: r) st M) : G k mi R F nc ns pc (o0 :: o1 :: o2 :: o3 :: o4 :: o5 :: o6 :: o7 :: o8 :: o9 :: o10 :: o11 :: o12 :: o13 :: r) (.long x :: st) M :=
  g_lstore (by simp) (okp_of (i := 11) (x := o11) rfl hb) hd h
theorem g_ic12 {n : Int} {x : Int32} {o0 o1 o2 o3 o4 o5 o6 o7 o8 o9 o10 o11 : Option Value} {r : List (Option Value)} (v : Int32) (hv : x + Int32.ofInt n = v) (hb : okb o11 = true) (hd : decode (cd mi) pc = .ok (.iinc 12 n, 3)) (h : G k mi R F nc ns (pc + 3) (o0 :: o1 :: o2 :: o3 :: o4 :: o5 :: o6 :: o7 :: o8 :: o9 :: o10 :: o11 :: some (.int v) :: r) st M) : G k mi R F nc ns pc (o0 :: o1 :: o2 :: o3 :: o4 :: o5 :: o6 :: o7 :: o8 :: o9 :: o10 :: o11 :: some (.int x) :: r) st M :=
  g_iinc (i := 12) v rfl hv (okp_of (i := 11) (x := o11) rfl hb) hd h
end GL
/-- where a reference leads that is set once -/
def rt (a j : Nat) : Nat := (rfL.getD a []).getD j 0
def td (w : Bool) : Nat := if w then 3 else 14
def dr (w : Bool) : Nat := if w then 14 else 3
theorem pw_rt {w : Bool} {a j c : Nat} (h : kd a = c) (h9 : c ≠ 9) (h5 : c ≠ 5) : Pw w a j = some (rt a j) := by
  unfold Pw rf rt
  have n0 : a ≠ 0 := fun q => h9 (by rw [← h, q]; rfl)
  have n2 : a ≠ 2 := fun q => h5 (by rw [← h, q]; rfl)
  rw [if_neg (fun q => n0 q.1), if_neg (fun q => n2 q.1)]
theorem kt_all : (List.range 81).all (fun a => (kd a != 7 || (kd (rt a 7) == 6 && kd (rt a 8) == 6 && kd (rt a 9) == 6 && kd (rt a 10) == 6)) && (kd a != 6 || kd (rt a 2) == 12)) = true := by decide +kernel
theorem kt_at {a : Nat} (h : a < 81) : ((kd a != 7 || (kd (rt a 7) == 6 && kd (rt a 8) == 6 && kd (rt a 9) == 6 && kd (rt a 10) == 6)) && (kd a != 6 || kd (rt a 2) == 12)) = true := List.all_eq_true.mp kt_all a (List.mem_range.mpr h)
theorem kt7 {t : Nat} (h : kd t = 7) : kd (rt t 7) = 6 ∧ kd (rt t 8) = 6 ∧ kd (rt t 9) = 6 ∧ kd (rt t 10) = 6 := by
  have := kt_at (kd_lt h (by decide))
  simp [h] at this
  obtain ⟨⟨⟨a, b⟩, c⟩, d⟩ := this
  exact ⟨a, b, c, d⟩
theorem kt6 {t : Nat} (h : kd t = 6) : kd (rt t 2) = 12 := by
  have := kt_at (kd_lt h (by decide))
  simpa [h] using this
theorem kd_td (w : Bool) : kd (td w) = 7 := by cases w <;> rfl
theorem kd_dr (w : Bool) : kd (dr w) = 7 := by cases w <;> rfl
theorem vp_mk {x : Int32} {n : Nat} (h0 : ¬ x < 0) (h1 : x < Int32.ofNat n) (hn : n < 2 ^ 31) : vp_in x n := by
  rcases pk_ix x hn with h | h | ⟨j, hj, rfl⟩
  · exact absurd h h0
  · exact absurd h1 (Int32.not_lt.mpr h)
  · exact vp_in_nI hj hn
theorem sz_all : (List.range 81).all (fun a => decide (sz a < 2000)) = true := by decide +kernel
theorem sz_lt {a c : Nat} (h : kd a = c) (hc : c ≤ 14) : sz a < 2 ^ 31 := by
  have := List.all_eq_true.mp sz_all a (List.mem_range.mpr (kd_lt h hc))
  simp at this
  omega

theorem wMini : Cond.initialized "java/lang/Math" ∈ BIG := in1 12 (by decide +kernel) rfl
theorem wMmax : Cond.static Lib.Math.max.name ∈ BIG ∧ Cond.code Lib.Math.max.name Lib.Math.max.code 2 (some .int) ∈ BIG := ⟨in3 225 (by decide +kernel) rfl, in3 226 (by decide +kernel) rfl⟩
def imax (x y : Int32) : Int32 := if x < y then y else x
theorem g_mmax {k : KT} {mi : MI} {R : Room} {F : FinT} {nc ns pc : Nat} {vs : List (Option Value)} {st : List Value} {M : MM} {idx : Nat} {x y : Int32} (hl : Cond.methodLink mi.1.cls idx Lib.Math.max.name ∈ BIG) (hd : decode (cd mi) pc = .ok (.invokestatic idx, 3)) (hr : (st.map fun v => v.category).sum ≤ 8) (hRm : 1 ≤ R.frames ∧ 21 ≤ R.locals) (hcs : nc ≤ R.cells ∧ ns ≤ R.slots) (h : G k mi R F nc ns (pc + 3) vs (.int (imax x y) :: st) M) : G k mi R F nc ns pc vs (.int y :: .int x :: st) M := by
  intro p e s m args below meth c H locs ls hF hS hR hX hl2
  obtain ⟨hx, hb, hml, hown, hts, hret, hlk, hnm, hE⟩ := id hF
  exact va_mmax hx hb (by rw [hml, hl2.1.1]) hown (hts _ hl) (hts _ wMmax.1) (hts _ wMini) (hts _ wMmax.2) hRm.1 (by omega) hcs.1 hcs.2 hd (h p e s m args below meth c H locs ls hF hS hR hX hl2)
theorem wMmin : Cond.static Lib.Math.min.name ∈ BIG ∧ Cond.code Lib.Math.min.name Lib.Math.min.code 2 (some .int) ∈ BIG := ⟨in2 190 (by decide +kernel) rfl, in2 191 (by decide +kernel) rfl⟩
def imin (x y : Int32) : Int32 := if y < x then y else x
theorem g_mmin {k : KT} {mi : MI} {R : Room} {F : FinT} {nc ns pc : Nat} {vs : List (Option Value)} {st : List Value} {M : MM} {idx : Nat} {x y : Int32} (hl : Cond.methodLink mi.1.cls idx Lib.Math.min.name ∈ BIG) (hd : decode (cd mi) pc = .ok (.invokestatic idx, 3)) (hr : (st.map fun v => v.category).sum ≤ 8) (hRm : 1 ≤ R.frames ∧ 21 ≤ R.locals) (hcs : nc ≤ R.cells ∧ ns ≤ R.slots) (h : G k mi R F nc ns (pc + 3) vs (.int (imin x y) :: st) M) : G k mi R F nc ns pc vs (.int y :: .int x :: st) M := by
  intro p e s m args below meth c H locs ls hF hS hR hX hl2
  obtain ⟨hx, hb, hml, hown, hts, hret, hlk, hnm, hE⟩ := id hF
  exact va_mmin hx hb (by rw [hml, hl2.1.1]) hown (hts _ hl) (hts _ wMmin.1) (hts _ wMini) (hts _ wMmin.2) hRm.1 (by omega) hcs.1 hcs.2 hd (h p e s m args below meth c H locs ls hF hS hR hX hl2)
theorem lm_X6_34 : Cond.methodLink RX6 34 Lib.Math.min.name ∈ BIG := in2 189 (by decide +kernel) rfl
theorem lm_X0_49 : Cond.methodLink RX0 49 Lib.Math.min.name ∈ BIG := in3 223 (by decide +kernel) rfl
theorem lm_X0_39 : Cond.methodLink RX0 39 Lib.Math.max.name ∈ BIG := in3 224 (by decide +kernel) rfl
theorem lm_X4_101 : Cond.methodLink RX4 101 Lib.Math.max.name ∈ BIG := in4 221 (by decide +kernel) rfl
theorem lm_X9_118 : Cond.methodLink RX9 118 Lib.Math.max.name ∈ BIG := in5 5 (by decide +kernel) rfl
theorem lm_X9_123 : Cond.methodLink RX9 123 Lib.Math.min.name ∈ BIG := in5 6 (by decide +kernel) rfl
theorem lm_X5_39 : Cond.methodLink RX5 39 Lib.Math.min.name ∈ BIG := in5 106 (by decide +kernel) rfl
