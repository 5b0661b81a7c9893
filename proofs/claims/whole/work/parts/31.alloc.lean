section GN
variable {k : KT} {mi : MI} {R : Room} {F : FinT} {nc ns pc : Nat} {vs : List (Option Value)} {st : List Value} {N : Nat} {I : Nat → Nat → Int32} {J : Nat → Nat → Int64} {P : Nat → Nat → Option Nat}
/-- a cell that is made holds zeroes; Reader's (2) tapeBytes too, which is told as (0, 1) -/
def nwI (I : Nat → Nat → Int32) (v : Nat) : Nat → Nat → Int32 := fun a j => if a = v then 0 else if v = 2 ∧ a = 0 ∧ j = 1 then 0 else I a j
theorem nwI_a {I : Nat → Nat → Int32} {v b j : Nat} (h : b ≠ v) (h2 : ¬ (v = 2 ∧ b = 0 ∧ j = 1)) : nwI I v b j = I b j := by
  unfold nwI
  rw [if_neg h, if_neg h2]
theorem nwI_s (I : Nat → Nat → Int32) (v : Nat) : nwI I v v = fun _ => 0 := funext fun j => by unfold nwI; rw [if_pos rfl]
def nwJ (J : Nat → Nat → Int64) (N : Nat) : Nat → Nat → Int64 := va_up J N (fun _ => 0)
def nwP (P : Nat → Nat → Option Nat) (N : Nat) : Nat → Nat → Option Nat := va_up P N (fun _ => none)
theorem wl_push (k : KT) (v : Nat) (I : Nat → Nat → Int32) (J : Nat → Nat → Int64) (P : Nat → Nat → Option Nat) : wl k (sg v + 1, true, nwI I v, nwJ J v, nwP P v) = wl k (sg v, true, I, J, P) ++ [(kB k + sg v, enc k (sg v + 1, true, nwI I v, nwJ J v, nwP P v) v)] := by
  unfold wl
  dsimp only
  rw [List.range_succ, List.map_append, List.map_cons, List.map_nil, gs_sg]
  congr 1
  apply List.map_congr_left
  intro p hp
  have hlt := List.mem_range.mp hp
  have h : gs p ≠ v := fun q => by rw [← q, sg_gs] at hlt; omega
  have e : enc k (sg v + 1, true, nwI I v, nwJ J v, nwP P v) (gs p) = enc k (sg v, true, I, J, P) (gs p) := by
    refine enc_other k (fun j hj => ?_) (fun q => ?_) (fun j => by show va_up J v _ (gs p) j = _; rw [va_up_o _ _ h]) (fun j => by show va_up P v _ (gs p) j = _; rw [va_up_o _ _ h])
    · show nwI I v (gs p) j = I (gs p) j
      unfold nwI
      rw [if_neg h, if_neg (fun z => hj ⟨z.2.1, z.2.2⟩)]
    · show nwI I v 0 1 = I 0 1
      unfold nwI
      rw [if_neg (fun z => by subst z; exact Nat.not_lt_zero p hlt), if_neg (fun z => h (q.trans z.1.symm))]
  rw [e]
/-- where the new cell lies -/
theorem new_at {k : KT} {s : State} {nc q : Nat} {e : va_E} {H1 : Heap} (hX : s.heap.size + nc = kB k + N) (hz : H1.size ≤ s.heap.size + (nc + 1)) (hP : va_P (kD k) classes (wl k (N, true, I, J, P) ++ [(q, e)]) H1) (hD : va_D (AA k) (wl k (N, true, I, J, P) ++ [(q, e)])) : q = kB k + N := by
  have hl : (wl k (N, true, I, J, P)).length = N := by simp [wl]
  have hi : (wl k (N, true, I, J, P) ++ [(q, e)])[N]? = some (q, e) := by rw [List.getElem?_append_right (by omega), hl]; simp
  have h1 : q < H1.size := (hP N _ hi).lt
  have h2 : kB k ≤ q := hD.2 N _ hi
  rcases Nat.lt_or_ge (q - kB k) N with h | h
  · have hj : (wl k (N, true, I, J, P) ++ [(q, e)])[q - kB k]? = some (kB k + (q - kB k), enc k (N, true, I, J, P) (gs (q - kB k))) := by
      rw [List.getElem?_append_left (by omega)]
      exact wl_p k _ h
    have := hD.1 _ _ _ _ hj hi (by show kB k + (q - kB k) = q; omega)
    omega
  · omega
theorem env_ge {s : State} (hE : EnvAt k s s.heap) : ∀ q : Nat, s.heap.size ≤ q → AA k q := fun q h => Nat.le_trans hE.2.2.2.2.2.2.1 h
theorem g_new {v : Nat} (hv : sg v = N) {ci n idx : Nat} {C : String} {T : u_T} (ty0 : Nat → FieldType) (hty : ∀ j, j < n → parseFieldDescriptor (T j).2.2.1 = some (ty0 j)) (hin : ∀ w ∈ u_ws C T n, w ∈ BIG) (hc : classes[ci]? = some (C, T, n)) (hcl : Cond.classLink mi.1.cls idx C ∈ BIG) (hinst : Cond.instantiable C n ∈ BIG) (hini : Cond.initialized C ∈ BIG)
    (hdef : ∀ j, j < n → defaultValue (ty0 j) = (if ft ci j = 0 then Value.int 0 else if ft ci j = 1 then Value.long 0 else if ft ci j = 3 then Value.int 0 else Value.null)) (hk : kd v = ci) (hd : decode (cd mi) pc = .ok (.new idx, 3)) (hcells : nc + 1 ≤ R.cells) (hslots : ns + n ≤ R.slots)
    (h : G k mi R F (nc + 1) (ns + n) (pc + 3) vs (.ref (ka k v) :: st) (N + 1, true, nwI I v, nwJ J v, nwP P v)) : G k mi R F nc ns pc vs st (N, true, I, J, P) := by
  subst hv
  intro p e s m args below meth c H locs ls hF hS hR hX hl
  obtain ⟨hx, hb, hml, hown, hts, hret, hlk, hnm, hE⟩ := id hF
  have hsv : ∀ j, sv k (sg v + 1, true, nwI I v, nwJ J v, nwP P v) v j = (if ft ci j = 0 then Value.int 0 else if ft ci j = 1 then Value.long 0 else if ft ci j = 3 then Value.int 0 else Value.null) := by
    intro j
    have z1 : nwI I v v j = 0 := by rw [nwI_s]
    have z2 : nwJ J v v j = 0 := by unfold nwJ; rw [va_up_s]
    have z3 : nwP P v v j = none := by unfold nwP; rw [va_up_s]
    unfold sv
    dsimp only
    rw [hk, z1, z2, z3]
    by_cases q3 : ft ci j = 3
    · have v2 : v = 2 := ft3 (show ft (kd v) j = 3 by rw [hk]; exact q3)
      have z4 : nwI I v 0 1 = 0 := by
        subst v2
        unfold nwI
        rw [if_neg (by decide), if_pos ⟨rfl, rfl, rfl⟩]
      rw [z4]
      rfl
    · rw [if_neg q3, if_neg q3]
      rfl
  refine va_new (fs := (List.range n).map (sv k (sg v + 1, true, nwI I v, nwJ J v, nwP P v) v)) hx hb hts hin ty0 hty hown (hts _ hcl) (hts _ hinst) (hts _ hini) hE.1 hR.1 (wl_D k _) hS (env_ge hE) hc (fun j hj => ?_) hcells hslots hd (fun q H1 hP1 hD1 hS1 => ?_)
  · rw [hdef j hj, ← hsv j]
    simp [vp_V, hj]
  · intro T1 hT1 X1
    have hz := X1.heapSize
    rw [hT1] at hz
    have hq := new_at (hX rfl) hz hP1 hD1
    subst hq
    have e1 : wl k (sg v + 1, true, nwI I v, nwJ J v, nwP P v) = wl k (sg v, true, I, J, P) ++ [(kB k + sg v, .inr (ci, (List.range n).map (sv k (sg v + 1, true, nwI I v, nwJ J v, nwP P v) v)))] := by
      rw [wl_push, enc_obj k _ hk (cl_le hc), sz_obj hk hc]
    rw [← e1] at hP1
    have hlt := (hP1 (sg v) _ (wl_p k (sg v + 1, true, nwI I v, nwJ J v, nwP P v) (Nat.lt_succ_self (sg v)))).lt
    exact h p e s m args below meth c H1 locs ls hF hS1 ⟨hP1, by show kB k + (sg v + 1) ≤ _; dsimp only at hlt; omega⟩ (fun _ => by have := hX rfl; show _ = kB k + (sg v + 1); omega) hl T1 hT1 X1
theorem g_newa_i {v : Nat} (hv : sg v = N) {n : Int32} {L : Nat} (harr : Cond.arrayClass (newarray.typeOf .int) ∈ BIG) (hk : kd v = 12) (hn : ¬ n < 0) (hL : n.toNatClampNeg = L) (hsz : sz v = L) (hb2 : L ≤ 2000) (hd : decode (cd mi) pc = .ok (.newarray .int, 2)) (hcells : nc + 1 ≤ R.cells) (hslots : ns + L ≤ R.slots)
    (h : G k mi R F (nc + 1) (ns + L) (pc + 2) vs (.ref (ka k v) :: st) (N + 1, true, nwI I v, nwJ J v, nwP P v)) : G k mi R F nc ns pc vs (.int n :: st) (N, true, I, J, P) := by
  subst hv
  intro p e s m args below meth c H locs ls hF hS hR hX hl
  obtain ⟨hx, hb, hml, hown, hts, hret, hlk, hnm, hE⟩ := id hF
  refine va_newa hx hb (hts _ harr) (ty := .int) rfl hE.1 hR.1 (wl_D k _) hS (env_ge hE) (a0 := (L, .inl (fun _ => (0 : Int32)))) (fun cA => rfl) hn hL (by show L * _ ≤ _; simp [componentBytes]; omega) hcells hslots hd (fun q cA H1 hK1 hP1 hD1 hS1 => ?_)
  intro T1 hT1 X1
  have hz := X1.heapSize
  rw [hT1] at hz
  have hq := new_at (hX rfl) hz hP1 hD1
  subst hq
  have hcA : cA = kcI k := by
    have g1 := (hK1.2 4 (cA, .int) rfl).2
    have g2 := (hE.1.2 1 (kcI k, .int) rfl).2
    exact Option.some.inj (g1.symm.trans g2)
  subst hcA
  have e1 : wl k (sg v + 1, true, nwI I v, nwJ J v, nwP P v) = wl k (sg v, true, I, J, P) ++ [(kB k + sg v, .inl (kcI k, L, .inl (fun _ => (0 : Int32))))] := by
    rw [wl_push, enc_i k _ hk, hsz]
    simp only [nwI_s, nwJ, va_up_s]
  rw [← e1] at hP1
  have hlt := (hP1 (sg v) _ (wl_p k (sg v + 1, true, nwI I v, nwJ J v, nwP P v) (Nat.lt_succ_self (sg v)))).lt
  exact h p e s m args below meth c H1 locs ls hF hS1 ⟨hP1, by show kB k + (sg v + 1) ≤ _; dsimp only at hlt; omega⟩ (fun _ => by have := hX rfl; show _ = kB k + (sg v + 1); omega) hl T1 hT1 X1
theorem g_newa_b {v : Nat} (hv : sg v = N) {n : Int32} {L : Nat} (harr : Cond.arrayClass (newarray.typeOf .byte) ∈ BIG) (hk : kd v = 11) (hn : ¬ n < 0) (hL : n.toNatClampNeg = L) (hsz : sz v = L) (hb2 : L ≤ 2000) (hd : decode (cd mi) pc = .ok (.newarray .byte, 2)) (hcells : nc + 1 ≤ R.cells) (hslots : ns + L ≤ R.slots)
    (h : G k mi R F (nc + 1) (ns + L) (pc + 2) vs (.ref (ka k v) :: st) (N + 1, true, nwI I v, nwJ J v, nwP P v)) : G k mi R F nc ns pc vs (.int n :: st) (N, true, I, J, P) := by
  subst hv
  intro p e s m args below meth c H locs ls hF hS hR hX hl
  obtain ⟨hx, hb, hml, hown, hts, hret, hlk, hnm, hE⟩ := id hF
  refine va_newa hx hb (hts _ harr) (ty := .byte) rfl hE.1 hR.1 (wl_D k _) hS (env_ge hE) (a0 := (L, .inl (fun _ => (0 : Int32)))) (fun cA => rfl) hn hL (by show L * _ ≤ _; simp [componentBytes]; omega) hcells hslots hd (fun q cA H1 hK1 hP1 hD1 hS1 => ?_)
  intro T1 hT1 X1
  have hz := X1.heapSize
  rw [hT1] at hz
  have hq := new_at (hX rfl) hz hP1 hD1
  subst hq
  have hcA : cA = kcB k := by
    have g1 := (hK1.2 4 (cA, .byte) rfl).2
    have g2 := (hE.1.2 0 (kcB k, .byte) rfl).2
    exact Option.some.inj (g1.symm.trans g2)
  subst hcA
  have e1 : wl k (sg v + 1, true, nwI I v, nwJ J v, nwP P v) = wl k (sg v, true, I, J, P) ++ [(kB k + sg v, .inl (kcB k, L, .inl (fun _ => (0 : Int32))))] := by
    rw [wl_push, enc_b k _ hk, hsz]
    simp only [nwI_s, nwJ, va_up_s]
  rw [← e1] at hP1
  have hlt := (hP1 (sg v) _ (wl_p k (sg v + 1, true, nwI I v, nwJ J v, nwP P v) (Nat.lt_succ_self (sg v)))).lt
  exact h p e s m args below meth c H1 locs ls hF hS1 ⟨hP1, by show kB k + (sg v + 1) ≤ _; dsimp only at hlt; omega⟩ (fun _ => by have := hX rfl; show _ = kB k + (sg v + 1); omega) hl T1 hT1 X1
theorem g_newa_j {v : Nat} (hv : sg v = N) {n : Int32} {L : Nat} (harr : Cond.arrayClass (newarray.typeOf .long) ∈ BIG) (hk : kd v = 13) (hn : ¬ n < 0) (hL : n.toNatClampNeg = L) (hsz : sz v = L) (hb2 : L ≤ 2000) (hd : decode (cd mi) pc = .ok (.newarray .long, 2)) (hcells : nc + 1 ≤ R.cells) (hslots : ns + L ≤ R.slots)
    (h : G k mi R F (nc + 1) (ns + L) (pc + 2) vs (.ref (ka k v) :: st) (N + 1, true, nwI I v, nwJ J v, nwP P v)) : G k mi R F nc ns pc vs (.int n :: st) (N, true, I, J, P) := by
  subst hv
  intro p e s m args below meth c H locs ls hF hS hR hX hl
  obtain ⟨hx, hb, hml, hown, hts, hret, hlk, hnm, hE⟩ := id hF
  refine va_newa hx hb (hts _ harr) (ty := .long) rfl hE.1 hR.1 (wl_D k _) hS (env_ge hE) (a0 := (L, .inr (.inl (fun _ => (0 : Int64))))) (fun cA => rfl) hn hL (by show L * _ ≤ _; simp [componentBytes]; omega) hcells hslots hd (fun q cA H1 hK1 hP1 hD1 hS1 => ?_)
  intro T1 hT1 X1
  have hz := X1.heapSize
  rw [hT1] at hz
  have hq := new_at (hX rfl) hz hP1 hD1
  subst hq
  have hcA : cA = kcJ k := by
    have g1 := (hK1.2 4 (cA, .long) rfl).2
    have g2 := (hE.1.2 2 (kcJ k, .long) rfl).2
    exact Option.some.inj (g1.symm.trans g2)
  subst hcA
  have e1 : wl k (sg v + 1, true, nwI I v, nwJ J v, nwP P v) = wl k (sg v, true, I, J, P) ++ [(kB k + sg v, .inl (kcJ k, L, .inr (.inl (fun _ => (0 : Int64)))))] := by
    rw [wl_push, enc_j k _ hk, hsz]
    simp only [nwI_s, nwJ, va_up_s]
  rw [← e1] at hP1
  have hlt := (hP1 (sg v) _ (wl_p k (sg v + 1, true, nwI I v, nwJ J v, nwP P v) (Nat.lt_succ_self (sg v)))).lt
  exact h p e s m args below meth c H1 locs ls hF hS1 ⟨hP1, by show kB k + (sg v + 1) ≤ _; dsimp only at hlt; omega⟩ (fun _ => by have := hX rfl; show _ = kB k + (sg v + 1); omega) hl T1 hT1 X1
theorem g_anew {v : Nat} (hv : sg v = N) {n : Int32} {L idx : Nat} (hcl : Cond.classLink mi.1.cls idx RX0 ∈ BIG) (hk : kd v = 14) (hn : ¬ n < 0) (hL : n.toNatClampNeg = L) (hsz : sz v = L) (hb2 : L ≤ 2000) (hd : decode (cd mi) pc = .ok (.anewarray idx, 3)) (hcells : nc + 1 ≤ R.cells) (hslots : ns + L ≤ R.slots)
    (h : G k mi R F (nc + 1) (ns + L) (pc + 3) vs (.ref (ka k v) :: st) (N + 1, true, nwI I v, nwJ J v, nwP P v)) : G k mi R F nc ns pc vs (.int n :: st) (N, true, I, J, P) := by
  subst hv
  intro p e s m args below meth c H locs ls hF hS hR hX hl
  obtain ⟨hx, hb, hml, hown, hts, hret, hlk, hnm, hE⟩ := id hF
  refine va_newq hx hb hown (hts _ hcl) hE.2.2.2.2.2.2.2.2.2.2.1 hE.1 hR.1 (wl_D k _) hS (env_ge hE) hn hL (by omega) hcells hslots hd (fun q cA H1 hK1 hP1 hD1 hS1 => ?_)
  intro T1 hT1 X1
  have hz := X1.heapSize
  rw [hT1] at hz
  have hq := new_at (hX rfl) hz hP1 hD1
  subst hq
  have hcA : cA = kcR k := by
    obtain ⟨_, _, _, _, _, g1⟩ := (hK1.2 4 (cA, .object RX0) rfl).2
    obtain ⟨_, _, _, _, _, g2⟩ := (hE.1.2 3 (kcR k, .object RX0) rfl).2
    exact Option.some.inj (g1.symm.trans g2)
  subst hcA
  have e1 : wl k (sg v + 1, true, nwI I v, nwJ J v, nwP P v) = wl k (sg v, true, I, J, P) ++ [(kB k + sg v, .inl (kcR k, L, .inr (.inr (.inr (.inr (fun _ => none))))))] := by
    rw [wl_push, enc_r k _ hk, hsz]
    simp only [nwP, va_up_s]
    rfl
  rw [← e1] at hP1
  have hlt := (hP1 (sg v) _ (wl_p k (sg v + 1, true, nwI I v, nwJ J v, nwP P v) (Nat.lt_succ_self (sg v)))).lt
  exact h p e s m args below meth c H1 locs ls hF hS1 ⟨hP1, by show kB k + (sg v + 1) ≤ _; dsimp only at hlt; omega⟩ (fun _ => by have := hX rfl; show _ = kB k + (sg v + 1); omega) hl T1 hT1 X1
theorem g_aast {ex : Bool} {a b : Nat} {i : Int32} (hd : decode (cd mi) pc = .ok (.aastore, 1)) (ha : kd a = 14) (hN : sg a < N) (hb0 : kd b = 0) (hbN : sg b < N) (hi : vp_in i (sz a)) (h : G k mi R F nc ns (pc + 1) vs st (N, ex, I, J, stP P a i.toNatClampNeg (some b))) : G k mi R F nc ns pc vs (.ref (ka k b) :: .int i :: .ref (ka k a) :: st) (N, ex, I, J, P) := by
  intro p e s m args below meth c H locs ls hF hS hR hX hl
  obtain ⟨hx, hb, hml, hown, hts, hret, hlk, hnm, hE⟩ := id hF
  have hcl : classes[0]? = some (RX0, TX0, 9) := rfl
  refine va_astq (r := (RX0, TX0, 9)) hx hb hE.1 hR.1 (wl_D k _) hS (sg a) 3 (sg b) 0 ((wl_at k _ hN).trans (by rw [enc_r k _ ha])) rfl ((wl_at k _ hbN).trans (by rw [enc_obj k _ hb0 (by decide)])) hcl hi hd (fun H1 locs1 hP1 hD1 hS1 => ?_)
  refine h p e s m args below meth c H1 locs1 ls hF hS1 (Rel.put (M := (N, ex, I, J, P)) (M' := (N, ex, I, J, stP P a i.toNatClampNeg (some b))) rfl hN ?_ (fun b hb => enc_stP k hb) hP1) hX hl
  rw [enc_r k _ ha]
  congr 7
  funext j
  by_cases hj : j = i.toNatClampNeg
  · subst hj
    simp [stP, va_up]
  · simp [stP, va_up, hj]
theorem g_obj {idx : Nat} {b : Nat} {M : MM} (hl0 : Cond.methodLink mi.1.cls idx Lib.objectInit ∈ BIG) (hi0 : Cond.instanceMethod Lib.objectInit ∈ BIG) (hc0 : Cond.code Lib.objectInit ⟨#[0xb1]⟩ 1 none ∈ BIG) (hd : decode (cd mi) pc = .ok (.invokespecial idx, 3)) (hRm : 1 ≤ R.frames ∧ (st.map fun v => v.category).sum + 12 ≤ R.locals) (h : G k mi R F nc ns (pc + 3) vs st M) : G k mi R F nc ns pc vs (.ref b :: st) M := by
  intro p e s m args below meth c H locs ls hF hS hR hX hl
  obtain ⟨hx, hb, hml, hown, hts, hret, hlk, hnm, hE⟩ := id hF
  exact W.objInit hx hb hown (hts _ hl0) (hts _ hi0) (hts _ hc0) rfl (by rw [hml]; exact hl.1.1) rfl hd hRm.1 (by show 2 * 0 + _ + 12 ≤ _; omega) (h p e s m args below meth c H locs ls hF hS hR hX hl)
theorem g_callI0 {mi' : MI} {d mc ms n idx b : Nat} {as rest : List Value} {M M2 : MM} (hC : Ct k mi' d mc ms (.ref b :: as) M (fun v M' => v = none ∧ M' = M2)) (hv : rty mi' = none) (hw : MIn mi' n) (hl : ML mi.1.cls idx mi') (hd : decode (cd mi) pc = .ok (.invokespecial idx, 3)) (hn : as.length = n) (hst : st = as.reverse ++ .ref b :: rest) (hr : (rest.map fun v => v.category).sum ≤ 8) (hRm : d + 1 ≤ R.frames ∧ 19 + mxl mi' + 48 * d ≤ R.locals) (hcs : nc + mc ≤ R.cells ∧ ns + ms ≤ R.slots) (hM : M2.2.1 = true → M.2.1 = true ∧ M2.1 = M.1 + mc) (h : G k mi R F (nc + mc) (ns + ms) (pc + 3) vs rest M2) : G k mi R F nc ns pc vs st M :=
  g_callI hC hv hw hl hd hn hst hr hRm hcs (fun v M' hq => by obtain ⟨rfl, rfl⟩ := hq; exact ⟨hM, h⟩)
end GN
