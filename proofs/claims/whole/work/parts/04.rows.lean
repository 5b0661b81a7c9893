section GR
variable {k : KT} {mi : MI} {R : Room} {F : FinT} {nc ns pc : Nat} {vs : List (Option Value)} {st : List Value} {M : MM}
theorem g_iconst {n : Int} (v : Int32) (hd : decode (cd mi) pc = .ok (.iconst n, 1)) (hv : Int32.ofInt n = v) (h : G k mi R F nc ns (pc + 1) vs (.int v :: st) M) : G k mi R F nc ns pc vs st M := by
  intro p e s m args below meth c H locs ls hF hS hR hX hl
  obtain ⟨hx, hb, hml, hown, hts, hret, hlk, hnm, hE⟩ := id hF
  exact lv_iconst hx hb hd hv (h p e s m args below meth c H locs ls hF hS hR hX hl)
theorem g_bipush {n : Int} (v : Int32) (hd : decode (cd mi) pc = .ok (.bipush n, 2)) (hv : (Int8.ofInt n).toInt32 = v) (h : G k mi R F nc ns (pc + 2) vs (.int v :: st) M) : G k mi R F nc ns pc vs st M := by
  intro p e s m args below meth c H locs ls hF hS hR hX hl
  obtain ⟨hx, hb, hml, hown, hts, hret, hlk, hnm, hE⟩ := id hF
  exact lv_bipush hx hb hd hv (h p e s m args below meth c H locs ls hF hS hR hX hl)
theorem g_sipush {n : Int} (v : Int32) (hd : decode (cd mi) pc = .ok (.sipush n, 3)) (hv : (Int16.ofInt n).toInt32 = v) (h : G k mi R F nc ns (pc + 3) vs (.int v :: st) M) : G k mi R F nc ns pc vs st M := by
  intro p e s m args below meth c H locs ls hF hS hR hX hl
  obtain ⟨hx, hb, hml, hown, hts, hret, hlk, hnm, hE⟩ := id hF
  exact lv_sipush hx hb hd hv (h p e s m args below meth c H locs ls hF hS hR hX hl)
theorem g_lconst {n : Fin 2} (v : Int64) (hd : decode (cd mi) pc = .ok (.lconst n, 1)) (hv : Int64.ofNat (n : Nat) = v) (h : G k mi R F nc ns (pc + 1) vs (.long v :: st) M) : G k mi R F nc ns pc vs st M := by
  intro p e s m args below meth c H locs ls hF hS hR hX hl
  obtain ⟨hx, hb, hml, hown, hts, hret, hlk, hnm, hE⟩ := id hF
  exact lv_lconst hx hb hd hv (h p e s m args below meth c H locs ls hF hS hR hX hl)
theorem g_ldc {i : Nat} {v : Int32} (hw : Cond.constant mi.1.cls i v ∈ BIG) (hd : decode (cd mi) pc = .ok (.ldc i, 2)) (h : G k mi R F nc ns (pc + 2) vs (.int v :: st) M) : G k mi R F nc ns pc vs st M := by
  intro p e s m args below meth c H locs ls hF hS hR hX hl
  obtain ⟨hx, hb, hml, hown, hts, hret, hlk, hnm, hE⟩ := id hF
  exact lv_ldc hx hb hown (hts _ hw) hd (h p e s m args below meth c H locs ls hF hS hR hX hl)
theorem g_ldcw {i : Nat} {v : Int32} (hw : Cond.constant mi.1.cls i v ∈ BIG) (hd : decode (cd mi) pc = .ok (.ldc_w i, 3)) (h : G k mi R F nc ns (pc + 3) vs (.int v :: st) M) : G k mi R F nc ns pc vs st M := by
  intro p e s m args below meth c H locs ls hF hS hR hX hl
  obtain ⟨hx, hb, hml, hown, hts, hret, hlk, hnm, hE⟩ := id hF
  exact lv_ldcw hx hb hown (hts _ hw) hd (h p e s m args below meth c H locs ls hF hS hR hX hl)
theorem g_ldc2 {i : Nat} {v : Int64} (hw : Cond.constantLong mi.1.cls i v ∈ BIG) (hd : decode (cd mi) pc = .ok (.ldc2_w i, 3)) (h : G k mi R F nc ns (pc + 3) vs (.long v :: st) M) : G k mi R F nc ns pc vs st M := by
  intro p e s m args below meth c H locs ls hF hS hR hX hl
  obtain ⟨hx, hb, hml, hown, hts, hret, hlk, hnm, hE⟩ := id hF
  exact lv_ldc2 hx hb hown (hts _ hw) hd (h p e s m args below meth c H locs ls hF hS hR hX hl)
theorem g_ldcS {i n : Nat} {tx : String} (hw : (mi.1.cls, i, tx, n) ∈ strTab) (hd : decode (cd mi) pc = .ok (.ldc i, 2)) (h : G k mi R F nc ns (pc + 2) vs (.ref (adK k n) :: st) M) : G k mi R F nc ns pc vs st M := by
  intro p e s m args below meth c H locs ls hF hS hR hX hl
  obtain ⟨hx, hb, hml, hown, hts, hret, hlk, hnm, hE⟩ := id hF
  exact va_ldcS hx hb hown (hE.2.2.1 _ hw) hd (h p e s m args below meth c H locs ls hF hS hR hX hl)
theorem g_iload_n0 {x : Int32} (hv : vs[0]? = some (some (.int x))) (hd : decode (cd mi) pc = .ok (.iload_n 0, 1)) (h : G k mi R F nc ns (pc + 1) vs (.int x :: st) M) : G k mi R F nc ns pc vs st M := by
  intro p e s m args below meth c H locs ls hF hS hR hX hl
  obtain ⟨hx, hb, hml, hown, hts, hret, hlk, hnm, hE⟩ := id hF
  exact lv_iload_n hx hb hd rfl (lvh_get hl hv) (h p e s m args below meth c H locs ls hF hS hR hX hl)
theorem g_lload_n0 {x : Int64} (hv : vs[0]? = some (some (.long x))) (hd : decode (cd mi) pc = .ok (.lload_n 0, 1)) (h : G k mi R F nc ns (pc + 1) vs (.long x :: st) M) : G k mi R F nc ns pc vs st M := by
  intro p e s m args below meth c H locs ls hF hS hR hX hl
  obtain ⟨hx, hb, hml, hown, hts, hret, hlk, hnm, hE⟩ := id hF
  exact lv_lload_n hx hb hd rfl (lvh_get hl hv) (h p e s m args below meth c H locs ls hF hS hR hX hl)
theorem g_aload_n0 {x : Nat} (hv : vs[0]? = some (some (.ref x))) (hd : decode (cd mi) pc = .ok (.aload_n 0, 1)) (h : G k mi R F nc ns (pc + 1) vs (.ref x :: st) M) : G k mi R F nc ns pc vs st M := by
  intro p e s m args below meth c H locs ls hF hS hR hX hl
  obtain ⟨hx, hb, hml, hown, hts, hret, hlk, hnm, hE⟩ := id hF
  exact lv_aload_n hx hb hd rfl (lvh_get hl hv) (h p e s m args below meth c H locs ls hF hS hR hX hl)
theorem g_iload_n1 {x : Int32} (hv : vs[1]? = some (some (.int x))) (hd : decode (cd mi) pc = .ok (.iload_n 1, 1)) (h : G k mi R F nc ns (pc + 1) vs (.int x :: st) M) : G k mi R F nc ns pc vs st M := by
  intro p e s m args below meth c H locs ls hF hS hR hX hl
  obtain ⟨hx, hb, hml, hown, hts, hret, hlk, hnm, hE⟩ := id hF
  exact lv_iload_n hx hb hd rfl (lvh_get hl hv) (h p e s m args below meth c H locs ls hF hS hR hX hl)
theorem g_lload_n1 {x : Int64} (hv : vs[1]? = some (some (.long x))) (hd : decode (cd mi) pc = .ok (.lload_n 1, 1)) (h : G k mi R F nc ns (pc + 1) vs (.long x :: st) M) : G k mi R F nc ns pc vs st M := by
  intro p e s m args below meth c H locs ls hF hS hR hX hl
  obtain ⟨hx, hb, hml, hown, hts, hret, hlk, hnm, hE⟩ := id hF
  exact lv_lload_n hx hb hd rfl (lvh_get hl hv) (h p e s m args below meth c H locs ls hF hS hR hX hl)
theorem g_aload_n1 {x : Nat} (hv : vs[1]? = some (some (.ref x))) (hd : decode (cd mi) pc = .ok (.aload_n 1, 1)) (h : G k mi R F nc ns (pc + 1) vs (.ref x :: st) M) : G k mi R F nc ns pc vs st M := by
  intro p e s m args below meth c H locs ls hF hS hR hX hl
  obtain ⟨hx, hb, hml, hown, hts, hret, hlk, hnm, hE⟩ := id hF
  exact lv_aload_n hx hb hd rfl (lvh_get hl hv) (h p e s m args below meth c H locs ls hF hS hR hX hl)
theorem g_iload_n2 {x : Int32} (hv : vs[2]? = some (some (.int x))) (hd : decode (cd mi) pc = .ok (.iload_n 2, 1)) (h : G k mi R F nc ns (pc + 1) vs (.int x :: st) M) : G k mi R F nc ns pc vs st M := by
  intro p e s m args below meth c H locs ls hF hS hR hX hl
  obtain ⟨hx, hb, hml, hown, hts, hret, hlk, hnm, hE⟩ := id hF
  exact lv_iload_n hx hb hd rfl (lvh_get hl hv) (h p e s m args below meth c H locs ls hF hS hR hX hl)
theorem g_lload_n2 {x : Int64} (hv : vs[2]? = some (some (.long x))) (hd : decode (cd mi) pc = .ok (.lload_n 2, 1)) (h : G k mi R F nc ns (pc + 1) vs (.long x :: st) M) : G k mi R F nc ns pc vs st M := by
  intro p e s m args below meth c H locs ls hF hS hR hX hl
  obtain ⟨hx, hb, hml, hown, hts, hret, hlk, hnm, hE⟩ := id hF
  exact lv_lload_n hx hb hd rfl (lvh_get hl hv) (h p e s m args below meth c H locs ls hF hS hR hX hl)
theorem g_aload_n2 {x : Nat} (hv : vs[2]? = some (some (.ref x))) (hd : decode (cd mi) pc = .ok (.aload_n 2, 1)) (h : G k mi R F nc ns (pc + 1) vs (.ref x :: st) M) : G k mi R F nc ns pc vs st M := by
  intro p e s m args below meth c H locs ls hF hS hR hX hl
  obtain ⟨hx, hb, hml, hown, hts, hret, hlk, hnm, hE⟩ := id hF
  exact lv_aload_n hx hb hd rfl (lvh_get hl hv) (h p e s m args below meth c H locs ls hF hS hR hX hl)
theorem g_iload_n3 {x : Int32} (hv : vs[3]? = some (some (.int x))) (hd : decode (cd mi) pc = .ok (.iload_n 3, 1)) (h : G k mi R F nc ns (pc + 1) vs (.int x :: st) M) : G k mi R F nc ns pc vs st M := by
  intro p e s m args below meth c H locs ls hF hS hR hX hl
  obtain ⟨hx, hb, hml, hown, hts, hret, hlk, hnm, hE⟩ := id hF
  exact lv_iload_n hx hb hd rfl (lvh_get hl hv) (h p e s m args below meth c H locs ls hF hS hR hX hl)
theorem g_lload_n3 {x : Int64} (hv : vs[3]? = some (some (.long x))) (hd : decode (cd mi) pc = .ok (.lload_n 3, 1)) (h : G k mi R F nc ns (pc + 1) vs (.long x :: st) M) : G k mi R F nc ns pc vs st M := by
  intro p e s m args below meth c H locs ls hF hS hR hX hl
  obtain ⟨hx, hb, hml, hown, hts, hret, hlk, hnm, hE⟩ := id hF
  exact lv_lload_n hx hb hd rfl (lvh_get hl hv) (h p e s m args below meth c H locs ls hF hS hR hX hl)
theorem g_aload_n3 {x : Nat} (hv : vs[3]? = some (some (.ref x))) (hd : decode (cd mi) pc = .ok (.aload_n 3, 1)) (h : G k mi R F nc ns (pc + 1) vs (.ref x :: st) M) : G k mi R F nc ns pc vs st M := by
  intro p e s m args below meth c H locs ls hF hS hR hX hl
  obtain ⟨hx, hb, hml, hown, hts, hret, hlk, hnm, hE⟩ := id hF
  exact lv_aload_n hx hb hd rfl (lvh_get hl hv) (h p e s m args below meth c H locs ls hF hS hR hX hl)
theorem g_iload {x : Int32} {i : Nat} (hv : vs[i]? = some (some (.int x))) (hd : decode (cd mi) pc = .ok (.iload i, 2)) (h : G k mi R F nc ns (pc + 2) vs (.int x :: st) M) : G k mi R F nc ns pc vs st M := by
  intro p e s m args below meth c H locs ls hF hS hR hX hl
  obtain ⟨hx, hb, hml, hown, hts, hret, hlk, hnm, hE⟩ := id hF
  exact lv_iload hx hb hd (lvh_get hl hv) (h p e s m args below meth c H locs ls hF hS hR hX hl)
theorem g_lload {x : Int64} {i : Nat} (hv : vs[i]? = some (some (.long x))) (hd : decode (cd mi) pc = .ok (.lload i, 2)) (h : G k mi R F nc ns (pc + 2) vs (.long x :: st) M) : G k mi R F nc ns pc vs st M := by
  intro p e s m args below meth c H locs ls hF hS hR hX hl
  obtain ⟨hx, hb, hml, hown, hts, hret, hlk, hnm, hE⟩ := id hF
  exact lv_lload hx hb hd (lvh_get hl hv) (h p e s m args below meth c H locs ls hF hS hR hX hl)
theorem g_aload {x : Nat} {i : Nat} (hv : vs[i]? = some (some (.ref x))) (hd : decode (cd mi) pc = .ok (.aload i, 2)) (h : G k mi R F nc ns (pc + 2) vs (.ref x :: st) M) : G k mi R F nc ns pc vs st M := by
  intro p e s m args below meth c H locs ls hF hS hR hX hl
  obtain ⟨hx, hb, hml, hown, hts, hret, hlk, hnm, hE⟩ := id hF
  exact lv_aload hx hb hd (lvh_get hl hv) (h p e s m args below meth c H locs ls hF hS hR hX hl)
theorem g_istore {x : Int32} {i : Nat} (hn : i < vs.length) (hp : okp vs i) (hd : decode (cd mi) pc = .ok (.istore i, 2)) (h : G k mi R F nc ns (pc + 2) (vs.set i (some (.int x))) st M) : G k mi R F nc ns pc vs (.int x :: st) M := by
  intro p e s m args below meth c H locs ls hF hS hR hX hl
  obtain ⟨hx, hb, hml, hown, hts, hret, hlk, hnm, hE⟩ := id hF
  exact lv_istore hx hb hd hl.1 (by rw [← hl.2]; exact hn) rfl (fun ls h2 => h p e s m args below meth c H locs ls hF hS hR hX (lvh_set1 hl.2 hp h2))
theorem g_istore_n {x : Int32} {n : Fin 4} {i : Nat} (hi : (n : Nat) = i) (hn : i < vs.length) (hp : okp vs i) (hd : decode (cd mi) pc = .ok (.istore_n n, 1)) (h : G k mi R F nc ns (pc + 1) (vs.set i (some (.int x))) st M) : G k mi R F nc ns pc vs (.int x :: st) M := by
  intro p e s m args below meth c H locs ls hF hS hR hX hl
  obtain ⟨hx, hb, hml, hown, hts, hret, hlk, hnm, hE⟩ := id hF
  exact lv_istore_n hx hb hd hi hl.1 (by rw [← hl.2]; exact hn) rfl (fun ls h2 => h p e s m args below meth c H locs ls hF hS hR hX (lvh_set1 hl.2 hp h2))
theorem g_astore {x : Nat} {i : Nat} (hn : i < vs.length) (hp : okp vs i) (hd : decode (cd mi) pc = .ok (.astore i, 2)) (h : G k mi R F nc ns (pc + 2) (vs.set i (some (.ref x))) st M) : G k mi R F nc ns pc vs (.ref x :: st) M := by
  intro p e s m args below meth c H locs ls hF hS hR hX hl
  obtain ⟨hx, hb, hml, hown, hts, hret, hlk, hnm, hE⟩ := id hF
  exact lv_astore hx hb hd hl.1 (by rw [← hl.2]; exact hn) rfl (fun ls h2 => h p e s m args below meth c H locs ls hF hS hR hX (lvh_set1 hl.2 hp h2))
theorem g_astore_n {x : Nat} {n : Fin 4} {i : Nat} (hi : (n : Nat) = i) (hn : i < vs.length) (hp : okp vs i) (hd : decode (cd mi) pc = .ok (.astore_n n, 1)) (h : G k mi R F nc ns (pc + 1) (vs.set i (some (.ref x))) st M) : G k mi R F nc ns pc vs (.ref x :: st) M := by
  intro p e s m args below meth c H locs ls hF hS hR hX hl
  obtain ⟨hx, hb, hml, hown, hts, hret, hlk, hnm, hE⟩ := id hF
  exact lv_astore_n hx hb hd hi hl.1 (by rw [← hl.2]; exact hn) rfl (fun ls h2 => h p e s m args below meth c H locs ls hF hS hR hX (lvh_set1 hl.2 hp h2))
theorem g_lstore {x : Int64} {i : Nat} (hn : i + 1 < vs.length) (hp : okp vs i) (hd : decode (cd mi) pc = .ok (.lstore i, 2)) (h : G k mi R F nc ns (pc + 2) ((vs.set i (some (.long x))).set (i + 1) none) st M) : G k mi R F nc ns pc vs (.long x :: st) M := by
  intro p e s m args below meth c H locs ls hF hS hR hX hl
  obtain ⟨hx, hb, hml, hown, hts, hret, hlk, hnm, hE⟩ := id hF
  exact lv_lstore hx hb hd hl.1 (by rw [← hl.2]; exact hn) rfl (fun ls h2 => h p e s m args below meth c H locs ls hF hS hR hX (lvh_set2 hl.2 hp h2))
theorem g_lstore_n {x : Int64} {n : Fin 4} {i : Nat} (hi : (n : Nat) = i) (hn : i + 1 < vs.length) (hp : okp vs i) (hd : decode (cd mi) pc = .ok (.lstore_n n, 1)) (h : G k mi R F nc ns (pc + 1) ((vs.set i (some (.long x))).set (i + 1) none) st M) : G k mi R F nc ns pc vs (.long x :: st) M := by
  intro p e s m args below meth c H locs ls hF hS hR hX hl
  obtain ⟨hx, hb, hml, hown, hts, hret, hlk, hnm, hE⟩ := id hF
  exact lv_lstore_n hx hb hd hi hl.1 (by rw [← hl.2]; exact hn) rfl (fun ls h2 => h p e s m args below meth c H locs ls hF hS hR hX (lvh_set2 hl.2 hp h2))
theorem g_iinc {i : Nat} {n : Int} {x : Int32} (v : Int32) (hk : vs[i]? = some (some (.int x))) (hv : x + Int32.ofInt n = v) (hp : okp vs i) (hd : decode (cd mi) pc = .ok (.iinc i n, 3)) (h : G k mi R F nc ns (pc + 3) (vs.set i (some (.int v))) st M) : G k mi R F nc ns pc vs st M := by
  intro p e s m args below meth c H locs ls hF hS hR hX hl
  obtain ⟨hx, hb, hml, hown, hts, hret, hlk, hnm, hE⟩ := id hF
  obtain ⟨j, hj⟩ := List.getElem?_of_mem (tol_mem (i := 0).mpr ⟨i, hk, (Nat.zero_add i).symm⟩ : (i, Value.int x) ∈ tol 0 vs)
  exact lv_iinc hx hb hd hl.1 hj hv (by rw [← hl.2]; exact (List.getElem?_eq_some_iff.mp hk).1) rfl (fun ls h2 => h p e s m args below meth c H locs ls hF hS hR hX (lvh_set1 hl.2 hp h2))
theorem g_dup {v : Value} (hv : v.category = 1) (hd : decode (cd mi) pc = .ok (.dup, 1)) (h : G k mi R F nc ns (pc + 1) vs (v :: v :: st) M) : G k mi R F nc ns pc vs (v :: st) M := by
  intro p e s m args below meth c H locs ls hF hS hR hX hl
  obtain ⟨hx, hb, hml, hown, hts, hret, hlk, hnm, hE⟩ := id hF
  exact lv_dup hx hb hd hv (h p e s m args below meth c H locs ls hF hS hR hX hl)
theorem g_pop {v : Value} (hv : v.category = 1) (hd : decode (cd mi) pc = .ok (.pop, 1)) (h : G k mi R F nc ns (pc + 1) vs st M) : G k mi R F nc ns pc vs (v :: st) M := by
  intro p e s m args below meth c H locs ls hF hS hR hX hl
  obtain ⟨hx, hb, hml, hown, hts, hret, hlk, hnm, hE⟩ := id hF
  exact lv_pop hx hb hd hv (h p e s m args below meth c H locs ls hF hS hR hX hl)
theorem g_dup2 {v u : Value} (hv : v.category = 1) (hu : u.category = 1) (hd : decode (cd mi) pc = .ok (.dup2, 1)) (h : G k mi R F nc ns (pc + 1) vs (v :: u :: v :: u :: st) M) : G k mi R F nc ns pc vs (v :: u :: st) M := by
  intro p e s m args below meth c H locs ls hF hS hR hX hl
  obtain ⟨hx, hb, hml, hown, hts, hret, hlk, hnm, hE⟩ := id hF
  exact lv_dup2_11 hx hb hd hv hu (h p e s m args below meth c H locs ls hF hS hR hX hl)
theorem g_iadd {x y : Int32} (hd : decode (cd mi) pc = .ok (.iadd, 1)) (h : G k mi R F nc ns (pc + 1) vs (.int (x + y) :: st) M) : G k mi R F nc ns pc vs (.int y :: .int x :: st) M := by
  intro p e s m args below meth c H locs ls hF hS hR hX hl
  obtain ⟨hx, hb, hml, hown, hts, hret, hlk, hnm, hE⟩ := id hF
  exact lv_iadd hx hb hd (h p e s m args below meth c H locs ls hF hS hR hX hl)
theorem g_isub {x y : Int32} (hd : decode (cd mi) pc = .ok (.isub, 1)) (h : G k mi R F nc ns (pc + 1) vs (.int (x - y) :: st) M) : G k mi R F nc ns pc vs (.int y :: .int x :: st) M := by
  intro p e s m args below meth c H locs ls hF hS hR hX hl
  obtain ⟨hx, hb, hml, hown, hts, hret, hlk, hnm, hE⟩ := id hF
  exact lv_isub hx hb hd (h p e s m args below meth c H locs ls hF hS hR hX hl)
theorem g_imul {x y : Int32} (hd : decode (cd mi) pc = .ok (.imul, 1)) (h : G k mi R F nc ns (pc + 1) vs (.int (x * y) :: st) M) : G k mi R F nc ns pc vs (.int y :: .int x :: st) M := by
  intro p e s m args below meth c H locs ls hF hS hR hX hl
  obtain ⟨hx, hb, hml, hown, hts, hret, hlk, hnm, hE⟩ := id hF
  exact lv_imul hx hb hd (h p e s m args below meth c H locs ls hF hS hR hX hl)
theorem g_iand {x y : Int32} (hd : decode (cd mi) pc = .ok (.iand, 1)) (h : G k mi R F nc ns (pc + 1) vs (.int (x &&& y) :: st) M) : G k mi R F nc ns pc vs (.int y :: .int x :: st) M := by
  intro p e s m args below meth c H locs ls hF hS hR hX hl
  obtain ⟨hx, hb, hml, hown, hts, hret, hlk, hnm, hE⟩ := id hF
  exact lv_iand hx hb hd (h p e s m args below meth c H locs ls hF hS hR hX hl)
theorem g_ior {x y : Int32} (hd : decode (cd mi) pc = .ok (.ior, 1)) (h : G k mi R F nc ns (pc + 1) vs (.int (x ||| y) :: st) M) : G k mi R F nc ns pc vs (.int y :: .int x :: st) M := by
  intro p e s m args below meth c H locs ls hF hS hR hX hl
  obtain ⟨hx, hb, hml, hown, hts, hret, hlk, hnm, hE⟩ := id hF
  exact lv_ior hx hb hd (h p e s m args below meth c H locs ls hF hS hR hX hl)
theorem g_ishl {x y : Int32} (hd : decode (cd mi) pc = .ok (.ishl, 1)) (h : G k mi R F nc ns (pc + 1) vs (.int (x <<< (y &&& 31)) :: st) M) : G k mi R F nc ns pc vs (.int y :: .int x :: st) M := by
  intro p e s m args below meth c H locs ls hF hS hR hX hl
  obtain ⟨hx, hb, hml, hown, hts, hret, hlk, hnm, hE⟩ := id hF
  exact lv_ishl hx hb hd (h p e s m args below meth c H locs ls hF hS hR hX hl)
theorem g_ishr {x y : Int32} (hd : decode (cd mi) pc = .ok (.ishr, 1)) (h : G k mi R F nc ns (pc + 1) vs (.int (x >>> (y &&& 31)) :: st) M) : G k mi R F nc ns pc vs (.int y :: .int x :: st) M := by
  intro p e s m args below meth c H locs ls hF hS hR hX hl
  obtain ⟨hx, hb, hml, hown, hts, hret, hlk, hnm, hE⟩ := id hF
  exact lv_ishr hx hb hd (h p e s m args below meth c H locs ls hF hS hR hX hl)
theorem g_idiv {x y : Int32} (hne : ¬ y = 0) (hd : decode (cd mi) pc = .ok (.idiv, 1)) (h : G k mi R F nc ns (pc + 1) vs (.int (x / y) :: st) M) : G k mi R F nc ns pc vs (.int y :: .int x :: st) M := by
  intro p e s m args below meth c H locs ls hF hS hR hX hl
  obtain ⟨hx, hb, hml, hown, hts, hret, hlk, hnm, hE⟩ := id hF
  exact lv_idiv hx hb hd hne (h p e s m args below meth c H locs ls hF hS hR hX hl)
theorem g_irem {x y : Int32} (hne : ¬ y = 0) (hd : decode (cd mi) pc = .ok (.irem, 1)) (h : G k mi R F nc ns (pc + 1) vs (.int (x - x / y * y) :: st) M) : G k mi R F nc ns pc vs (.int y :: .int x :: st) M := by
  intro p e s m args below meth c H locs ls hF hS hR hX hl
  obtain ⟨hx, hb, hml, hown, hts, hret, hlk, hnm, hE⟩ := id hF
  exact lv_irem hx hb hd hne (h p e s m args below meth c H locs ls hF hS hR hX hl)
theorem g_iushr {x y : Int32} (hd : decode (cd mi) pc = .ok (.iushr, 1)) (h : G k mi R F nc ns (pc + 1) vs (.int (x.toUInt32 >>> (y.toUInt32 &&& Int32.toUInt32 31)).toInt32 :: st) M) : G k mi R F nc ns pc vs (.int y :: .int x :: st) M := by
  intro p e s m args below meth c H locs ls hF hS hR hX hl
  obtain ⟨hx, hb, hml, hown, hts, hret, hlk, hnm, hE⟩ := id hF
  exact lv_iushr hx hb hd rfl (h p e s m args below meth c H locs ls hF hS hR hX hl)
theorem g_ineg {x : Int32} (hd : decode (cd mi) pc = .ok (.ineg, 1)) (h : G k mi R F nc ns (pc + 1) vs (.int (-x) :: st) M) : G k mi R F nc ns pc vs (.int x :: st) M := by
  intro p e s m args below meth c H locs ls hF hS hR hX hl
  obtain ⟨hx, hb, hml, hown, hts, hret, hlk, hnm, hE⟩ := id hF
  exact lv_ineg hx hb hd (h p e s m args below meth c H locs ls hF hS hR hX hl)
theorem g_i2l {x : Int32} (hd : decode (cd mi) pc = .ok (.i2l, 1)) (h : G k mi R F nc ns (pc + 1) vs (.long x.toInt64 :: st) M) : G k mi R F nc ns pc vs (.int x :: st) M := by
  intro p e s m args below meth c H locs ls hF hS hR hX hl
  obtain ⟨hx, hb, hml, hown, hts, hret, hlk, hnm, hE⟩ := id hF
  exact lv_i2l hx hb hd rfl (h p e s m args below meth c H locs ls hF hS hR hX hl)
theorem g_i2b {x : Int32} (hd : decode (cd mi) pc = .ok (.i2b, 1)) (h : G k mi R F nc ns (pc + 1) vs (.int x.toInt8.toInt32 :: st) M) : G k mi R F nc ns pc vs (.int x :: st) M := by
  intro p e s m args below meth c H locs ls hF hS hR hX hl
  obtain ⟨hx, hb, hml, hown, hts, hret, hlk, hnm, hE⟩ := id hF
  exact lv_i2b hx hb hd rfl (h p e s m args below meth c H locs ls hF hS hR hX hl)
theorem g_i2c {x : Int32} (hd : decode (cd mi) pc = .ok (.i2c, 1)) (h : G k mi R F nc ns (pc + 1) vs (.int (x.toUInt32 % 65536).toInt32 :: st) M) : G k mi R F nc ns pc vs (.int x :: st) M := by
  intro p e s m args below meth c H locs ls hF hS hR hX hl
  obtain ⟨hx, hb, hml, hown, hts, hret, hlk, hnm, hE⟩ := id hF
  exact lv_i2c hx hb hd rfl (h p e s m args below meth c H locs ls hF hS hR hX hl)
theorem g_ladd {x y : Int64} (hd : decode (cd mi) pc = .ok (.ladd, 1)) (h : G k mi R F nc ns (pc + 1) vs (.long (x + y) :: st) M) : G k mi R F nc ns pc vs (.long y :: .long x :: st) M := by
  intro p e s m args below meth c H locs ls hF hS hR hX hl
  obtain ⟨hx, hb, hml, hown, hts, hret, hlk, hnm, hE⟩ := id hF
  exact lv_ladd hx hb hd (h p e s m args below meth c H locs ls hF hS hR hX hl)
theorem g_lmul {x y : Int64} (hd : decode (cd mi) pc = .ok (.lmul, 1)) (h : G k mi R F nc ns (pc + 1) vs (.long (x * y) :: st) M) : G k mi R F nc ns pc vs (.long y :: .long x :: st) M := by
  intro p e s m args below meth c H locs ls hF hS hR hX hl
  obtain ⟨hx, hb, hml, hown, hts, hret, hlk, hnm, hE⟩ := id hF
  exact lv_lmul hx hb hd (h p e s m args below meth c H locs ls hF hS hR hX hl)
theorem g_ldiv {x y : Int64} (hne : ¬ y = 0) (hd : decode (cd mi) pc = .ok (.ldiv, 1)) (h : G k mi R F nc ns (pc + 1) vs (.long (x / y) :: st) M) : G k mi R F nc ns pc vs (.long y :: .long x :: st) M := by
  intro p e s m args below meth c H locs ls hF hS hR hX hl
  obtain ⟨hx, hb, hml, hown, hts, hret, hlk, hnm, hE⟩ := id hF
  exact lv_ldiv hx hb hd hne (h p e s m args below meth c H locs ls hF hS hR hX hl)
theorem g_lrem {x y : Int64} (hne : ¬ y = 0) (hd : decode (cd mi) pc = .ok (.lrem, 1)) (h : G k mi R F nc ns (pc + 1) vs (.long (x - x / y * y) :: st) M) : G k mi R F nc ns pc vs (.long y :: .long x :: st) M := by
  intro p e s m args below meth c H locs ls hF hS hR hX hl
  obtain ⟨hx, hb, hml, hown, hts, hret, hlk, hnm, hE⟩ := id hF
  exact lv_lrem hx hb hd hne (h p e s m args below meth c H locs ls hF hS hR hX hl)
theorem g_lcmp {x y : Int64} (hd : decode (cd mi) pc = .ok (.lcmp, 1)) (h : G k mi R F nc ns (pc + 1) vs (.int (lg_cmp x y) :: st) M) : G k mi R F nc ns pc vs (.long y :: .long x :: st) M := by
  intro p e s m args below meth c H locs ls hF hS hR hX hl
  obtain ⟨hx, hb, hml, hown, hts, hret, hlk, hnm, hE⟩ := id hF
  exact W.lcmp hx hb hd (h p e s m args below meth c H locs ls hF hS hR hX hl)
theorem g_goto {off : Int} (tgt : Nat) (hd : decode (cd mi) pc = .ok (.goto off, 3)) (ht : (pc : Int) + off = (tgt : Int)) (h : G k mi R F nc ns tgt vs st M) : G k mi R F nc ns pc vs st M := by
  intro p e s m args below meth c H locs ls hF hS hR hX hl
  obtain ⟨hx, hb, hml, hown, hts, hret, hlk, hnm, hE⟩ := id hF
  exact lv_goto hx hb hd ht (h p e s m args below meth c H locs ls hF hS hR hX hl)
theorem g_icmp_eq {x y : Int32} {off : Int} (tgt : Nat) (hd : decode (cd mi) pc = .ok (.if_icmp .eq off, 3)) (ht : (pc : Int) + off = (tgt : Int)) (ht2 : x = y → G k mi R F nc ns tgt vs st M) (hf2 : ¬ x = y → G k mi R F nc ns (pc + 3) vs st M) : G k mi R F nc ns pc vs (.int y :: .int x :: st) M := by
  intro p e s m args below meth c H locs ls hF hS hR hX hl
  obtain ⟨hx, hb, hml, hown, hts, hret, hlk, hnm, hE⟩ := id hF
  exact lv_icmp_eq hx hb hd ht (fun q => ht2 q p e s m args below meth c H locs ls hF hS hR hX hl) (fun q => hf2 q p e s m args below meth c H locs ls hF hS hR hX hl)
theorem g_if_eq {x : Int32} {off : Int} (tgt : Nat) (hd : decode (cd mi) pc = .ok (.ifCond .eq off, 3)) (ht : (pc : Int) + off = (tgt : Int)) (ht2 : x = 0 → G k mi R F nc ns tgt vs st M) (hf2 : ¬ x = 0 → G k mi R F nc ns (pc + 3) vs st M) : G k mi R F nc ns pc vs (.int x :: st) M := by
  intro p e s m args below meth c H locs ls hF hS hR hX hl
  obtain ⟨hx, hb, hml, hown, hts, hret, hlk, hnm, hE⟩ := id hF
  exact lv_if_eq hx hb hd ht (fun q => ht2 q p e s m args below meth c H locs ls hF hS hR hX hl) (fun q => hf2 q p e s m args below meth c H locs ls hF hS hR hX hl)
theorem g_icmp_ne {x y : Int32} {off : Int} (tgt : Nat) (hd : decode (cd mi) pc = .ok (.if_icmp .ne off, 3)) (ht : (pc : Int) + off = (tgt : Int)) (ht2 : ¬ x = y → G k mi R F nc ns tgt vs st M) (hf2 : x = y → G k mi R F nc ns (pc + 3) vs st M) : G k mi R F nc ns pc vs (.int y :: .int x :: st) M := by
  intro p e s m args below meth c H locs ls hF hS hR hX hl
  obtain ⟨hx, hb, hml, hown, hts, hret, hlk, hnm, hE⟩ := id hF
  exact lv_icmp_ne hx hb hd ht (fun q => ht2 q p e s m args below meth c H locs ls hF hS hR hX hl) (fun q => hf2 q p e s m args below meth c H locs ls hF hS hR hX hl)
theorem g_if_ne {x : Int32} {off : Int} (tgt : Nat) (hd : decode (cd mi) pc = .ok (.ifCond .ne off, 3)) (ht : (pc : Int) + off = (tgt : Int)) (ht2 : ¬ x = 0 → G k mi R F nc ns tgt vs st M) (hf2 : x = 0 → G k mi R F nc ns (pc + 3) vs st M) : G k mi R F nc ns pc vs (.int x :: st) M := by
  intro p e s m args below meth c H locs ls hF hS hR hX hl
  obtain ⟨hx, hb, hml, hown, hts, hret, hlk, hnm, hE⟩ := id hF
  exact lv_if_ne hx hb hd ht (fun q => ht2 q p e s m args below meth c H locs ls hF hS hR hX hl) (fun q => hf2 q p e s m args below meth c H locs ls hF hS hR hX hl)
theorem g_icmp_lt {x y : Int32} {off : Int} (tgt : Nat) (hd : decode (cd mi) pc = .ok (.if_icmp .lt off, 3)) (ht : (pc : Int) + off = (tgt : Int)) (ht2 : x < y → G k mi R F nc ns tgt vs st M) (hf2 : ¬ x < y → G k mi R F nc ns (pc + 3) vs st M) : G k mi R F nc ns pc vs (.int y :: .int x :: st) M := by
  intro p e s m args below meth c H locs ls hF hS hR hX hl
  obtain ⟨hx, hb, hml, hown, hts, hret, hlk, hnm, hE⟩ := id hF
  exact lv_icmp_lt hx hb hd ht (fun q => ht2 q p e s m args below meth c H locs ls hF hS hR hX hl) (fun q => hf2 q p e s m args below meth c H locs ls hF hS hR hX hl)
theorem g_if_lt {x : Int32} {off : Int} (tgt : Nat) (hd : decode (cd mi) pc = .ok (.ifCond .lt off, 3)) (ht : (pc : Int) + off = (tgt : Int)) (ht2 : x < 0 → G k mi R F nc ns tgt vs st M) (hf2 : ¬ x < 0 → G k mi R F nc ns (pc + 3) vs st M) : G k mi R F nc ns pc vs (.int x :: st) M := by
  intro p e s m args below meth c H locs ls hF hS hR hX hl
  obtain ⟨hx, hb, hml, hown, hts, hret, hlk, hnm, hE⟩ := id hF
  exact lv_if_lt hx hb hd ht (fun q => ht2 q p e s m args below meth c H locs ls hF hS hR hX hl) (fun q => hf2 q p e s m args below meth c H locs ls hF hS hR hX hl)
theorem g_icmp_ge {x y : Int32} {off : Int} (tgt : Nat) (hd : decode (cd mi) pc = .ok (.if_icmp .ge off, 3)) (ht : (pc : Int) + off = (tgt : Int)) (ht2 : y ≤ x → G k mi R F nc ns tgt vs st M) (hf2 : ¬ y ≤ x → G k mi R F nc ns (pc + 3) vs st M) : G k mi R F nc ns pc vs (.int y :: .int x :: st) M := by
  intro p e s m args below meth c H locs ls hF hS hR hX hl
  obtain ⟨hx, hb, hml, hown, hts, hret, hlk, hnm, hE⟩ := id hF
  exact lv_icmp_ge hx hb hd ht (fun q => ht2 q p e s m args below meth c H locs ls hF hS hR hX hl) (fun q => hf2 q p e s m args below meth c H locs ls hF hS hR hX hl)
theorem g_if_ge {x : Int32} {off : Int} (tgt : Nat) (hd : decode (cd mi) pc = .ok (.ifCond .ge off, 3)) (ht : (pc : Int) + off = (tgt : Int)) (ht2 : 0 ≤ x → G k mi R F nc ns tgt vs st M) (hf2 : ¬ 0 ≤ x → G k mi R F nc ns (pc + 3) vs st M) : G k mi R F nc ns pc vs (.int x :: st) M := by
  intro p e s m args below meth c H locs ls hF hS hR hX hl
  obtain ⟨hx, hb, hml, hown, hts, hret, hlk, hnm, hE⟩ := id hF
  exact lv_if_ge hx hb hd ht (fun q => ht2 q p e s m args below meth c H locs ls hF hS hR hX hl) (fun q => hf2 q p e s m args below meth c H locs ls hF hS hR hX hl)
theorem g_icmp_gt {x y : Int32} {off : Int} (tgt : Nat) (hd : decode (cd mi) pc = .ok (.if_icmp .gt off, 3)) (ht : (pc : Int) + off = (tgt : Int)) (ht2 : y < x → G k mi R F nc ns tgt vs st M) (hf2 : ¬ y < x → G k mi R F nc ns (pc + 3) vs st M) : G k mi R F nc ns pc vs (.int y :: .int x :: st) M := by
  intro p e s m args below meth c H locs ls hF hS hR hX hl
  obtain ⟨hx, hb, hml, hown, hts, hret, hlk, hnm, hE⟩ := id hF
  exact lv_icmp_gt hx hb hd ht (fun q => ht2 q p e s m args below meth c H locs ls hF hS hR hX hl) (fun q => hf2 q p e s m args below meth c H locs ls hF hS hR hX hl)
theorem g_if_gt {x : Int32} {off : Int} (tgt : Nat) (hd : decode (cd mi) pc = .ok (.ifCond .gt off, 3)) (ht : (pc : Int) + off = (tgt : Int)) (ht2 : 0 < x → G k mi R F nc ns tgt vs st M) (hf2 : ¬ 0 < x → G k mi R F nc ns (pc + 3) vs st M) : G k mi R F nc ns pc vs (.int x :: st) M := by
  intro p e s m args below meth c H locs ls hF hS hR hX hl
  obtain ⟨hx, hb, hml, hown, hts, hret, hlk, hnm, hE⟩ := id hF
  exact lv_if_gt hx hb hd ht (fun q => ht2 q p e s m args below meth c H locs ls hF hS hR hX hl) (fun q => hf2 q p e s m args below meth c H locs ls hF hS hR hX hl)
theorem g_icmp_le {x y : Int32} {off : Int} (tgt : Nat) (hd : decode (cd mi) pc = .ok (.if_icmp .le off, 3)) (ht : (pc : Int) + off = (tgt : Int)) (ht2 : x ≤ y → G k mi R F nc ns tgt vs st M) (hf2 : ¬ x ≤ y → G k mi R F nc ns (pc + 3) vs st M) : G k mi R F nc ns pc vs (.int y :: .int x :: st) M := by
  intro p e s m args below meth c H locs ls hF hS hR hX hl
  obtain ⟨hx, hb, hml, hown, hts, hret, hlk, hnm, hE⟩ := id hF
  exact lv_icmp_le hx hb hd ht (fun q => ht2 q p e s m args below meth c H locs ls hF hS hR hX hl) (fun q => hf2 q p e s m args below meth c H locs ls hF hS hR hX hl)
theorem g_if_le {x : Int32} {off : Int} (tgt : Nat) (hd : decode (cd mi) pc = .ok (.ifCond .le off, 3)) (ht : (pc : Int) + off = (tgt : Int)) (ht2 : x ≤ 0 → G k mi R F nc ns tgt vs st M) (hf2 : ¬ x ≤ 0 → G k mi R F nc ns (pc + 3) vs st M) : G k mi R F nc ns pc vs (.int x :: st) M := by
  intro p e s m args below meth c H locs ls hF hS hR hX hl
  obtain ⟨hx, hb, hml, hown, hts, hret, hlk, hnm, hE⟩ := id hF
  exact lv_if_le hx hb hd ht (fun q => ht2 q p e s m args below meth c H locs ls hF hS hR hX hl) (fun q => hf2 q p e s m args below meth c H locs ls hF hS hR hX hl)
theorem g_tableOut {dflt lo hi : Int} {offs : Array Int} {len : Nat} {x : Int32} (tgt : Nat) (hd : decode (cd mi) pc = .ok (.tableswitch dflt lo hi offs, len)) (hx0 : x.toInt < lo ∨ hi < x.toInt) (ht : (pc : Int) + dflt = (tgt : Int)) (h : G k mi R F nc ns tgt vs st M) : G k mi R F nc ns pc vs (.int x :: st) M := by
  intro p e s m args below meth c H locs ls hF hS hR hX hl
  obtain ⟨hx, hb, hml, hown, hts, hret, hlk, hnm, hE⟩ := id hF
  exact lv_tableOut hx hb hd hx0 ht (h p e s m args below meth c H locs ls hF hS hR hX hl)
theorem g_tableIn {dflt lo hi : Int} {offs : Array Int} {len : Nat} {x : Int32} {off : Int} (tgt : Nat) (hd : decode (cd mi) pc = .ok (.tableswitch dflt lo hi offs, len)) (h1 : ¬ x.toInt < lo) (h2 : ¬ hi < x.toInt) (ho : offs[(x.toInt - lo).toNat]? = some off) (ht : (pc : Int) + off = (tgt : Int)) (h : G k mi R F nc ns tgt vs st M) : G k mi R F nc ns pc vs (.int x :: st) M := by
  intro p e s m args below meth c H locs ls hF hS hR hX hl
  obtain ⟨hx, hb, hml, hown, hts, hret, hlk, hnm, hE⟩ := id hF
  exact lv_tableIn hx hb hd h1 h2 ho ht (h p e s m args below meth c H locs ls hF hS hR hX hl)
theorem sv_at (k : KT) (M : MM) {a j n : Nat} (h : j < n) : ((List.range n).map (sv k M a))[j]? = some (sv k M a j) := by simp [h]
theorem g_getI {N : Nat} {ex : Bool} {I : Nat → Nat → Int32} {J : Nat → Nat → Int64} {P : Nat → Nat → Option Nat} {a : Nat} {idx ci j : Nat} {fin : Bool} {ty : FieldType} (hf : FL mi.1.cls idx ci j fin ty) (hd : decode (cd mi) pc = .ok (.getfield idx, 3)) (ha : kd a = ci) (hN : sg a < N) (ht : ft ci j = 0) (h : G k mi R F nc ns (pc + 3) vs (.int (I a j) :: st) (N, ex, I, J, P)) : G k mi R F nc ns pc vs (.ref (ka k a) :: st) (N, ex, I, J, P) := by
  intro p e s m args below meth c H locs ls hF hS hR hX hl
  obtain ⟨hx, hb, hml, hown, hts, hret, hlk, hnm, hE⟩ := id hF
  obtain ⟨C, T, n, ty0, hc, hj, hin, hlk2, hty, hnm2, hfin, hC, hpd⟩ := hf
  have he : (wl k (N, ex, I, J, P))[sg a]? = some (ka k a, .inr (ci, (List.range n).map (sv k (N, ex, I, J, P) a))) := by
    rw [wl_at k (N, ex, I, J, P) hN, enc_obj k (N, ex, I, J, P) ha (cl_le hc), sz_obj ha hc]
  have hv : ((List.range n).map (sv k (N, ex, I, J, P) a))[j]? = some (.int (I a j)) := by
    rw [sv_at k _ hj]
    simp [sv, ha, ht]
  exact va_get hx hb hts hin hown hE.1 hR.1 (sg a) he hc j hj (hts _ hlk2) (fun x hx => hx) hv hd (h p e s m args below meth c H locs ls hF hS hR hX hl)
theorem g_getJ {N : Nat} {ex : Bool} {I : Nat → Nat → Int32} {J : Nat → Nat → Int64} {P : Nat → Nat → Option Nat} {a : Nat} {idx ci j : Nat} {fin : Bool} {ty : FieldType} (hf : FL mi.1.cls idx ci j fin ty) (hd : decode (cd mi) pc = .ok (.getfield idx, 3)) (ha : kd a = ci) (hN : sg a < N) (ht : ft ci j = 1) (h : G k mi R F nc ns (pc + 3) vs (.long (J a j) :: st) (N, ex, I, J, P)) : G k mi R F nc ns pc vs (.ref (ka k a) :: st) (N, ex, I, J, P) := by
  intro p e s m args below meth c H locs ls hF hS hR hX hl
  obtain ⟨hx, hb, hml, hown, hts, hret, hlk, hnm, hE⟩ := id hF
  obtain ⟨C, T, n, ty0, hc, hj, hin, hlk2, hty, hnm2, hfin, hC, hpd⟩ := hf
  have he : (wl k (N, ex, I, J, P))[sg a]? = some (ka k a, .inr (ci, (List.range n).map (sv k (N, ex, I, J, P) a))) := by
    rw [wl_at k (N, ex, I, J, P) hN, enc_obj k (N, ex, I, J, P) ha (cl_le hc), sz_obj ha hc]
  have hv : ((List.range n).map (sv k (N, ex, I, J, P) a))[j]? = some (.long (J a j)) := by
    rw [sv_at k _ hj]
    simp [sv, ha, ht]
  exact va_get hx hb hts hin hown hE.1 hR.1 (sg a) he hc j hj (hts _ hlk2) (fun x hx => hx) hv hd (h p e s m args below meth c H locs ls hF hS hR hX hl)
theorem g_getP {N : Nat} {ex : Bool} {I : Nat → Nat → Int32} {J : Nat → Nat → Int64} {P : Nat → Nat → Option Nat} {a : Nat} {idx ci j b : Nat} {fin : Bool} {ty : FieldType} (hf : FL mi.1.cls idx ci j fin ty) (hd : decode (cd mi) pc = .ok (.getfield idx, 3)) (ha : kd a = ci) (hN : sg a < N) (ht : ft ci j = 2) (hp : P a j = some b) (h : G k mi R F nc ns (pc + 3) vs (.ref (ka k b) :: st) (N, ex, I, J, P)) : G k mi R F nc ns pc vs (.ref (ka k a) :: st) (N, ex, I, J, P) := by
  intro p e s m args below meth c H locs ls hF hS hR hX hl
  obtain ⟨hx, hb, hml, hown, hts, hret, hlk, hnm, hE⟩ := id hF
  obtain ⟨C, T, n, ty0, hc, hj, hin, hlk2, hty, hnm2, hfin, hC, hpd⟩ := hf
  have he : (wl k (N, ex, I, J, P))[sg a]? = some (ka k a, .inr (ci, (List.range n).map (sv k (N, ex, I, J, P) a))) := by
    rw [wl_at k (N, ex, I, J, P) hN, enc_obj k (N, ex, I, J, P) ha (cl_le hc), sz_obj ha hc]
  have hv : ((List.range n).map (sv k (N, ex, I, J, P) a))[j]? = some (.ref (ka k b)) := by
    rw [sv_at k _ hj]
    simp [sv, ha, ht, hp, va_rf]
  exact va_get hx hb hts hin hown hE.1 hR.1 (sg a) he hc j hj (hts _ hlk2) (fun x hx => hx) hv hd (h p e s m args below meth c H locs ls hF hS hR hX hl)
theorem sv_set (k : KT) {M M' : MM} {a j n : Nat} {v : Value} (hj : sv k M' a j = v) (ho : ∀ i, i ≠ j → sv k M' a i = sv k M a i) : ((List.range n).map (sv k M a)).set j v = (List.range n).map (sv k M' a) := by
  apply List.ext_getElem?
  intro i
  by_cases hi : i < n
  · by_cases h : j = i
    · subst h
      rw [List.getElem?_set_self (by simp; exact hi), sv_at k M' hi, hj]
    · rw [List.getElem?_set_ne h, sv_at k M hi, sv_at k M' hi, ho i (Ne.symm h)]
  · rw [List.getElem?_eq_none (by simp; omega), List.getElem?_eq_none (by simp; omega)]
theorem va_up_s {α : Type} (f : Nat → α) (a : Nat) (v : α) : va_up f a v a = v := by simp [va_up]
theorem va_up_o {α : Type} (f : Nat → α) {a b : Nat} (v : α) (h : b ≠ a) : va_up f a v b = f b := by simp [va_up, h]
theorem Rel.put {k : KT} {M M' : MM} {H1 : Heap} {a : Nat} {e : va_E} (hN : M'.1 = M.1) (ha : sg a < M.1) (he : enc k M' a = e) (ho : ∀ b, b ≠ a → enc k M' b = enc k M b) (hP : va_P (kD k) classes ((wl k M).set (sg a) (ka k a, e)) H1) : Rel k M' H1 := by
  rw [wl_set k hN ha he ho] at hP
  refine ⟨hP, ?_⟩
  have h0 := (hP (M'.1 - 1) _ (wl_p k M' (p := M'.1 - 1) (by omega))).lt
  dsimp only at h0
  omega
/-- stores that leave the int (0, 1) alone -/
theorem p01 {I : Nat → Nat → Int32} {a j : Nat} {x : Int32} (h : ft (kd a) j = 0) : a = 0 → va_up (I a) j x 1 = I 0 1 := by
  intro z
  subst z
  exact va_up_o _ _ (fun q => by subst q; exact absurd h (by decide))
theorem st01 {I : Nat → Nat → Int32} {a j : Nat} {x : Int32} (h : ft (kd a) j = 0) : st2 I a j x 0 1 = I 0 1 := by
  unfold st2
  by_cases z : 0 = a
  · subst z
    rw [va_up_s]
    exact p01 h rfl
  · rw [va_up_o _ _ z]
theorem enc_st2 (k : KT) {N : Nat} {ex : Bool} {I : Nat → Nat → Int32} {J : Nat → Nat → Int64} {P : Nat → Nat → Option Nat} {a b : Nat} {f : Nat → Int32} (h0 : a = 0 → f 1 = I 0 1) (h : b ≠ a) : enc k (N, ex, va_up I a f, J, P) b = enc k (N, ex, I, J, P) b :=
  enc_other k (fun j _ => by show va_up I a f b j = _; rw [va_up_o _ _ h]) (fun _ => by
    show va_up I a f 0 1 = I 0 1
    by_cases z : 0 = a
    · subst z; rw [va_up_s, h0 rfl]
    · rw [va_up_o _ _ z]) (fun _ => rfl) (fun _ => rfl)
theorem enc_stJ (k : KT) {N : Nat} {ex : Bool} {I : Nat → Nat → Int32} {J : Nat → Nat → Int64} {P : Nat → Nat → Option Nat} {a b : Nat} {f : Nat → Int64} (h : b ≠ a) : enc k (N, ex, I, va_up J a f, P) b = enc k (N, ex, I, J, P) b :=
  enc_other k (fun _ _ => rfl) (fun _ => rfl) (fun j => by show va_up J a f b j = _; rw [va_up_o _ _ h]) (fun _ => rfl)
theorem enc_stP (k : KT) {N : Nat} {ex : Bool} {I : Nat → Nat → Int32} {J : Nat → Nat → Int64} {P : Nat → Nat → Option Nat} {a b : Nat} {f : Nat → Option Nat} (h : b ≠ a) : enc k (N, ex, I, J, va_up P a f) b = enc k (N, ex, I, J, P) b :=
  enc_other k (fun _ _ => rfl) (fun _ => rfl) (fun _ => rfl) (fun j => by show va_up P a f b j = _; rw [va_up_o _ _ h])
theorem g_putI {N : Nat} {ex : Bool} {I : Nat → Nat → Int32} {J : Nat → Nat → Int64} {P : Nat → Nat → Option Nat} {a : Nat} {idx ci j : Nat} {ty : FieldType} {x : Int32} (hf : FL mi.1.cls idx ci j false ty) (hd : decode (cd mi) pc = .ok (.putfield idx, 3)) (ha : kd a = ci) (hN : sg a < N) (ht : ft ci j = 0) (hn : narrow ty (.int x) = .int x) (hfit : fits ty (.int x) = true) (h : G k mi R F nc ns (pc + 3) vs st (N, ex, st2 I a j x, J, P)) : G k mi R F nc ns pc vs (.int x :: .ref (ka k a) :: st) (N, ex, I, J, P) := by
  intro p e s m args below meth c H locs ls hF hS hR hX hl
  obtain ⟨hx, hb, hml, hown, hts, hret, hlk, hnm, hE⟩ := id hF
  obtain ⟨C, T, n, ty0, hc, hj, hin, hlk2, hty, hnm2, hfin, hC, hpd⟩ := hf
  have he : (wl k (N, ex, I, J, P))[sg a]? = some (ka k a, .inr (ci, (List.range n).map (sv k (N, ex, I, J, P) a))) := by
    rw [wl_at k (N, ex, I, J, P) hN, enc_obj k (N, ex, I, J, P) ha (cl_le hc), sz_obj ha hc]
  have e2 : ((List.range n).map (sv k (N, ex, I, J, P) a)).set j (.int x) = (List.range n).map (sv k (N, ex, st2 I a j x, J, P) a) := by
    refine sv_set k ?_ (fun i hi => ?_)
    · simp [sv, ha, ht, st2, va_up_s]
    · have e01 := st01 (I := I) (x := x) (show ft (kd a) j = 0 by rw [ha]; exact ht)
      simp only [sv, e01]
      simp [st2, va_up_s, va_up_o _ _ hi]
  refine va_put hx hb hts hin ty0 hty hnm2 hown hE.1 hR.1 (wl_D k _) hS (sg a) he hc j hj (hts _ hlk2) (fun x hx => hx) hfin hpd hn hfit (by simp; exact hj) hd (fun H1 locs1 hP1 hD1 hS1 => ?_)
  rw [e2] at hP1
  exact h p e s m args below meth c H1 locs1 ls hF hS1 (Rel.put (M := (N, ex, I, J, P)) (M' := (N, ex, st2 I a j x, J, P)) rfl hN (by rw [enc_obj k _ ha (cl_le hc), sz_obj ha hc]) (fun b hb => enc_st2 k (p01 (by rw [ha]; exact ht)) hb) hP1) hX hl
theorem g_putJ {N : Nat} {ex : Bool} {I : Nat → Nat → Int32} {J : Nat → Nat → Int64} {P : Nat → Nat → Option Nat} {a : Nat} {idx ci j : Nat} {ty : FieldType} {x : Int64} (hf : FL mi.1.cls idx ci j false ty) (hd : decode (cd mi) pc = .ok (.putfield idx, 3)) (ha : kd a = ci) (hN : sg a < N) (ht : ft ci j = 1) (hn : narrow ty (.long x) = .long x) (hfit : fits ty (.long x) = true) (h : G k mi R F nc ns (pc + 3) vs st (N, ex, I, stJ J a j x, P)) : G k mi R F nc ns pc vs (.long x :: .ref (ka k a) :: st) (N, ex, I, J, P) := by
  intro p e s m args below meth c H locs ls hF hS hR hX hl
  obtain ⟨hx, hb, hml, hown, hts, hret, hlk, hnm, hE⟩ := id hF
  obtain ⟨C, T, n, ty0, hc, hj, hin, hlk2, hty, hnm2, hfin, hC, hpd⟩ := hf
  have he : (wl k (N, ex, I, J, P))[sg a]? = some (ka k a, .inr (ci, (List.range n).map (sv k (N, ex, I, J, P) a))) := by
    rw [wl_at k (N, ex, I, J, P) hN, enc_obj k (N, ex, I, J, P) ha (cl_le hc), sz_obj ha hc]
  have e2 : ((List.range n).map (sv k (N, ex, I, J, P) a)).set j (.long x) = (List.range n).map (sv k (N, ex, I, stJ J a j x, P) a) := by
    refine sv_set k ?_ (fun i hi => ?_)
    · simp [sv, ha, ht, stJ, va_up_s]
    · simp [sv, stJ, va_up_s, va_up_o _ _ hi]
  refine va_put hx hb hts hin ty0 hty hnm2 hown hE.1 hR.1 (wl_D k _) hS (sg a) he hc j hj (hts _ hlk2) (fun x hx => hx) hfin hpd hn hfit (by simp; exact hj) hd (fun H1 locs1 hP1 hD1 hS1 => ?_)
  rw [e2] at hP1
  exact h p e s m args below meth c H1 locs1 ls hF hS1 (Rel.put (M := (N, ex, I, J, P)) (M' := (N, ex, I, stJ J a j x, P)) rfl hN (by rw [enc_obj k _ ha (cl_le hc), sz_obj ha hc]) (fun b hb => enc_stJ k hb) hP1) hX hl
theorem g_putP {N : Nat} {ex : Bool} {I : Nat → Nat → Int32} {J : Nat → Nat → Int64} {P : Nat → Nat → Option Nat} {a : Nat} {idx ci j : Nat} {ty : FieldType} {b : Nat} (hf : FL mi.1.cls idx ci j false ty) (hd : decode (cd mi) pc = .ok (.putfield idx, 3)) (ha : kd a = ci) (hN : sg a < N) (ht : ft ci j = 2) (hn : narrow ty (.ref (ka k b)) = .ref (ka k b)) (hfit : fits ty (.ref (ka k b)) = true) (h : G k mi R F nc ns (pc + 3) vs st (N, ex, I, J, stP P a j (some b))) : G k mi R F nc ns pc vs (.ref (ka k b) :: .ref (ka k a) :: st) (N, ex, I, J, P) := by
  intro p e s m args below meth c H locs ls hF hS hR hX hl
  obtain ⟨hx, hb, hml, hown, hts, hret, hlk, hnm, hE⟩ := id hF
  obtain ⟨C, T, n, ty0, hc, hj, hin, hlk2, hty, hnm2, hfin, hC, hpd⟩ := hf
  have he : (wl k (N, ex, I, J, P))[sg a]? = some (ka k a, .inr (ci, (List.range n).map (sv k (N, ex, I, J, P) a))) := by
    rw [wl_at k (N, ex, I, J, P) hN, enc_obj k (N, ex, I, J, P) ha (cl_le hc), sz_obj ha hc]
  have e2 : ((List.range n).map (sv k (N, ex, I, J, P) a)).set j (.ref (ka k b)) = (List.range n).map (sv k (N, ex, I, J, stP P a j (some b)) a) := by
    refine sv_set k ?_ (fun i hi => ?_)
    · simp [sv, ha, ht, stP, va_rf, va_up_s]
    · simp [sv, stP, va_up_s, va_up_o _ _ hi]
  refine va_put hx hb hts hin ty0 hty hnm2 hown hE.1 hR.1 (wl_D k _) hS (sg a) he hc j hj (hts _ hlk2) (fun x hx => hx) hfin hpd hn hfit (by simp; exact hj) hd (fun H1 locs1 hP1 hD1 hS1 => ?_)
  rw [e2] at hP1
  exact h p e s m args below meth c H1 locs1 ls hF hS1 (Rel.put (M := (N, ex, I, J, P)) (M' := (N, ex, I, J, stP P a j (some b))) rfl hN (by rw [enc_obj k _ ha (cl_le hc), sz_obj ha hc]) (fun b hb => enc_stP k hb) hP1) hX hl
theorem g_putIF {N : Nat} {ex : Bool} {I : Nat → Nat → Int32} {J : Nat → Nat → Int64} {P : Nat → Nat → Option Nat} {a : Nat} {idx ci j : Nat} {ty : FieldType} {x : Int32} (hf : FL mi.1.cls idx ci j true ty) (hin2 : mi.1.name = "<init>") (hoc : ∀ q : vw_C, classes[ci]? = some q → q.1 = mi.1.cls) (hd : decode (cd mi) pc = .ok (.putfield idx, 3)) (ha : kd a = ci) (hN : sg a < N) (ht : ft ci j = 0) (hn : narrow ty (.int x) = .int x) (hfit : fits ty (.int x) = true) (h : G k mi R F nc ns (pc + 3) vs st (N, ex, st2 I a j x, J, P)) : G k mi R F nc ns pc vs (.int x :: .ref (ka k a) :: st) (N, ex, I, J, P) := by
  intro p e s m args below meth c H locs ls hF hS hR hX hl
  obtain ⟨hx, hb, hml, hown, hts, hret, hlk, hnm, hE⟩ := id hF
  obtain ⟨C, T, n, ty0, hc, hj, hin, hlk2, hty, hnm2, hfin, hC, hpd⟩ := hf
  have he : (wl k (N, ex, I, J, P))[sg a]? = some (ka k a, .inr (ci, (List.range n).map (sv k (N, ex, I, J, P) a))) := by
    rw [wl_at k (N, ex, I, J, P) hN, enc_obj k (N, ex, I, J, P) ha (cl_le hc), sz_obj ha hc]
  have e2 : ((List.range n).map (sv k (N, ex, I, J, P) a)).set j (.int x) = (List.range n).map (sv k (N, ex, st2 I a j x, J, P) a) := by
    refine sv_set k ?_ (fun i hi => ?_)
    · simp [sv, ha, ht, st2, va_up_s]
    · have e01 := st01 (I := I) (x := x) (show ft (kd a) j = 0 by rw [ha]; exact ht)
      simp only [sv, e01]
      simp [st2, va_up_s, va_up_o _ _ hi]
  refine va_putF hx hb hts hin ty0 hty hnm2 hown hE.1 hR.1 (wl_D k _) hS (sg a) he hc j hj (hts _ hlk2) (fun x hx => hx) hfin (hnm.trans hin2) (hC.trans (hoc _ hc)) hpd hn hfit (by simp; exact hj) hd (fun H1 locs1 hP1 hD1 hS1 => ?_)
  rw [e2] at hP1
  exact h p e s m args below meth c H1 locs1 ls hF hS1 (Rel.put (M := (N, ex, I, J, P)) (M' := (N, ex, st2 I a j x, J, P)) rfl hN (by rw [enc_obj k _ ha (cl_le hc), sz_obj ha hc]) (fun b hb => enc_st2 k (p01 (by rw [ha]; exact ht)) hb) hP1) hX hl
theorem g_putJF {N : Nat} {ex : Bool} {I : Nat → Nat → Int32} {J : Nat → Nat → Int64} {P : Nat → Nat → Option Nat} {a : Nat} {idx ci j : Nat} {ty : FieldType} {x : Int64} (hf : FL mi.1.cls idx ci j true ty) (hin2 : mi.1.name = "<init>") (hoc : ∀ q : vw_C, classes[ci]? = some q → q.1 = mi.1.cls) (hd : decode (cd mi) pc = .ok (.putfield idx, 3)) (ha : kd a = ci) (hN : sg a < N) (ht : ft ci j = 1) (hn : narrow ty (.long x) = .long x) (hfit : fits ty (.long x) = true) (h : G k mi R F nc ns (pc + 3) vs st (N, ex, I, stJ J a j x, P)) : G k mi R F nc ns pc vs (.long x :: .ref (ka k a) :: st) (N, ex, I, J, P) := by
  intro p e s m args below meth c H locs ls hF hS hR hX hl
  obtain ⟨hx, hb, hml, hown, hts, hret, hlk, hnm, hE⟩ := id hF
  obtain ⟨C, T, n, ty0, hc, hj, hin, hlk2, hty, hnm2, hfin, hC, hpd⟩ := hf
  have he : (wl k (N, ex, I, J, P))[sg a]? = some (ka k a, .inr (ci, (List.range n).map (sv k (N, ex, I, J, P) a))) := by
    rw [wl_at k (N, ex, I, J, P) hN, enc_obj k (N, ex, I, J, P) ha (cl_le hc), sz_obj ha hc]
  have e2 : ((List.range n).map (sv k (N, ex, I, J, P) a)).set j (.long x) = (List.range n).map (sv k (N, ex, I, stJ J a j x, P) a) := by
    refine sv_set k ?_ (fun i hi => ?_)
    · simp [sv, ha, ht, stJ, va_up_s]
    · simp [sv, stJ, va_up_s, va_up_o _ _ hi]
  refine va_putF hx hb hts hin ty0 hty hnm2 hown hE.1 hR.1 (wl_D k _) hS (sg a) he hc j hj (hts _ hlk2) (fun x hx => hx) hfin (hnm.trans hin2) (hC.trans (hoc _ hc)) hpd hn hfit (by simp; exact hj) hd (fun H1 locs1 hP1 hD1 hS1 => ?_)
  rw [e2] at hP1
  exact h p e s m args below meth c H1 locs1 ls hF hS1 (Rel.put (M := (N, ex, I, J, P)) (M' := (N, ex, I, stJ J a j x, P)) rfl hN (by rw [enc_obj k _ ha (cl_le hc), sz_obj ha hc]) (fun b hb => enc_stJ k hb) hP1) hX hl
theorem g_putPF {N : Nat} {ex : Bool} {I : Nat → Nat → Int32} {J : Nat → Nat → Int64} {P : Nat → Nat → Option Nat} {a : Nat} {idx ci j : Nat} {ty : FieldType} {b : Nat} (hf : FL mi.1.cls idx ci j true ty) (hin2 : mi.1.name = "<init>") (hoc : ∀ q : vw_C, classes[ci]? = some q → q.1 = mi.1.cls) (hd : decode (cd mi) pc = .ok (.putfield idx, 3)) (ha : kd a = ci) (hN : sg a < N) (ht : ft ci j = 2) (hn : narrow ty (.ref (ka k b)) = .ref (ka k b)) (hfit : fits ty (.ref (ka k b)) = true) (h : G k mi R F nc ns (pc + 3) vs st (N, ex, I, J, stP P a j (some b))) : G k mi R F nc ns pc vs (.ref (ka k b) :: .ref (ka k a) :: st) (N, ex, I, J, P) := by
  intro p e s m args below meth c H locs ls hF hS hR hX hl
  obtain ⟨hx, hb, hml, hown, hts, hret, hlk, hnm, hE⟩ := id hF
  obtain ⟨C, T, n, ty0, hc, hj, hin, hlk2, hty, hnm2, hfin, hC, hpd⟩ := hf
  have he : (wl k (N, ex, I, J, P))[sg a]? = some (ka k a, .inr (ci, (List.range n).map (sv k (N, ex, I, J, P) a))) := by
    rw [wl_at k (N, ex, I, J, P) hN, enc_obj k (N, ex, I, J, P) ha (cl_le hc), sz_obj ha hc]
  have e2 : ((List.range n).map (sv k (N, ex, I, J, P) a)).set j (.ref (ka k b)) = (List.range n).map (sv k (N, ex, I, J, stP P a j (some b)) a) := by
    refine sv_set k ?_ (fun i hi => ?_)
    · simp [sv, ha, ht, stP, va_rf, va_up_s]
    · simp [sv, stP, va_up_s, va_up_o _ _ hi]
  refine va_putF hx hb hts hin ty0 hty hnm2 hown hE.1 hR.1 (wl_D k _) hS (sg a) he hc j hj (hts _ hlk2) (fun x hx => hx) hfin (hnm.trans hin2) (hC.trans (hoc _ hc)) hpd hn hfit (by simp; exact hj) hd (fun H1 locs1 hP1 hD1 hS1 => ?_)
  rw [e2] at hP1
  exact h p e s m args below meth c H1 locs1 ls hF hS1 (Rel.put (M := (N, ex, I, J, P)) (M' := (N, ex, I, J, stP P a j (some b))) rfl hN (by rw [enc_obj k _ ha (cl_le hc), sz_obj ha hc]) (fun b hb => enc_stP k hb) hP1) hX hl
theorem g_getT {N : Nat} {ex : Bool} {I : Nat → Nat → Int32} {J : Nat → Nat → Int64} {P : Nat → Nat → Option Nat} {a : Nat} {idx ci j : Nat} {fin : Bool} {ty : FieldType} (hf : FL mi.1.cls idx ci j fin ty) (hd : decode (cd mi) pc = .ok (.getfield idx, 3)) (ha : kd a = ci) (hN : sg a < N) (ht : ft ci j = 3) (h : G k mi R F nc ns (pc + 3) vs (.int (I 0 1) :: st) (N, ex, I, J, P)) : G k mi R F nc ns pc vs (.ref (ka k a) :: st) (N, ex, I, J, P) := by
  intro p e s m args below meth c H locs ls hF hS hR hX hl
  obtain ⟨hx, hb, hml, hown, hts, hret, hlk, hnm, hE⟩ := id hF
  obtain ⟨C, T, n, ty0, hc, hj, hin, hlk2, hty, hnm2, hfin, hC, hpd⟩ := hf
  have he : (wl k (N, ex, I, J, P))[sg a]? = some (ka k a, .inr (ci, (List.range n).map (sv k (N, ex, I, J, P) a))) := by
    rw [wl_at k (N, ex, I, J, P) hN, enc_obj k (N, ex, I, J, P) ha (cl_le hc), sz_obj ha hc]
  have hv : ((List.range n).map (sv k (N, ex, I, J, P) a))[j]? = some (.int (I 0 1)) := by
    rw [sv_at k _ hj]
    simp [sv, ha, ht]
  exact va_get hx hb hts hin hown hE.1 hR.1 (sg a) he hc j hj (hts _ hlk2) (fun x hx => hx) hv hd (h p e s m args below meth c H locs ls hF hS hR hX hl)
theorem g_putT {N : Nat} {ex : Bool} {I : Nat → Nat → Int32} {J : Nat → Nat → Int64} {P : Nat → Nat → Option Nat} {a : Nat} {idx ci j : Nat} {ty : FieldType} {x : Int32} (hf : FL mi.1.cls idx ci j false ty) (hd : decode (cd mi) pc = .ok (.putfield idx, 3)) (ha : kd a = ci) (hu : ∀ i, ft ci i = 3 → i = j) (hN : sg a < N) (ht : ft ci j = 3) (hn : narrow ty (.int x) = .int x) (hfit : fits ty (.int x) = true) (h : G k mi R F nc ns (pc + 3) vs st (N, ex, st2 I 0 1 x, J, P)) : G k mi R F nc ns pc vs (.int x :: .ref (ka k a) :: st) (N, ex, I, J, P) := by
  intro p e s m args below meth c H locs ls hF hS hR hX hl
  obtain ⟨hx, hb, hml, hown, hts, hret, hlk, hnm, hE⟩ := id hF
  obtain ⟨C, T, n, ty0, hc, hj, hin, hlk2, hty, hnm2, hfin, hC, hpd⟩ := hf
  have he : (wl k (N, ex, I, J, P))[sg a]? = some (ka k a, .inr (ci, (List.range n).map (sv k (N, ex, I, J, P) a))) := by
    rw [wl_at k (N, ex, I, J, P) hN, enc_obj k (N, ex, I, J, P) ha (cl_le hc), sz_obj ha hc]
  have e2 : ((List.range n).map (sv k (N, ex, I, J, P) a)).set j (.int x) = (List.range n).map (sv k (N, ex, st2 I 0 1 x, J, P) a) := by
    refine sv_set k ?_ (fun i hi => ?_)
    · simp [sv, ha, ht, st2, va_up_s]
    · have a2 : a = 2 := ft3 (show ft (kd a) j = 3 by rw [ha]; exact ht)
      have n3 : ¬ ft (kd a) i = 3 := fun z => hi (hu i (by rw [← ha]; exact z))
      have e0 : st2 I 0 1 x a i = I a i := by
        subst a2
        unfold st2
        rw [va_up_o _ _ (by decide)]
      simp [sv, n3, e0]
  refine va_put hx hb hts hin ty0 hty hnm2 hown hE.1 hR.1 (wl_D k _) hS (sg a) he hc j hj (hts _ hlk2) (fun x hx => hx) hfin hpd hn hfit (by simp; exact hj) hd (fun H1 locs1 hP1 hD1 hS1 => ?_)
  rw [e2] at hP1
  exact h p e s m args below meth c H1 locs1 ls hF hS1 (Rel.put (M := (N, ex, I, J, P)) (M' := (N, ex, st2 I 0 1 x, J, P)) rfl hN (by rw [enc_obj k _ ha (cl_le hc), sz_obj ha hc]) (fun b hb => by
    have a2 : a = 2 := ft3 (show ft (kd a) j = 3 by rw [ha]; exact ht)
    refine enc_other k (fun i hi => ?_) (fun q => absurd (q.trans a2.symm) hb) (fun _ => rfl) (fun _ => rfl)
    show st2 I 0 1 x b i = I b i
    unfold st2
    by_cases z : b = 0
    · subst z
      rw [va_up_s, va_up_o _ _ (fun q => hi ⟨rfl, q⟩)]
    · rw [va_up_o _ _ z]) hP1) hX hl
theorem ft5 : ∀ i, ft 5 i = 3 → i = 15 := by
  intro i h
  by_cases q : i < 16
  · exact (by decide : ∀ i, i < 16 → ft 5 i = 3 → i = 15) i q h
  · exfalso
    unfold ft at h
    rw [show ftL.getD 5 [] = [0, 0, 2, 2, 0, 0, 0, 0, 1, 0, 0, 0, 2, 2, 0, 3] from rfl, List.getD_eq_getElem?_getD, List.getElem?_eq_none (by show 16 ≤ i; omega)] at h
    exact absurd h (by decide)
theorem g_iald {N : Nat} {ex : Bool} {I : Nat → Nat → Int32} {J : Nat → Nat → Int64} {P : Nat → Nat → Option Nat} {a : Nat} {i : Int32} (hd : decode (cd mi) pc = .ok (.iaload, 1)) (ha : kd a = 12) (hN : sg a < N) (hi : vp_in i (sz a)) (h : G k mi R F nc ns (pc + 1) vs (.int (I a i.toNatClampNeg) :: st) (N, ex, I, J, P)) : G k mi R F nc ns pc vs (.int i :: .ref (ka k a) :: st) (N, ex, I, J, P) := by
  intro p e s m args below meth c H locs ls hF hS hR hX hl
  obtain ⟨hx, hb, hml, hown, hts, hret, hlk, hnm, hE⟩ := id hF
  exact va_iald hx hb hE.1 hR.1 (sg a) 1 ((wl_at k _ hN).trans (by rw [enc_i k _ ha])) rfl hi hd (h p e s m args below meth c H locs ls hF hS hR hX hl)
theorem g_bald {N : Nat} {ex : Bool} {I : Nat → Nat → Int32} {J : Nat → Nat → Int64} {P : Nat → Nat → Option Nat} {a : Nat} {i : Int32} (hd : decode (cd mi) pc = .ok (.baload, 1)) (ha : kd a = 11) (hN : sg a < N) (hi : vp_in i (sz a)) (h : G k mi R F nc ns (pc + 1) vs (.int (I a i.toNatClampNeg) :: st) (N, ex, I, J, P)) : G k mi R F nc ns pc vs (.int i :: .ref (ka k a) :: st) (N, ex, I, J, P) := by
  intro p e s m args below meth c H locs ls hF hS hR hX hl
  obtain ⟨hx, hb, hml, hown, hts, hret, hlk, hnm, hE⟩ := id hF
  exact va_bald hx hb hE.1 hR.1 (sg a) 0 ((wl_at k _ hN).trans (by rw [enc_b k _ ha])) rfl hi hd (h p e s m args below meth c H locs ls hF hS hR hX hl)
theorem g_lald {N : Nat} {ex : Bool} {I : Nat → Nat → Int32} {J : Nat → Nat → Int64} {P : Nat → Nat → Option Nat} {a : Nat} {i : Int32} (hd : decode (cd mi) pc = .ok (.laload, 1)) (ha : kd a = 13) (hN : sg a < N) (hi : vp_in i (sz a)) (h : G k mi R F nc ns (pc + 1) vs (.long (J a i.toNatClampNeg) :: st) (N, ex, I, J, P)) : G k mi R F nc ns pc vs (.int i :: .ref (ka k a) :: st) (N, ex, I, J, P) := by
  intro p e s m args below meth c H locs ls hF hS hR hX hl
  obtain ⟨hx, hb, hml, hown, hts, hret, hlk, hnm, hE⟩ := id hF
  exact va_lald hx hb hE.1 hR.1 (sg a) 2 ((wl_at k _ hN).trans (by rw [enc_j k _ ha])) rfl hi hd (h p e s m args below meth c H locs ls hF hS hR hX hl)
theorem g_aald {N : Nat} {ex : Bool} {I : Nat → Nat → Int32} {J : Nat → Nat → Int64} {P : Nat → Nat → Option Nat} {a : Nat} {i : Int32} {b : Nat} (hd : decode (cd mi) pc = .ok (.aaload, 1)) (ha : kd a = 14) (hN : sg a < N) (hi : vp_in i (sz a)) (hp : P a i.toNatClampNeg = some b) (h : G k mi R F nc ns (pc + 1) vs (.ref (ka k b) :: st) (N, ex, I, J, P)) : G k mi R F nc ns pc vs (.int i :: .ref (ka k a) :: st) (N, ex, I, J, P) := by
  intro p e s m args below meth c H locs ls hF hS hR hX hl
  obtain ⟨hx, hb, hml, hown, hts, hret, hlk, hnm, hE⟩ := id hF
  refine va_aldq hx hb hE.1 hR.1 (sg a) 3 ((wl_at k _ hN).trans (by rw [enc_r k _ ha])) rfl hi hd ?_
  have e5 : ((N, ex, I, J, P) : MM).2.2.2.2 a i.toNatClampNeg = some b := hp
  rw [e5]
  exact h p e s m args below meth c H locs ls hF hS hR hX hl
theorem g_iast {N : Nat} {ex : Bool} {I : Nat → Nat → Int32} {J : Nat → Nat → Int64} {P : Nat → Nat → Option Nat} {a : Nat} {i : Int32} {x : Int32} (hd : decode (cd mi) pc = .ok (.iastore, 1)) (ha : kd a = 12) (hN : sg a < N) (hi : vp_in i (sz a)) (h : G k mi R F nc ns (pc + 1) vs st (N, ex, va_up I a (upd (I a) i.toNatClampNeg x), J, P)) : G k mi R F nc ns pc vs (.int x :: .int i :: .ref (ka k a) :: st) (N, ex, I, J, P) := by
  intro p e s m args below meth c H locs ls hF hS hR hX hl
  obtain ⟨hx, hb, hml, hown, hts, hret, hlk, hnm, hE⟩ := id hF
  refine va_iast hx hb hE.1 hR.1 (wl_D k _) hS (sg a) 1 ((wl_at k _ hN).trans (by rw [enc_i k _ ha])) rfl hi hd (fun H1 locs1 hP1 hD1 hS1 => ?_)
  exact h p e s m args below meth c H1 locs1 ls hF hS1 (Rel.put (M := (N, ex, I, J, P)) (M' := (N, ex, va_up I a (upd (I a) i.toNatClampNeg x), J, P)) rfl hN (by rw [enc_i k _ ha]; simp only [va_up_s]) (fun b hb => enc_st2 k (fun z => by subst z; exact absurd ha (by decide)) hb) hP1) hX hl
theorem g_bast {N : Nat} {ex : Bool} {I : Nat → Nat → Int32} {J : Nat → Nat → Int64} {P : Nat → Nat → Option Nat} {a : Nat} {i : Int32} {x : Int32} (hd : decode (cd mi) pc = .ok (.bastore, 1)) (ha : kd a = 11) (hN : sg a < N) (hi : vp_in i (sz a)) (h : G k mi R F nc ns (pc + 1) vs st (N, ex, va_up I a (upd (I a) i.toNatClampNeg (vp_nar .byte x)), J, P)) : G k mi R F nc ns pc vs (.int x :: .int i :: .ref (ka k a) :: st) (N, ex, I, J, P) := by
  intro p e s m args below meth c H locs ls hF hS hR hX hl
  obtain ⟨hx, hb, hml, hown, hts, hret, hlk, hnm, hE⟩ := id hF
  refine va_bast hx hb hE.1 hR.1 (wl_D k _) hS (sg a) 0 ((wl_at k _ hN).trans (by rw [enc_b k _ ha])) rfl hi hd (fun H1 locs1 hP1 hD1 hS1 => ?_)
  exact h p e s m args below meth c H1 locs1 ls hF hS1 (Rel.put (M := (N, ex, I, J, P)) (M' := (N, ex, va_up I a (upd (I a) i.toNatClampNeg (vp_nar .byte x)), J, P)) rfl hN (by rw [enc_b k _ ha]; simp only [va_up_s]) (fun b hb => enc_st2 k (fun z => by subst z; exact absurd ha (by decide)) hb) hP1) hX hl
theorem g_last {N : Nat} {ex : Bool} {I : Nat → Nat → Int32} {J : Nat → Nat → Int64} {P : Nat → Nat → Option Nat} {a : Nat} {i : Int32} {x : Int64} (hd : decode (cd mi) pc = .ok (.lastore, 1)) (ha : kd a = 13) (hN : sg a < N) (hi : vp_in i (sz a)) (h : G k mi R F nc ns (pc + 1) vs st (N, ex, I, va_up J a (vp_updL (J a) i.toNatClampNeg x), P)) : G k mi R F nc ns pc vs (.long x :: .int i :: .ref (ka k a) :: st) (N, ex, I, J, P) := by
  intro p e s m args below meth c H locs ls hF hS hR hX hl
  obtain ⟨hx, hb, hml, hown, hts, hret, hlk, hnm, hE⟩ := id hF
  refine va_last hx hb hE.1 hR.1 (wl_D k _) hS (sg a) 2 ((wl_at k _ hN).trans (by rw [enc_j k _ ha])) rfl hi hd (fun H1 locs1 hP1 hD1 hS1 => ?_)
  exact h p e s m args below meth c H1 locs1 ls hF hS1 (Rel.put (M := (N, ex, I, J, P)) (M' := (N, ex, I, va_up J a (vp_updL (J a) i.toNatClampNeg x), P)) rfl hN (by rw [enc_j k _ ha]; simp only [va_up_s]) (fun b hb => enc_stJ k hb) hP1) hX hl
theorem g_alen11 {a : Nat} (hd : decode (cd mi) pc = .ok (.arraylength, 1)) (ha : kd a = 11) (hN : sg a < M.1) (h : G k mi R F nc ns (pc + 1) vs (.int (Int32.ofNat (sz a)) :: st) M) : G k mi R F nc ns pc vs (.ref (ka k a) :: st) M := by
  intro p e s m args below meth c H locs ls hF hS hR hX hl
  obtain ⟨hx, hb, hml, hown, hts, hret, hlk, hnm, hE⟩ := id hF
  exact va_alen hx hb hE.1 hR.1 (sg a) 0 ((wl_at k _ hN).trans (by rw [enc_b k _ ha])) rfl rfl hd (h p e s m args below meth c H locs ls hF hS hR hX hl)
theorem g_alen12 {a : Nat} (hd : decode (cd mi) pc = .ok (.arraylength, 1)) (ha : kd a = 12) (hN : sg a < M.1) (h : G k mi R F nc ns (pc + 1) vs (.int (Int32.ofNat (sz a)) :: st) M) : G k mi R F nc ns pc vs (.ref (ka k a) :: st) M := by
  intro p e s m args below meth c H locs ls hF hS hR hX hl
  obtain ⟨hx, hb, hml, hown, hts, hret, hlk, hnm, hE⟩ := id hF
  exact va_alen hx hb hE.1 hR.1 (sg a) 1 ((wl_at k _ hN).trans (by rw [enc_i k _ ha])) rfl rfl hd (h p e s m args below meth c H locs ls hF hS hR hX hl)
theorem g_alen13 {a : Nat} (hd : decode (cd mi) pc = .ok (.arraylength, 1)) (ha : kd a = 13) (hN : sg a < M.1) (h : G k mi R F nc ns (pc + 1) vs (.int (Int32.ofNat (sz a)) :: st) M) : G k mi R F nc ns pc vs (.ref (ka k a) :: st) M := by
  intro p e s m args below meth c H locs ls hF hS hR hX hl
  obtain ⟨hx, hb, hml, hown, hts, hret, hlk, hnm, hE⟩ := id hF
  exact va_alen hx hb hE.1 hR.1 (sg a) 2 ((wl_at k _ hN).trans (by rw [enc_j k _ ha])) rfl rfl hd (h p e s m args below meth c H locs ls hF hS hR hX hl)
theorem g_alen14 {a : Nat} (hd : decode (cd mi) pc = .ok (.arraylength, 1)) (ha : kd a = 14) (hN : sg a < M.1) (h : G k mi R F nc ns (pc + 1) vs (.int (Int32.ofNat (sz a)) :: st) M) : G k mi R F nc ns pc vs (.ref (ka k a) :: st) M := by
  intro p e s m args below meth c H locs ls hF hS hR hX hl
  obtain ⟨hx, hb, hml, hown, hts, hret, hlk, hnm, hE⟩ := id hF
  exact va_alen hx hb hE.1 hR.1 (sg a) 3 ((wl_at k _ hN).trans (by rw [enc_r k _ ha])) rfl rfl hd (h p e s m args below meth c H locs ls hF hS hR hX hl)
theorem G.congr {M' : MM} (hN : M'.1 = M.1) (hx : M'.2.1 = M.2.1) (he : ∀ a, sg a < M.1 → enc k M' a = enc k M a) (h : G k mi R F nc ns pc vs st M') : G k mi R F nc ns pc vs st M := by
  intro p e s m args below meth c H locs ls hF hS hR hX hl
  exact h p e s m args below meth c H locs ls hF hS (hR.congr hN he) (by rw [hN, hx]; exact hX) hl
theorem exact_size {p : Program} {l : Launch} {e : Env} {s : State} {m : MethodId} {args : Array Value} {below : List Frame} {meth : Method} {c : Code} {T : State} {locs : List Loc} {H : Heap} (hR : Rel k M H) (hX : M.2.1 = true → s.heap.size + nc = kB k + M.1) (hT : T.heap = H) (X : Stand p l e R s m args below meth c T locs nc ns) : M.2.1 = true → H.size = kB k + M.1 := by
  intro hx
  have h1 := X.heapSize
  have h2 := hX hx
  have h3 := hR.2
  rw [hT] at h1
  omega
theorem g_iret {x : Int32} {Q : Option Value → MM → Prop} {mc ms : Nat} (hr : rty mi = some .int) (hd : decode (cd mi) pc = .ok (.ireturn, 1)) (hq : Q (some (.int x)) M) (hc : nc ≤ mc) (hs : ns ≤ ms) : G k mi R (FinM k Q mc ms) nc ns pc vs [.int x] M := by
  intro p e s m args below meth c H locs ls hF hS hR hX hl
  obtain ⟨hx, hb, hml, hown, hts, hret, hlk, hnm, hE⟩ := id hF
  intro T hT X
  have hz := exact_size hR hX hT X
  exact (W.widen (k := mc) (n := ms) hc hs (W.iret hx hb (hret.trans hr) (fun t ht hw => ⟨_, M, rfl, hq, by rw [ht]; exact hR, by rw [ht]; exact hz, hS.F ht⟩) hS.2.2 hd)) T hT X
theorem g_zret {x : Int32} {ty : FieldType} {Q : Option Value → MM → Prop} {mc ms : Nat} (hr : rty mi = some ty) (hn : narrow ty (.int x) = .int x) (hd : decode (cd mi) pc = .ok (.ireturn, 1)) (hq : Q (some (.int x)) M) (hc : nc ≤ mc) (hs : ns ≤ ms) : G k mi R (FinM k Q mc ms) nc ns pc vs [.int x] M := by
  intro p e s m args below meth c H locs ls hF hS hR hX hl
  obtain ⟨hx, hb, hml, hown, hts, hret, hlk, hnm, hE⟩ := id hF
  intro T hT X
  have hz := exact_size hR hX hT X
  exact (W.widen (k := mc) (n := ms) hc hs (W.zret hx hb (hret.trans hr) hn (fun t ht hw => ⟨_, M, rfl, hq, by rw [ht]; exact hR, by rw [ht]; exact hz, hS.F ht⟩) hS.2.2 hd)) T hT X
theorem g_lret {x : Int64} {Q : Option Value → MM → Prop} {mc ms : Nat} (hr : rty mi = some .long) (hd : decode (cd mi) pc = .ok (.lreturn, 1)) (hq : Q (some (.long x)) M) (hc : nc ≤ mc) (hs : ns ≤ ms) : G k mi R (FinM k Q mc ms) nc ns pc vs [.long x] M := by
  intro p e s m args below meth c H locs ls hF hS hR hX hl
  obtain ⟨hx, hb, hml, hown, hts, hret, hlk, hnm, hE⟩ := id hF
  intro T hT X
  have hz := exact_size hR hX hT X
  exact (W.widen (k := mc) (n := ms) hc hs (W.lret hx hb (hret.trans hr) (fun t ht hw => ⟨_, M, rfl, hq, by rw [ht]; exact hR, by rw [ht]; exact hz, hS.F ht⟩) hS.2.2 hd)) T hT X
theorem g_vret {Q : Option Value → MM → Prop} {mc ms : Nat} (hr : rty mi = none) (hd : decode (cd mi) pc = .ok (.return_, 1)) (hq : Q none M) (hc : nc ≤ mc) (hs : ns ≤ ms) : G k mi R (FinM k Q mc ms) nc ns pc vs [] M := by
  intro p e s m args below meth c H locs ls hF hS hR hX hl
  obtain ⟨hx, hb, hml, hown, hts, hret, hlk, hnm, hE⟩ := id hF
  intro T hT X
  have hz := exact_size hR hX hT X
  exact (W.widen (k := mc) (n := ms) hc hs (W.vret hx hb (hret.trans hr) (fun t ht hw => ⟨_, M, rfl, hq, by rw [ht]; exact hR, by rw [ht]; exact hz, hS.F ht⟩) hS.2.2 hd)) T hT X
end GR
