theorem arrV_congr (cI : ClassId) (N : Nat) {f g : Nat → Value} (h : ∀ j, j < N → f j = g j) : arrV cI N f = arrV cI N g := by
  unfold arrV
  congr 1
  exact congrArg Array.ofFn (funext fun j => h j.val j.isLt)
theorem kd_all : (List.range 81).all (fun a => decide (kd a ≤ 14)) = true := by decide +kernel
theorem kd_le {a : Nat} (h : a < 81) : kd a ≤ 14 := by
  have := List.all_eq_true.mp kd_all a (List.mem_range.mpr h)
  simpa using this
/-- a slot that holds a reference -/
def isP (a j : Nat) : Prop := kd a = 14 ∨ (kd a ≤ 10 ∧ ft (kd a) j ≠ 0 ∧ ft (kd a) j ≠ 1 ∧ ft (kd a) j ≠ 3)
/-- references that nobody reads may be told otherwise -/
theorem Rel.ref {k : KT} {N : Nat} {ex : Bool} {I : Nat → Nat → Int32} {J : Nat → Nat → Int64} {P P' : Nat → Nat → Option Nat} {H : Heap} (hN : N ≤ 81) (h : ∀ a, sg a < N → ∀ j, j < sz a → isP a j → P' a j = P a j) (hR : Rel k (N, ex, I, J, P) H) : Rel k (N, ex, I, J, P') H := by
  refine ⟨fun i q hq => ?_, hR.2⟩
  have hi : i < N := by
    have := (List.getElem?_eq_some_iff.mp hq).1
    simpa [wl] using this
  rw [wl_p k _ hi] at hq
  cases hq
  have h0 := hR.1 i _ (wl_p k (N, ex, I, J, P) hi)
  have hs : sg (gs i) < N := by rw [sg_gs]; exact hi
  generalize gs i = a at h0 hs ⊢
  by_cases h14 : kd a = 14
  · rw [enc_r k _ h14] at h0 ⊢
    have h1 : H[kB k + i]? = some (vp_cell (kcR k) (sz a, .inr (.inr (.inr (.inr (fun j => (P a j).map (ka k))))))) := h0
    show H[kB k + i]? = some (vp_cell (kcR k) (sz a, .inr (.inr (.inr (.inr (fun j => (P' a j).map (ka k)))))))
    rw [h1, vp_cell_q, vp_cell_q]
    congr 1
    exact arrV_congr _ _ (fun j hj => by simp only [h a hs j hj (Or.inl h14)])
  · have e : enc k (N, ex, I, J, P') a = enc k (N, ex, I, J, P) a := by
      by_cases h10 : kd a ≤ 10
      · rw [enc_obj k _ rfl h10, enc_obj k _ rfl h10]
        congr 2
        apply List.map_congr_left
        intro j hj
        simp only [sv]
        split
        · rfl
        · split
          · rfl
          · split
            · rfl
            · rw [h a hs j (List.mem_range.mp hj) (Or.inr ⟨h10, by assumption, by assumption, by assumption⟩)]
      · have := kd_le (sg_of (Nat.lt_of_lt_of_le hs hN))
        rcases (show kd a = 11 ∨ kd a = 12 ∨ kd a = 13 by omega) with q | q | q
        · rw [enc_b k _ q, enc_b k _ q]
        · rw [enc_i k _ q, enc_i k _ q]
        · rw [enc_j k _ q, enc_j k _ q]
    rw [e]
    exact h0
theorem G.ref {k : KT} {mi : MI} {R : Room} {F : FinT} {nc ns pc : Nat} {vs : List (Option Value)} {st : List Value} {N : Nat} {ex : Bool} {I : Nat → Nat → Int32} {J : Nat → Nat → Int64} {P P' : Nat → Nat → Option Nat} (hN : N ≤ 81) (h : ∀ a, sg a < N → ∀ j, j < sz a → isP a j → P' a j = P a j) (hG : G k mi R F nc ns pc vs st (N, ex, I, J, P')) : G k mi R F nc ns pc vs st (N, ex, I, J, P) := by
  intro p e s m args below meth c H locs ls hF hS hR hX hl
  exact hG p e s m args below meth c H locs ls hF hS (hR.ref hN h) hX hl
def I_0 : Nat → Nat → Int32 := nwI (nI_m (nwI (nI_x (nwI (fun _ _ => 0) 0)) 65)) 80
def J_0 : Nat → Nat → Int64 := nwJ (nJ_m (nwJ (nJ_x (nwJ (fun _ _ => 0) 0)) 65)) 80
def P_0 : Nat → Nat → Option Nat := nwP (nP_m (nwP (nP_x (nwP (fun _ _ => none) 0)) 65)) 80
theorem P_0_all : (List.range 81).all (fun a => !(decide (kd a = 14) || decide (kd a ≤ 10)) || (List.range (sz a)).all (fun j => !(decide (kd a = 14) || (decide (ft (kd a) j ≠ 0) && (decide (ft (kd a) j ≠ 1) && decide (ft (kd a) j ≠ 3)))) || decide (Pw false a j = P_0 a j))) = true := by decide +kernel
theorem P_0_ok : ∀ a, sg a < 81 → ∀ j, j < sz a → isP a j → Pw false a j = P_0 a j := by
  intro a ha0 j hj h
  have ha := sg_of ha0
  have h1 := List.all_eq_true.mp P_0_all a (List.mem_range.mpr ha)
  have h2 : (decide (kd a = 14) || decide (kd a ≤ 10)) = true := by
    rcases h with q | q
    · simp [q]
    · simp [q.1]
  rw [h2] at h1
  simp only [Bool.not_true, Bool.false_or] at h1
  have h3 := List.all_eq_true.mp h1 j (List.mem_range.mpr hj)
  have h4 : (decide (kd a = 14) || (decide (ft (kd a) j ≠ 0) && (decide (ft (kd a) j ≠ 1) && decide (ft (kd a) j ≠ 3)))) = true := by
    rcases h with q | q
    · simp [q]
    · simp [q.2.1, q.2.2.1, q.2.2.2]
  rw [h4] at h3
  simpa using h3
theorem str_one {args : Array Value} {s : State} {tm : Term} {len : Nat} {byt : List Int32} {A : Nat → Prop} (hN : len < 2 ^ 31) (hex : (Cond.exactly tm "java/lang/String").before args s = true) (hco : (Cond.eq (.field tm "java/lang/String" "coder" "B") (.int 0)).before args s = true)
    (har : (Cond.arrayOf (.field tm "java/lang/String" "value" "[B") .byte).before args s = true) (hle : (Cond.eq (.length (.field tm "java/lang/String" "value" "[B")) (.int (Int32.ofNat len))).before args s = true)
    (hel : ∀ j : Nat, j < len → (Cond.eq (.elem (.field tm "java/lang/String" "value" "[B") (.int (Int32.ofNat j))) (.int (byt.getD j 0))).before args s = true) (hA : ∀ a : Nat, a < s.heap.size → ¬ A a) :
    ∃ a v : Nat, tm.eval args s none [] s = some (.ref a) ∧ va_O "java/lang/String" a A s s.heap ∧ va_OF "java/lang/String" "coder" "B" (.int 0) a A s s.heap ∧ va_OF "java/lang/String" "value" "[B" (.ref v) a A s s.heap ∧ va_T .byte v len (fun j => .int (byt.getD j 0)) A s s.heap := by
  have z : ∀ i : Nat, i < 1 → i = 0 := fun i h => by omega
  obtain ⟨aK, aV, h, he⟩ := vk_Sof (N := 1) (tm := fun _ => tm) (len := [len]) (byt := [byt]) (A := A) (args := args) (s := s) (fun i hi => by rw [z i hi]; exact hN) (fun i _ => hex) (fun i _ => hco) (fun i _ => har) (fun i hi => by rw [z i hi]; exact hle) (fun i hi j hj => by rw [z i hi] at hj ⊢; exact hel j hj) (fun i j hi hj h => absurd (by rw [z i hi, z j hj]) h) hA
  exact ⟨aK 0, aV 0, he 0 (by decide), h.1 0 (by decide)⟩
theorem same_ev {args : Array Value} {s : State} {a b : Term} {q : Nat} (h : (Cond.eq a b).before args s = true) (hb : b.eval args s none [] s = some (.ref q)) (ha : ∃ r, a.eval args s none [] s = some (.ref r)) : a.eval args s none [] s = some (.ref q) := by
  obtain ⟨r, hr⟩ := ha
  by_cases e : r = q
  · rw [hr, e]
  · exfalso
    simp [Cond.before, Cond.holds, Cond.value, hr, hb, e] at h
