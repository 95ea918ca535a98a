section
theorem pz_1_spec {st : List pz_V} {f : Int → List pz_V → Prop} (h : pz_1 st f) : ∃ x r, st = .inl x :: r ∧ f x r := by
  match st, h with
  | .inl x :: r, h => exact ⟨x, r, rfl, h⟩
  | [], h => exact h.elim
  | .inr _ :: _, h => exact h.elim
theorem pz_2_spec {st : List pz_V} {f : Int → Int → List pz_V → Prop} (h : pz_2 st f) : ∃ x y r, st = .inl y :: .inl x :: r ∧ f x y r := by
  match st, h with
  | .inl y :: .inl x :: r, h => exact ⟨x, y, r, rfl, h⟩
  | [], h => exact h.elim
  | .inr _ :: _, h => exact h.elim
  | [.inl _], h => exact h.elim
  | .inl _ :: .inr _ :: _, h => exact h.elim
theorem pz_l1_spec {st : List pz_V} {f : Int → List pz_V → Prop} (h : pz_l1 st f) : ∃ x r, st = .inr (.inl x) :: r ∧ f x r := by
  match st, h with
  | .inr (.inl x) :: r, h => exact ⟨x, r, rfl, h⟩
  | [], h => exact h.elim
  | .inl _ :: _, h => exact h.elim
  | .inr (.inr _) :: _, h => exact h.elim
theorem pz_l2_spec {st : List pz_V} {f : Int → Int → List pz_V → Prop} (h : pz_l2 st f) : ∃ x y r, st = .inr (.inl y) :: .inr (.inl x) :: r ∧ f x y r := by
  match st, h with
  | .inr (.inl y) :: .inr (.inl x) :: r, h => exact ⟨x, y, r, rfl, h⟩
  | [], h => exact h.elim
  | .inl _ :: _, h => exact h.elim
  | .inr (.inr _) :: _, h => exact h.elim
  | [.inr (.inl _)], h => exact h.elim
  | .inr (.inl _) :: .inl _ :: _, h => exact h.elim
  | .inr (.inl _) :: .inr (.inr _) :: _, h => exact h.elim
theorem pz_r_spec {st : List pz_V} {f : Nat → Nat → List pz_V → Prop} (h : pz_r st f) : ∃ k a r, st = .inr (.inr (k, a)) :: r ∧ f k a r := by
  match st, h with
  | .inr (.inr (k, a)) :: r, h => exact ⟨k, a, r, rfl, h⟩
  | [], h => exact h.elim
  | .inl _ :: _, h => exact h.elim
  | .inr (.inl _) :: _, h => exact h.elim
theorem pz_ri_spec {st : List pz_V} {f : Nat → Nat → Int → List pz_V → Prop} (h : pz_ri st f) : ∃ k a i r, st = .inl i :: .inr (.inr (k, a)) :: r ∧ f k a i r := by
  match st, h with
  | .inl i :: .inr (.inr (k, a)) :: r, h => exact ⟨k, a, i, r, rfl, h⟩
  | [], h => exact h.elim
  | .inr _ :: _, h => exact h.elim
  | [.inl _], h => exact h.elim
  | .inl _ :: .inl _ :: _, h => exact h.elim
  | .inl _ :: .inr (.inl _) :: _, h => exact h.elim
theorem pz_rii_spec {st : List pz_V} {f : Nat → Nat → Int → Int → List pz_V → Prop} (h : pz_rii st f) : ∃ k a i v r, st = .inl v :: .inl i :: .inr (.inr (k, a)) :: r ∧ f k a i v r := by
  match st, h with
  | .inl v :: .inl i :: .inr (.inr (k, a)) :: r, h => exact ⟨k, a, i, v, r, rfl, h⟩
  | [], h => exact h.elim
  | .inr _ :: _, h => exact h.elim
  | [.inl _], h => exact h.elim
  | .inl _ :: .inr _ :: _, h => exact h.elim
  | [.inl _, .inl _], h => exact h.elim
  | .inl _ :: .inl _ :: .inl _ :: _, h => exact h.elim
  | .inl _ :: .inl _ :: .inr (.inl _) :: _, h => exact h.elim
theorem pz_b_spec {b : Bool} {P : Prop} (h : pz_b b P) : b = true ∧ P := by
  cases b with
  | true => exact ⟨rfl, h⟩
  | false => exact h.elim
theorem pz_all {v : pz_V} {st : List pz_V} (h : pz_cv v) (hs : ∀ w ∈ st, pz_cv w) : ∀ w ∈ v :: st, pz_cv w := List.forall_mem_cons.mpr ⟨h, hs⟩
theorem pz_tlm {v : pz_V} {st : List pz_V} (hs : ∀ w ∈ v :: st, pz_cv w) : pz_cv v ∧ ∀ w ∈ st, pz_cv w := List.forall_mem_cons.mp hs
theorem pz_wf_spec {cc : ByteArray} {pc : Nat} {I : Instr} {len nx : Nat} {tg : List Nat} (h : pz_wf cc (pc, I, len, nx, tg) = true) : decode cc pc = .ok (I, len) ∧ nx = pc + len ∧ pz_sl I len 0 = true ∧ pz_tok pc I tg = true ∧ pz_imm I = true := by
  unfold pz_wf at h
  simp only [Bool.and_eq_true, decide_eq_true_eq] at h
  exact ⟨h.1, h.2.1, h.2.2.1, h.2.2.2.1, h.2.2.2.2⟩
theorem pz_cu {M : pz_M} (h : ∀ a k : Nat, pz_c (M a k)) {a k : Nat} {v : Int} (hv : pz_c v) : ∀ b j : Nat, pz_c (pz_u M a k v b j) := by
  intro b j
  unfold pz_u
  split
  · exact hv
  · exact h b j
theorem pz_pf_ok {ci k : Nat} {C : String} {T : u_T} {N : Nat} (h : vwCl[ci]? = some (C, T, N)) (hk : k < N) : N = pz_nf ci ∧ (pz_pf ci k = 1 → (T k).2.2.1 = "I" ∧ (T k).2.2.2 = false ∧ pz_rk ci k = none) ∧ (pz_pf ci k = 2 → (T k).2.2.1 = "Z" ∧ (T k).2.2.2 = false ∧ pz_rk ci k = none) := by
  have hci : ci < 13 := (List.getElem?_eq_some_iff.mp h).1
  have hN : N = pz_nf ci := by
    match ci, h with
    | 0, h => cases h; rfl
    | 1, h => cases h; rfl
    | 2, h => cases h; rfl
    | 3, h => cases h; rfl
    | 4, h => cases h; rfl
    | 5, h => cases h; rfl
    | 6, h => cases h; rfl
    | 7, h => cases h; rfl
    | 8, h => cases h; rfl
    | 9, h => cases h; rfl
    | 10, h => cases h; rfl
    | 11, h => cases h; rfl
    | 12, h => cases h; rfl
    | k + 13, h => simp [vwCl] at h
  have h1 := pz_ckc_ok ci hci k (by rw [← hN]; exact hk)
  unfold pz_ckc at h1
  rw [h] at h1
  refine ⟨hN, fun e => ?_, fun e => ?_⟩
  · rw [e] at h1
    simp only [Bool.and_eq_true, decide_eq_true_eq] at h1
    exact h1.2
  · rw [e] at h1
    simp only [Bool.and_eq_true, decide_eq_true_eq] at h1
    exact h1.2
section PZS
variable {p : Program} {l : Launch} {e : Env} {R : Room} {s : State} {m : MethodId} {args : Array Value} {below : List Frame} {meth : Method} {c : Code} {cells slots : Nat} {Q : State → Prop}
variable {cc : ByteArray} {own : String} {nL : Nat} {D : va_G} {ad adV : Nat → Nat} {cy : Nat → ClassId} {A : Nat → Prop}
def pz_Ok (p : Program) (l : Launch) (e : Env) (R : Room) (s : State) (m : MethodId) (args : Array Value) (below : List Frame) (meth : Method) (c : Code) (cells slots : Nat) (Q : State → Prop) (nL : Nat) (D : va_G) (ad : Nat → Nat) (cy : Nat → ClassId) (A : Nat → Prop) : pz_F := fun pc lo st M =>
  ∀ (H : Heap) (locs : List Loc) (ls : Array Slot), va_P D vwCl (pz_ws ad cy M) H → va_S A s.heap H locs → (∀ a k : Nat, pz_c (M a k)) → pz_LV ad ls nL lo → (∀ v ∈ st, pz_cv v) →
    W p l e R s m args below meth c H locs cells slots Q (F0 m pc ls (st.map (pz_v ad)))
/-- the fixed things of a method's run -/
def pz_Y (p : Program) (s : State) (m : MethodId) (args : Array Value) (c : Code) (cc : ByteArray) (own : String) (nL : Nat) (D : va_G) (ad adV : Nat → Nat) (cy : Nat → ClassId) (A : Nat → Prop) : Prop :=
  p.tables.exec = Jvm.exec ∧ c.code = cc ∧ c.maxLocals = nL ∧ s.vm.findClass own = some m.cls ∧ (∀ w ∈ pz_tbl, w.before args s = true) ∧ pz_X D ad adV cy A s s.heap
def pz_flok (own : String) (q : Nat × Nat × Nat) : Prop := ∃ (C : String) (T : u_T) (N : Nat), vwCl[q.2.1]? = some (C, T, N) ∧ q.2.2 < N ∧ Cond.fieldLink own q.1 (T q.2.2).1 (T q.2.2).2.1 (T q.2.2).2.2.1 ∈ pz_tbl
def pz_ciok (own : String) (i : Nat) : pz_V → Prop
  | .inl x => Cond.constant own i (Int32.ofInt x) ∈ pz_tbl ∧ pz_c x
  | .inr (.inl x) => Cond.constantLong own i (Int64.ofInt x) ∈ pz_tbl ∧ pz_cl x
  | .inr (.inr q) => ∃ j tx, q = (99, 206 + j) ∧ pz_ss[j]? = some (own, i, tx)
end PZS
end
