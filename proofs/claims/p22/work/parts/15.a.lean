/-! the constructors: a world of any cells ahead, the new ones behind -/
def pz_nws : List (String × Nat × MethodName) := [(RX0, 17, yX5_init), (RX11, 23, yX10_init), (RX10, 11, yX3_init), (RX10, 20, yX6_init), (RX11, 50, yX7_init), (RX9, 11, yX3_init), (RX9, 20, yX6_init), (RX11, 79, yX8_init)]
def pz_B (D : va_G) (cy : Nat → ClassId) (U : State) : Prop := va_K D vwCl (pz_ty cy) U ∧ (∀ q ∈ pz_nws, va_Nw (.methodLinkNest q.1 q.2.1 q.2.2 "TwelveChain") U) ∧ va_AO "TwelveChain$Link" U ∧ va_AO "TwelveChain$Chain" U
theorem pz_B.warm {D : va_G} {cy : Nat → ClassId} {s U : State} (hW : s.WarmedH U.vm) (h : pz_B D cy s) : pz_B D cy U := ⟨h.1.moved hW.alike, fun q hq => va_Nw.warmM hW (h.2.1 q hq), h.2.2.1.moved hW.alike, h.2.2.2.moved hW.alike⟩
theorem pz_B.same {D : va_G} {cy : Nat → ClassId} {u U : State} (hv : U.vm = u.vm) (h : pz_B D cy u) : pz_B D cy U := ⟨h.1.moved (by rw [hv]; exact Vm.Alike.refl u.vm), fun q hq => va_Nw.same rfl hv.symm (h.2.1 q hq), h.2.2.1.moved (by rw [hv]; exact Vm.Alike.refl u.vm), h.2.2.2.moved (by rw [hv]; exact Vm.Alike.refl u.vm)⟩
def pz_GN (D : va_G) (cy : Nat → ClassId) (A : Nat → Prop) (ws : va_W) (U : State) : Prop := va_P D vwCl ws U.heap ∧ pz_B D cy U ∧ va_D A ws ∧ ∀ q : Nat, U.heap.size ≤ q → A q
def pz_N (y : MethodName) (cc : ByteArray) (maxL : Nat) (fr lo mc ms : Nat) (av : List Value) (D : va_G) (cy : Nat → ClassId) (A : Nat → Prop) (ws : va_W) (Pst : va_W → Prop) : Prop :=
  ∀ l : Launch, Met l y (.code y cc maxL none :: pz_tbl) { frames := fr, cells := mc, slots := ms, locals := lo } (va_Pc av (pz_GN D cy A ws))
    (fun _ st o t => (o = .returned none ∧ ∃ ws' : va_W, Pst ws' ∧ va_P D vwCl ws' t.heap ∧ va_D A ws') ∧ va_F A st t) mc ms A
def pz_Yn (p : Program) (s : State) (m : MethodId) (args : Array Value) (meth : Method) (c : Code) (cc : ByteArray) (own : String) (nL : Nat) (D : va_G) (cy : Nat → ClassId) : Prop :=
  p.tables.exec = Jvm.exec ∧ c.code = cc ∧ c.maxLocals = nL ∧ s.vm.findClass own = some m.cls ∧ (∀ w ∈ pz_tbl, w.before args s = true) ∧ pz_B D cy s ∧ meth.name = "<init>"
def pz_Ym (p : Program) (s : State) (m : MethodId) (args : Array Value) (c : Code) (cc : ByteArray) (own : String) (nL : Nat) (D : va_G) (cy : Nat → ClassId) : Prop :=
  p.tables.exec = Jvm.exec ∧ c.code = cc ∧ c.maxLocals = nL ∧ s.vm.findClass own = some m.cls ∧ (∀ w ∈ pz_tbl, w.before args s = true) ∧ pz_B D cy s
theorem pz_nblind (D : va_G) (cy : Nat → ClassId) (A : Nat → Prop) (av : List Value) (ws : va_W) : FrameBlind (va_Pc av (pz_GN D cy A ws)) :=
  fun _ U g mk q => ⟨q.1, q.2.1, pz_B.same (u := U) (U := U.calling g mk _) rfl q.2.2.1, q.2.2.2⟩
theorem pz_Nmk {y : MethodName} {cc : ByteArray} {maxL : Nat} {fr lo mc ms : Nat} {av : List Value} {D : va_G} {cy : Nat → ClassId} {A : Nat → Prop} {ws : va_W} {Pst : va_W → Prop} (hy : plainFor y = true) (hy1 : y.name = "<init>")
    (vc : ∀ (p : Program) (l : Launch) (e : Env) (s : State) (m : MethodId) (below : List Frame) (meth : Method) (c : Code) (Q : State → Prop), pz_Yn p s m av.toArray meth c cc y.cls maxL D cy → va_P D vwCl ws s.heap → va_D A ws → (∀ q : Nat, s.heap.size ≤ q → A q) →
      (∀ (H : Heap) (locs : List Loc) (ls : Array Slot) (pc k n : Nat) (ws' : va_W), va_P D vwCl ws' H → va_D A ws' → va_S A s.heap H locs → Pst ws' → k ≤ mc → n ≤ ms → decode cc pc = .ok (.return_, 1) → W p l e { frames := fr, cells := mc, slots := ms, locals := lo } s m av.toArray below meth c H locs k n Q (F0 m pc ls [])) →
      W p l e { frames := fr, cells := mc, slots := ms, locals := lo } s m av.toArray below meth c s.heap [] 0 0 Q (F0 m 0 ((lg_sl av ++ List.replicate (maxL - (lg_sl av).length) Slot.unset).toArray) [])) : pz_N y cc maxL fr lo mc ms av D cy A ws Pst := by
  intro l
  refine va_MetF (cc := cc) (maxL := maxL) (ret := none) hy rfl ?_
  intro p e s m args below meth c s₁ B hml hv
  obtain ⟨rfl, hP, hB, hD, hA⟩ := hv
  have hx := B.exec
  have hb := B.bytes
  have hr := B.returns
  have hts0 := atoms_spec (ws := .code y cc maxL none :: pz_tbl) B.pre
  have hts : ∀ w ∈ pz_tbl, w.before av.toArray s = true := fun w hw => hts0 w (List.mem_cons_of_mem _ hw)
  have hown2 : s.vm.findClass y.cls = some m.cls := findClass_of_methodNamed B.named
  have hlocks := B.notSynchronized
  have hin : meth.name = "<init>" := (name_of_methodNamed B.named B.method).1.trans hy1
  rw [lg_entry_eq]
  refine vc p l e s m below meth c _ ⟨hx, hb, hml, hown2, hts, hB, hin⟩ hP hD hA ?_
  intro H locs ls pc k n ws' hP' hD' hS' hq hk hn hd
  refine W.widen (k := mc) (n := ms) hk hn ?_
  exact W.vret hx hb (by rw [hr]) (fun t ht hW => ⟨⟨rfl, ws', hq, by rw [ht]; exact hP', hD'⟩, by rw [ht]; exact hS'.1, fun q h1 h2 => by rw [ht]; exact hS'.2.1 q h1 h2⟩) hS'.2.2 hd
section PZN
variable {p : Program} {l : Launch} {e : Env} {R : Room} {s : State} {m : MethodId} {args : Array Value} {below : List Frame} {meth : Method} {c : Code} {cells slots : Nat} {Q : State → Prop}
variable {cc : ByteArray} {own : String} {nL : Nat} {D : va_G} {cy : Nat → ClassId} {A : Nat → Prop}
theorem pz_NfromRun {H : Heap} {locs : List Loc} {ls : Array Slot} {st0 rest : List Value} {pc mc ms : Nat} {Pst : va_W → Prop}
    (hr : va_Run p l e R s m args below meth c H locs cells slots mc ms (F0 m pc ls st0) rest (fun st o t => (o = .returned none ∧ ∃ ws' : va_W, Pst ws' ∧ va_P D vwCl ws' t.heap ∧ va_D A ws') ∧ va_F A st t) A) (hS : va_S A s.heap H locs)
    (kk : ∀ (H' : Heap) (locs' : List Loc) (ws' : va_W), Pst ws' → va_P D vwCl ws' H' → va_D A ws' → va_S A s.heap H' locs' → W p l e R s m args below meth c H' locs' (cells + mc) (slots + ms) Q (F0 m (pc + 3) ls rest)) : W p l e R s m args below meth c H locs cells slots Q (F0 m pc ls st0) := by
  intro T hT X
  obtain ⟨v, st₀, t, T', L, h0, X', hL, e1, e2, ⟨⟨q3, ws', hq, q4, q6⟩, q5⟩, st⟩ := hr T hT X
  have hv : v = none := by cases q3; rfl
  subst hv
  have hS' : va_S A s.heap T'.heap (locs ++ L) := by
    refine ⟨?_, fun q h1 h2 => ?_, fun x hx => ?_⟩
    · have a1 := hS.1
      have a2 := q5.1
      rw [h0] at a2
      rw [e1]
      omega
    · have a1 := hS.1
      have a3 := q5.2 q (by rw [h0]; omega) h2
      rw [e1, a3, h0]
      exact hS.2.1 q h1 h2
    · rcases List.mem_append.mp hx with hx | hx
      · exact hS.2.2 x hx
      · exact hL x hx
  obtain ⟨t2, a1, b1⟩ := kk T'.heap (locs ++ L) ws' hq (by rw [e1]; exact q4) q6 hS' T' rfl X'
  exact ⟨t2, st t2 a1, b1⟩
theorem pz_NcI (Y : pz_Ym p s m args c cc own nL D cy) (hA : ∀ q : Nat, s.heap.size ≤ q → A q) {i n h : Nat} {y : MethodName} {bytes : ByteArray} {maxL fr' lo' mc ms : Nat} {t : List Value} {ws : va_W} {Pst : va_W → Prop} (hH : pz_N y bytes maxL fr' lo' mc ms (.ref h :: t) D cy A ws Pst) (hcs : cells + mc ≤ R.cells ∧ slots + ms ≤ R.slots) (hfr : fr' + 1 ≤ R.frames) (hlo : 8 + (maxL + 11) + lo' ≤ R.locals)
    (hn : t.length = n) (hy1 : y.name = "<init>") (hd : y.cls ≠ "java/lang/invoke/MethodHandle" ∧ y.cls ≠ "java/lang/invoke/VarHandle" ∧ (parseMethodDescriptor y.desc).map (fun d => d.parameters.length) = some n) (hw : .code y bytes maxL none ∈ pz_tbl ∧ .instanceMethod y ∈ pz_tbl ∧ .initialized y.cls ∈ pz_tbl) (hl : .methodLink own i y ∈ pz_tbl ∨ (own, i, y) ∈ pz_nws)
    {H : Heap} {locs : List Loc} {ls : Array Slot} {rest st0 : List Value} {pc : Nat} (hst : st0 = t.reverse ++ .ref h :: rest) (hdg : decode cc pc = .ok (.invokespecial i, 3)) (hP : va_P D vwCl ws H) (hD : va_D A ws) (hS : va_S A s.heap H locs) (hls : ls.size = nL) (hrest : (rest.map fun v => v.category).sum ≤ 8)
    (kk : ∀ (H' : Heap) (locs' : List Loc) (ws' : va_W), Pst ws' → va_P D vwCl ws' H' → va_D A ws' → va_S A s.heap H' locs' → W p l e R s m args below meth c H' locs' (cells + mc) (slots + ms) Q (F0 m (pc + 3) ls rest)) : W p l e R s m args below meth c H locs cells slots Q (F0 m pc ls st0) := by
  subst hst
  obtain ⟨hx, hb, hml, hown, hts, hB⟩ := Y
  obtain ⟨w1, w3, w5⟩ := hw
  have hpS : PreS s H (va_Pc (.ref h :: t) (pz_GN D cy A ws)) (.ref h :: t) := ⟨pz_nblind D cy A _ ws, fun U hU hW => ⟨rfl, by rw [hU]; exact hP, hB.warm hW, hD, fun q hq => hA q (by have := hS.1; rw [hU] at hq; omega)⟩⟩
  have hgood : GoodIn pz_tbl (Cond.code y bytes maxL none :: pz_tbl) := pz_good (by
    intro w hw
    rcases List.mem_cons.mp hw with rfl | hw
    · exact w1
    · exact hw)
  rcases hl with w2 | w2
  · exact pz_NfromRun (va_runI (p := p) (e := e) (R := R) (s := s) (m := m) (args := args) (below := below) (meth := meth) (c := c) (H := H) (locs := locs) (cells := cells) (slots := slots) (nL := nL) (own := own) (index := i) (n := n) (b := h) (As := t) (rest := rest) (g := F0 m pc ls (t.reverse ++ .ref h :: rest)) (Ts := pz_tbl)
      ⟨hx, hb, hml, hown, hts⟩ (hH l) (cwI n hts hgood rfl rfl rfl (hts _ w5) (hts _ w2) (hts _ w3) hy1 hd ⟨hfr, hlo⟩) hpS rfl hn hls rfl (by show 2 * 0 + _ ≤ 8; omega) hdg hcs) hS kk
  · exact pz_NfromRun (va_runIN (p := p) (e := e) (R := R) (s := s) (m := m) (args := args) (below := below) (meth := meth) (c := c) (H := H) (locs := locs) (cells := cells) (slots := slots) (nL := nL) (own := own) (host := "TwelveChain") (index := i) (n := n) (b := h) (As := t) (rest := rest) (g := F0 m pc ls (t.reverse ++ .ref h :: rest)) (Ts := pz_tbl)
      ⟨hx, hb, hml, hown, hts⟩ (hH l) ⟨va_cnB n hts hgood rfl rfl rfl (hB.2.1 _ w2) (hts _ w5) hd ⟨hfr, hlo⟩, hy1, hts _ w3⟩ hpS rfl hn hls rfl (by show 2 * 0 + _ ≤ 8; omega) hdg hcs) hS kk
/-- a new row of ints or bytes: its class is the known one -/
theorem pz_Nar (Y : pz_Ym p s m args c cc own nL D cy) (hA : ∀ q : Nat, s.heap.size ≤ q → A q) {at_ : ArrayType} (k : Nat) {ty : FieldType} (hty : newarray.typeOf at_ = ty) (hk : (pz_ty cy)[k]? = some (cy k, ty)) (hz : defaultValue ty = .int 0) (hno : ∀ C, ty ≠ .object C) (hw : Cond.arrayClass (newarray.typeOf at_) ∈ pz_tbl)
    {ws : va_W} {H : Heap} {locs : List Loc} {ls : Array Slot} {rest : List Value} {pc : Nat} {n : Int32} {N' : Nat} (hP : va_P D vwCl ws H) (hD : va_D A ws) (hS : va_S A s.heap H locs) (hn : ¬ n < 0) (hN : n.toNatClampNeg = N') (hbytes : N' * componentBytes ty ≤ 536870912) (hcells : cells + 1 ≤ R.cells) (hslots : slots + N' ≤ R.slots) (hdg : decode cc pc = .ok (.newarray at_, 2))
    (kk : ∀ (q : Nat) (H1 : Heap), va_P D vwCl (ws ++ [(q, .inl (cy k, N', .inl (fun _ => 0)))]) H1 → va_D A (ws ++ [(q, .inl (cy k, N', .inl (fun _ => 0)))]) → va_S A s.heap H1 locs → W p l e R s m args below meth c H1 locs (cells + 1) (slots + N') Q (F0 m (pc + 2) ls (.ref q :: rest))) : W p l e R s m args below meth c H locs cells slots Q (F0 m pc ls (.int n :: rest)) := by
  obtain ⟨hx, hb, hml, hown, hts, hB⟩ := Y
  refine va_newa (a0 := (N', .inl (fun _ => 0))) hx hb (hts _ hw) hty hB.1 hP hD hS hA (fun cA => by rw [hz]; rfl) hn hN hbytes hcells hslots hdg (fun q cA H1 hK' hP1 hD1 hS1 => ?_)
  have e1 := (hK'.2 (pz_ty cy).length (cA, ty) (by simp)).2
  have e2 := (hB.1.2 k _ hk).2
  have e3 : cA = cy k := by
    cases ty with
    | object C => exact absurd rfl (hno C)
    | _ => exact Option.some.inj ((show s.vm.findClass _ = some cA from e1).symm.trans e2)
  subst e3
  exact kk q H1 hP1 hD1 hS1
end PZN
theorem pz_xget {α : Type} {X L : List α} {i : Nat} {v : α} (h : L[i]? = some v) : (X ++ L)[X.length + i]? = some v := by
  rw [List.getElem?_append_right (by first | decide | omega), show X.length + i - X.length = i by omega]
  exact h
theorem pz_xset {α : Type} {X L : List α} {i : Nat} {v : α} : (X ++ L).set (X.length + i) v = X ++ L.set i v := by
  rw [List.set_append_right _ _ (by first | decide | omega), show X.length + i - X.length = i by omega]
theorem pz_arrV_cg {cA : ClassId} {n : Nat} {f g : Nat → Value} (h : ∀ j, j < n → f j = g j) : arrV cA n f = arrV cA n g := by
  unfold arrV
  congr 1
  apply Array.ext
  · simp
  · intro i h1 h2
    simp only [Array.getElem_ofFn]
    exact h i (by simpa using h1)
theorem pz_atq {D : va_G} {cl : List vw_C} {H : Heap} {a : Nat} {cA : ClassId} {n : Nat} {F G : Nat → Option Nat} (hFG : ∀ j, j < n → F j = G j) (h : va_at D cl (a, .inl (cA, n, .inr (.inr (.inr (.inr F))))) H) : va_at D cl (a, .inl (cA, n, .inr (.inr (.inr (.inr G))))) H := by
  have h : H[a]? = some (vp_cell cA (n, .inr (.inr (.inr (.inr F))))) := h
  show H[a]? = some (vp_cell cA (n, .inr (.inr (.inr (.inr G)))))
  rw [h, vp_cell_q, vp_cell_q, pz_arrV_cg (f := fun j => va_rf (F j)) (g := fun j => va_rf (G j)) (fun j hj => by rw [hFG j hj])]
theorem pz_Pq {D : va_G} {cl : List vw_C} {H : Heap} {ws : va_W} {i a : Nat} {cA : ClassId} {n : Nat} {F G : Nat → Option Nat} (hi : ws[i]? = some (a, .inl (cA, n, .inr (.inr (.inr (.inr F)))))) (hFG : ∀ j, j < n → F j = G j) (h : va_P D cl ws H) : va_P D cl (ws.set i (a, .inl (cA, n, .inr (.inr (.inr (.inr G)))))) H := by
  intro k q hk
  by_cases hki : i = k
  · subst hki
    have hl : i < ws.length := (List.getElem?_eq_some_iff.mp hi).1
    rw [List.getElem?_set_self hl] at hk
    cases hk
    exact pz_atq hFG (h i _ hi)
  · rw [List.getElem?_set_ne hki] at hk
    exact h k q hk
theorem pz_Ncq {U : State} {c c' : ClassId} {C : String} (h : va_RA U c (.object C)) (h' : va_RA U c' (.object C)) : c = c' := by
  obtain ⟨_, _, _, _, _, e⟩ := h
  obtain ⟨_, _, _, _, _, e'⟩ := h'
  exact Option.some.inj (e.symm.trans e')
def pz_PD (D : va_G) (A : Nat → Prop) (ws : va_W) (H : Heap) : Prop := va_P D vwCl ws H ∧ va_D A ws
abbrev pz_LN (h : Nat) : Nat × va_E := (h, .inr (5, [.int 0, .int 0, .int 0, .int 0, .int 0, .int 0, .int 0, .int (-1)]))
def pz_b6 (cy : Nat → ClassId) (h : Nat) (g : Nat → Nat) : va_W := [(h, .inr (6, [.int 0, .ref (g 0)])), (g 0, .inl (cy 0, 80, .inl (fun _ => 0)))]
def pz_b3 (cy : Nat → ClassId) (h : Nat) (g : Nat → Nat) : va_W := [(h, .inr (3, [.int 0, .int 0, .ref (g 0), .ref (g 1), .ref (g 2), .ref (g 3), .ref (g 4), .ref (g 5)])), (g 0, .inl (cy 0, 16, .inl (fun _ => 0))), (g 1, .inl (cy 0, 16, .inl (fun _ => 0))), (g 2, .inl (cy 0, 16, .inl (fun _ => 0))), (g 3, .inl (cy 0, 16, .inl (fun _ => 0))), (g 4, .inl (cy 0, 400, .inl (fun _ => 0))), (g 5, .inl (cy 0, 64, .inl (fun _ => 0)))]
def pz_b7 (cy : Nat → ClassId) (h : Nat) (g : Nat → Nat) : va_W := [(h, .inr (7, [.ref (g 0), .int 0, .ref (g 1), .ref (g 2), .ref (g 3)])), (g 0, .inl (cy 1, 400, .inl (fun _ => 0))), (g 1, .inl (cy 0, 401, .inl (fun _ => 0))), (g 2, .inl (cy 0, 401, .inl (fun _ => 0))), (g 3, .inl (cy 0, 401, .inl (fun _ => 0)))]
def pz_b8 (cy : Nat → ClassId) (h : Nat) (g : Nat → Nat) : va_W := [(h, .inr (8, [.int 0, .int 0, .int 0, .int 0, .ref (g 0), .ref (g 1), .ref (g 2), .ref (g 3)])), (g 0, .inl (cy 0, 12, .inl (fun _ => 0))), (g 1, .inl (cy 0, 12, .inl (fun _ => 0))), (g 2, .inl (cy 0, 12, .inl (fun _ => 0))), (g 3, .inl (cy 0, 4096, .inl (fun _ => 0)))]
def pz_b4 (cy : Nat → ClassId) (h lw : Nat) (g : Nat → Nat) : va_W := [(h, .inr (4, [.ref lw, .ref (g 0), .ref (g 1), .ref (g 2), .ref (g 3)])), (g 0, .inl (cy 0, 12, .inl (fun _ => 0))), (g 1, .inl (cy 0, 12, .inl (fun _ => 0))), (g 2, .inl (cy 0, 12, .inl (fun _ => 0))), (g 3, .inl (cy 0, 144, .inl (fun _ => 0)))]
def pz_b1 (_ : Nat → ClassId) (h tx pg : Nat) (_ : Nat → Nat) : va_W := [(h, .inr (1, [.ref tx, .ref pg]))]
def pz_b9 (cy : Nat → ClassId) (h tp : Nat) (g : (Nat × (Nat → Nat)) × Nat × (Nat → Nat)) : va_W := [(h, .inr (9, [.ref tp, .ref g.1.1, .ref g.2.1, .int 0, .int (-1), .int 0, .int 0, .int 0, .int 0, .int 0]))] ++ pz_b3 cy g.1.1 g.1.2 ++ pz_b6 cy g.2.1 g.2.2
def pz_b10 (cy : Nat → ClassId) (h : Nat) (g : (Nat × (Nat → Nat)) × (Nat × (Nat → Nat)) × (Nat × (Nat → Nat)) × Nat × (Nat → Nat)) : va_W := [(h, .inr (10, [.ref g.1.1, .ref g.2.1.1, .ref g.2.2.1.1, .ref g.2.2.2.1]))] ++ pz_b3 cy g.1.1 g.1.2 ++ pz_b6 cy g.2.1.1 g.2.1.2 ++ pz_b6 cy g.2.2.1.1 g.2.2.1.2 ++ pz_b6 cy g.2.2.2.1 g.2.2.2.2
def pz_b0 (cy : Nat → ClassId) (h : Nat) (t : Int32) (g : Nat → Nat) : va_W := [(h, .inr (0, [.int t, .ref (g 0), .ref (g 1), .int 0, .int 0, .int 0, .int 0, .int 0])), (g 0, .inl (cy 2, 12, .inr (.inr (.inr (.inr (fun j => some (g (2 + j)))))))), (g 1, .inr (5, [.int 0, .int 0, .int 0, .int 0, .int 0, .int 0, .int 0, .int (-1)])), (g 2, .inr (5, [.int 0, .int 0, .int 0, .int 0, .int 0, .int 0, .int 0, .int (-1)])), (g 3, .inr (5, [.int 0, .int 0, .int 0, .int 0, .int 0, .int 0, .int 0, .int (-1)])), (g 4, .inr (5, [.int 0, .int 0, .int 0, .int 0, .int 0, .int 0, .int 0, .int (-1)])), (g 5, .inr (5, [.int 0, .int 0, .int 0, .int 0, .int 0, .int 0, .int 0, .int (-1)])), (g 6, .inr (5, [.int 0, .int 0, .int 0, .int 0, .int 0, .int 0, .int 0, .int (-1)])), (g 7, .inr (5, [.int 0, .int 0, .int 0, .int 0, .int 0, .int 0, .int 0, .int (-1)])), (g 8, .inr (5, [.int 0, .int 0, .int 0, .int 0, .int 0, .int 0, .int 0, .int (-1)])), (g 9, .inr (5, [.int 0, .int 0, .int 0, .int 0, .int 0, .int 0, .int 0, .int (-1)])), (g 10, .inr (5, [.int 0, .int 0, .int 0, .int 0, .int 0, .int 0, .int 0, .int (-1)])), (g 11, .inr (5, [.int 0, .int 0, .int 0, .int 0, .int 0, .int 0, .int 0, .int (-1)])), (g 12, .inr (5, [.int 0, .int 0, .int 0, .int 0, .int 0, .int 0, .int 0, .int (-1)])), (g 13, .inr (5, [.int 0, .int 0, .int 0, .int 0, .int 0, .int 0, .int 0, .int (-1)]))]
def pz_b2 (cy : Nat → ClassId) (h : Nat) (g : (Nat → Nat) × (Nat → Nat → Nat)) : va_W := [(h, .inr (2, [.ref (g.1 0), .int 0, .int 0])), (g.1 0, .inl (cy 3, 6, .inr (.inr (.inr (.inr (fun j => some (g.1 (1 + j))))))))] ++ pz_b0 cy (g.1 1) 0 (g.2 0) ++ pz_b0 cy (g.1 2) 0 (g.2 1) ++ pz_b0 cy (g.1 3) 0 (g.2 2) ++ pz_b0 cy (g.1 4) 0 (g.2 3) ++ pz_b0 cy (g.1 5) 0 (g.2 4) ++ pz_b0 cy (g.1 6) 0 (g.2 5)
def pz_b12 (cy : Nat → ClassId) (h : Nat) (g : Nat → Nat) : va_W := [(h, .inr (12, [.ref (g 0), .ref (g 1), .ref (g 2), .ref (g 3), .int 0, .int 0, .ref (g 4), .ref (g 5), .ref (g 6), .ref (g 7), .ref (g 8), .ref (g 9), .int 0, .int 0, .int 0, .int 0, .int 0, .int 0, .int 0, .int 0, .int 0, .int 0, .int 0, .int 0, .int 0, .int (-1), .int 0, .ref (g 10)])), (g 0, .inl (cy 0, 1725, .inl (fun _ => 0))), (g 1, .inl (cy 0, 1725, .inl (fun _ => 0))), (g 2, .inl (cy 0, 528, .inl (fun _ => 0))), (g 3, .inl (cy 0, 88, .inl (fun _ => 0))), (g 4, .inl (cy 0, 64, .inl (fun _ => 0))), (g 5, .inl (cy 0, 820, .inl (fun _ => 0))), (g 6, .inl (cy 0, 80, .inl (fun _ => 0))), (g 7, .inl (cy 0, 400, .inl (fun _ => 0))), (g 8, .inl (cy 0, 420, .inl (fun _ => 0))), (g 9, .inl (cy 0, 10, .inl (fun _ => 0))), (g 10, .inl (cy 0, 4096, .inl (fun _ => 0)))]
theorem pz_dv5 : ∀ j, j < 8 → defaultValue (tyX5 j) = vp_V [.int 0, .int 0, .int 0, .int 0, .int 0, .int 0, .int 0, .int 0] j := fun j hj => match j, hj with | 0, _ => rfl | 1, _ => rfl | 2, _ => rfl | 3, _ => rfl | 4, _ => rfl | 5, _ => rfl | 6, _ => rfl | 7, _ => rfl | n + 8, h => absurd h (by first | decide | omega)
theorem pz_dv6 : ∀ j, j < 2 → defaultValue (tyX6 j) = vp_V [.int 0, .null] j := fun j hj => match j, hj with | 0, _ => rfl | 1, _ => rfl | n + 2, h => absurd h (by first | decide | omega)
theorem pz_dv3 : ∀ j, j < 8 → defaultValue (tyX3 j) = vp_V [.int 0, .int 0, .null, .null, .null, .null, .null, .null] j := fun j hj => match j, hj with | 0, _ => rfl | 1, _ => rfl | 2, _ => rfl | 3, _ => rfl | 4, _ => rfl | 5, _ => rfl | 6, _ => rfl | 7, _ => rfl | n + 8, h => absurd h (by first | decide | omega)
theorem pz_dv7 : ∀ j, j < 5 → defaultValue (tyX7 j) = vp_V [.null, .int 0, .null, .null, .null] j := fun j hj => match j, hj with | 0, _ => rfl | 1, _ => rfl | 2, _ => rfl | 3, _ => rfl | 4, _ => rfl | n + 5, h => absurd h (by first | decide | omega)
theorem pz_dv8 : ∀ j, j < 8 → defaultValue (tyX8 j) = vp_V [.int 0, .int 0, .int 0, .int 0, .null, .null, .null, .null] j := fun j hj => match j, hj with | 0, _ => rfl | 1, _ => rfl | 2, _ => rfl | 3, _ => rfl | 4, _ => rfl | 5, _ => rfl | 6, _ => rfl | 7, _ => rfl | n + 8, h => absurd h (by first | decide | omega)
theorem pz_dv4 : ∀ j, j < 5 → defaultValue (tyX4 j) = vp_V [.null, .null, .null, .null, .null] j := fun j hj => match j, hj with | 0, _ => rfl | 1, _ => rfl | 2, _ => rfl | 3, _ => rfl | 4, _ => rfl | n + 5, h => absurd h (by first | decide | omega)
theorem pz_dv1 : ∀ j, j < 2 → defaultValue (tyX1 j) = vp_V [.null, .null] j := fun j hj => match j, hj with | 0, _ => rfl | 1, _ => rfl | n + 2, h => absurd h (by first | decide | omega)
theorem pz_dv12 : ∀ j, j < 28 → defaultValue (tyX12 j) = vp_V [.null, .null, .null, .null, .int 0, .int 0, .null, .null, .null, .null, .null, .null, .int 0, .int 0, .int 0, .int 0, .int 0, .int 0, .int 0, .int 0, .int 0, .int 0, .int 0, .int 0, .int 0, .int 0, .int 0, .null] j := fun j hj => match j, hj with | 0, _ => rfl | 1, _ => rfl | 2, _ => rfl | 3, _ => rfl | 4, _ => rfl | 5, _ => rfl | 6, _ => rfl | 7, _ => rfl | 8, _ => rfl | 9, _ => rfl | 10, _ => rfl | 11, _ => rfl | 12, _ => rfl | 13, _ => rfl | 14, _ => rfl | 15, _ => rfl | 16, _ => rfl | 17, _ => rfl | 18, _ => rfl | 19, _ => rfl | 20, _ => rfl | 21, _ => rfl | 22, _ => rfl | 23, _ => rfl | 24, _ => rfl | 25, _ => rfl | 26, _ => rfl | 27, _ => rfl | n + 28, h => absurd h (by first | decide | omega)
theorem pz_dv9 : ∀ j, j < 10 → defaultValue (tyX9 j) = vp_V [.null, .null, .null, .int 0, .int 0, .int 0, .int 0, .int 0, .int 0, .int 0] j := fun j hj => match j, hj with | 0, _ => rfl | 1, _ => rfl | 2, _ => rfl | 3, _ => rfl | 4, _ => rfl | 5, _ => rfl | 6, _ => rfl | 7, _ => rfl | 8, _ => rfl | 9, _ => rfl | n + 10, h => absurd h (by first | decide | omega)
theorem pz_dv10 : ∀ j, j < 4 → defaultValue (tyX10 j) = vp_V [.null, .null, .null, .null] j := fun j hj => match j, hj with | 0, _ => rfl | 1, _ => rfl | 2, _ => rfl | 3, _ => rfl | n + 4, h => absurd h (by first | decide | omega)
theorem pz_dv0 : ∀ j, j < 8 → defaultValue (tyX0 j) = vp_V [.int 0, .null, .null, .int 0, .int 0, .int 0, .int 0, .int 0] j := fun j hj => match j, hj with | 0, _ => rfl | 1, _ => rfl | 2, _ => rfl | 3, _ => rfl | 4, _ => rfl | 5, _ => rfl | 6, _ => rfl | 7, _ => rfl | n + 8, h => absurd h (by first | decide | omega)
theorem pz_dv2 : ∀ j, j < 3 → defaultValue (tyX2 j) = vp_V [.null, .int 0, .int 0] j := fun j hj => match j, hj with | 0, _ => rfl | 1, _ => rfl | 2, _ => rfl | n + 3, h => absurd h (by first | decide | omega)
set_option maxRecDepth 100000 in
set_option maxHeartbeats 4000000 in
theorem h_N_X5 {D : va_G} {cy : Nat → ClassId} {A : Nat → Prop} {X : va_W} {h0 : Nat} : pz_N yX5_init cX5_init 1 1 12 0 0 [.ref h0] D cy A (X ++ [(h0, .inr (5, [.int 0, .int 0, .int 0, .int 0, .int 0, .int 0, .int 0, .int 0]))]) (fun ws' => ws' = X ++ [(h0, .inr (5, [.int 0, .int 0, .int 0, .int 0, .int 0, .int 0, .int 0, .int (-1)]))]) := by
  refine pz_Nmk (pz_pfc_RX5 yX5_init rfl) rfl ?_
  intro p l e s m below meth c Q Y hP hD hA Kr
  obtain ⟨hx, hb, hml, hown, hts, hB, hin⟩ := Y
  have Y : pz_Ym p s m _ c _ _ _ D cy := ⟨hx, hb, hml, hown, hts, hB⟩
  have hS : va_S A s.heap s.heap [] := va_S.rf
  have hl := lv_entry [.ref h0] (n := 1) (Nat.le_of_ble_eq_true rfl)
  generalize (lg_sl ([.ref h0] : List Value) ++ List.replicate (1 - (lg_sl ([.ref h0] : List Value)).length) Slot.unset).toArray = ls at hl ⊢
  have hl : lv_has ls 1 [(0, .ref h0)] := hl
  refine lv_aload_n hx hb (k := 0) (show decode cX5_init 0 = .ok (.aload_n 0, 1) from by decide +kernel) rfl (lv_at hl 0 rfl) ?_
  refine W.objInit hx hb hown (hts (.methodLink RX5 3 objectInit) (pz_tbl_in pz_wq41 rfl)) (hts (.instanceMethod objectInit) (pz_tbl_in pz_wq27 rfl)) (hts (.code objectInit ⟨#[0xb1]⟩ 1 none) (pz_tbl_in pz_wq28 rfl)) rfl (by rw [hml]; exact hl.1) rfl (show decode cX5_init 1 = .ok (.invokespecial 3, 3) from by decide +kernel) (Nat.le_of_ble_eq_true rfl) (Nat.le_of_ble_eq_true rfl) ?_
  refine W.eq (g2 := F0 m 4 ls []) rfl ?_
  refine lv_aload_n hx hb (k := 0) (show decode cX5_init 4 = .ok (.aload_n 0, 1) from by decide +kernel) rfl (lv_at hl 0 rfl) ?_
  refine lv_iconst hx hb (v := (-1)) (show decode cX5_init 5 = .ok (.iconst (-1), 1) from by decide +kernel) (by decide) ?_
  refine va_put (D := D) (ci := 5) (v := .int (-1)) (ty := tyX5 7) (C := RX5) (T := TX5) (N := 8) hx hb hts (fun w hw => pz_tbl_in (pz_in5 w hw) (pz_layg w hw)) tyX5 tyX5_ok nmX5 hown hB.1 hP hD hS (X.length + 0) (pz_xget rfl) rfl 7 (by decide) (hts (.fieldLink RX5 9 "TwelveChain$Link" "moved" "I") (pz_tbl_in pz_wq73 rfl)) (fun _ h9 => h9) rfl (tyX5_ok 7 (by decide)) rfl rfl (Nat.le_of_ble_eq_true rfl) (show decode cX5_init 6 = .ok (.putfield 9, 3) from by decide +kernel) (fun H locs hP hD hS => ?_)
  rw [pz_xset] at hP hD
  obtain ⟨hP, hD⟩ := (⟨hP, hD⟩ : pz_PD D A (X ++ [(h0, .inr (5, [.int 0, .int 0, .int 0, .int 0, .int 0, .int 0, .int 0, .int (-1)]))]) H)
  exact Kr H _ _ 9 _ _ _ hP hD hS rfl (Nat.le_of_ble_eq_true rfl) (Nat.le_of_ble_eq_true rfl) (show decode cX5_init 9 = .ok (.return_, 1) from by decide +kernel)
set_option maxRecDepth 100000 in
set_option maxHeartbeats 4000000 in
theorem h_N_X6 {D : va_G} {cy : Nat → ClassId} {A : Nat → Prop} {X : va_W} {h0 : Nat} : pz_N yX6_init cX6_init 1 1 12 1 80 [.ref h0] D cy A (X ++ [(h0, .inr (6, [.int 0, .null]))]) (fun ws' => ∃ g, ws' = X ++ pz_b6 cy h0 g) := by
  refine pz_Nmk (pz_pfc_RX6 yX6_init rfl) rfl ?_
  intro p l e s m below meth c Q Y hP hD hA Kr
  obtain ⟨hx, hb, hml, hown, hts, hB, hin⟩ := Y
  have Y : pz_Ym p s m _ c _ _ _ D cy := ⟨hx, hb, hml, hown, hts, hB⟩
  have hS : va_S A s.heap s.heap [] := va_S.rf
  have hl := lv_entry [.ref h0] (n := 1) (Nat.le_of_ble_eq_true rfl)
  generalize (lg_sl ([.ref h0] : List Value) ++ List.replicate (1 - (lg_sl ([.ref h0] : List Value)).length) Slot.unset).toArray = ls at hl ⊢
  have hl : lv_has ls 1 [(0, .ref h0)] := hl
  refine lv_aload_n hx hb (k := 0) (show decode cX6_init 0 = .ok (.aload_n 0, 1) from by decide +kernel) rfl (lv_at hl 0 rfl) ?_
  refine W.objInit hx hb hown (hts (.methodLink RX6 3 objectInit) (pz_tbl_in pz_wq176 rfl)) (hts (.instanceMethod objectInit) (pz_tbl_in pz_wq27 rfl)) (hts (.code objectInit ⟨#[0xb1]⟩ 1 none) (pz_tbl_in pz_wq28 rfl)) rfl (by rw [hml]; exact hl.1) rfl (show decode cX6_init 1 = .ok (.invokespecial 3, 3) from by decide +kernel) (Nat.le_of_ble_eq_true rfl) (Nat.le_of_ble_eq_true rfl) ?_
  refine W.eq (g2 := F0 m 4 ls []) rfl ?_
  refine lv_aload_n hx hb (k := 0) (show decode cX6_init 4 = .ok (.aload_n 0, 1) from by decide +kernel) rfl (lv_at hl 0 rfl) ?_
  refine lv_bipush hx hb (v := 80) (show decode cX6_init 5 = .ok (.bipush 80, 2) from by decide +kernel) (by decide) ?_
  refine pz_Nar (at_ := .int) Y hA 0 (ty := .int) rfl rfl rfl (fun C h => by cases h) (pz_tbl_in pz_wq170 rfl) hP hD hS (by decide) (N' := 80) (by decide) (by decide) (Nat.le_of_ble_eq_true rfl) (Nat.le_of_ble_eq_true rfl) (show decode cX6_init 7 = .ok (.newarray .int, 2) from by decide +kernel) (fun q7 H hP hD hS => ?_)
  rw [List.append_assoc] at hP hD
  obtain ⟨hP, hD⟩ := (⟨hP, hD⟩ : pz_PD D A (X ++ [(h0, .inr (6, [.int 0, .null])), (q7, .inl (cy 0, 80, .inl (fun _ => 0)))]) H)
  refine W.widen (k := 1) (n := 80) (Nat.le_of_ble_eq_true rfl) (Nat.le_of_ble_eq_true rfl) ?_
  refine va_putF (D := D) (ci := 6) (v := .ref q7) (ty := tyX6 1) (C := RX6) (T := TX6) (N := 2) hx hb hts (fun w hw => pz_tbl_in (pz_in6 w hw) (pz_layg w hw)) tyX6 tyX6_ok nmX6 hown hB.1 hP hD hS (X.length + 0) (pz_xget rfl) rfl 1 (by decide) (hts (.fieldLink RX6 9 "TwelveChain$Rows" "cells" "[I") (pz_tbl_in pz_wq182 rfl)) (fun _ h9 => h9) rfl hin rfl (tyX6_ok 1 (by decide)) rfl rfl (Nat.le_of_ble_eq_true rfl) (show decode cX6_init 9 = .ok (.putfield 9, 3) from by decide +kernel) (fun H locs hP hD hS => ?_)
  rw [pz_xset] at hP hD
  obtain ⟨hP, hD⟩ := (⟨hP, hD⟩ : pz_PD D A (X ++ [(h0, .inr (6, [.int 0, .ref q7])), (q7, .inl (cy 0, 80, .inl (fun _ => 0)))]) H)
  exact Kr H _ _ 12 _ _ _ hP hD hS ⟨fun k => [q7].getD k 0, rfl⟩ (Nat.le_of_ble_eq_true rfl) (Nat.le_of_ble_eq_true rfl) (show decode cX6_init 12 = .ok (.return_, 1) from by decide +kernel)
set_option maxRecDepth 100000 in
set_option maxHeartbeats 4000000 in
theorem h_N_X3 {D : va_G} {cy : Nat → ClassId} {A : Nat → Prop} {X : va_W} {h0 : Nat} : pz_N yX3_init cX3_init 1 1 12 6 528 [.ref h0] D cy A (X ++ [(h0, .inr (3, [.int 0, .int 0, .null, .null, .null, .null, .null, .null]))]) (fun ws' => ∃ g, ws' = X ++ pz_b3 cy h0 g) := by
  refine pz_Nmk (pz_pfc_RX3 yX3_init rfl) rfl ?_
  intro p l e s m below meth c Q Y hP hD hA Kr
  obtain ⟨hx, hb, hml, hown, hts, hB, hin⟩ := Y
  have Y : pz_Ym p s m _ c _ _ _ D cy := ⟨hx, hb, hml, hown, hts, hB⟩
  have hS : va_S A s.heap s.heap [] := va_S.rf
  have hl := lv_entry [.ref h0] (n := 1) (Nat.le_of_ble_eq_true rfl)
  generalize (lg_sl ([.ref h0] : List Value) ++ List.replicate (1 - (lg_sl ([.ref h0] : List Value)).length) Slot.unset).toArray = ls at hl ⊢
  have hl : lv_has ls 1 [(0, .ref h0)] := hl
  refine lv_aload_n hx hb (k := 0) (show decode cX3_init 0 = .ok (.aload_n 0, 1) from by decide +kernel) rfl (lv_at hl 0 rfl) ?_
  refine W.objInit hx hb hown (hts (.methodLink RX3 3 objectInit) (pz_tbl_in pz_wq141 rfl)) (hts (.instanceMethod objectInit) (pz_tbl_in pz_wq27 rfl)) (hts (.code objectInit ⟨#[0xb1]⟩ 1 none) (pz_tbl_in pz_wq28 rfl)) rfl (by rw [hml]; exact hl.1) rfl (show decode cX3_init 1 = .ok (.invokespecial 3, 3) from by decide +kernel) (Nat.le_of_ble_eq_true rfl) (Nat.le_of_ble_eq_true rfl) ?_
  refine W.eq (g2 := F0 m 4 ls []) rfl ?_
  refine lv_aload_n hx hb (k := 0) (show decode cX3_init 4 = .ok (.aload_n 0, 1) from by decide +kernel) rfl (lv_at hl 0 rfl) ?_
  refine lv_bipush hx hb (v := 16) (show decode cX3_init 5 = .ok (.bipush 16, 2) from by decide +kernel) (by decide) ?_
  refine pz_Nar (at_ := .int) Y hA 0 (ty := .int) rfl rfl rfl (fun C h => by cases h) (pz_tbl_in pz_wq170 rfl) hP hD hS (by decide) (N' := 16) (by decide) (by decide) (Nat.le_of_ble_eq_true rfl) (Nat.le_of_ble_eq_true rfl) (show decode cX3_init 7 = .ok (.newarray .int, 2) from by decide +kernel) (fun q7 H hP hD hS => ?_)
  rw [List.append_assoc] at hP hD
  obtain ⟨hP, hD⟩ := (⟨hP, hD⟩ : pz_PD D A (X ++ [(h0, .inr (3, [.int 0, .int 0, .null, .null, .null, .null, .null, .null])), (q7, .inl (cy 0, 16, .inl (fun _ => 0)))]) H)
  refine W.widen (k := 1) (n := 16) (Nat.le_of_ble_eq_true rfl) (Nat.le_of_ble_eq_true rfl) ?_
  refine va_putF (D := D) (ci := 3) (v := .ref q7) (ty := tyX3 2) (C := RX3) (T := TX3) (N := 8) hx hb hts (fun w hw => pz_tbl_in (pz_in3 w hw) (pz_layg w hw)) tyX3 tyX3_ok nmX3 hown hB.1 hP hD hS (X.length + 0) (pz_xget rfl) rfl 2 (by decide) (hts (.fieldLink RX3 9 "TwelveChain$Law" "words" "[I") (pz_tbl_in pz_wq147 rfl)) (fun _ h9 => h9) rfl hin rfl (tyX3_ok 2 (by decide)) rfl rfl (Nat.le_of_ble_eq_true rfl) (show decode cX3_init 9 = .ok (.putfield 9, 3) from by decide +kernel) (fun H locs hP hD hS => ?_)
  rw [pz_xset] at hP hD
  obtain ⟨hP, hD⟩ := (⟨hP, hD⟩ : pz_PD D A (X ++ [(h0, .inr (3, [.int 0, .int 0, .ref q7, .null, .null, .null, .null, .null])), (q7, .inl (cy 0, 16, .inl (fun _ => 0)))]) H)
  refine lv_aload_n hx hb (k := 0) (show decode cX3_init 12 = .ok (.aload_n 0, 1) from by decide +kernel) rfl (lv_at hl 0 rfl) ?_
  refine lv_bipush hx hb (v := 16) (show decode cX3_init 13 = .ok (.bipush 16, 2) from by decide +kernel) (by decide) ?_
  refine pz_Nar (at_ := .int) Y hA 0 (ty := .int) rfl rfl rfl (fun C h => by cases h) (pz_tbl_in pz_wq170 rfl) hP hD hS (by decide) (N' := 16) (by decide) (by decide) (Nat.le_of_ble_eq_true rfl) (Nat.le_of_ble_eq_true rfl) (show decode cX3_init 15 = .ok (.newarray .int, 2) from by decide +kernel) (fun q15 H hP hD hS => ?_)
  rw [List.append_assoc] at hP hD
  obtain ⟨hP, hD⟩ := (⟨hP, hD⟩ : pz_PD D A (X ++ [(h0, .inr (3, [.int 0, .int 0, .ref q7, .null, .null, .null, .null, .null])), (q7, .inl (cy 0, 16, .inl (fun _ => 0))), (q15, .inl (cy 0, 16, .inl (fun _ => 0)))]) H)
  refine W.widen (k := 2) (n := 32) (Nat.le_of_ble_eq_true rfl) (Nat.le_of_ble_eq_true rfl) ?_
  refine va_putF (D := D) (ci := 3) (v := .ref q15) (ty := tyX3 3) (C := RX3) (T := TX3) (N := 8) hx hb hts (fun w hw => pz_tbl_in (pz_in3 w hw) (pz_layg w hw)) tyX3 tyX3_ok nmX3 hown hB.1 hP hD hS (X.length + 0) (pz_xget rfl) rfl 3 (by decide) (hts (.fieldLink RX3 15 "TwelveChain$Law" "starts" "[I") (pz_tbl_in pz_wq148 rfl)) (fun _ h9 => h9) rfl hin rfl (tyX3_ok 3 (by decide)) rfl rfl (Nat.le_of_ble_eq_true rfl) (show decode cX3_init 17 = .ok (.putfield 15, 3) from by decide +kernel) (fun H locs hP hD hS => ?_)
  rw [pz_xset] at hP hD
  obtain ⟨hP, hD⟩ := (⟨hP, hD⟩ : pz_PD D A (X ++ [(h0, .inr (3, [.int 0, .int 0, .ref q7, .ref q15, .null, .null, .null, .null])), (q7, .inl (cy 0, 16, .inl (fun _ => 0))), (q15, .inl (cy 0, 16, .inl (fun _ => 0)))]) H)
  refine lv_aload_n hx hb (k := 0) (show decode cX3_init 20 = .ok (.aload_n 0, 1) from by decide +kernel) rfl (lv_at hl 0 rfl) ?_
  refine lv_bipush hx hb (v := 16) (show decode cX3_init 21 = .ok (.bipush 16, 2) from by decide +kernel) (by decide) ?_
  refine pz_Nar (at_ := .int) Y hA 0 (ty := .int) rfl rfl rfl (fun C h => by cases h) (pz_tbl_in pz_wq170 rfl) hP hD hS (by decide) (N' := 16) (by decide) (by decide) (Nat.le_of_ble_eq_true rfl) (Nat.le_of_ble_eq_true rfl) (show decode cX3_init 23 = .ok (.newarray .int, 2) from by decide +kernel) (fun q23 H hP hD hS => ?_)
  rw [List.append_assoc] at hP hD
  obtain ⟨hP, hD⟩ := (⟨hP, hD⟩ : pz_PD D A (X ++ [(h0, .inr (3, [.int 0, .int 0, .ref q7, .ref q15, .null, .null, .null, .null])), (q7, .inl (cy 0, 16, .inl (fun _ => 0))), (q15, .inl (cy 0, 16, .inl (fun _ => 0))), (q23, .inl (cy 0, 16, .inl (fun _ => 0)))]) H)
  refine W.widen (k := 3) (n := 48) (Nat.le_of_ble_eq_true rfl) (Nat.le_of_ble_eq_true rfl) ?_
  refine va_putF (D := D) (ci := 3) (v := .ref q23) (ty := tyX3 4) (C := RX3) (T := TX3) (N := 8) hx hb hts (fun w hw => pz_tbl_in (pz_in3 w hw) (pz_layg w hw)) tyX3 tyX3_ok nmX3 hown hB.1 hP hD hS (X.length + 0) (pz_xget rfl) rfl 4 (by decide) (hts (.fieldLink RX3 18 "TwelveChain$Law" "middles" "[I") (pz_tbl_in pz_wq149 rfl)) (fun _ h9 => h9) rfl hin rfl (tyX3_ok 4 (by decide)) rfl rfl (Nat.le_of_ble_eq_true rfl) (show decode cX3_init 25 = .ok (.putfield 18, 3) from by decide +kernel) (fun H locs hP hD hS => ?_)
  rw [pz_xset] at hP hD
  obtain ⟨hP, hD⟩ := (⟨hP, hD⟩ : pz_PD D A (X ++ [(h0, .inr (3, [.int 0, .int 0, .ref q7, .ref q15, .ref q23, .null, .null, .null])), (q7, .inl (cy 0, 16, .inl (fun _ => 0))), (q15, .inl (cy 0, 16, .inl (fun _ => 0))), (q23, .inl (cy 0, 16, .inl (fun _ => 0)))]) H)
  refine lv_aload_n hx hb (k := 0) (show decode cX3_init 28 = .ok (.aload_n 0, 1) from by decide +kernel) rfl (lv_at hl 0 rfl) ?_
  refine lv_bipush hx hb (v := 16) (show decode cX3_init 29 = .ok (.bipush 16, 2) from by decide +kernel) (by decide) ?_
  refine pz_Nar (at_ := .int) Y hA 0 (ty := .int) rfl rfl rfl (fun C h => by cases h) (pz_tbl_in pz_wq170 rfl) hP hD hS (by decide) (N' := 16) (by decide) (by decide) (Nat.le_of_ble_eq_true rfl) (Nat.le_of_ble_eq_true rfl) (show decode cX3_init 31 = .ok (.newarray .int, 2) from by decide +kernel) (fun q31 H hP hD hS => ?_)
  rw [List.append_assoc] at hP hD
  obtain ⟨hP, hD⟩ := (⟨hP, hD⟩ : pz_PD D A (X ++ [(h0, .inr (3, [.int 0, .int 0, .ref q7, .ref q15, .ref q23, .null, .null, .null])), (q7, .inl (cy 0, 16, .inl (fun _ => 0))), (q15, .inl (cy 0, 16, .inl (fun _ => 0))), (q23, .inl (cy 0, 16, .inl (fun _ => 0))), (q31, .inl (cy 0, 16, .inl (fun _ => 0)))]) H)
  refine W.widen (k := 4) (n := 64) (Nat.le_of_ble_eq_true rfl) (Nat.le_of_ble_eq_true rfl) ?_
  refine va_putF (D := D) (ci := 3) (v := .ref q31) (ty := tyX3 5) (C := RX3) (T := TX3) (N := 8) hx hb hts (fun w hw => pz_tbl_in (pz_in3 w hw) (pz_layg w hw)) tyX3 tyX3_ok nmX3 hown hB.1 hP hD hS (X.length + 0) (pz_xget rfl) rfl 5 (by decide) (hts (.fieldLink RX3 21 "TwelveChain$Law" "ends" "[I") (pz_tbl_in pz_wq150 rfl)) (fun _ h9 => h9) rfl hin rfl (tyX3_ok 5 (by decide)) rfl rfl (Nat.le_of_ble_eq_true rfl) (show decode cX3_init 33 = .ok (.putfield 21, 3) from by decide +kernel) (fun H locs hP hD hS => ?_)
  rw [pz_xset] at hP hD
  obtain ⟨hP, hD⟩ := (⟨hP, hD⟩ : pz_PD D A (X ++ [(h0, .inr (3, [.int 0, .int 0, .ref q7, .ref q15, .ref q23, .ref q31, .null, .null])), (q7, .inl (cy 0, 16, .inl (fun _ => 0))), (q15, .inl (cy 0, 16, .inl (fun _ => 0))), (q23, .inl (cy 0, 16, .inl (fun _ => 0))), (q31, .inl (cy 0, 16, .inl (fun _ => 0)))]) H)
  refine lv_aload_n hx hb (k := 0) (show decode cX3_init 36 = .ok (.aload_n 0, 1) from by decide +kernel) rfl (lv_at hl 0 rfl) ?_
  refine lv_sipush hx hb (v := 400) (show decode cX3_init 37 = .ok (.sipush 400, 3) from by decide +kernel) (by decide) ?_
  refine pz_Nar (at_ := .int) Y hA 0 (ty := .int) rfl rfl rfl (fun C h => by cases h) (pz_tbl_in pz_wq170 rfl) hP hD hS (by decide) (N' := 400) (by decide) (by decide) (Nat.le_of_ble_eq_true rfl) (Nat.le_of_ble_eq_true rfl) (show decode cX3_init 40 = .ok (.newarray .int, 2) from by decide +kernel) (fun q40 H hP hD hS => ?_)
  rw [List.append_assoc] at hP hD
  obtain ⟨hP, hD⟩ := (⟨hP, hD⟩ : pz_PD D A (X ++ [(h0, .inr (3, [.int 0, .int 0, .ref q7, .ref q15, .ref q23, .ref q31, .null, .null])), (q7, .inl (cy 0, 16, .inl (fun _ => 0))), (q15, .inl (cy 0, 16, .inl (fun _ => 0))), (q23, .inl (cy 0, 16, .inl (fun _ => 0))), (q31, .inl (cy 0, 16, .inl (fun _ => 0))), (q40, .inl (cy 0, 400, .inl (fun _ => 0)))]) H)
  refine W.widen (k := 5) (n := 464) (Nat.le_of_ble_eq_true rfl) (Nat.le_of_ble_eq_true rfl) ?_
  refine va_putF (D := D) (ci := 3) (v := .ref q40) (ty := tyX3 6) (C := RX3) (T := TX3) (N := 8) hx hb hts (fun w hw => pz_tbl_in (pz_in3 w hw) (pz_layg w hw)) tyX3 tyX3_ok nmX3 hown hB.1 hP hD hS (X.length + 0) (pz_xget rfl) rfl 6 (by decide) (hts (.fieldLink RX3 24 "TwelveChain$Law" "code" "[I") (pz_tbl_in pz_wq151 rfl)) (fun _ h9 => h9) rfl hin rfl (tyX3_ok 6 (by decide)) rfl rfl (Nat.le_of_ble_eq_true rfl) (show decode cX3_init 42 = .ok (.putfield 24, 3) from by decide +kernel) (fun H locs hP hD hS => ?_)
  rw [pz_xset] at hP hD
  obtain ⟨hP, hD⟩ := (⟨hP, hD⟩ : pz_PD D A (X ++ [(h0, .inr (3, [.int 0, .int 0, .ref q7, .ref q15, .ref q23, .ref q31, .ref q40, .null])), (q7, .inl (cy 0, 16, .inl (fun _ => 0))), (q15, .inl (cy 0, 16, .inl (fun _ => 0))), (q23, .inl (cy 0, 16, .inl (fun _ => 0))), (q31, .inl (cy 0, 16, .inl (fun _ => 0))), (q40, .inl (cy 0, 400, .inl (fun _ => 0)))]) H)
  refine lv_aload_n hx hb (k := 0) (show decode cX3_init 45 = .ok (.aload_n 0, 1) from by decide +kernel) rfl (lv_at hl 0 rfl) ?_
  refine lv_bipush hx hb (v := 64) (show decode cX3_init 46 = .ok (.bipush 64, 2) from by decide +kernel) (by decide) ?_
  refine pz_Nar (at_ := .int) Y hA 0 (ty := .int) rfl rfl rfl (fun C h => by cases h) (pz_tbl_in pz_wq170 rfl) hP hD hS (by decide) (N' := 64) (by decide) (by decide) (Nat.le_of_ble_eq_true rfl) (Nat.le_of_ble_eq_true rfl) (show decode cX3_init 48 = .ok (.newarray .int, 2) from by decide +kernel) (fun q48 H hP hD hS => ?_)
  rw [List.append_assoc] at hP hD
  obtain ⟨hP, hD⟩ := (⟨hP, hD⟩ : pz_PD D A (X ++ [(h0, .inr (3, [.int 0, .int 0, .ref q7, .ref q15, .ref q23, .ref q31, .ref q40, .null])), (q7, .inl (cy 0, 16, .inl (fun _ => 0))), (q15, .inl (cy 0, 16, .inl (fun _ => 0))), (q23, .inl (cy 0, 16, .inl (fun _ => 0))), (q31, .inl (cy 0, 16, .inl (fun _ => 0))), (q40, .inl (cy 0, 400, .inl (fun _ => 0))), (q48, .inl (cy 0, 64, .inl (fun _ => 0)))]) H)
  refine W.widen (k := 6) (n := 528) (Nat.le_of_ble_eq_true rfl) (Nat.le_of_ble_eq_true rfl) ?_
  refine va_putF (D := D) (ci := 3) (v := .ref q48) (ty := tyX3 7) (C := RX3) (T := TX3) (N := 8) hx hb hts (fun w hw => pz_tbl_in (pz_in3 w hw) (pz_layg w hw)) tyX3 tyX3_ok nmX3 hown hB.1 hP hD hS (X.length + 0) (pz_xget rfl) rfl 7 (by decide) (hts (.fieldLink RX3 27 "TwelveChain$Law" "stack" "[I") (pz_tbl_in pz_wq152 rfl)) (fun _ h9 => h9) rfl hin rfl (tyX3_ok 7 (by decide)) rfl rfl (Nat.le_of_ble_eq_true rfl) (show decode cX3_init 50 = .ok (.putfield 27, 3) from by decide +kernel) (fun H locs hP hD hS => ?_)
  rw [pz_xset] at hP hD
  obtain ⟨hP, hD⟩ := (⟨hP, hD⟩ : pz_PD D A (X ++ [(h0, .inr (3, [.int 0, .int 0, .ref q7, .ref q15, .ref q23, .ref q31, .ref q40, .ref q48])), (q7, .inl (cy 0, 16, .inl (fun _ => 0))), (q15, .inl (cy 0, 16, .inl (fun _ => 0))), (q23, .inl (cy 0, 16, .inl (fun _ => 0))), (q31, .inl (cy 0, 16, .inl (fun _ => 0))), (q40, .inl (cy 0, 400, .inl (fun _ => 0))), (q48, .inl (cy 0, 64, .inl (fun _ => 0)))]) H)
  exact Kr H _ _ 53 _ _ _ hP hD hS ⟨fun k => [q7, q15, q23, q31, q40, q48].getD k 0, rfl⟩ (Nat.le_of_ble_eq_true rfl) (Nat.le_of_ble_eq_true rfl) (show decode cX3_init 53 = .ok (.return_, 1) from by decide +kernel)
set_option maxRecDepth 100000 in
set_option maxHeartbeats 4000000 in
theorem h_N_X7 {D : va_G} {cy : Nat → ClassId} {A : Nat → Prop} {X : va_W} {h0 : Nat} : pz_N yX7_init cX7_init 1 1 12 4 1603 [.ref h0] D cy A (X ++ [(h0, .inr (7, [.null, .int 0, .null, .null, .null]))]) (fun ws' => ∃ g, ws' = X ++ pz_b7 cy h0 g) := by
  refine pz_Nmk (pz_pfc_RX7 yX7_init rfl) rfl ?_
  intro p l e s m below meth c Q Y hP hD hA Kr
  obtain ⟨hx, hb, hml, hown, hts, hB, hin⟩ := Y
  have Y : pz_Ym p s m _ c _ _ _ D cy := ⟨hx, hb, hml, hown, hts, hB⟩
  have hS : va_S A s.heap s.heap [] := va_S.rf
  have hl := lv_entry [.ref h0] (n := 1) (Nat.le_of_ble_eq_true rfl)
  generalize (lg_sl ([.ref h0] : List Value) ++ List.replicate (1 - (lg_sl ([.ref h0] : List Value)).length) Slot.unset).toArray = ls at hl ⊢
  have hl : lv_has ls 1 [(0, .ref h0)] := hl
  refine lv_aload_n hx hb (k := 0) (show decode cX7_init 0 = .ok (.aload_n 0, 1) from by decide +kernel) rfl (lv_at hl 0 rfl) ?_
  refine W.objInit hx hb hown (hts (.methodLink RX7 3 objectInit) (pz_tbl_in pz_wq246 rfl)) (hts (.instanceMethod objectInit) (pz_tbl_in pz_wq27 rfl)) (hts (.code objectInit ⟨#[0xb1]⟩ 1 none) (pz_tbl_in pz_wq28 rfl)) rfl (by rw [hml]; exact hl.1) rfl (show decode cX7_init 1 = .ok (.invokespecial 3, 3) from by decide +kernel) (Nat.le_of_ble_eq_true rfl) (Nat.le_of_ble_eq_true rfl) ?_
  refine W.eq (g2 := F0 m 4 ls []) rfl ?_
  refine lv_aload_n hx hb (k := 0) (show decode cX7_init 4 = .ok (.aload_n 0, 1) from by decide +kernel) rfl (lv_at hl 0 rfl) ?_
  refine lv_sipush hx hb (v := 400) (show decode cX7_init 5 = .ok (.sipush 400, 3) from by decide +kernel) (by decide) ?_
  refine pz_Nar (at_ := .byte) Y hA 1 (ty := .byte) rfl rfl rfl (fun C h => by cases h) (pz_tbl_in pz_wq268 rfl) hP hD hS (by decide) (N' := 400) (by decide) (by decide) (Nat.le_of_ble_eq_true rfl) (Nat.le_of_ble_eq_true rfl) (show decode cX7_init 8 = .ok (.newarray .byte, 2) from by decide +kernel) (fun q8 H hP hD hS => ?_)
  rw [List.append_assoc] at hP hD
  obtain ⟨hP, hD⟩ := (⟨hP, hD⟩ : pz_PD D A (X ++ [(h0, .inr (7, [.null, .int 0, .null, .null, .null])), (q8, .inl (cy 1, 400, .inl (fun _ => 0)))]) H)
  refine W.widen (k := 1) (n := 400) (Nat.le_of_ble_eq_true rfl) (Nat.le_of_ble_eq_true rfl) ?_
  refine va_putF (D := D) (ci := 7) (v := .ref q8) (ty := tyX7 0) (C := RX7) (T := TX7) (N := 5) hx hb hts (fun w hw => pz_tbl_in (pz_in7 w hw) (pz_layg w hw)) tyX7 tyX7_ok nmX7 hown hB.1 hP hD hS (X.length + 0) (pz_xget rfl) rfl 0 (by decide) (hts (.fieldLink RX7 9 "TwelveChain$Tape" "bytes" "[B") (pz_tbl_in pz_wq247 rfl)) (fun _ h9 => h9) rfl hin rfl (tyX7_ok 0 (by decide)) rfl rfl (Nat.le_of_ble_eq_true rfl) (show decode cX7_init 10 = .ok (.putfield 9, 3) from by decide +kernel) (fun H locs hP hD hS => ?_)
  rw [pz_xset] at hP hD
  obtain ⟨hP, hD⟩ := (⟨hP, hD⟩ : pz_PD D A (X ++ [(h0, .inr (7, [.ref q8, .int 0, .null, .null, .null])), (q8, .inl (cy 1, 400, .inl (fun _ => 0)))]) H)
  refine lv_aload_n hx hb (k := 0) (show decode cX7_init 13 = .ok (.aload_n 0, 1) from by decide +kernel) rfl (lv_at hl 0 rfl) ?_
  refine lv_sipush hx hb (v := 401) (show decode cX7_init 14 = .ok (.sipush 401, 3) from by decide +kernel) (by decide) ?_
  refine pz_Nar (at_ := .int) Y hA 0 (ty := .int) rfl rfl rfl (fun C h => by cases h) (pz_tbl_in pz_wq170 rfl) hP hD hS (by decide) (N' := 401) (by decide) (by decide) (Nat.le_of_ble_eq_true rfl) (Nat.le_of_ble_eq_true rfl) (show decode cX7_init 17 = .ok (.newarray .int, 2) from by decide +kernel) (fun q17 H hP hD hS => ?_)
  rw [List.append_assoc] at hP hD
  obtain ⟨hP, hD⟩ := (⟨hP, hD⟩ : pz_PD D A (X ++ [(h0, .inr (7, [.ref q8, .int 0, .null, .null, .null])), (q8, .inl (cy 1, 400, .inl (fun _ => 0))), (q17, .inl (cy 0, 401, .inl (fun _ => 0)))]) H)
  refine W.widen (k := 2) (n := 801) (Nat.le_of_ble_eq_true rfl) (Nat.le_of_ble_eq_true rfl) ?_
  refine va_putF (D := D) (ci := 7) (v := .ref q17) (ty := tyX7 2) (C := RX7) (T := TX7) (N := 5) hx hb hts (fun w hw => pz_tbl_in (pz_in7 w hw) (pz_layg w hw)) tyX7 tyX7_ok nmX7 hown hB.1 hP hD hS (X.length + 0) (pz_xget rfl) rfl 2 (by decide) (hts (.fieldLink RX7 15 "TwelveChain$Tape" "tokens" "[I") (pz_tbl_in pz_wq251 rfl)) (fun _ h9 => h9) rfl hin rfl (tyX7_ok 2 (by decide)) rfl rfl (Nat.le_of_ble_eq_true rfl) (show decode cX7_init 19 = .ok (.putfield 15, 3) from by decide +kernel) (fun H locs hP hD hS => ?_)
  rw [pz_xset] at hP hD
  obtain ⟨hP, hD⟩ := (⟨hP, hD⟩ : pz_PD D A (X ++ [(h0, .inr (7, [.ref q8, .int 0, .ref q17, .null, .null])), (q8, .inl (cy 1, 400, .inl (fun _ => 0))), (q17, .inl (cy 0, 401, .inl (fun _ => 0)))]) H)
  refine lv_aload_n hx hb (k := 0) (show decode cX7_init 22 = .ok (.aload_n 0, 1) from by decide +kernel) rfl (lv_at hl 0 rfl) ?_
  refine lv_sipush hx hb (v := 401) (show decode cX7_init 23 = .ok (.sipush 401, 3) from by decide +kernel) (by decide) ?_
  refine pz_Nar (at_ := .int) Y hA 0 (ty := .int) rfl rfl rfl (fun C h => by cases h) (pz_tbl_in pz_wq170 rfl) hP hD hS (by decide) (N' := 401) (by decide) (by decide) (Nat.le_of_ble_eq_true rfl) (Nat.le_of_ble_eq_true rfl) (show decode cX7_init 26 = .ok (.newarray .int, 2) from by decide +kernel) (fun q26 H hP hD hS => ?_)
  rw [List.append_assoc] at hP hD
  obtain ⟨hP, hD⟩ := (⟨hP, hD⟩ : pz_PD D A (X ++ [(h0, .inr (7, [.ref q8, .int 0, .ref q17, .null, .null])), (q8, .inl (cy 1, 400, .inl (fun _ => 0))), (q17, .inl (cy 0, 401, .inl (fun _ => 0))), (q26, .inl (cy 0, 401, .inl (fun _ => 0)))]) H)
  refine W.widen (k := 3) (n := 1202) (Nat.le_of_ble_eq_true rfl) (Nat.le_of_ble_eq_true rfl) ?_
  refine va_putF (D := D) (ci := 7) (v := .ref q26) (ty := tyX7 3) (C := RX7) (T := TX7) (N := 5) hx hb hts (fun w hw => pz_tbl_in (pz_in7 w hw) (pz_layg w hw)) tyX7 tyX7_ok nmX7 hown hB.1 hP hD hS (X.length + 0) (pz_xget rfl) rfl 3 (by decide) (hts (.fieldLink RX7 19 "TwelveChain$Tape" "numbers" "[I") (pz_tbl_in pz_wq253 rfl)) (fun _ h9 => h9) rfl hin rfl (tyX7_ok 3 (by decide)) rfl rfl (Nat.le_of_ble_eq_true rfl) (show decode cX7_init 28 = .ok (.putfield 19, 3) from by decide +kernel) (fun H locs hP hD hS => ?_)
  rw [pz_xset] at hP hD
  obtain ⟨hP, hD⟩ := (⟨hP, hD⟩ : pz_PD D A (X ++ [(h0, .inr (7, [.ref q8, .int 0, .ref q17, .ref q26, .null])), (q8, .inl (cy 1, 400, .inl (fun _ => 0))), (q17, .inl (cy 0, 401, .inl (fun _ => 0))), (q26, .inl (cy 0, 401, .inl (fun _ => 0)))]) H)
  refine lv_aload_n hx hb (k := 0) (show decode cX7_init 31 = .ok (.aload_n 0, 1) from by decide +kernel) rfl (lv_at hl 0 rfl) ?_
  refine lv_sipush hx hb (v := 401) (show decode cX7_init 32 = .ok (.sipush 401, 3) from by decide +kernel) (by decide) ?_
  refine pz_Nar (at_ := .int) Y hA 0 (ty := .int) rfl rfl rfl (fun C h => by cases h) (pz_tbl_in pz_wq170 rfl) hP hD hS (by decide) (N' := 401) (by decide) (by decide) (Nat.le_of_ble_eq_true rfl) (Nat.le_of_ble_eq_true rfl) (show decode cX7_init 35 = .ok (.newarray .int, 2) from by decide +kernel) (fun q35 H hP hD hS => ?_)
  rw [List.append_assoc] at hP hD
  obtain ⟨hP, hD⟩ := (⟨hP, hD⟩ : pz_PD D A (X ++ [(h0, .inr (7, [.ref q8, .int 0, .ref q17, .ref q26, .null])), (q8, .inl (cy 1, 400, .inl (fun _ => 0))), (q17, .inl (cy 0, 401, .inl (fun _ => 0))), (q26, .inl (cy 0, 401, .inl (fun _ => 0))), (q35, .inl (cy 0, 401, .inl (fun _ => 0)))]) H)
  refine W.widen (k := 4) (n := 1603) (Nat.le_of_ble_eq_true rfl) (Nat.le_of_ble_eq_true rfl) ?_
  refine va_putF (D := D) (ci := 7) (v := .ref q35) (ty := tyX7 4) (C := RX7) (T := TX7) (N := 5) hx hb hts (fun w hw => pz_tbl_in (pz_in7 w hw) (pz_layg w hw)) tyX7 tyX7_ok nmX7 hown hB.1 hP hD hS (X.length + 0) (pz_xget rfl) rfl 4 (by decide) (hts (.fieldLink RX7 22 "TwelveChain$Tape" "places" "[I") (pz_tbl_in pz_wq255 rfl)) (fun _ h9 => h9) rfl hin rfl (tyX7_ok 4 (by decide)) rfl rfl (Nat.le_of_ble_eq_true rfl) (show decode cX7_init 37 = .ok (.putfield 22, 3) from by decide +kernel) (fun H locs hP hD hS => ?_)
  rw [pz_xset] at hP hD
  obtain ⟨hP, hD⟩ := (⟨hP, hD⟩ : pz_PD D A (X ++ [(h0, .inr (7, [.ref q8, .int 0, .ref q17, .ref q26, .ref q35])), (q8, .inl (cy 1, 400, .inl (fun _ => 0))), (q17, .inl (cy 0, 401, .inl (fun _ => 0))), (q26, .inl (cy 0, 401, .inl (fun _ => 0))), (q35, .inl (cy 0, 401, .inl (fun _ => 0)))]) H)
  exact Kr H _ _ 40 _ _ _ hP hD hS ⟨fun k => [q8, q17, q26, q35].getD k 0, rfl⟩ (Nat.le_of_ble_eq_true rfl) (Nat.le_of_ble_eq_true rfl) (show decode cX7_init 40 = .ok (.return_, 1) from by decide +kernel)
set_option maxRecDepth 100000 in
set_option maxHeartbeats 4000000 in
theorem h_N_X8 {D : va_G} {cy : Nat → ClassId} {A : Nat → Prop} {X : va_W} {h0 : Nat} : pz_N yX8_init cX8_init 1 1 12 4 4132 [.ref h0] D cy A (X ++ [(h0, .inr (8, [.int 0, .int 0, .int 0, .int 0, .null, .null, .null, .null]))]) (fun ws' => ∃ g, ws' = X ++ pz_b8 cy h0 g) := by
  refine pz_Nmk (pz_pfc_RX8 yX8_init rfl) rfl ?_
  intro p l e s m below meth c Q Y hP hD hA Kr
  obtain ⟨hx, hb, hml, hown, hts, hB, hin⟩ := Y
  have Y : pz_Ym p s m _ c _ _ _ D cy := ⟨hx, hb, hml, hown, hts, hB⟩
  have hS : va_S A s.heap s.heap [] := va_S.rf
  have hl := lv_entry [.ref h0] (n := 1) (Nat.le_of_ble_eq_true rfl)
  generalize (lg_sl ([.ref h0] : List Value) ++ List.replicate (1 - (lg_sl ([.ref h0] : List Value)).length) Slot.unset).toArray = ls at hl ⊢
  have hl : lv_has ls 1 [(0, .ref h0)] := hl
  refine lv_aload_n hx hb (k := 0) (show decode cX8_init 0 = .ok (.aload_n 0, 1) from by decide +kernel) rfl (lv_at hl 0 rfl) ?_
  refine W.objInit hx hb hown (hts (.methodLink RX8 3 objectInit) (pz_tbl_in pz_wq339 rfl)) (hts (.instanceMethod objectInit) (pz_tbl_in pz_wq27 rfl)) (hts (.code objectInit ⟨#[0xb1]⟩ 1 none) (pz_tbl_in pz_wq28 rfl)) rfl (by rw [hml]; exact hl.1) rfl (show decode cX8_init 1 = .ok (.invokespecial 3, 3) from by decide +kernel) (Nat.le_of_ble_eq_true rfl) (Nat.le_of_ble_eq_true rfl) ?_
  refine W.eq (g2 := F0 m 4 ls []) rfl ?_
  refine lv_aload_n hx hb (k := 0) (show decode cX8_init 4 = .ok (.aload_n 0, 1) from by decide +kernel) rfl (lv_at hl 0 rfl) ?_
  refine lv_bipush hx hb (v := 12) (show decode cX8_init 5 = .ok (.bipush 12, 2) from by decide +kernel) (by decide) ?_
  refine pz_Nar (at_ := .int) Y hA 0 (ty := .int) rfl rfl rfl (fun C h => by cases h) (pz_tbl_in pz_wq170 rfl) hP hD hS (by decide) (N' := 12) (by decide) (by decide) (Nat.le_of_ble_eq_true rfl) (Nat.le_of_ble_eq_true rfl) (show decode cX8_init 7 = .ok (.newarray .int, 2) from by decide +kernel) (fun q7 H hP hD hS => ?_)
  rw [List.append_assoc] at hP hD
  obtain ⟨hP, hD⟩ := (⟨hP, hD⟩ : pz_PD D A (X ++ [(h0, .inr (8, [.int 0, .int 0, .int 0, .int 0, .null, .null, .null, .null])), (q7, .inl (cy 0, 12, .inl (fun _ => 0)))]) H)
  refine W.widen (k := 1) (n := 12) (Nat.le_of_ble_eq_true rfl) (Nat.le_of_ble_eq_true rfl) ?_
  refine va_putF (D := D) (ci := 8) (v := .ref q7) (ty := tyX8 4) (C := RX8) (T := TX8) (N := 8) hx hb hts (fun w hw => pz_tbl_in (pz_in8 w hw) (pz_layg w hw)) tyX8 tyX8_ok nmX8 hown hB.1 hP hD hS (X.length + 0) (pz_xget rfl) rfl 4 (by decide) (hts (.fieldLink RX8 9 "TwelveChain$Telephone" "from" "[I") (pz_tbl_in pz_wq346 rfl)) (fun _ h9 => h9) rfl hin rfl (tyX8_ok 4 (by decide)) rfl rfl (Nat.le_of_ble_eq_true rfl) (show decode cX8_init 9 = .ok (.putfield 9, 3) from by decide +kernel) (fun H locs hP hD hS => ?_)
  rw [pz_xset] at hP hD
  obtain ⟨hP, hD⟩ := (⟨hP, hD⟩ : pz_PD D A (X ++ [(h0, .inr (8, [.int 0, .int 0, .int 0, .int 0, .ref q7, .null, .null, .null])), (q7, .inl (cy 0, 12, .inl (fun _ => 0)))]) H)
  refine lv_aload_n hx hb (k := 0) (show decode cX8_init 12 = .ok (.aload_n 0, 1) from by decide +kernel) rfl (lv_at hl 0 rfl) ?_
  refine lv_bipush hx hb (v := 12) (show decode cX8_init 13 = .ok (.bipush 12, 2) from by decide +kernel) (by decide) ?_
  refine pz_Nar (at_ := .int) Y hA 0 (ty := .int) rfl rfl rfl (fun C h => by cases h) (pz_tbl_in pz_wq170 rfl) hP hD hS (by decide) (N' := 12) (by decide) (by decide) (Nat.le_of_ble_eq_true rfl) (Nat.le_of_ble_eq_true rfl) (show decode cX8_init 15 = .ok (.newarray .int, 2) from by decide +kernel) (fun q15 H hP hD hS => ?_)
  rw [List.append_assoc] at hP hD
  obtain ⟨hP, hD⟩ := (⟨hP, hD⟩ : pz_PD D A (X ++ [(h0, .inr (8, [.int 0, .int 0, .int 0, .int 0, .ref q7, .null, .null, .null])), (q7, .inl (cy 0, 12, .inl (fun _ => 0))), (q15, .inl (cy 0, 12, .inl (fun _ => 0)))]) H)
  refine W.widen (k := 2) (n := 24) (Nat.le_of_ble_eq_true rfl) (Nat.le_of_ble_eq_true rfl) ?_
  refine va_putF (D := D) (ci := 8) (v := .ref q15) (ty := tyX8 5) (C := RX8) (T := TX8) (N := 8) hx hb hts (fun w hw => pz_tbl_in (pz_in8 w hw) (pz_layg w hw)) tyX8 tyX8_ok nmX8 hown hB.1 hP hD hS (X.length + 0) (pz_xget rfl) rfl 5 (by decide) (hts (.fieldLink RX8 15 "TwelveChain$Telephone" "to" "[I") (pz_tbl_in pz_wq347 rfl)) (fun _ h9 => h9) rfl hin rfl (tyX8_ok 5 (by decide)) rfl rfl (Nat.le_of_ble_eq_true rfl) (show decode cX8_init 17 = .ok (.putfield 15, 3) from by decide +kernel) (fun H locs hP hD hS => ?_)
  rw [pz_xset] at hP hD
  obtain ⟨hP, hD⟩ := (⟨hP, hD⟩ : pz_PD D A (X ++ [(h0, .inr (8, [.int 0, .int 0, .int 0, .int 0, .ref q7, .ref q15, .null, .null])), (q7, .inl (cy 0, 12, .inl (fun _ => 0))), (q15, .inl (cy 0, 12, .inl (fun _ => 0)))]) H)
  refine lv_aload_n hx hb (k := 0) (show decode cX8_init 20 = .ok (.aload_n 0, 1) from by decide +kernel) rfl (lv_at hl 0 rfl) ?_
  refine lv_bipush hx hb (v := 12) (show decode cX8_init 21 = .ok (.bipush 12, 2) from by decide +kernel) (by decide) ?_
  refine pz_Nar (at_ := .int) Y hA 0 (ty := .int) rfl rfl rfl (fun C h => by cases h) (pz_tbl_in pz_wq170 rfl) hP hD hS (by decide) (N' := 12) (by decide) (by decide) (Nat.le_of_ble_eq_true rfl) (Nat.le_of_ble_eq_true rfl) (show decode cX8_init 23 = .ok (.newarray .int, 2) from by decide +kernel) (fun q23 H hP hD hS => ?_)
  rw [List.append_assoc] at hP hD
  obtain ⟨hP, hD⟩ := (⟨hP, hD⟩ : pz_PD D A (X ++ [(h0, .inr (8, [.int 0, .int 0, .int 0, .int 0, .ref q7, .ref q15, .null, .null])), (q7, .inl (cy 0, 12, .inl (fun _ => 0))), (q15, .inl (cy 0, 12, .inl (fun _ => 0))), (q23, .inl (cy 0, 12, .inl (fun _ => 0)))]) H)
  refine W.widen (k := 3) (n := 36) (Nat.le_of_ble_eq_true rfl) (Nat.le_of_ble_eq_true rfl) ?_
  refine va_putF (D := D) (ci := 8) (v := .ref q23) (ty := tyX8 6) (C := RX8) (T := TX8) (N := 8) hx hb hts (fun w hw => pz_tbl_in (pz_in8 w hw) (pz_layg w hw)) tyX8 tyX8_ok nmX8 hown hB.1 hP hD hS (X.length + 0) (pz_xget rfl) rfl 6 (by decide) (hts (.fieldLink RX8 18 "TwelveChain$Telephone" "order" "[I") (pz_tbl_in pz_wq348 rfl)) (fun _ h9 => h9) rfl hin rfl (tyX8_ok 6 (by decide)) rfl rfl (Nat.le_of_ble_eq_true rfl) (show decode cX8_init 25 = .ok (.putfield 18, 3) from by decide +kernel) (fun H locs hP hD hS => ?_)
  rw [pz_xset] at hP hD
  obtain ⟨hP, hD⟩ := (⟨hP, hD⟩ : pz_PD D A (X ++ [(h0, .inr (8, [.int 0, .int 0, .int 0, .int 0, .ref q7, .ref q15, .ref q23, .null])), (q7, .inl (cy 0, 12, .inl (fun _ => 0))), (q15, .inl (cy 0, 12, .inl (fun _ => 0))), (q23, .inl (cy 0, 12, .inl (fun _ => 0)))]) H)
  refine lv_aload_n hx hb (k := 0) (show decode cX8_init 28 = .ok (.aload_n 0, 1) from by decide +kernel) rfl (lv_at hl 0 rfl) ?_
  refine lv_sipush hx hb (v := 4096) (show decode cX8_init 29 = .ok (.sipush 4096, 3) from by decide +kernel) (by decide) ?_
  refine pz_Nar (at_ := .int) Y hA 0 (ty := .int) rfl rfl rfl (fun C h => by cases h) (pz_tbl_in pz_wq170 rfl) hP hD hS (by decide) (N' := 4096) (by decide) (by decide) (Nat.le_of_ble_eq_true rfl) (Nat.le_of_ble_eq_true rfl) (show decode cX8_init 32 = .ok (.newarray .int, 2) from by decide +kernel) (fun q32 H hP hD hS => ?_)
  rw [List.append_assoc] at hP hD
  obtain ⟨hP, hD⟩ := (⟨hP, hD⟩ : pz_PD D A (X ++ [(h0, .inr (8, [.int 0, .int 0, .int 0, .int 0, .ref q7, .ref q15, .ref q23, .null])), (q7, .inl (cy 0, 12, .inl (fun _ => 0))), (q15, .inl (cy 0, 12, .inl (fun _ => 0))), (q23, .inl (cy 0, 12, .inl (fun _ => 0))), (q32, .inl (cy 0, 4096, .inl (fun _ => 0)))]) H)
  refine W.widen (k := 4) (n := 4132) (Nat.le_of_ble_eq_true rfl) (Nat.le_of_ble_eq_true rfl) ?_
  refine va_putF (D := D) (ci := 8) (v := .ref q32) (ty := tyX8 7) (C := RX8) (T := TX8) (N := 8) hx hb hts (fun w hw => pz_tbl_in (pz_in8 w hw) (pz_layg w hw)) tyX8 tyX8_ok nmX8 hown hB.1 hP hD hS (X.length + 0) (pz_xget rfl) rfl 7 (by decide) (hts (.fieldLink RX8 21 "TwelveChain$Telephone" "minutes" "[I") (pz_tbl_in pz_wq349 rfl)) (fun _ h9 => h9) rfl hin rfl (tyX8_ok 7 (by decide)) rfl rfl (Nat.le_of_ble_eq_true rfl) (show decode cX8_init 34 = .ok (.putfield 21, 3) from by decide +kernel) (fun H locs hP hD hS => ?_)
  rw [pz_xset] at hP hD
  obtain ⟨hP, hD⟩ := (⟨hP, hD⟩ : pz_PD D A (X ++ [(h0, .inr (8, [.int 0, .int 0, .int 0, .int 0, .ref q7, .ref q15, .ref q23, .ref q32])), (q7, .inl (cy 0, 12, .inl (fun _ => 0))), (q15, .inl (cy 0, 12, .inl (fun _ => 0))), (q23, .inl (cy 0, 12, .inl (fun _ => 0))), (q32, .inl (cy 0, 4096, .inl (fun _ => 0)))]) H)
  exact Kr H _ _ 37 _ _ _ hP hD hS ⟨fun k => [q7, q15, q23, q32].getD k 0, rfl⟩ (Nat.le_of_ble_eq_true rfl) (Nat.le_of_ble_eq_true rfl) (show decode cX8_init 37 = .ok (.return_, 1) from by decide +kernel)
set_option maxRecDepth 100000 in
set_option maxHeartbeats 4000000 in
theorem h_N_X4 {D : va_G} {cy : Nat → ClassId} {A : Nat → Prop} {X : va_W} {h0 : Nat} (lw : Nat) : pz_N yX4_init cX4_init 2 1 12 4 180 [.ref h0, .ref lw] D cy A (X ++ [(h0, .inr (4, [.null, .null, .null, .null, .null]))]) (fun ws' => ∃ g, ws' = X ++ pz_b4 cy h0 lw g) := by
  refine pz_Nmk (pz_pfc_RX4 yX4_init rfl) rfl ?_
  intro p l e s m below meth c Q Y hP hD hA Kr
  obtain ⟨hx, hb, hml, hown, hts, hB, hin⟩ := Y
  have Y : pz_Ym p s m _ c _ _ _ D cy := ⟨hx, hb, hml, hown, hts, hB⟩
  have hS : va_S A s.heap s.heap [] := va_S.rf
  have hl := lv_entry [.ref h0, .ref lw] (n := 2) (Nat.le_of_ble_eq_true rfl)
  generalize (lg_sl ([.ref h0, .ref lw] : List Value) ++ List.replicate (2 - (lg_sl ([.ref h0, .ref lw] : List Value)).length) Slot.unset).toArray = ls at hl ⊢
  have hl : lv_has ls 2 [(0, .ref h0), (1, .ref lw)] := hl
  refine lv_aload_n hx hb (k := 0) (show decode cX4_init 0 = .ok (.aload_n 0, 1) from by decide +kernel) rfl (lv_at hl 0 rfl) ?_
  refine W.objInit hx hb hown (hts (.methodLink RX4 3 objectInit) (pz_tbl_in pz_wq317 rfl)) (hts (.instanceMethod objectInit) (pz_tbl_in pz_wq27 rfl)) (hts (.code objectInit ⟨#[0xb1]⟩ 1 none) (pz_tbl_in pz_wq28 rfl)) rfl (by rw [hml]; exact hl.1) rfl (show decode cX4_init 1 = .ok (.invokespecial 3, 3) from by decide +kernel) (Nat.le_of_ble_eq_true rfl) (Nat.le_of_ble_eq_true rfl) ?_
  refine W.eq (g2 := F0 m 4 ls []) rfl ?_
  refine lv_aload_n hx hb (k := 0) (show decode cX4_init 4 = .ok (.aload_n 0, 1) from by decide +kernel) rfl (lv_at hl 0 rfl) ?_
  refine lv_bipush hx hb (v := 12) (show decode cX4_init 5 = .ok (.bipush 12, 2) from by decide +kernel) (by decide) ?_
  refine pz_Nar (at_ := .int) Y hA 0 (ty := .int) rfl rfl rfl (fun C h => by cases h) (pz_tbl_in pz_wq170 rfl) hP hD hS (by decide) (N' := 12) (by decide) (by decide) (Nat.le_of_ble_eq_true rfl) (Nat.le_of_ble_eq_true rfl) (show decode cX4_init 7 = .ok (.newarray .int, 2) from by decide +kernel) (fun q7 H hP hD hS => ?_)
  rw [List.append_assoc] at hP hD
  obtain ⟨hP, hD⟩ := (⟨hP, hD⟩ : pz_PD D A (X ++ [(h0, .inr (4, [.null, .null, .null, .null, .null])), (q7, .inl (cy 0, 12, .inl (fun _ => 0)))]) H)
  refine W.widen (k := 1) (n := 12) (Nat.le_of_ble_eq_true rfl) (Nat.le_of_ble_eq_true rfl) ?_
  refine va_putF (D := D) (ci := 4) (v := .ref q7) (ty := tyX4 1) (C := RX4) (T := TX4) (N := 5) hx hb hts (fun w hw => pz_tbl_in (pz_in4 w hw) (pz_layg w hw)) tyX4 tyX4_ok nmX4 hown hB.1 hP hD hS (X.length + 0) (pz_xget rfl) rfl 1 (by decide) (hts (.fieldLink RX4 9 "TwelveChain$Likely" "left" "[I") (pz_tbl_in pz_wq319 rfl)) (fun _ h9 => h9) rfl hin rfl (tyX4_ok 1 (by decide)) rfl rfl (Nat.le_of_ble_eq_true rfl) (show decode cX4_init 9 = .ok (.putfield 9, 3) from by decide +kernel) (fun H locs hP hD hS => ?_)
  rw [pz_xset] at hP hD
  obtain ⟨hP, hD⟩ := (⟨hP, hD⟩ : pz_PD D A (X ++ [(h0, .inr (4, [.null, .ref q7, .null, .null, .null])), (q7, .inl (cy 0, 12, .inl (fun _ => 0)))]) H)
  refine lv_aload_n hx hb (k := 0) (show decode cX4_init 12 = .ok (.aload_n 0, 1) from by decide +kernel) rfl (lv_at hl 0 rfl) ?_
  refine lv_bipush hx hb (v := 12) (show decode cX4_init 13 = .ok (.bipush 12, 2) from by decide +kernel) (by decide) ?_
  refine pz_Nar (at_ := .int) Y hA 0 (ty := .int) rfl rfl rfl (fun C h => by cases h) (pz_tbl_in pz_wq170 rfl) hP hD hS (by decide) (N' := 12) (by decide) (by decide) (Nat.le_of_ble_eq_true rfl) (Nat.le_of_ble_eq_true rfl) (show decode cX4_init 15 = .ok (.newarray .int, 2) from by decide +kernel) (fun q15 H hP hD hS => ?_)
  rw [List.append_assoc] at hP hD
  obtain ⟨hP, hD⟩ := (⟨hP, hD⟩ : pz_PD D A (X ++ [(h0, .inr (4, [.null, .ref q7, .null, .null, .null])), (q7, .inl (cy 0, 12, .inl (fun _ => 0))), (q15, .inl (cy 0, 12, .inl (fun _ => 0)))]) H)
  refine W.widen (k := 2) (n := 24) (Nat.le_of_ble_eq_true rfl) (Nat.le_of_ble_eq_true rfl) ?_
  refine va_putF (D := D) (ci := 4) (v := .ref q15) (ty := tyX4 2) (C := RX4) (T := TX4) (N := 5) hx hb hts (fun w hw => pz_tbl_in (pz_in4 w hw) (pz_layg w hw)) tyX4 tyX4_ok nmX4 hown hB.1 hP hD hS (X.length + 0) (pz_xget rfl) rfl 2 (by decide) (hts (.fieldLink RX4 15 "TwelveChain$Likely" "ready" "[I") (pz_tbl_in pz_wq320 rfl)) (fun _ h9 => h9) rfl hin rfl (tyX4_ok 2 (by decide)) rfl rfl (Nat.le_of_ble_eq_true rfl) (show decode cX4_init 17 = .ok (.putfield 15, 3) from by decide +kernel) (fun H locs hP hD hS => ?_)
  rw [pz_xset] at hP hD
  obtain ⟨hP, hD⟩ := (⟨hP, hD⟩ : pz_PD D A (X ++ [(h0, .inr (4, [.null, .ref q7, .ref q15, .null, .null])), (q7, .inl (cy 0, 12, .inl (fun _ => 0))), (q15, .inl (cy 0, 12, .inl (fun _ => 0)))]) H)
  refine lv_aload_n hx hb (k := 0) (show decode cX4_init 20 = .ok (.aload_n 0, 1) from by decide +kernel) rfl (lv_at hl 0 rfl) ?_
  refine lv_bipush hx hb (v := 12) (show decode cX4_init 21 = .ok (.bipush 12, 2) from by decide +kernel) (by decide) ?_
  refine pz_Nar (at_ := .int) Y hA 0 (ty := .int) rfl rfl rfl (fun C h => by cases h) (pz_tbl_in pz_wq170 rfl) hP hD hS (by decide) (N' := 12) (by decide) (by decide) (Nat.le_of_ble_eq_true rfl) (Nat.le_of_ble_eq_true rfl) (show decode cX4_init 23 = .ok (.newarray .int, 2) from by decide +kernel) (fun q23 H hP hD hS => ?_)
  rw [List.append_assoc] at hP hD
  obtain ⟨hP, hD⟩ := (⟨hP, hD⟩ : pz_PD D A (X ++ [(h0, .inr (4, [.null, .ref q7, .ref q15, .null, .null])), (q7, .inl (cy 0, 12, .inl (fun _ => 0))), (q15, .inl (cy 0, 12, .inl (fun _ => 0))), (q23, .inl (cy 0, 12, .inl (fun _ => 0)))]) H)
  refine W.widen (k := 3) (n := 36) (Nat.le_of_ble_eq_true rfl) (Nat.le_of_ble_eq_true rfl) ?_
  refine va_putF (D := D) (ci := 4) (v := .ref q23) (ty := tyX4 3) (C := RX4) (T := TX4) (N := 5) hx hb hts (fun w hw => pz_tbl_in (pz_in4 w hw) (pz_layg w hw)) tyX4 tyX4_ok nmX4 hown hB.1 hP hD hS (X.length + 0) (pz_xget rfl) rfl 3 (by decide) (hts (.fieldLink RX4 18 "TwelveChain$Likely" "costs" "[I") (pz_tbl_in pz_wq321 rfl)) (fun _ h9 => h9) rfl hin rfl (tyX4_ok 3 (by decide)) rfl rfl (Nat.le_of_ble_eq_true rfl) (show decode cX4_init 25 = .ok (.putfield 18, 3) from by decide +kernel) (fun H locs hP hD hS => ?_)
  rw [pz_xset] at hP hD
  obtain ⟨hP, hD⟩ := (⟨hP, hD⟩ : pz_PD D A (X ++ [(h0, .inr (4, [.null, .ref q7, .ref q15, .ref q23, .null])), (q7, .inl (cy 0, 12, .inl (fun _ => 0))), (q15, .inl (cy 0, 12, .inl (fun _ => 0))), (q23, .inl (cy 0, 12, .inl (fun _ => 0)))]) H)
  refine lv_aload_n hx hb (k := 0) (show decode cX4_init 28 = .ok (.aload_n 0, 1) from by decide +kernel) rfl (lv_at hl 0 rfl) ?_
  refine lv_sipush hx hb (v := 144) (show decode cX4_init 29 = .ok (.sipush 144, 3) from by decide +kernel) (by decide) ?_
  refine pz_Nar (at_ := .int) Y hA 0 (ty := .int) rfl rfl rfl (fun C h => by cases h) (pz_tbl_in pz_wq170 rfl) hP hD hS (by decide) (N' := 144) (by decide) (by decide) (Nat.le_of_ble_eq_true rfl) (Nat.le_of_ble_eq_true rfl) (show decode cX4_init 32 = .ok (.newarray .int, 2) from by decide +kernel) (fun q32 H hP hD hS => ?_)
  rw [List.append_assoc] at hP hD
  obtain ⟨hP, hD⟩ := (⟨hP, hD⟩ : pz_PD D A (X ++ [(h0, .inr (4, [.null, .ref q7, .ref q15, .ref q23, .null])), (q7, .inl (cy 0, 12, .inl (fun _ => 0))), (q15, .inl (cy 0, 12, .inl (fun _ => 0))), (q23, .inl (cy 0, 12, .inl (fun _ => 0))), (q32, .inl (cy 0, 144, .inl (fun _ => 0)))]) H)
  refine W.widen (k := 4) (n := 180) (Nat.le_of_ble_eq_true rfl) (Nat.le_of_ble_eq_true rfl) ?_
  refine va_putF (D := D) (ci := 4) (v := .ref q32) (ty := tyX4 4) (C := RX4) (T := TX4) (N := 5) hx hb hts (fun w hw => pz_tbl_in (pz_in4 w hw) (pz_layg w hw)) tyX4 tyX4_ok nmX4 hown hB.1 hP hD hS (X.length + 0) (pz_xget rfl) rfl 4 (by decide) (hts (.fieldLink RX4 21 "TwelveChain$Likely" "spans" "[I") (pz_tbl_in pz_wq322 rfl)) (fun _ h9 => h9) rfl hin rfl (tyX4_ok 4 (by decide)) rfl rfl (Nat.le_of_ble_eq_true rfl) (show decode cX4_init 34 = .ok (.putfield 21, 3) from by decide +kernel) (fun H locs hP hD hS => ?_)
  rw [pz_xset] at hP hD
  obtain ⟨hP, hD⟩ := (⟨hP, hD⟩ : pz_PD D A (X ++ [(h0, .inr (4, [.null, .ref q7, .ref q15, .ref q23, .ref q32])), (q7, .inl (cy 0, 12, .inl (fun _ => 0))), (q15, .inl (cy 0, 12, .inl (fun _ => 0))), (q23, .inl (cy 0, 12, .inl (fun _ => 0))), (q32, .inl (cy 0, 144, .inl (fun _ => 0)))]) H)
  refine lv_aload_n hx hb (k := 0) (show decode cX4_init 37 = .ok (.aload_n 0, 1) from by decide +kernel) rfl (lv_at hl 0 rfl) ?_
  refine lv_aload_n hx hb (k := 1) (show decode cX4_init 38 = .ok (.aload_n 1, 1) from by decide +kernel) rfl (lv_at hl 1 rfl) ?_
  refine va_putF (D := D) (ci := 4) (v := .ref lw) (ty := tyX4 0) (C := RX4) (T := TX4) (N := 5) hx hb hts (fun w hw => pz_tbl_in (pz_in4 w hw) (pz_layg w hw)) tyX4 tyX4_ok nmX4 hown hB.1 hP hD hS (X.length + 0) (pz_xget rfl) rfl 0 (by decide) (hts (.fieldLink RX4 24 "TwelveChain$Likely" "law" "LTwelveChain$Law;") (pz_tbl_in pz_wq318 rfl)) (fun _ h9 => h9) rfl hin rfl (tyX4_ok 0 (by decide)) rfl rfl (Nat.le_of_ble_eq_true rfl) (show decode cX4_init 39 = .ok (.putfield 24, 3) from by decide +kernel) (fun H locs hP hD hS => ?_)
  rw [pz_xset] at hP hD
  obtain ⟨hP, hD⟩ := (⟨hP, hD⟩ : pz_PD D A (X ++ [(h0, .inr (4, [.ref lw, .ref q7, .ref q15, .ref q23, .ref q32])), (q7, .inl (cy 0, 12, .inl (fun _ => 0))), (q15, .inl (cy 0, 12, .inl (fun _ => 0))), (q23, .inl (cy 0, 12, .inl (fun _ => 0))), (q32, .inl (cy 0, 144, .inl (fun _ => 0)))]) H)
  exact Kr H _ _ 42 _ _ _ hP hD hS ⟨fun k => [q7, q15, q23, q32].getD k 0, rfl⟩ (Nat.le_of_ble_eq_true rfl) (Nat.le_of_ble_eq_true rfl) (show decode cX4_init 42 = .ok (.return_, 1) from by decide +kernel)
set_option maxRecDepth 100000 in
set_option maxHeartbeats 4000000 in
theorem h_N_X1 {D : va_G} {cy : Nat → ClassId} {A : Nat → Prop} {X : va_W} {h0 : Nat} (tx : Nat) (pg : Nat) : pz_N yX1_init cX1_init 3 1 12 0 0 [.ref h0, .ref tx, .ref pg] D cy A (X ++ [(h0, .inr (1, [.null, .null]))]) (fun ws' => ∃ g, ws' = X ++ pz_b1 cy h0 tx pg g) := by
  refine pz_Nmk (pz_pfc_RX1 yX1_init rfl) rfl ?_
  intro p l e s m below meth c Q Y hP hD hA Kr
  obtain ⟨hx, hb, hml, hown, hts, hB, hin⟩ := Y
  have Y : pz_Ym p s m _ c _ _ _ D cy := ⟨hx, hb, hml, hown, hts, hB⟩
  have hS : va_S A s.heap s.heap [] := va_S.rf
  have hl := lv_entry [.ref h0, .ref tx, .ref pg] (n := 3) (Nat.le_of_ble_eq_true rfl)
  generalize (lg_sl ([.ref h0, .ref tx, .ref pg] : List Value) ++ List.replicate (3 - (lg_sl ([.ref h0, .ref tx, .ref pg] : List Value)).length) Slot.unset).toArray = ls at hl ⊢
  have hl : lv_has ls 3 [(0, .ref h0), (1, .ref tx), (2, .ref pg)] := hl
  refine lv_aload_n hx hb (k := 0) (show decode cX1_init 0 = .ok (.aload_n 0, 1) from by decide +kernel) rfl (lv_at hl 0 rfl) ?_
  refine W.objInit hx hb hown (hts (.methodLink RX1 3 objectInit) (pz_tbl_in pz_wq213 rfl)) (hts (.instanceMethod objectInit) (pz_tbl_in pz_wq27 rfl)) (hts (.code objectInit ⟨#[0xb1]⟩ 1 none) (pz_tbl_in pz_wq28 rfl)) rfl (by rw [hml]; exact hl.1) rfl (show decode cX1_init 1 = .ok (.invokespecial 3, 3) from by decide +kernel) (Nat.le_of_ble_eq_true rfl) (Nat.le_of_ble_eq_true rfl) ?_
  refine W.eq (g2 := F0 m 4 ls []) rfl ?_
  refine lv_aload_n hx hb (k := 0) (show decode cX1_init 4 = .ok (.aload_n 0, 1) from by decide +kernel) rfl (lv_at hl 0 rfl) ?_
  refine lv_aload_n hx hb (k := 1) (show decode cX1_init 5 = .ok (.aload_n 1, 1) from by decide +kernel) rfl (lv_at hl 1 rfl) ?_
  refine va_putF (D := D) (ci := 1) (v := .ref tx) (ty := tyX1 0) (C := RX1) (T := TX1) (N := 2) hx hb hts (fun w hw => pz_tbl_in (pz_in1 w hw) (pz_layg w hw)) tyX1 tyX1_ok nmX1 hown hB.1 hP hD hS (X.length + 0) (pz_xget rfl) rfl 0 (by decide) (hts (.fieldLink RX1 9 "TwelveChain$Deeds" "texts" "LTwelveChain$Texts;") (pz_tbl_in pz_wq214 rfl)) (fun _ h9 => h9) rfl hin rfl (tyX1_ok 0 (by decide)) rfl rfl (Nat.le_of_ble_eq_true rfl) (show decode cX1_init 6 = .ok (.putfield 9, 3) from by decide +kernel) (fun H locs hP hD hS => ?_)
  rw [pz_xset] at hP hD
  obtain ⟨hP, hD⟩ := (⟨hP, hD⟩ : pz_PD D A (X ++ [(h0, .inr (1, [.ref tx, .null]))]) H)
  refine lv_aload_n hx hb (k := 0) (show decode cX1_init 9 = .ok (.aload_n 0, 1) from by decide +kernel) rfl (lv_at hl 0 rfl) ?_
  refine lv_aload_n hx hb (k := 2) (show decode cX1_init 10 = .ok (.aload_n 2, 1) from by decide +kernel) rfl (lv_at hl 2 rfl) ?_
  refine va_putF (D := D) (ci := 1) (v := .ref pg) (ty := tyX1 1) (C := RX1) (T := TX1) (N := 2) hx hb hts (fun w hw => pz_tbl_in (pz_in1 w hw) (pz_layg w hw)) tyX1 tyX1_ok nmX1 hown hB.1 hP hD hS (X.length + 0) (pz_xget rfl) rfl 1 (by decide) (hts (.fieldLink RX1 15 "TwelveChain$Deeds" "pages" "[I") (pz_tbl_in pz_wq215 rfl)) (fun _ h9 => h9) rfl hin rfl (tyX1_ok 1 (by decide)) rfl rfl (Nat.le_of_ble_eq_true rfl) (show decode cX1_init 11 = .ok (.putfield 15, 3) from by decide +kernel) (fun H locs hP hD hS => ?_)
  rw [pz_xset] at hP hD
  obtain ⟨hP, hD⟩ := (⟨hP, hD⟩ : pz_PD D A (X ++ [(h0, .inr (1, [.ref tx, .ref pg]))]) H)
  exact Kr H _ _ 14 _ _ _ hP hD hS ⟨fun _ => 0, rfl⟩ (Nat.le_of_ble_eq_true rfl) (Nat.le_of_ble_eq_true rfl) (show decode cX1_init 14 = .ok (.return_, 1) from by decide +kernel)
set_option maxRecDepth 100000 in
set_option maxHeartbeats 4000000 in
theorem h_N_X12 {D : va_G} {cy : Nat → ClassId} {A : Nat → Prop} {X : va_W} {h0 : Nat} : pz_N yX12_init cX12_init 1 1 12 11 9956 [.ref h0] D cy A (X ++ [(h0, .inr (12, [.null, .null, .null, .null, .int 0, .int 0, .null, .null, .null, .null, .null, .null, .int 0, .int 0, .int 0, .int 0, .int 0, .int 0, .int 0, .int 0, .int 0, .int 0, .int 0, .int 0, .int 0, .int 0, .int 0, .null]))]) (fun ws' => ∃ g, ws' = X ++ pz_b12 cy h0 g) := by
  refine pz_Nmk (pz_pfc_RX12 yX12_init rfl) rfl ?_
  intro p l e s m below meth c Q Y hP hD hA Kr
  obtain ⟨hx, hb, hml, hown, hts, hB, hin⟩ := Y
  have Y : pz_Ym p s m _ c _ _ _ D cy := ⟨hx, hb, hml, hown, hts, hB⟩
  have hS : va_S A s.heap s.heap [] := va_S.rf
  have hl := lv_entry [.ref h0] (n := 1) (Nat.le_of_ble_eq_true rfl)
  generalize (lg_sl ([.ref h0] : List Value) ++ List.replicate (1 - (lg_sl ([.ref h0] : List Value)).length) Slot.unset).toArray = ls at hl ⊢
  have hl : lv_has ls 1 [(0, .ref h0)] := hl
  refine lv_aload_n hx hb (k := 0) (show decode cX12_init 0 = .ok (.aload_n 0, 1) from by decide +kernel) rfl (lv_at hl 0 rfl) ?_
  refine W.objInit hx hb hown (hts (.methodLink RX12 1 objectInit) (pz_tbl_in pz_wq1119 rfl)) (hts (.instanceMethod objectInit) (pz_tbl_in pz_wq27 rfl)) (hts (.code objectInit ⟨#[0xb1]⟩ 1 none) (pz_tbl_in pz_wq28 rfl)) rfl (by rw [hml]; exact hl.1) rfl (show decode cX12_init 1 = .ok (.invokespecial 1, 3) from by decide +kernel) (Nat.le_of_ble_eq_true rfl) (Nat.le_of_ble_eq_true rfl) ?_
  refine W.eq (g2 := F0 m 4 ls []) rfl ?_
  refine lv_aload_n hx hb (k := 0) (show decode cX12_init 4 = .ok (.aload_n 0, 1) from by decide +kernel) rfl (lv_at hl 0 rfl) ?_
  refine lv_sipush hx hb (v := 1725) (show decode cX12_init 5 = .ok (.sipush 1725, 3) from by decide +kernel) (by decide) ?_
  refine pz_Nar (at_ := .int) Y hA 0 (ty := .int) rfl rfl rfl (fun C h => by cases h) (pz_tbl_in pz_wq170 rfl) hP hD hS (by decide) (N' := 1725) (by decide) (by decide) (Nat.le_of_ble_eq_true rfl) (Nat.le_of_ble_eq_true rfl) (show decode cX12_init 8 = .ok (.newarray .int, 2) from by decide +kernel) (fun q8 H hP hD hS => ?_)
  rw [List.append_assoc] at hP hD
  obtain ⟨hP, hD⟩ := (⟨hP, hD⟩ : pz_PD D A (X ++ [(h0, .inr (12, [.null, .null, .null, .null, .int 0, .int 0, .null, .null, .null, .null, .null, .null, .int 0, .int 0, .int 0, .int 0, .int 0, .int 0, .int 0, .int 0, .int 0, .int 0, .int 0, .int 0, .int 0, .int 0, .int 0, .null])), (q8, .inl (cy 0, 1725, .inl (fun _ => 0)))]) H)
  refine W.widen (k := 1) (n := 1725) (Nat.le_of_ble_eq_true rfl) (Nat.le_of_ble_eq_true rfl) ?_
  refine va_putF (D := D) (ci := 12) (v := .ref q8) (ty := tyX12 0) (C := RX12) (T := TX12) (N := 28) hx hb hts (fun w hw => pz_tbl_in (pz_in12 w hw) (pz_layg w hw)) tyX12 tyX12_ok nmX12 hown hB.1 hP hD hS (X.length + 0) (pz_xget rfl) rfl 0 (by decide) (hts (.fieldLink RX12 7 "TwelveChainModel" "w" "[I") (pz_tbl_in pz_wq1120 rfl)) (fun _ h9 => h9) rfl hin rfl (tyX12_ok 0 (by decide)) rfl rfl (Nat.le_of_ble_eq_true rfl) (show decode cX12_init 10 = .ok (.putfield 7, 3) from by decide +kernel) (fun H locs hP hD hS => ?_)
  rw [pz_xset] at hP hD
  obtain ⟨hP, hD⟩ := (⟨hP, hD⟩ : pz_PD D A (X ++ [(h0, .inr (12, [.ref q8, .null, .null, .null, .int 0, .int 0, .null, .null, .null, .null, .null, .null, .int 0, .int 0, .int 0, .int 0, .int 0, .int 0, .int 0, .int 0, .int 0, .int 0, .int 0, .int 0, .int 0, .int 0, .int 0, .null])), (q8, .inl (cy 0, 1725, .inl (fun _ => 0)))]) H)
  refine lv_aload_n hx hb (k := 0) (show decode cX12_init 13 = .ok (.aload_n 0, 1) from by decide +kernel) rfl (lv_at hl 0 rfl) ?_
  refine lv_sipush hx hb (v := 1725) (show decode cX12_init 14 = .ok (.sipush 1725, 3) from by decide +kernel) (by decide) ?_
  refine pz_Nar (at_ := .int) Y hA 0 (ty := .int) rfl rfl rfl (fun C h => by cases h) (pz_tbl_in pz_wq170 rfl) hP hD hS (by decide) (N' := 1725) (by decide) (by decide) (Nat.le_of_ble_eq_true rfl) (Nat.le_of_ble_eq_true rfl) (show decode cX12_init 17 = .ok (.newarray .int, 2) from by decide +kernel) (fun q17 H hP hD hS => ?_)
  rw [List.append_assoc] at hP hD
  obtain ⟨hP, hD⟩ := (⟨hP, hD⟩ : pz_PD D A (X ++ [(h0, .inr (12, [.ref q8, .null, .null, .null, .int 0, .int 0, .null, .null, .null, .null, .null, .null, .int 0, .int 0, .int 0, .int 0, .int 0, .int 0, .int 0, .int 0, .int 0, .int 0, .int 0, .int 0, .int 0, .int 0, .int 0, .null])), (q8, .inl (cy 0, 1725, .inl (fun _ => 0))), (q17, .inl (cy 0, 1725, .inl (fun _ => 0)))]) H)
  refine W.widen (k := 2) (n := 3450) (Nat.le_of_ble_eq_true rfl) (Nat.le_of_ble_eq_true rfl) ?_
  refine va_putF (D := D) (ci := 12) (v := .ref q17) (ty := tyX12 1) (C := RX12) (T := TX12) (N := 28) hx hb hts (fun w hw => pz_tbl_in (pz_in12 w hw) (pz_layg w hw)) tyX12 tyX12_ok nmX12 hown hB.1 hP hD hS (X.length + 0) (pz_xget rfl) rfl 1 (by decide) (hts (.fieldLink RX12 13 "TwelveChainModel" "kept" "[I") (pz_tbl_in pz_wq1121 rfl)) (fun _ h9 => h9) rfl hin rfl (tyX12_ok 1 (by decide)) rfl rfl (Nat.le_of_ble_eq_true rfl) (show decode cX12_init 19 = .ok (.putfield 13, 3) from by decide +kernel) (fun H locs hP hD hS => ?_)
  rw [pz_xset] at hP hD
  obtain ⟨hP, hD⟩ := (⟨hP, hD⟩ : pz_PD D A (X ++ [(h0, .inr (12, [.ref q8, .ref q17, .null, .null, .int 0, .int 0, .null, .null, .null, .null, .null, .null, .int 0, .int 0, .int 0, .int 0, .int 0, .int 0, .int 0, .int 0, .int 0, .int 0, .int 0, .int 0, .int 0, .int 0, .int 0, .null])), (q8, .inl (cy 0, 1725, .inl (fun _ => 0))), (q17, .inl (cy 0, 1725, .inl (fun _ => 0)))]) H)
  refine lv_aload_n hx hb (k := 0) (show decode cX12_init 22 = .ok (.aload_n 0, 1) from by decide +kernel) rfl (lv_at hl 0 rfl) ?_
  refine lv_sipush hx hb (v := 528) (show decode cX12_init 23 = .ok (.sipush 528, 3) from by decide +kernel) (by decide) ?_
  refine pz_Nar (at_ := .int) Y hA 0 (ty := .int) rfl rfl rfl (fun C h => by cases h) (pz_tbl_in pz_wq170 rfl) hP hD hS (by decide) (N' := 528) (by decide) (by decide) (Nat.le_of_ble_eq_true rfl) (Nat.le_of_ble_eq_true rfl) (show decode cX12_init 26 = .ok (.newarray .int, 2) from by decide +kernel) (fun q26 H hP hD hS => ?_)
  rw [List.append_assoc] at hP hD
  obtain ⟨hP, hD⟩ := (⟨hP, hD⟩ : pz_PD D A (X ++ [(h0, .inr (12, [.ref q8, .ref q17, .null, .null, .int 0, .int 0, .null, .null, .null, .null, .null, .null, .int 0, .int 0, .int 0, .int 0, .int 0, .int 0, .int 0, .int 0, .int 0, .int 0, .int 0, .int 0, .int 0, .int 0, .int 0, .null])), (q8, .inl (cy 0, 1725, .inl (fun _ => 0))), (q17, .inl (cy 0, 1725, .inl (fun _ => 0))), (q26, .inl (cy 0, 528, .inl (fun _ => 0)))]) H)
  refine W.widen (k := 3) (n := 3978) (Nat.le_of_ble_eq_true rfl) (Nat.le_of_ble_eq_true rfl) ?_
  refine va_putF (D := D) (ci := 12) (v := .ref q26) (ty := tyX12 2) (C := RX12) (T := TX12) (N := 28) hx hb hts (fun w hw => pz_tbl_in (pz_in12 w hw) (pz_layg w hw)) tyX12 tyX12_ok nmX12 hown hB.1 hP hD hS (X.length + 0) (pz_xget rfl) rfl 2 (by decide) (hts (.fieldLink RX12 16 "TwelveChainModel" "back" "[I") (pz_tbl_in pz_wq1122 rfl)) (fun _ h9 => h9) rfl hin rfl (tyX12_ok 2 (by decide)) rfl rfl (Nat.le_of_ble_eq_true rfl) (show decode cX12_init 28 = .ok (.putfield 16, 3) from by decide +kernel) (fun H locs hP hD hS => ?_)
  rw [pz_xset] at hP hD
  obtain ⟨hP, hD⟩ := (⟨hP, hD⟩ : pz_PD D A (X ++ [(h0, .inr (12, [.ref q8, .ref q17, .ref q26, .null, .int 0, .int 0, .null, .null, .null, .null, .null, .null, .int 0, .int 0, .int 0, .int 0, .int 0, .int 0, .int 0, .int 0, .int 0, .int 0, .int 0, .int 0, .int 0, .int 0, .int 0, .null])), (q8, .inl (cy 0, 1725, .inl (fun _ => 0))), (q17, .inl (cy 0, 1725, .inl (fun _ => 0))), (q26, .inl (cy 0, 528, .inl (fun _ => 0)))]) H)
  refine lv_aload_n hx hb (k := 0) (show decode cX12_init 31 = .ok (.aload_n 0, 1) from by decide +kernel) rfl (lv_at hl 0 rfl) ?_
  refine lv_bipush hx hb (v := 88) (show decode cX12_init 32 = .ok (.bipush 88, 2) from by decide +kernel) (by decide) ?_
  refine pz_Nar (at_ := .int) Y hA 0 (ty := .int) rfl rfl rfl (fun C h => by cases h) (pz_tbl_in pz_wq170 rfl) hP hD hS (by decide) (N' := 88) (by decide) (by decide) (Nat.le_of_ble_eq_true rfl) (Nat.le_of_ble_eq_true rfl) (show decode cX12_init 34 = .ok (.newarray .int, 2) from by decide +kernel) (fun q34 H hP hD hS => ?_)
  rw [List.append_assoc] at hP hD
  obtain ⟨hP, hD⟩ := (⟨hP, hD⟩ : pz_PD D A (X ++ [(h0, .inr (12, [.ref q8, .ref q17, .ref q26, .null, .int 0, .int 0, .null, .null, .null, .null, .null, .null, .int 0, .int 0, .int 0, .int 0, .int 0, .int 0, .int 0, .int 0, .int 0, .int 0, .int 0, .int 0, .int 0, .int 0, .int 0, .null])), (q8, .inl (cy 0, 1725, .inl (fun _ => 0))), (q17, .inl (cy 0, 1725, .inl (fun _ => 0))), (q26, .inl (cy 0, 528, .inl (fun _ => 0))), (q34, .inl (cy 0, 88, .inl (fun _ => 0)))]) H)
  refine W.widen (k := 4) (n := 4066) (Nat.le_of_ble_eq_true rfl) (Nat.le_of_ble_eq_true rfl) ?_
  refine va_putF (D := D) (ci := 12) (v := .ref q34) (ty := tyX12 3) (C := RX12) (T := TX12) (N := 28) hx hb hts (fun w hw => pz_tbl_in (pz_in12 w hw) (pz_layg w hw)) tyX12 tyX12_ok nmX12 hown hB.1 hP hD hS (X.length + 0) (pz_xget rfl) rfl 3 (by decide) (hts (.fieldLink RX12 19 "TwelveChainModel" "lying" "[I") (pz_tbl_in pz_wq1123 rfl)) (fun _ h9 => h9) rfl hin rfl (tyX12_ok 3 (by decide)) rfl rfl (Nat.le_of_ble_eq_true rfl) (show decode cX12_init 36 = .ok (.putfield 19, 3) from by decide +kernel) (fun H locs hP hD hS => ?_)
  rw [pz_xset] at hP hD
  obtain ⟨hP, hD⟩ := (⟨hP, hD⟩ : pz_PD D A (X ++ [(h0, .inr (12, [.ref q8, .ref q17, .ref q26, .ref q34, .int 0, .int 0, .null, .null, .null, .null, .null, .null, .int 0, .int 0, .int 0, .int 0, .int 0, .int 0, .int 0, .int 0, .int 0, .int 0, .int 0, .int 0, .int 0, .int 0, .int 0, .null])), (q8, .inl (cy 0, 1725, .inl (fun _ => 0))), (q17, .inl (cy 0, 1725, .inl (fun _ => 0))), (q26, .inl (cy 0, 528, .inl (fun _ => 0))), (q34, .inl (cy 0, 88, .inl (fun _ => 0)))]) H)
  refine lv_aload_n hx hb (k := 0) (show decode cX12_init 39 = .ok (.aload_n 0, 1) from by decide +kernel) rfl (lv_at hl 0 rfl) ?_
  refine lv_bipush hx hb (v := 64) (show decode cX12_init 40 = .ok (.bipush 64, 2) from by decide +kernel) (by decide) ?_
  refine pz_Nar (at_ := .int) Y hA 0 (ty := .int) rfl rfl rfl (fun C h => by cases h) (pz_tbl_in pz_wq170 rfl) hP hD hS (by decide) (N' := 64) (by decide) (by decide) (Nat.le_of_ble_eq_true rfl) (Nat.le_of_ble_eq_true rfl) (show decode cX12_init 42 = .ok (.newarray .int, 2) from by decide +kernel) (fun q42 H hP hD hS => ?_)
  rw [List.append_assoc] at hP hD
  obtain ⟨hP, hD⟩ := (⟨hP, hD⟩ : pz_PD D A (X ++ [(h0, .inr (12, [.ref q8, .ref q17, .ref q26, .ref q34, .int 0, .int 0, .null, .null, .null, .null, .null, .null, .int 0, .int 0, .int 0, .int 0, .int 0, .int 0, .int 0, .int 0, .int 0, .int 0, .int 0, .int 0, .int 0, .int 0, .int 0, .null])), (q8, .inl (cy 0, 1725, .inl (fun _ => 0))), (q17, .inl (cy 0, 1725, .inl (fun _ => 0))), (q26, .inl (cy 0, 528, .inl (fun _ => 0))), (q34, .inl (cy 0, 88, .inl (fun _ => 0))), (q42, .inl (cy 0, 64, .inl (fun _ => 0)))]) H)
  refine W.widen (k := 5) (n := 4130) (Nat.le_of_ble_eq_true rfl) (Nat.le_of_ble_eq_true rfl) ?_
  refine va_putF (D := D) (ci := 12) (v := .ref q42) (ty := tyX12 6) (C := RX12) (T := TX12) (N := 28) hx hb hts (fun w hw => pz_tbl_in (pz_in12 w hw) (pz_layg w hw)) tyX12 tyX12_ok nmX12 hown hB.1 hP hD hS (X.length + 0) (pz_xget rfl) rfl 6 (by decide) (hts (.fieldLink RX12 22 "TwelveChainModel" "freshLine" "[I") (pz_tbl_in pz_wq1126 rfl)) (fun _ h9 => h9) rfl hin rfl (tyX12_ok 6 (by decide)) rfl rfl (Nat.le_of_ble_eq_true rfl) (show decode cX12_init 44 = .ok (.putfield 22, 3) from by decide +kernel) (fun H locs hP hD hS => ?_)
  rw [pz_xset] at hP hD
  obtain ⟨hP, hD⟩ := (⟨hP, hD⟩ : pz_PD D A (X ++ [(h0, .inr (12, [.ref q8, .ref q17, .ref q26, .ref q34, .int 0, .int 0, .ref q42, .null, .null, .null, .null, .null, .int 0, .int 0, .int 0, .int 0, .int 0, .int 0, .int 0, .int 0, .int 0, .int 0, .int 0, .int 0, .int 0, .int 0, .int 0, .null])), (q8, .inl (cy 0, 1725, .inl (fun _ => 0))), (q17, .inl (cy 0, 1725, .inl (fun _ => 0))), (q26, .inl (cy 0, 528, .inl (fun _ => 0))), (q34, .inl (cy 0, 88, .inl (fun _ => 0))), (q42, .inl (cy 0, 64, .inl (fun _ => 0)))]) H)
  refine lv_aload_n hx hb (k := 0) (show decode cX12_init 47 = .ok (.aload_n 0, 1) from by decide +kernel) rfl (lv_at hl 0 rfl) ?_
  refine lv_sipush hx hb (v := 820) (show decode cX12_init 48 = .ok (.sipush 820, 3) from by decide +kernel) (by decide) ?_
  refine pz_Nar (at_ := .int) Y hA 0 (ty := .int) rfl rfl rfl (fun C h => by cases h) (pz_tbl_in pz_wq170 rfl) hP hD hS (by decide) (N' := 820) (by decide) (by decide) (Nat.le_of_ble_eq_true rfl) (Nat.le_of_ble_eq_true rfl) (show decode cX12_init 51 = .ok (.newarray .int, 2) from by decide +kernel) (fun q51 H hP hD hS => ?_)
  rw [List.append_assoc] at hP hD
  obtain ⟨hP, hD⟩ := (⟨hP, hD⟩ : pz_PD D A (X ++ [(h0, .inr (12, [.ref q8, .ref q17, .ref q26, .ref q34, .int 0, .int 0, .ref q42, .null, .null, .null, .null, .null, .int 0, .int 0, .int 0, .int 0, .int 0, .int 0, .int 0, .int 0, .int 0, .int 0, .int 0, .int 0, .int 0, .int 0, .int 0, .null])), (q8, .inl (cy 0, 1725, .inl (fun _ => 0))), (q17, .inl (cy 0, 1725, .inl (fun _ => 0))), (q26, .inl (cy 0, 528, .inl (fun _ => 0))), (q34, .inl (cy 0, 88, .inl (fun _ => 0))), (q42, .inl (cy 0, 64, .inl (fun _ => 0))), (q51, .inl (cy 0, 820, .inl (fun _ => 0)))]) H)
  refine W.widen (k := 6) (n := 4950) (Nat.le_of_ble_eq_true rfl) (Nat.le_of_ble_eq_true rfl) ?_
  refine va_putF (D := D) (ci := 12) (v := .ref q51) (ty := tyX12 7) (C := RX12) (T := TX12) (N := 28) hx hb hts (fun w hw => pz_tbl_in (pz_in12 w hw) (pz_layg w hw)) tyX12 tyX12_ok nmX12 hown hB.1 hP hD hS (X.length + 0) (pz_xget rfl) rfl 7 (by decide) (hts (.fieldLink RX12 25 "TwelveChainModel" "freshStep" "[I") (pz_tbl_in pz_wq1127 rfl)) (fun _ h9 => h9) rfl hin rfl (tyX12_ok 7 (by decide)) rfl rfl (Nat.le_of_ble_eq_true rfl) (show decode cX12_init 53 = .ok (.putfield 25, 3) from by decide +kernel) (fun H locs hP hD hS => ?_)
  rw [pz_xset] at hP hD
  obtain ⟨hP, hD⟩ := (⟨hP, hD⟩ : pz_PD D A (X ++ [(h0, .inr (12, [.ref q8, .ref q17, .ref q26, .ref q34, .int 0, .int 0, .ref q42, .ref q51, .null, .null, .null, .null, .int 0, .int 0, .int 0, .int 0, .int 0, .int 0, .int 0, .int 0, .int 0, .int 0, .int 0, .int 0, .int 0, .int 0, .int 0, .null])), (q8, .inl (cy 0, 1725, .inl (fun _ => 0))), (q17, .inl (cy 0, 1725, .inl (fun _ => 0))), (q26, .inl (cy 0, 528, .inl (fun _ => 0))), (q34, .inl (cy 0, 88, .inl (fun _ => 0))), (q42, .inl (cy 0, 64, .inl (fun _ => 0))), (q51, .inl (cy 0, 820, .inl (fun _ => 0)))]) H)
  refine lv_aload_n hx hb (k := 0) (show decode cX12_init 56 = .ok (.aload_n 0, 1) from by decide +kernel) rfl (lv_at hl 0 rfl) ?_
  refine lv_bipush hx hb (v := 80) (show decode cX12_init 57 = .ok (.bipush 80, 2) from by decide +kernel) (by decide) ?_
  refine pz_Nar (at_ := .int) Y hA 0 (ty := .int) rfl rfl rfl (fun C h => by cases h) (pz_tbl_in pz_wq170 rfl) hP hD hS (by decide) (N' := 80) (by decide) (by decide) (Nat.le_of_ble_eq_true rfl) (Nat.le_of_ble_eq_true rfl) (show decode cX12_init 59 = .ok (.newarray .int, 2) from by decide +kernel) (fun q59 H hP hD hS => ?_)
  rw [List.append_assoc] at hP hD
  obtain ⟨hP, hD⟩ := (⟨hP, hD⟩ : pz_PD D A (X ++ [(h0, .inr (12, [.ref q8, .ref q17, .ref q26, .ref q34, .int 0, .int 0, .ref q42, .ref q51, .null, .null, .null, .null, .int 0, .int 0, .int 0, .int 0, .int 0, .int 0, .int 0, .int 0, .int 0, .int 0, .int 0, .int 0, .int 0, .int 0, .int 0, .null])), (q8, .inl (cy 0, 1725, .inl (fun _ => 0))), (q17, .inl (cy 0, 1725, .inl (fun _ => 0))), (q26, .inl (cy 0, 528, .inl (fun _ => 0))), (q34, .inl (cy 0, 88, .inl (fun _ => 0))), (q42, .inl (cy 0, 64, .inl (fun _ => 0))), (q51, .inl (cy 0, 820, .inl (fun _ => 0))), (q59, .inl (cy 0, 80, .inl (fun _ => 0)))]) H)
  refine W.widen (k := 7) (n := 5030) (Nat.le_of_ble_eq_true rfl) (Nat.le_of_ble_eq_true rfl) ?_
  refine va_putF (D := D) (ci := 12) (v := .ref q59) (ty := tyX12 8) (C := RX12) (T := TX12) (N := 28) hx hb hts (fun w hw => pz_tbl_in (pz_in12 w hw) (pz_layg w hw)) tyX12 tyX12_ok nmX12 hown hB.1 hP hD hS (X.length + 0) (pz_xget rfl) rfl 8 (by decide) (hts (.fieldLink RX12 28 "TwelveChainModel" "freshRow" "[I") (pz_tbl_in pz_wq1128 rfl)) (fun _ h9 => h9) rfl hin rfl (tyX12_ok 8 (by decide)) rfl rfl (Nat.le_of_ble_eq_true rfl) (show decode cX12_init 61 = .ok (.putfield 28, 3) from by decide +kernel) (fun H locs hP hD hS => ?_)
  rw [pz_xset] at hP hD
  obtain ⟨hP, hD⟩ := (⟨hP, hD⟩ : pz_PD D A (X ++ [(h0, .inr (12, [.ref q8, .ref q17, .ref q26, .ref q34, .int 0, .int 0, .ref q42, .ref q51, .ref q59, .null, .null, .null, .int 0, .int 0, .int 0, .int 0, .int 0, .int 0, .int 0, .int 0, .int 0, .int 0, .int 0, .int 0, .int 0, .int 0, .int 0, .null])), (q8, .inl (cy 0, 1725, .inl (fun _ => 0))), (q17, .inl (cy 0, 1725, .inl (fun _ => 0))), (q26, .inl (cy 0, 528, .inl (fun _ => 0))), (q34, .inl (cy 0, 88, .inl (fun _ => 0))), (q42, .inl (cy 0, 64, .inl (fun _ => 0))), (q51, .inl (cy 0, 820, .inl (fun _ => 0))), (q59, .inl (cy 0, 80, .inl (fun _ => 0)))]) H)
  refine lv_aload_n hx hb (k := 0) (show decode cX12_init 64 = .ok (.aload_n 0, 1) from by decide +kernel) rfl (lv_at hl 0 rfl) ?_
  refine lv_sipush hx hb (v := 400) (show decode cX12_init 65 = .ok (.sipush 400, 3) from by decide +kernel) (by decide) ?_
  refine pz_Nar (at_ := .int) Y hA 0 (ty := .int) rfl rfl rfl (fun C h => by cases h) (pz_tbl_in pz_wq170 rfl) hP hD hS (by decide) (N' := 400) (by decide) (by decide) (Nat.le_of_ble_eq_true rfl) (Nat.le_of_ble_eq_true rfl) (show decode cX12_init 68 = .ok (.newarray .int, 2) from by decide +kernel) (fun q68 H hP hD hS => ?_)
  rw [List.append_assoc] at hP hD
  obtain ⟨hP, hD⟩ := (⟨hP, hD⟩ : pz_PD D A (X ++ [(h0, .inr (12, [.ref q8, .ref q17, .ref q26, .ref q34, .int 0, .int 0, .ref q42, .ref q51, .ref q59, .null, .null, .null, .int 0, .int 0, .int 0, .int 0, .int 0, .int 0, .int 0, .int 0, .int 0, .int 0, .int 0, .int 0, .int 0, .int 0, .int 0, .null])), (q8, .inl (cy 0, 1725, .inl (fun _ => 0))), (q17, .inl (cy 0, 1725, .inl (fun _ => 0))), (q26, .inl (cy 0, 528, .inl (fun _ => 0))), (q34, .inl (cy 0, 88, .inl (fun _ => 0))), (q42, .inl (cy 0, 64, .inl (fun _ => 0))), (q51, .inl (cy 0, 820, .inl (fun _ => 0))), (q59, .inl (cy 0, 80, .inl (fun _ => 0))), (q68, .inl (cy 0, 400, .inl (fun _ => 0)))]) H)
  refine W.widen (k := 8) (n := 5430) (Nat.le_of_ble_eq_true rfl) (Nat.le_of_ble_eq_true rfl) ?_
  refine va_putF (D := D) (ci := 12) (v := .ref q68) (ty := tyX12 9) (C := RX12) (T := TX12) (N := 28) hx hb hts (fun w hw => pz_tbl_in (pz_in12 w hw) (pz_layg w hw)) tyX12 tyX12_ok nmX12 hown hB.1 hP hD hS (X.length + 0) (pz_xget rfl) rfl 9 (by decide) (hts (.fieldLink RX12 31 "TwelveChainModel" "tape" "[I") (pz_tbl_in pz_wq1129 rfl)) (fun _ h9 => h9) rfl hin rfl (tyX12_ok 9 (by decide)) rfl rfl (Nat.le_of_ble_eq_true rfl) (show decode cX12_init 70 = .ok (.putfield 31, 3) from by decide +kernel) (fun H locs hP hD hS => ?_)
  rw [pz_xset] at hP hD
  obtain ⟨hP, hD⟩ := (⟨hP, hD⟩ : pz_PD D A (X ++ [(h0, .inr (12, [.ref q8, .ref q17, .ref q26, .ref q34, .int 0, .int 0, .ref q42, .ref q51, .ref q59, .ref q68, .null, .null, .int 0, .int 0, .int 0, .int 0, .int 0, .int 0, .int 0, .int 0, .int 0, .int 0, .int 0, .int 0, .int 0, .int 0, .int 0, .null])), (q8, .inl (cy 0, 1725, .inl (fun _ => 0))), (q17, .inl (cy 0, 1725, .inl (fun _ => 0))), (q26, .inl (cy 0, 528, .inl (fun _ => 0))), (q34, .inl (cy 0, 88, .inl (fun _ => 0))), (q42, .inl (cy 0, 64, .inl (fun _ => 0))), (q51, .inl (cy 0, 820, .inl (fun _ => 0))), (q59, .inl (cy 0, 80, .inl (fun _ => 0))), (q68, .inl (cy 0, 400, .inl (fun _ => 0)))]) H)
  refine lv_aload_n hx hb (k := 0) (show decode cX12_init 73 = .ok (.aload_n 0, 1) from by decide +kernel) rfl (lv_at hl 0 rfl) ?_
  refine lv_sipush hx hb (v := 420) (show decode cX12_init 74 = .ok (.sipush 420, 3) from by decide +kernel) (by decide) ?_
  refine pz_Nar (at_ := .int) Y hA 0 (ty := .int) rfl rfl rfl (fun C h => by cases h) (pz_tbl_in pz_wq170 rfl) hP hD hS (by decide) (N' := 420) (by decide) (by decide) (Nat.le_of_ble_eq_true rfl) (Nat.le_of_ble_eq_true rfl) (show decode cX12_init 77 = .ok (.newarray .int, 2) from by decide +kernel) (fun q77 H hP hD hS => ?_)
  rw [List.append_assoc] at hP hD
  obtain ⟨hP, hD⟩ := (⟨hP, hD⟩ : pz_PD D A (X ++ [(h0, .inr (12, [.ref q8, .ref q17, .ref q26, .ref q34, .int 0, .int 0, .ref q42, .ref q51, .ref q59, .ref q68, .null, .null, .int 0, .int 0, .int 0, .int 0, .int 0, .int 0, .int 0, .int 0, .int 0, .int 0, .int 0, .int 0, .int 0, .int 0, .int 0, .null])), (q8, .inl (cy 0, 1725, .inl (fun _ => 0))), (q17, .inl (cy 0, 1725, .inl (fun _ => 0))), (q26, .inl (cy 0, 528, .inl (fun _ => 0))), (q34, .inl (cy 0, 88, .inl (fun _ => 0))), (q42, .inl (cy 0, 64, .inl (fun _ => 0))), (q51, .inl (cy 0, 820, .inl (fun _ => 0))), (q59, .inl (cy 0, 80, .inl (fun _ => 0))), (q68, .inl (cy 0, 400, .inl (fun _ => 0))), (q77, .inl (cy 0, 420, .inl (fun _ => 0)))]) H)
  refine W.widen (k := 9) (n := 5850) (Nat.le_of_ble_eq_true rfl) (Nat.le_of_ble_eq_true rfl) ?_
  refine va_putF (D := D) (ci := 12) (v := .ref q77) (ty := tyX12 10) (C := RX12) (T := TX12) (N := 28) hx hb hts (fun w hw => pz_tbl_in (pz_in12 w hw) (pz_layg w hw)) tyX12 tyX12_ok nmX12 hown hB.1 hP hD hS (X.length + 0) (pz_xget rfl) rfl 10 (by decide) (hts (.fieldLink RX12 34 "TwelveChainModel" "pile" "[I") (pz_tbl_in pz_wq1130 rfl)) (fun _ h9 => h9) rfl hin rfl (tyX12_ok 10 (by decide)) rfl rfl (Nat.le_of_ble_eq_true rfl) (show decode cX12_init 79 = .ok (.putfield 34, 3) from by decide +kernel) (fun H locs hP hD hS => ?_)
  rw [pz_xset] at hP hD
  obtain ⟨hP, hD⟩ := (⟨hP, hD⟩ : pz_PD D A (X ++ [(h0, .inr (12, [.ref q8, .ref q17, .ref q26, .ref q34, .int 0, .int 0, .ref q42, .ref q51, .ref q59, .ref q68, .ref q77, .null, .int 0, .int 0, .int 0, .int 0, .int 0, .int 0, .int 0, .int 0, .int 0, .int 0, .int 0, .int 0, .int 0, .int 0, .int 0, .null])), (q8, .inl (cy 0, 1725, .inl (fun _ => 0))), (q17, .inl (cy 0, 1725, .inl (fun _ => 0))), (q26, .inl (cy 0, 528, .inl (fun _ => 0))), (q34, .inl (cy 0, 88, .inl (fun _ => 0))), (q42, .inl (cy 0, 64, .inl (fun _ => 0))), (q51, .inl (cy 0, 820, .inl (fun _ => 0))), (q59, .inl (cy 0, 80, .inl (fun _ => 0))), (q68, .inl (cy 0, 400, .inl (fun _ => 0))), (q77, .inl (cy 0, 420, .inl (fun _ => 0)))]) H)
  refine lv_aload_n hx hb (k := 0) (show decode cX12_init 82 = .ok (.aload_n 0, 1) from by decide +kernel) rfl (lv_at hl 0 rfl) ?_
  refine lv_bipush hx hb (v := 10) (show decode cX12_init 83 = .ok (.bipush 10, 2) from by decide +kernel) (by decide) ?_
  refine pz_Nar (at_ := .int) Y hA 0 (ty := .int) rfl rfl rfl (fun C h => by cases h) (pz_tbl_in pz_wq170 rfl) hP hD hS (by decide) (N' := 10) (by decide) (by decide) (Nat.le_of_ble_eq_true rfl) (Nat.le_of_ble_eq_true rfl) (show decode cX12_init 85 = .ok (.newarray .int, 2) from by decide +kernel) (fun q85 H hP hD hS => ?_)
  rw [List.append_assoc] at hP hD
  obtain ⟨hP, hD⟩ := (⟨hP, hD⟩ : pz_PD D A (X ++ [(h0, .inr (12, [.ref q8, .ref q17, .ref q26, .ref q34, .int 0, .int 0, .ref q42, .ref q51, .ref q59, .ref q68, .ref q77, .null, .int 0, .int 0, .int 0, .int 0, .int 0, .int 0, .int 0, .int 0, .int 0, .int 0, .int 0, .int 0, .int 0, .int 0, .int 0, .null])), (q8, .inl (cy 0, 1725, .inl (fun _ => 0))), (q17, .inl (cy 0, 1725, .inl (fun _ => 0))), (q26, .inl (cy 0, 528, .inl (fun _ => 0))), (q34, .inl (cy 0, 88, .inl (fun _ => 0))), (q42, .inl (cy 0, 64, .inl (fun _ => 0))), (q51, .inl (cy 0, 820, .inl (fun _ => 0))), (q59, .inl (cy 0, 80, .inl (fun _ => 0))), (q68, .inl (cy 0, 400, .inl (fun _ => 0))), (q77, .inl (cy 0, 420, .inl (fun _ => 0))), (q85, .inl (cy 0, 10, .inl (fun _ => 0)))]) H)
  refine W.widen (k := 10) (n := 5860) (Nat.le_of_ble_eq_true rfl) (Nat.le_of_ble_eq_true rfl) ?_
  refine va_putF (D := D) (ci := 12) (v := .ref q85) (ty := tyX12 11) (C := RX12) (T := TX12) (N := 28) hx hb hts (fun w hw => pz_tbl_in (pz_in12 w hw) (pz_layg w hw)) tyX12 tyX12_ok nmX12 hown hB.1 hP hD hS (X.length + 0) (pz_xget rfl) rfl 11 (by decide) (hts (.fieldLink RX12 37 "TwelveChainModel" "facts" "[I") (pz_tbl_in pz_wq1131 rfl)) (fun _ h9 => h9) rfl hin rfl (tyX12_ok 11 (by decide)) rfl rfl (Nat.le_of_ble_eq_true rfl) (show decode cX12_init 87 = .ok (.putfield 37, 3) from by decide +kernel) (fun H locs hP hD hS => ?_)
  rw [pz_xset] at hP hD
  obtain ⟨hP, hD⟩ := (⟨hP, hD⟩ : pz_PD D A (X ++ [(h0, .inr (12, [.ref q8, .ref q17, .ref q26, .ref q34, .int 0, .int 0, .ref q42, .ref q51, .ref q59, .ref q68, .ref q77, .ref q85, .int 0, .int 0, .int 0, .int 0, .int 0, .int 0, .int 0, .int 0, .int 0, .int 0, .int 0, .int 0, .int 0, .int 0, .int 0, .null])), (q8, .inl (cy 0, 1725, .inl (fun _ => 0))), (q17, .inl (cy 0, 1725, .inl (fun _ => 0))), (q26, .inl (cy 0, 528, .inl (fun _ => 0))), (q34, .inl (cy 0, 88, .inl (fun _ => 0))), (q42, .inl (cy 0, 64, .inl (fun _ => 0))), (q51, .inl (cy 0, 820, .inl (fun _ => 0))), (q59, .inl (cy 0, 80, .inl (fun _ => 0))), (q68, .inl (cy 0, 400, .inl (fun _ => 0))), (q77, .inl (cy 0, 420, .inl (fun _ => 0))), (q85, .inl (cy 0, 10, .inl (fun _ => 0)))]) H)
  refine lv_aload_n hx hb (k := 0) (show decode cX12_init 90 = .ok (.aload_n 0, 1) from by decide +kernel) rfl (lv_at hl 0 rfl) ?_
  refine lv_iconst hx hb (v := (-1)) (show decode cX12_init 91 = .ok (.iconst (-1), 1) from by decide +kernel) (by decide) ?_
  refine va_put (D := D) (ci := 12) (v := .int (-1)) (ty := tyX12 25) (C := RX12) (T := TX12) (N := 28) hx hb hts (fun w hw => pz_tbl_in (pz_in12 w hw) (pz_layg w hw)) tyX12 tyX12_ok nmX12 hown hB.1 hP hD hS (X.length + 0) (pz_xget rfl) rfl 25 (by decide) (hts (.fieldLink RX12 40 "TwelveChainModel" "faultPlace" "I") (pz_tbl_in pz_wq1145 rfl)) (fun _ h9 => h9) rfl (tyX12_ok 25 (by decide)) rfl rfl (Nat.le_of_ble_eq_true rfl) (show decode cX12_init 92 = .ok (.putfield 40, 3) from by decide +kernel) (fun H locs hP hD hS => ?_)
  rw [pz_xset] at hP hD
  obtain ⟨hP, hD⟩ := (⟨hP, hD⟩ : pz_PD D A (X ++ [(h0, .inr (12, [.ref q8, .ref q17, .ref q26, .ref q34, .int 0, .int 0, .ref q42, .ref q51, .ref q59, .ref q68, .ref q77, .ref q85, .int 0, .int 0, .int 0, .int 0, .int 0, .int 0, .int 0, .int 0, .int 0, .int 0, .int 0, .int 0, .int 0, .int (-1), .int 0, .null])), (q8, .inl (cy 0, 1725, .inl (fun _ => 0))), (q17, .inl (cy 0, 1725, .inl (fun _ => 0))), (q26, .inl (cy 0, 528, .inl (fun _ => 0))), (q34, .inl (cy 0, 88, .inl (fun _ => 0))), (q42, .inl (cy 0, 64, .inl (fun _ => 0))), (q51, .inl (cy 0, 820, .inl (fun _ => 0))), (q59, .inl (cy 0, 80, .inl (fun _ => 0))), (q68, .inl (cy 0, 400, .inl (fun _ => 0))), (q77, .inl (cy 0, 420, .inl (fun _ => 0))), (q85, .inl (cy 0, 10, .inl (fun _ => 0)))]) H)
  refine lv_aload_n hx hb (k := 0) (show decode cX12_init 95 = .ok (.aload_n 0, 1) from by decide +kernel) rfl (lv_at hl 0 rfl) ?_
  refine lv_sipush hx hb (v := 4096) (show decode cX12_init 96 = .ok (.sipush 4096, 3) from by decide +kernel) (by decide) ?_
  refine pz_Nar (at_ := .int) Y hA 0 (ty := .int) rfl rfl rfl (fun C h => by cases h) (pz_tbl_in pz_wq170 rfl) hP hD hS (by decide) (N' := 4096) (by decide) (by decide) (Nat.le_of_ble_eq_true rfl) (Nat.le_of_ble_eq_true rfl) (show decode cX12_init 99 = .ok (.newarray .int, 2) from by decide +kernel) (fun q99 H hP hD hS => ?_)
  rw [List.append_assoc] at hP hD
  obtain ⟨hP, hD⟩ := (⟨hP, hD⟩ : pz_PD D A (X ++ [(h0, .inr (12, [.ref q8, .ref q17, .ref q26, .ref q34, .int 0, .int 0, .ref q42, .ref q51, .ref q59, .ref q68, .ref q77, .ref q85, .int 0, .int 0, .int 0, .int 0, .int 0, .int 0, .int 0, .int 0, .int 0, .int 0, .int 0, .int 0, .int 0, .int (-1), .int 0, .null])), (q8, .inl (cy 0, 1725, .inl (fun _ => 0))), (q17, .inl (cy 0, 1725, .inl (fun _ => 0))), (q26, .inl (cy 0, 528, .inl (fun _ => 0))), (q34, .inl (cy 0, 88, .inl (fun _ => 0))), (q42, .inl (cy 0, 64, .inl (fun _ => 0))), (q51, .inl (cy 0, 820, .inl (fun _ => 0))), (q59, .inl (cy 0, 80, .inl (fun _ => 0))), (q68, .inl (cy 0, 400, .inl (fun _ => 0))), (q77, .inl (cy 0, 420, .inl (fun _ => 0))), (q85, .inl (cy 0, 10, .inl (fun _ => 0))), (q99, .inl (cy 0, 4096, .inl (fun _ => 0)))]) H)
  refine W.widen (k := 11) (n := 9956) (Nat.le_of_ble_eq_true rfl) (Nat.le_of_ble_eq_true rfl) ?_
  refine va_putF (D := D) (ci := 12) (v := .ref q99) (ty := tyX12 27) (C := RX12) (T := TX12) (N := 28) hx hb hts (fun w hw => pz_tbl_in (pz_in12 w hw) (pz_layg w hw)) tyX12 tyX12_ok nmX12 hown hB.1 hP hD hS (X.length + 0) (pz_xget rfl) rfl 27 (by decide) (hts (.fieldLink RX12 44 "TwelveChainModel" "done" "[I") (pz_tbl_in pz_wq1147 rfl)) (fun _ h9 => h9) rfl hin rfl (tyX12_ok 27 (by decide)) rfl rfl (Nat.le_of_ble_eq_true rfl) (show decode cX12_init 101 = .ok (.putfield 44, 3) from by decide +kernel) (fun H locs hP hD hS => ?_)
  rw [pz_xset] at hP hD
  obtain ⟨hP, hD⟩ := (⟨hP, hD⟩ : pz_PD D A (X ++ [(h0, .inr (12, [.ref q8, .ref q17, .ref q26, .ref q34, .int 0, .int 0, .ref q42, .ref q51, .ref q59, .ref q68, .ref q77, .ref q85, .int 0, .int 0, .int 0, .int 0, .int 0, .int 0, .int 0, .int 0, .int 0, .int 0, .int 0, .int 0, .int 0, .int (-1), .int 0, .ref q99])), (q8, .inl (cy 0, 1725, .inl (fun _ => 0))), (q17, .inl (cy 0, 1725, .inl (fun _ => 0))), (q26, .inl (cy 0, 528, .inl (fun _ => 0))), (q34, .inl (cy 0, 88, .inl (fun _ => 0))), (q42, .inl (cy 0, 64, .inl (fun _ => 0))), (q51, .inl (cy 0, 820, .inl (fun _ => 0))), (q59, .inl (cy 0, 80, .inl (fun _ => 0))), (q68, .inl (cy 0, 400, .inl (fun _ => 0))), (q77, .inl (cy 0, 420, .inl (fun _ => 0))), (q85, .inl (cy 0, 10, .inl (fun _ => 0))), (q99, .inl (cy 0, 4096, .inl (fun _ => 0)))]) H)
  exact Kr H _ _ 104 _ _ _ hP hD hS ⟨fun k => [q8, q17, q26, q34, q42, q51, q59, q68, q77, q85, q99].getD k 0, rfl⟩ (Nat.le_of_ble_eq_true rfl) (Nat.le_of_ble_eq_true rfl) (show decode cX12_init 104 = .ok (.return_, 1) from by decide +kernel)
set_option maxRecDepth 100000 in
set_option maxHeartbeats 4000000 in
theorem h_N_X9 {D : va_G} {cy : Nat → ClassId} {A : Nat → Prop} {X : va_W} {h0 : Nat} (tp : Nat) : pz_N yX9_init cX9_init 2 2 32 9 618 [.ref h0, .ref tp] D cy A (X ++ [(h0, .inr (9, [.null, .null, .null, .int 0, .int 0, .int 0, .int 0, .int 0, .int 0, .int 0]))]) (fun ws' => ∃ g, ws' = X ++ pz_b9 cy h0 tp g) := by
  refine pz_Nmk (pz_pfc_RX9 yX9_init rfl) rfl ?_
  intro p l e s m below meth c Q Y hP hD hA Kr
  obtain ⟨hx, hb, hml, hown, hts, hB, hin⟩ := Y
  have Y : pz_Ym p s m _ c _ _ _ D cy := ⟨hx, hb, hml, hown, hts, hB⟩
  have hS : va_S A s.heap s.heap [] := va_S.rf
  have hl := lv_entry [.ref h0, .ref tp] (n := 2) (Nat.le_of_ble_eq_true rfl)
  generalize (lg_sl ([.ref h0, .ref tp] : List Value) ++ List.replicate (2 - (lg_sl ([.ref h0, .ref tp] : List Value)).length) Slot.unset).toArray = ls at hl ⊢
  have hl : lv_has ls 2 [(0, .ref h0), (1, .ref tp)] := hl
  refine lv_aload_n hx hb (k := 0) (show decode cX9_init 0 = .ok (.aload_n 0, 1) from by decide +kernel) rfl (lv_at hl 0 rfl) ?_
  refine W.objInit hx hb hown (hts (.methodLink RX9 3 objectInit) (pz_tbl_in pz_wq274 rfl)) (hts (.instanceMethod objectInit) (pz_tbl_in pz_wq27 rfl)) (hts (.code objectInit ⟨#[0xb1]⟩ 1 none) (pz_tbl_in pz_wq28 rfl)) rfl (by rw [hml]; exact hl.1) rfl (show decode cX9_init 1 = .ok (.invokespecial 3, 3) from by decide +kernel) (Nat.le_of_ble_eq_true rfl) (Nat.le_of_ble_eq_true rfl) ?_
  refine W.eq (g2 := F0 m 4 ls []) rfl ?_
  refine lv_aload_n hx hb (k := 0) (show decode cX9_init 4 = .ok (.aload_n 0, 1) from by decide +kernel) rfl (lv_at hl 0 rfl) ?_
  refine va_new (ci := 3) (fs := [.int 0, .int 0, .null, .null, .null, .null, .null, .null]) (C := RX3) (T := TX3) (N := 8) hx hb hts (fun w hw => pz_tbl_in (pz_in3 w hw) (pz_layg w hw)) tyX3 tyX3_ok hown (hts (.classLink RX9 9 RX3) (pz_tbl_in pz_wq275 rfl)) (hts (.instantiable RX3 8) (pz_tbl_in pz_wq137 rfl)) (hts (.initialized RX3) (pz_tbl_in pz_wq5 rfl)) hB.1 hP hD hS hA rfl pz_dv3 (Nat.le_of_ble_eq_true rfl) (Nat.le_of_ble_eq_true rfl) (show decode cX9_init 5 = .ok (.new 9, 3) from by decide +kernel) (fun q5_1 H hP hD hS => ?_)
  refine W.widen (k := 1) (n := 8) (Nat.le_of_ble_eq_true rfl) (Nat.le_of_ble_eq_true rfl) ?_
  refine lv_dup hx hb (show decode cX9_init 8 = .ok (.dup, 1) from by decide +kernel) rfl ?_
  refine pz_NcI (i := 11) (n := 0) Y hA (h_N_X3 (X := X ++ [(h0, .inr (9, [.null, .null, .null, .int 0, .int 0, .int 0, .int 0, .int 0, .int 0, .int 0]))]) (h0 := q5_1) ) ⟨(Nat.le_of_ble_eq_true rfl), (Nat.le_of_ble_eq_true rfl)⟩ (Nat.le_of_ble_eq_true rfl) (Nat.le_of_ble_eq_true rfl) rfl rfl ⟨(pz_nhc_RX3 yX3_init rfl).1, (pz_nhc_RX3 yX3_init rfl).2, pz_ds2⟩ ⟨(pz_tbl_in pz_wq140 rfl), (pz_tbl_in pz_wq139 rfl), (pz_tbl_in pz_wq5 rfl)⟩ (Or.inr (by decide +kernel)) rfl (show decode cX9_init 9 = .ok (.invokespecial 11, 3) from by decide +kernel) hP hD hS hl.1 (Nat.le_of_ble_eq_true rfl) (fun H locs ws9 hq hP hD hS => ?_)
  obtain ⟨g_q5_1, rfl⟩ := hq
  rw [List.append_assoc] at hP hD
  obtain ⟨hP, hD⟩ := (⟨hP, hD⟩ : pz_PD D A (X ++ ([(h0, .inr (9, [.null, .null, .null, .int 0, .int 0, .int 0, .int 0, .int 0, .int 0, .int 0]))] ++ pz_b3 cy q5_1 g_q5_1)) H)
  refine W.widen (k := 7) (n := 536) (Nat.le_of_ble_eq_true rfl) (Nat.le_of_ble_eq_true rfl) ?_
  refine va_putF (D := D) (ci := 9) (v := .ref q5_1) (ty := tyX9 1) (C := RX9) (T := TX9) (N := 10) hx hb hts (fun w hw => pz_tbl_in (pz_in9 w hw) (pz_layg w hw)) tyX9 tyX9_ok nmX9 hown hB.1 hP hD hS (X.length + 0) (pz_xget rfl) rfl 1 (by decide) (hts (.fieldLink RX9 12 "TwelveChain$Teller" "law" "LTwelveChain$Law;") (pz_tbl_in pz_wq280 rfl)) (fun _ h9 => h9) rfl hin rfl (tyX9_ok 1 (by decide)) rfl rfl (Nat.le_of_ble_eq_true rfl) (show decode cX9_init 12 = .ok (.putfield 12, 3) from by decide +kernel) (fun H locs hP hD hS => ?_)
  rw [pz_xset] at hP hD
  obtain ⟨hP, hD⟩ := (⟨hP, hD⟩ : pz_PD D A (X ++ ([(h0, .inr (9, [.null, .ref q5_1, .null, .int 0, .int 0, .int 0, .int 0, .int 0, .int 0, .int 0]))] ++ pz_b3 cy q5_1 g_q5_1)) H)
  refine lv_aload_n hx hb (k := 0) (show decode cX9_init 15 = .ok (.aload_n 0, 1) from by decide +kernel) rfl (lv_at hl 0 rfl) ?_
  refine va_new (ci := 6) (fs := [.int 0, .null]) (C := RX6) (T := TX6) (N := 2) hx hb hts (fun w hw => pz_tbl_in (pz_in6 w hw) (pz_layg w hw)) tyX6 tyX6_ok hown (hts (.classLink RX9 18 RX6) (pz_tbl_in pz_wq277 rfl)) (hts (.instantiable RX6 2) (pz_tbl_in pz_wq172 rfl)) (hts (.initialized RX6) (pz_tbl_in pz_wq6 rfl)) hB.1 hP hD hS hA rfl pz_dv6 (Nat.le_of_ble_eq_true rfl) (Nat.le_of_ble_eq_true rfl) (show decode cX9_init 16 = .ok (.new 18, 3) from by decide +kernel) (fun q16_8 H hP hD hS => ?_)
  refine W.widen (k := 8) (n := 538) (Nat.le_of_ble_eq_true rfl) (Nat.le_of_ble_eq_true rfl) ?_
  refine lv_dup hx hb (show decode cX9_init 19 = .ok (.dup, 1) from by decide +kernel) rfl ?_
  refine pz_NcI (i := 20) (n := 0) Y hA (h_N_X6 (X := X ++ ([(h0, .inr (9, [.null, .ref q5_1, .null, .int 0, .int 0, .int 0, .int 0, .int 0, .int 0, .int 0]))] ++ pz_b3 cy q5_1 g_q5_1)) (h0 := q16_8) ) ⟨(Nat.le_of_ble_eq_true rfl), (Nat.le_of_ble_eq_true rfl)⟩ (Nat.le_of_ble_eq_true rfl) (Nat.le_of_ble_eq_true rfl) rfl rfl ⟨(pz_nhc_RX6 yX6_init rfl).1, (pz_nhc_RX6 yX6_init rfl).2, pz_ds2⟩ ⟨(pz_tbl_in pz_wq175 rfl), (pz_tbl_in pz_wq174 rfl), (pz_tbl_in pz_wq6 rfl)⟩ (Or.inr (by decide +kernel)) rfl (show decode cX9_init 20 = .ok (.invokespecial 20, 3) from by decide +kernel) hP hD hS hl.1 (Nat.le_of_ble_eq_true rfl) (fun H locs ws9 hq hP hD hS => ?_)
  obtain ⟨g_q16_8, rfl⟩ := hq
  rw [List.append_assoc] at hP hD
  obtain ⟨hP, hD⟩ := (⟨hP, hD⟩ : pz_PD D A (X ++ ([(h0, .inr (9, [.null, .ref q5_1, .null, .int 0, .int 0, .int 0, .int 0, .int 0, .int 0, .int 0]))] ++ pz_b3 cy q5_1 g_q5_1 ++ pz_b6 cy q16_8 g_q16_8)) H)
  refine W.widen (k := 9) (n := 618) (Nat.le_of_ble_eq_true rfl) (Nat.le_of_ble_eq_true rfl) ?_
  refine va_putF (D := D) (ci := 9) (v := .ref q16_8) (ty := tyX9 2) (C := RX9) (T := TX9) (N := 10) hx hb hts (fun w hw => pz_tbl_in (pz_in9 w hw) (pz_layg w hw)) tyX9 tyX9_ok nmX9 hown hB.1 hP hD hS (X.length + 0) (pz_xget rfl) rfl 2 (by decide) (hts (.fieldLink RX9 21 "TwelveChain$Teller" "rows" "LTwelveChain$Rows;") (pz_tbl_in pz_wq281 rfl)) (fun _ h9 => h9) rfl hin rfl (tyX9_ok 2 (by decide)) rfl rfl (Nat.le_of_ble_eq_true rfl) (show decode cX9_init 23 = .ok (.putfield 21, 3) from by decide +kernel) (fun H locs hP hD hS => ?_)
  rw [pz_xset] at hP hD
  obtain ⟨hP, hD⟩ := (⟨hP, hD⟩ : pz_PD D A (X ++ ([(h0, .inr (9, [.null, .ref q5_1, .ref q16_8, .int 0, .int 0, .int 0, .int 0, .int 0, .int 0, .int 0]))] ++ pz_b3 cy q5_1 g_q5_1 ++ pz_b6 cy q16_8 g_q16_8)) H)
  refine lv_aload_n hx hb (k := 0) (show decode cX9_init 26 = .ok (.aload_n 0, 1) from by decide +kernel) rfl (lv_at hl 0 rfl) ?_
  refine lv_iconst hx hb (v := (-1)) (show decode cX9_init 27 = .ok (.iconst (-1), 1) from by decide +kernel) (by decide) ?_
  refine va_put (D := D) (ci := 9) (v := .int (-1)) (ty := tyX9 4) (C := RX9) (T := TX9) (N := 10) hx hb hts (fun w hw => pz_tbl_in (pz_in9 w hw) (pz_layg w hw)) tyX9 tyX9_ok nmX9 hown hB.1 hP hD hS (X.length + 0) (pz_xget rfl) rfl 4 (by decide) (hts (.fieldLink RX9 25 "TwelveChain$Teller" "place" "I") (pz_tbl_in pz_wq284 rfl)) (fun _ h9 => h9) rfl (tyX9_ok 4 (by decide)) rfl rfl (Nat.le_of_ble_eq_true rfl) (show decode cX9_init 28 = .ok (.putfield 25, 3) from by decide +kernel) (fun H locs hP hD hS => ?_)
  rw [pz_xset] at hP hD
  obtain ⟨hP, hD⟩ := (⟨hP, hD⟩ : pz_PD D A (X ++ ([(h0, .inr (9, [.null, .ref q5_1, .ref q16_8, .int 0, .int (-1), .int 0, .int 0, .int 0, .int 0, .int 0]))] ++ pz_b3 cy q5_1 g_q5_1 ++ pz_b6 cy q16_8 g_q16_8)) H)
  refine lv_aload_n hx hb (k := 0) (show decode cX9_init 31 = .ok (.aload_n 0, 1) from by decide +kernel) rfl (lv_at hl 0 rfl) ?_
  refine lv_aload_n hx hb (k := 1) (show decode cX9_init 32 = .ok (.aload_n 1, 1) from by decide +kernel) rfl (lv_at hl 1 rfl) ?_
  refine va_putF (D := D) (ci := 9) (v := .ref tp) (ty := tyX9 0) (C := RX9) (T := TX9) (N := 10) hx hb hts (fun w hw => pz_tbl_in (pz_in9 w hw) (pz_layg w hw)) tyX9 tyX9_ok nmX9 hown hB.1 hP hD hS (X.length + 0) (pz_xget rfl) rfl 0 (by decide) (hts (.fieldLink RX9 29 "TwelveChain$Teller" "tape" "LTwelveChain$Tape;") (pz_tbl_in pz_wq279 rfl)) (fun _ h9 => h9) rfl hin rfl (tyX9_ok 0 (by decide)) rfl rfl (Nat.le_of_ble_eq_true rfl) (show decode cX9_init 33 = .ok (.putfield 29, 3) from by decide +kernel) (fun H locs hP hD hS => ?_)
  rw [pz_xset] at hP hD
  obtain ⟨hP, hD⟩ := (⟨hP, hD⟩ : pz_PD D A (X ++ ([(h0, .inr (9, [.ref tp, .ref q5_1, .ref q16_8, .int 0, .int (-1), .int 0, .int 0, .int 0, .int 0, .int 0]))] ++ pz_b3 cy q5_1 g_q5_1 ++ pz_b6 cy q16_8 g_q16_8)) H)
  exact Kr H _ _ 36 _ _ _ hP hD hS ⟨((q5_1, g_q5_1), q16_8, g_q16_8), rfl⟩ (Nat.le_of_ble_eq_true rfl) (Nat.le_of_ble_eq_true rfl) (show decode cX9_init 36 = .ok (.return_, 1) from by decide +kernel)
set_option maxRecDepth 100000 in
set_option maxHeartbeats 4000000 in
theorem h_N_X10 {D : va_G} {cy : Nat → ClassId} {A : Nat → Prop} {X : va_W} {h0 : Nat} : pz_N yX10_init cX10_init 1 2 32 13 782 [.ref h0] D cy A (X ++ [(h0, .inr (10, [.null, .null, .null, .null]))]) (fun ws' => ∃ g, ws' = X ++ pz_b10 cy h0 g) := by
  refine pz_Nmk (pz_pfc_RX10 yX10_init rfl) rfl ?_
  intro p l e s m below meth c Q Y hP hD hA Kr
  obtain ⟨hx, hb, hml, hown, hts, hB, hin⟩ := Y
  have Y : pz_Ym p s m _ c _ _ _ D cy := ⟨hx, hb, hml, hown, hts, hB⟩
  have hS : va_S A s.heap s.heap [] := va_S.rf
  have hl := lv_entry [.ref h0] (n := 1) (Nat.le_of_ble_eq_true rfl)
  generalize (lg_sl ([.ref h0] : List Value) ++ List.replicate (1 - (lg_sl ([.ref h0] : List Value)).length) Slot.unset).toArray = ls at hl ⊢
  have hl : lv_has ls 1 [(0, .ref h0)] := hl
  refine lv_aload_n hx hb (k := 0) (show decode cX10_init 0 = .ok (.aload_n 0, 1) from by decide +kernel) rfl (lv_at hl 0 rfl) ?_
  refine W.objInit hx hb hown (hts (.methodLink RX10 3 objectInit) (pz_tbl_in pz_wq135 rfl)) (hts (.instanceMethod objectInit) (pz_tbl_in pz_wq27 rfl)) (hts (.code objectInit ⟨#[0xb1]⟩ 1 none) (pz_tbl_in pz_wq28 rfl)) rfl (by rw [hml]; exact hl.1) rfl (show decode cX10_init 1 = .ok (.invokespecial 3, 3) from by decide +kernel) (Nat.le_of_ble_eq_true rfl) (Nat.le_of_ble_eq_true rfl) ?_
  refine W.eq (g2 := F0 m 4 ls []) rfl ?_
  refine lv_aload_n hx hb (k := 0) (show decode cX10_init 4 = .ok (.aload_n 0, 1) from by decide +kernel) rfl (lv_at hl 0 rfl) ?_
  refine va_new (ci := 3) (fs := [.int 0, .int 0, .null, .null, .null, .null, .null, .null]) (C := RX3) (T := TX3) (N := 8) hx hb hts (fun w hw => pz_tbl_in (pz_in3 w hw) (pz_layg w hw)) tyX3 tyX3_ok hown (hts (.classLink RX10 9 RX3) (pz_tbl_in pz_wq136 rfl)) (hts (.instantiable RX3 8) (pz_tbl_in pz_wq137 rfl)) (hts (.initialized RX3) (pz_tbl_in pz_wq5 rfl)) hB.1 hP hD hS hA rfl pz_dv3 (Nat.le_of_ble_eq_true rfl) (Nat.le_of_ble_eq_true rfl) (show decode cX10_init 5 = .ok (.new 9, 3) from by decide +kernel) (fun q5_1 H hP hD hS => ?_)
  refine W.widen (k := 1) (n := 8) (Nat.le_of_ble_eq_true rfl) (Nat.le_of_ble_eq_true rfl) ?_
  refine lv_dup hx hb (show decode cX10_init 8 = .ok (.dup, 1) from by decide +kernel) rfl ?_
  refine pz_NcI (i := 11) (n := 0) Y hA (h_N_X3 (X := X ++ [(h0, .inr (10, [.null, .null, .null, .null]))]) (h0 := q5_1) ) ⟨(Nat.le_of_ble_eq_true rfl), (Nat.le_of_ble_eq_true rfl)⟩ (Nat.le_of_ble_eq_true rfl) (Nat.le_of_ble_eq_true rfl) rfl rfl ⟨(pz_nhc_RX3 yX3_init rfl).1, (pz_nhc_RX3 yX3_init rfl).2, pz_ds2⟩ ⟨(pz_tbl_in pz_wq140 rfl), (pz_tbl_in pz_wq139 rfl), (pz_tbl_in pz_wq5 rfl)⟩ (Or.inr (by decide +kernel)) rfl (show decode cX10_init 9 = .ok (.invokespecial 11, 3) from by decide +kernel) hP hD hS hl.1 (Nat.le_of_ble_eq_true rfl) (fun H locs ws9 hq hP hD hS => ?_)
  obtain ⟨g_q5_1, rfl⟩ := hq
  rw [List.append_assoc] at hP hD
  obtain ⟨hP, hD⟩ := (⟨hP, hD⟩ : pz_PD D A (X ++ ([(h0, .inr (10, [.null, .null, .null, .null]))] ++ pz_b3 cy q5_1 g_q5_1)) H)
  refine W.widen (k := 7) (n := 536) (Nat.le_of_ble_eq_true rfl) (Nat.le_of_ble_eq_true rfl) ?_
  refine va_putF (D := D) (ci := 10) (v := .ref q5_1) (ty := tyX10 0) (C := RX10) (T := TX10) (N := 4) hx hb hts (fun w hw => pz_tbl_in (pz_in10 w hw) (pz_layg w hw)) tyX10 tyX10_ok nmX10 hown hB.1 hP hD hS (X.length + 0) (pz_xget rfl) rfl 0 (by decide) (hts (.fieldLink RX10 12 "TwelveChain$Texts" "law" "LTwelveChain$Law;") (pz_tbl_in pz_wq188 rfl)) (fun _ h9 => h9) rfl hin rfl (tyX10_ok 0 (by decide)) rfl rfl (Nat.le_of_ble_eq_true rfl) (show decode cX10_init 12 = .ok (.putfield 12, 3) from by decide +kernel) (fun H locs hP hD hS => ?_)
  rw [pz_xset] at hP hD
  obtain ⟨hP, hD⟩ := (⟨hP, hD⟩ : pz_PD D A (X ++ ([(h0, .inr (10, [.ref q5_1, .null, .null, .null]))] ++ pz_b3 cy q5_1 g_q5_1)) H)
  refine lv_aload_n hx hb (k := 0) (show decode cX10_init 15 = .ok (.aload_n 0, 1) from by decide +kernel) rfl (lv_at hl 0 rfl) ?_
  refine va_new (ci := 6) (fs := [.int 0, .null]) (C := RX6) (T := TX6) (N := 2) hx hb hts (fun w hw => pz_tbl_in (pz_in6 w hw) (pz_layg w hw)) tyX6 tyX6_ok hown (hts (.classLink RX10 18 RX6) (pz_tbl_in pz_wq171 rfl)) (hts (.instantiable RX6 2) (pz_tbl_in pz_wq172 rfl)) (hts (.initialized RX6) (pz_tbl_in pz_wq6 rfl)) hB.1 hP hD hS hA rfl pz_dv6 (Nat.le_of_ble_eq_true rfl) (Nat.le_of_ble_eq_true rfl) (show decode cX10_init 16 = .ok (.new 18, 3) from by decide +kernel) (fun q16_8 H hP hD hS => ?_)
  refine W.widen (k := 8) (n := 538) (Nat.le_of_ble_eq_true rfl) (Nat.le_of_ble_eq_true rfl) ?_
  refine lv_dup hx hb (show decode cX10_init 19 = .ok (.dup, 1) from by decide +kernel) rfl ?_
  refine pz_NcI (i := 20) (n := 0) Y hA (h_N_X6 (X := X ++ ([(h0, .inr (10, [.ref q5_1, .null, .null, .null]))] ++ pz_b3 cy q5_1 g_q5_1)) (h0 := q16_8) ) ⟨(Nat.le_of_ble_eq_true rfl), (Nat.le_of_ble_eq_true rfl)⟩ (Nat.le_of_ble_eq_true rfl) (Nat.le_of_ble_eq_true rfl) rfl rfl ⟨(pz_nhc_RX6 yX6_init rfl).1, (pz_nhc_RX6 yX6_init rfl).2, pz_ds2⟩ ⟨(pz_tbl_in pz_wq175 rfl), (pz_tbl_in pz_wq174 rfl), (pz_tbl_in pz_wq6 rfl)⟩ (Or.inr (by decide +kernel)) rfl (show decode cX10_init 20 = .ok (.invokespecial 20, 3) from by decide +kernel) hP hD hS hl.1 (Nat.le_of_ble_eq_true rfl) (fun H locs ws9 hq hP hD hS => ?_)
  obtain ⟨g_q16_8, rfl⟩ := hq
  rw [List.append_assoc] at hP hD
  obtain ⟨hP, hD⟩ := (⟨hP, hD⟩ : pz_PD D A (X ++ ([(h0, .inr (10, [.ref q5_1, .null, .null, .null]))] ++ pz_b3 cy q5_1 g_q5_1 ++ pz_b6 cy q16_8 g_q16_8)) H)
  refine W.widen (k := 9) (n := 618) (Nat.le_of_ble_eq_true rfl) (Nat.le_of_ble_eq_true rfl) ?_
  refine va_putF (D := D) (ci := 10) (v := .ref q16_8) (ty := tyX10 1) (C := RX10) (T := TX10) (N := 4) hx hb hts (fun w hw => pz_tbl_in (pz_in10 w hw) (pz_layg w hw)) tyX10 tyX10_ok nmX10 hown hB.1 hP hD hS (X.length + 0) (pz_xget rfl) rfl 1 (by decide) (hts (.fieldLink RX10 21 "TwelveChain$Texts" "plan" "LTwelveChain$Rows;") (pz_tbl_in pz_wq192 rfl)) (fun _ h9 => h9) rfl hin rfl (tyX10_ok 1 (by decide)) rfl rfl (Nat.le_of_ble_eq_true rfl) (show decode cX10_init 23 = .ok (.putfield 21, 3) from by decide +kernel) (fun H locs hP hD hS => ?_)
  rw [pz_xset] at hP hD
  obtain ⟨hP, hD⟩ := (⟨hP, hD⟩ : pz_PD D A (X ++ ([(h0, .inr (10, [.ref q5_1, .ref q16_8, .null, .null]))] ++ pz_b3 cy q5_1 g_q5_1 ++ pz_b6 cy q16_8 g_q16_8)) H)
  refine lv_aload_n hx hb (k := 0) (show decode cX10_init 26 = .ok (.aload_n 0, 1) from by decide +kernel) rfl (lv_at hl 0 rfl) ?_
  refine va_new (ci := 6) (fs := [.int 0, .null]) (C := RX6) (T := TX6) (N := 2) hx hb hts (fun w hw => pz_tbl_in (pz_in6 w hw) (pz_layg w hw)) tyX6 tyX6_ok hown (hts (.classLink RX10 18 RX6) (pz_tbl_in pz_wq171 rfl)) (hts (.instantiable RX6 2) (pz_tbl_in pz_wq172 rfl)) (hts (.initialized RX6) (pz_tbl_in pz_wq6 rfl)) hB.1 hP hD hS hA rfl pz_dv6 (Nat.le_of_ble_eq_true rfl) (Nat.le_of_ble_eq_true rfl) (show decode cX10_init 27 = .ok (.new 18, 3) from by decide +kernel) (fun q27_10 H hP hD hS => ?_)
  refine W.widen (k := 10) (n := 620) (Nat.le_of_ble_eq_true rfl) (Nat.le_of_ble_eq_true rfl) ?_
  refine lv_dup hx hb (show decode cX10_init 30 = .ok (.dup, 1) from by decide +kernel) rfl ?_
  refine pz_NcI (i := 20) (n := 0) Y hA (h_N_X6 (X := X ++ ([(h0, .inr (10, [.ref q5_1, .ref q16_8, .null, .null]))] ++ pz_b3 cy q5_1 g_q5_1 ++ pz_b6 cy q16_8 g_q16_8)) (h0 := q27_10) ) ⟨(Nat.le_of_ble_eq_true rfl), (Nat.le_of_ble_eq_true rfl)⟩ (Nat.le_of_ble_eq_true rfl) (Nat.le_of_ble_eq_true rfl) rfl rfl ⟨(pz_nhc_RX6 yX6_init rfl).1, (pz_nhc_RX6 yX6_init rfl).2, pz_ds2⟩ ⟨(pz_tbl_in pz_wq175 rfl), (pz_tbl_in pz_wq174 rfl), (pz_tbl_in pz_wq6 rfl)⟩ (Or.inr (by decide +kernel)) rfl (show decode cX10_init 31 = .ok (.invokespecial 20, 3) from by decide +kernel) hP hD hS hl.1 (Nat.le_of_ble_eq_true rfl) (fun H locs ws9 hq hP hD hS => ?_)
  obtain ⟨g_q27_10, rfl⟩ := hq
  rw [List.append_assoc] at hP hD
  obtain ⟨hP, hD⟩ := (⟨hP, hD⟩ : pz_PD D A (X ++ ([(h0, .inr (10, [.ref q5_1, .ref q16_8, .null, .null]))] ++ pz_b3 cy q5_1 g_q5_1 ++ pz_b6 cy q16_8 g_q16_8 ++ pz_b6 cy q27_10 g_q27_10)) H)
  refine W.widen (k := 11) (n := 700) (Nat.le_of_ble_eq_true rfl) (Nat.le_of_ble_eq_true rfl) ?_
  refine va_putF (D := D) (ci := 10) (v := .ref q27_10) (ty := tyX10 2) (C := RX10) (T := TX10) (N := 4) hx hb hts (fun w hw => pz_tbl_in (pz_in10 w hw) (pz_layg w hw)) tyX10 tyX10_ok nmX10 hown hB.1 hP hD hS (X.length + 0) (pz_xget rfl) rfl 2 (by decide) (hts (.fieldLink RX10 25 "TwelveChain$Texts" "phones" "LTwelveChain$Rows;") (pz_tbl_in pz_wq195 rfl)) (fun _ h9 => h9) rfl hin rfl (tyX10_ok 2 (by decide)) rfl rfl (Nat.le_of_ble_eq_true rfl) (show decode cX10_init 34 = .ok (.putfield 25, 3) from by decide +kernel) (fun H locs hP hD hS => ?_)
  rw [pz_xset] at hP hD
  obtain ⟨hP, hD⟩ := (⟨hP, hD⟩ : pz_PD D A (X ++ ([(h0, .inr (10, [.ref q5_1, .ref q16_8, .ref q27_10, .null]))] ++ pz_b3 cy q5_1 g_q5_1 ++ pz_b6 cy q16_8 g_q16_8 ++ pz_b6 cy q27_10 g_q27_10)) H)
  refine lv_aload_n hx hb (k := 0) (show decode cX10_init 37 = .ok (.aload_n 0, 1) from by decide +kernel) rfl (lv_at hl 0 rfl) ?_
  refine va_new (ci := 6) (fs := [.int 0, .null]) (C := RX6) (T := TX6) (N := 2) hx hb hts (fun w hw => pz_tbl_in (pz_in6 w hw) (pz_layg w hw)) tyX6 tyX6_ok hown (hts (.classLink RX10 18 RX6) (pz_tbl_in pz_wq171 rfl)) (hts (.instantiable RX6 2) (pz_tbl_in pz_wq172 rfl)) (hts (.initialized RX6) (pz_tbl_in pz_wq6 rfl)) hB.1 hP hD hS hA rfl pz_dv6 (Nat.le_of_ble_eq_true rfl) (Nat.le_of_ble_eq_true rfl) (show decode cX10_init 38 = .ok (.new 18, 3) from by decide +kernel) (fun q38_12 H hP hD hS => ?_)
  refine W.widen (k := 12) (n := 702) (Nat.le_of_ble_eq_true rfl) (Nat.le_of_ble_eq_true rfl) ?_
  refine lv_dup hx hb (show decode cX10_init 41 = .ok (.dup, 1) from by decide +kernel) rfl ?_
  refine pz_NcI (i := 20) (n := 0) Y hA (h_N_X6 (X := X ++ ([(h0, .inr (10, [.ref q5_1, .ref q16_8, .ref q27_10, .null]))] ++ pz_b3 cy q5_1 g_q5_1 ++ pz_b6 cy q16_8 g_q16_8 ++ pz_b6 cy q27_10 g_q27_10)) (h0 := q38_12) ) ⟨(Nat.le_of_ble_eq_true rfl), (Nat.le_of_ble_eq_true rfl)⟩ (Nat.le_of_ble_eq_true rfl) (Nat.le_of_ble_eq_true rfl) rfl rfl ⟨(pz_nhc_RX6 yX6_init rfl).1, (pz_nhc_RX6 yX6_init rfl).2, pz_ds2⟩ ⟨(pz_tbl_in pz_wq175 rfl), (pz_tbl_in pz_wq174 rfl), (pz_tbl_in pz_wq6 rfl)⟩ (Or.inr (by decide +kernel)) rfl (show decode cX10_init 42 = .ok (.invokespecial 20, 3) from by decide +kernel) hP hD hS hl.1 (Nat.le_of_ble_eq_true rfl) (fun H locs ws9 hq hP hD hS => ?_)
  obtain ⟨g_q38_12, rfl⟩ := hq
  rw [List.append_assoc] at hP hD
  obtain ⟨hP, hD⟩ := (⟨hP, hD⟩ : pz_PD D A (X ++ ([(h0, .inr (10, [.ref q5_1, .ref q16_8, .ref q27_10, .null]))] ++ pz_b3 cy q5_1 g_q5_1 ++ pz_b6 cy q16_8 g_q16_8 ++ pz_b6 cy q27_10 g_q27_10 ++ pz_b6 cy q38_12 g_q38_12)) H)
  refine W.widen (k := 13) (n := 782) (Nat.le_of_ble_eq_true rfl) (Nat.le_of_ble_eq_true rfl) ?_
  refine va_putF (D := D) (ci := 10) (v := .ref q38_12) (ty := tyX10 3) (C := RX10) (T := TX10) (N := 4) hx hb hts (fun w hw => pz_tbl_in (pz_in10 w hw) (pz_layg w hw)) tyX10 tyX10_ok nmX10 hown hB.1 hP hD hS (X.length + 0) (pz_xget rfl) rfl 3 (by decide) (hts (.fieldLink RX10 28 "TwelveChain$Texts" "records" "LTwelveChain$Rows;") (pz_tbl_in pz_wq197 rfl)) (fun _ h9 => h9) rfl hin rfl (tyX10_ok 3 (by decide)) rfl rfl (Nat.le_of_ble_eq_true rfl) (show decode cX10_init 45 = .ok (.putfield 28, 3) from by decide +kernel) (fun H locs hP hD hS => ?_)
  rw [pz_xset] at hP hD
  obtain ⟨hP, hD⟩ := (⟨hP, hD⟩ : pz_PD D A (X ++ ([(h0, .inr (10, [.ref q5_1, .ref q16_8, .ref q27_10, .ref q38_12]))] ++ pz_b3 cy q5_1 g_q5_1 ++ pz_b6 cy q16_8 g_q16_8 ++ pz_b6 cy q27_10 g_q27_10 ++ pz_b6 cy q38_12 g_q38_12)) H)
  exact Kr H _ _ 48 _ _ _ hP hD hS ⟨((q5_1, g_q5_1), (q16_8, g_q16_8), (q27_10, g_q27_10), q38_12, g_q38_12), rfl⟩ (Nat.le_of_ble_eq_true rfl) (Nat.le_of_ble_eq_true rfl) (show decode cX10_init 48 = .ok (.return_, 1) from by decide +kernel)
set_option maxRecDepth 100000 in
set_option maxHeartbeats 4000000 in
theorem h_N_X0 {D : va_G} {cy : Nat → ClassId} {A : Nat → Prop} {X : va_W} {h0 : Nat} (t : Int32) (ht : t = 0 ∨ t = 1) : pz_N yX0_init cX0_init 3 2 32 14 116 [.ref h0, .int t] D cy A (X ++ [(h0, .inr (0, [.int 0, .null, .null, .int 0, .int 0, .int 0, .int 0, .int 0]))]) (fun ws' => ∃ g, ws' = X ++ pz_b0 cy h0 t g) := by
  refine pz_Nmk (pz_pfc_RX0 yX0_init rfl) rfl ?_
  intro p l e s m below meth c Q Y hP hD hA Kr
  obtain ⟨hx, hb, hml, hown, hts, hB, hin⟩ := Y
  have Y : pz_Ym p s m _ c _ _ _ D cy := ⟨hx, hb, hml, hown, hts, hB⟩
  have hS : va_S A s.heap s.heap [] := va_S.rf
  have hl := lv_entry [.ref h0, .int t] (n := 3) (Nat.le_of_ble_eq_true rfl)
  generalize (lg_sl ([.ref h0, .int t] : List Value) ++ List.replicate (3 - (lg_sl ([.ref h0, .int t] : List Value)).length) Slot.unset).toArray = ls at hl ⊢
  have hl : lv_has ls 3 [(0, .ref h0), (1, .int t)] := hl
  refine lv_aload_n hx hb (k := 0) (show decode cX0_init 0 = .ok (.aload_n 0, 1) from by decide +kernel) rfl (lv_at hl 0 rfl) ?_
  refine W.objInit hx hb hown (hts (.methodLink RX0 3 objectInit) (pz_tbl_in pz_wq34 rfl)) (hts (.instanceMethod objectInit) (pz_tbl_in pz_wq27 rfl)) (hts (.code objectInit ⟨#[0xb1]⟩ 1 none) (pz_tbl_in pz_wq28 rfl)) rfl (by rw [hml]; exact hl.1) rfl (show decode cX0_init 1 = .ok (.invokespecial 3, 3) from by decide +kernel) (Nat.le_of_ble_eq_true rfl) (Nat.le_of_ble_eq_true rfl) ?_
  refine W.eq (g2 := F0 m 4 ls []) rfl ?_
  refine lv_aload_n hx hb (k := 0) (show decode cX0_init 4 = .ok (.aload_n 0, 1) from by decide +kernel) rfl (lv_at hl 0 rfl) ?_
  refine lv_bipush hx hb (v := 12) (show decode cX0_init 5 = .ok (.bipush 12, 2) from by decide +kernel) (by decide) ?_
  refine va_newq hx hb hown (hts (.classLink RX0 9 "TwelveChain$Link") (pz_tbl_in pz_wq35 rfl)) hB.2.2.1 hB.1 hP hD hS hA (by decide) (N' := 12) (by decide) (by decide) (Nat.le_of_ble_eq_true rfl) (Nat.le_of_ble_eq_true rfl) (show decode cX0_init 7 = .ok (.anewarray 9, 3) from by decide +kernel) (fun q7 cA H hK9 hP hD hS => ?_)
  have e9 : cA = cy 2 := pz_Ncq (hK9.2 (pz_ty cy).length (cA, .object "TwelveChain$Link") (by simp)).2 (hB.1.2 2 _ rfl).2
  subst e9
  rw [List.append_assoc] at hP hD
  obtain ⟨hP, hD⟩ := (⟨hP, hD⟩ : pz_PD D A (X ++ [(h0, .inr (0, [.int 0, .null, .null, .int 0, .int 0, .int 0, .int 0, .int 0])), (q7, .inl (cy 2, 12, .inr (.inr (.inr (.inr (fun _ => none))))))]) H)
  refine W.widen (k := 1) (n := 12) (Nat.le_of_ble_eq_true rfl) (Nat.le_of_ble_eq_true rfl) ?_
  refine va_putF (D := D) (ci := 0) (v := .ref q7) (ty := tyX0 1) (C := RX0) (T := TX0) (N := 8) hx hb hts (fun w hw => pz_tbl_in (pz_in0 w hw) (pz_layg w hw)) tyX0 tyX0_ok nmX0 hown hB.1 hP hD hS (X.length + 0) (pz_xget rfl) rfl 1 (by decide) (hts (.fieldLink RX0 11 "TwelveChain$Chain" "links" "[LTwelveChain$Link;") (pz_tbl_in pz_wq96 rfl)) (fun _ h9 => h9) rfl hin rfl (tyX0_ok 1 (by decide)) rfl rfl (Nat.le_of_ble_eq_true rfl) (show decode cX0_init 10 = .ok (.putfield 11, 3) from by decide +kernel) (fun H locs hP hD hS => ?_)
  rw [pz_xset] at hP hD
  obtain ⟨hP, hD⟩ := (⟨hP, hD⟩ : pz_PD D A (X ++ [(h0, .inr (0, [.int 0, .ref q7, .null, .int 0, .int 0, .int 0, .int 0, .int 0])), (q7, .inl (cy 2, 12, .inr (.inr (.inr (.inr (fun _ => none))))))]) H)
  refine lv_aload_n hx hb (k := 0) (show decode cX0_init 13 = .ok (.aload_n 0, 1) from by decide +kernel) rfl (lv_at hl 0 rfl) ?_
  refine va_new (ci := 5) (fs := [.int 0, .int 0, .int 0, .int 0, .int 0, .int 0, .int 0, .int 0]) (C := RX5) (T := TX5) (N := 8) hx hb hts (fun w hw => pz_tbl_in (pz_in5 w hw) (pz_layg w hw)) tyX5 tyX5_ok hown (hts (.classLink RX0 9 RX5) (pz_tbl_in pz_wq35 rfl)) (hts (.instantiable RX5 8) (pz_tbl_in pz_wq37 rfl)) (hts (.initialized RX5) (pz_tbl_in pz_wq3 rfl)) hB.1 hP hD hS hA rfl pz_dv5 (Nat.le_of_ble_eq_true rfl) (Nat.le_of_ble_eq_true rfl) (show decode cX0_init 14 = .ok (.new 9, 3) from by decide +kernel) (fun q14_2 H hP hD hS => ?_)
  refine W.widen (k := 2) (n := 20) (Nat.le_of_ble_eq_true rfl) (Nat.le_of_ble_eq_true rfl) ?_
  refine lv_dup hx hb (show decode cX0_init 17 = .ok (.dup, 1) from by decide +kernel) rfl ?_
  refine pz_NcI (i := 17) (n := 0) Y hA (h_N_X5 (X := X ++ [(h0, .inr (0, [.int 0, .ref q7, .null, .int 0, .int 0, .int 0, .int 0, .int 0])), (q7, .inl (cy 2, 12, .inr (.inr (.inr (.inr (fun _ => none))))))]) (h0 := q14_2) ) ⟨(Nat.le_of_ble_eq_true rfl), (Nat.le_of_ble_eq_true rfl)⟩ (Nat.le_of_ble_eq_true rfl) (Nat.le_of_ble_eq_true rfl) rfl rfl ⟨(pz_nhc_RX5 yX5_init rfl).1, (pz_nhc_RX5 yX5_init rfl).2, pz_ds2⟩ ⟨(pz_tbl_in pz_wq40 rfl), (pz_tbl_in pz_wq39 rfl), (pz_tbl_in pz_wq3 rfl)⟩ (Or.inr (by decide +kernel)) rfl (show decode cX0_init 18 = .ok (.invokespecial 17, 3) from by decide +kernel) hP hD hS hl.1 (Nat.le_of_ble_eq_true rfl) (fun H locs ws9 hq hP hD hS => ?_)
  subst hq
  rw [List.append_assoc] at hP hD
  obtain ⟨hP, hD⟩ := (⟨hP, hD⟩ : pz_PD D A (X ++ [(h0, .inr (0, [.int 0, .ref q7, .null, .int 0, .int 0, .int 0, .int 0, .int 0])), (q7, .inl (cy 2, 12, .inr (.inr (.inr (.inr (fun _ => none)))))), pz_LN q14_2]) H)
  refine W.widen (k := 2) (n := 20) (Nat.le_of_ble_eq_true rfl) (Nat.le_of_ble_eq_true rfl) ?_
  refine va_putF (D := D) (ci := 0) (v := .ref q14_2) (ty := tyX0 2) (C := RX0) (T := TX0) (N := 8) hx hb hts (fun w hw => pz_tbl_in (pz_in0 w hw) (pz_layg w hw)) tyX0 tyX0_ok nmX0 hown hB.1 hP hD hS (X.length + 0) (pz_xget rfl) rfl 2 (by decide) (hts (.fieldLink RX0 18 "TwelveChain$Chain" "nobody" "LTwelveChain$Link;") (pz_tbl_in pz_wq97 rfl)) (fun _ h9 => h9) rfl hin rfl (tyX0_ok 2 (by decide)) rfl rfl (Nat.le_of_ble_eq_true rfl) (show decode cX0_init 21 = .ok (.putfield 18, 3) from by decide +kernel) (fun H locs hP hD hS => ?_)
  rw [pz_xset] at hP hD
  obtain ⟨hP, hD⟩ := (⟨hP, hD⟩ : pz_PD D A (X ++ [(h0, .inr (0, [.int 0, .ref q7, .ref q14_2, .int 0, .int 0, .int 0, .int 0, .int 0])), (q7, .inl (cy 2, 12, .inr (.inr (.inr (.inr (fun _ => none)))))), pz_LN q14_2]) H)
  refine lv_aload_n hx hb (k := 0) (show decode cX0_init 24 = .ok (.aload_n 0, 1) from by decide +kernel) rfl (lv_at hl 0 rfl) ?_
  refine lv_iload_n hx hb (k := 1) (show decode cX0_init 25 = .ok (.iload_n 1, 1) from by decide +kernel) rfl (lv_at hl 1 rfl) ?_
  refine va_putF (D := D) (ci := 0) (v := .int t) (ty := tyX0 0) (C := RX0) (T := TX0) (N := 8) hx hb hts (fun w hw => pz_tbl_in (pz_in0 w hw) (pz_layg w hw)) tyX0 tyX0_ok nmX0 hown hB.1 hP hD hS (X.length + 0) (pz_xget rfl) rfl 0 (by decide) (hts (.fieldLink RX0 22 "TwelveChain$Chain" "thought" "Z") (pz_tbl_in pz_wq94 rfl)) (fun _ h9 => h9) rfl hin rfl (tyX0_ok 0 (by decide)) (by rcases ht with rfl | rfl <;> rfl) (by rcases ht with rfl | rfl <;> rfl) (Nat.le_of_ble_eq_true rfl) (show decode cX0_init 26 = .ok (.putfield 22, 3) from by decide +kernel) (fun H locs hP hD hS => ?_)
  rw [pz_xset] at hP hD
  obtain ⟨hP, hD⟩ := (⟨hP, hD⟩ : pz_PD D A (X ++ [(h0, .inr (0, [.int t, .ref q7, .ref q14_2, .int 0, .int 0, .int 0, .int 0, .int 0])), (q7, .inl (cy 2, 12, .inr (.inr (.inr (.inr (fun _ => none)))))), pz_LN q14_2]) H)
  refine lv_iconst hx hb (v := 0) (show decode cX0_init 29 = .ok (.iconst 0, 1) from by decide +kernel) (by decide) ?_
  refine lv_istore_n hx hb (k := 2) (show decode cX0_init 30 = .ok (.istore_n 2, 1) from by decide +kernel) rfl hl (by decide) rfl (fun ls hl => ?_)
  have hl : lv_has ls 3 [(2, .int 0), (0, .ref h0), (1, .int t)] := hl
  refine lv_iload_n hx hb (k := 2) (show decode cX0_init 31 = .ok (.iload_n 2, 1) from by decide +kernel) rfl (lv_at hl 0 rfl) ?_
  refine lv_bipush hx hb (v := 12) (show decode cX0_init 32 = .ok (.bipush 12, 2) from by decide +kernel) (by decide) ?_
  refine lv_icmp_ge (tgt := 56) hx hb (show decode cX0_init 34 = .ok (.if_icmp .ge 22, 3) from by decide +kernel) (by decide) (fun q9 => absurd q9 (by decide)) (fun _ => ?_)
  refine lv_aload_n hx hb (k := 0) (show decode cX0_init 37 = .ok (.aload_n 0, 1) from by decide +kernel) rfl (lv_at hl 1 rfl) ?_
  refine va_get (D := D) (fs := [.int t, .ref q7, .ref q14_2, .int 0, .int 0, .int 0, .int 0, .int 0]) (ci := 0) (v := .ref q7) (C := RX0) (T := TX0) (N := 8) hx hb hts (fun w hw => pz_tbl_in (pz_in0 w hw) (pz_layg w hw)) hown hB.1 hP (X.length + 0) (pz_xget rfl) rfl 1 (by decide) (hts (.fieldLink RX0 11 "TwelveChain$Chain" "links" "[LTwelveChain$Link;") (pz_tbl_in pz_wq96 rfl)) (fun _ h9 => h9) rfl (show decode cX0_init 38 = .ok (.getfield 11, 3) from by decide +kernel) ?_
  refine lv_iload_n hx hb (k := 2) (show decode cX0_init 41 = .ok (.iload_n 2, 1) from by decide +kernel) rfl (lv_at hl 0 rfl) ?_
  refine va_new (ci := 5) (fs := [.int 0, .int 0, .int 0, .int 0, .int 0, .int 0, .int 0, .int 0]) (C := RX5) (T := TX5) (N := 8) hx hb hts (fun w hw => pz_tbl_in (pz_in5 w hw) (pz_layg w hw)) tyX5 tyX5_ok hown (hts (.classLink RX0 9 RX5) (pz_tbl_in pz_wq35 rfl)) (hts (.instantiable RX5 8) (pz_tbl_in pz_wq37 rfl)) (hts (.initialized RX5) (pz_tbl_in pz_wq3 rfl)) hB.1 hP hD hS hA rfl pz_dv5 (Nat.le_of_ble_eq_true rfl) (Nat.le_of_ble_eq_true rfl) (show decode cX0_init 42 = .ok (.new 9, 3) from by decide +kernel) (fun q42_3 H hP hD hS => ?_)
  refine W.widen (k := 3) (n := 28) (Nat.le_of_ble_eq_true rfl) (Nat.le_of_ble_eq_true rfl) ?_
  refine lv_dup hx hb (show decode cX0_init 45 = .ok (.dup, 1) from by decide +kernel) rfl ?_
  refine pz_NcI (i := 17) (n := 0) Y hA (h_N_X5 (X := X ++ [(h0, .inr (0, [.int t, .ref q7, .ref q14_2, .int 0, .int 0, .int 0, .int 0, .int 0])), (q7, .inl (cy 2, 12, .inr (.inr (.inr (.inr (fun _ => none)))))), pz_LN q14_2]) (h0 := q42_3) ) ⟨(Nat.le_of_ble_eq_true rfl), (Nat.le_of_ble_eq_true rfl)⟩ (Nat.le_of_ble_eq_true rfl) (Nat.le_of_ble_eq_true rfl) rfl rfl ⟨(pz_nhc_RX5 yX5_init rfl).1, (pz_nhc_RX5 yX5_init rfl).2, pz_ds2⟩ ⟨(pz_tbl_in pz_wq40 rfl), (pz_tbl_in pz_wq39 rfl), (pz_tbl_in pz_wq3 rfl)⟩ (Or.inr (by decide +kernel)) rfl (show decode cX0_init 46 = .ok (.invokespecial 17, 3) from by decide +kernel) hP hD hS hl.1 (Nat.le_of_ble_eq_true rfl) (fun H locs ws9 hq hP hD hS => ?_)
  subst hq
  rw [List.append_assoc] at hP hD
  obtain ⟨hP, hD⟩ := (⟨hP, hD⟩ : pz_PD D A (X ++ [(h0, .inr (0, [.int t, .ref q7, .ref q14_2, .int 0, .int 0, .int 0, .int 0, .int 0])), (q7, .inl (cy 2, 12, .inr (.inr (.inr (.inr (fun _ => none)))))), pz_LN q14_2, pz_LN q42_3]) H)
  refine W.widen (k := 3) (n := 28) (Nat.le_of_ble_eq_true rfl) (Nat.le_of_ble_eq_true rfl) ?_
  refine va_astq (D := D) hx hb hB.1 hP hD hS (X.length + 1) 2 (X.length + 3) 5 (pz_xget rfl) rfl (pz_xget rfl) rfl (by unfold vp_in; decide) (show decode cX0_init 49 = .ok (.aastore, 1) from by decide +kernel) (fun H locs hP hD hS => ?_)
  rw [pz_xset] at hP hD
  obtain ⟨hP, hD⟩ := (⟨hP, hD⟩ : pz_PD D A (X ++ [(h0, .inr (0, [.int t, .ref q7, .ref q14_2, .int 0, .int 0, .int 0, .int 0, .int 0])), (q7, .inl (cy 2, 12, .inr (.inr (.inr (.inr (va_up (fun _ => none) 0 (some q42_3))))))), pz_LN q14_2, pz_LN q42_3]) H)
  refine lv_iinc hx hb (k := 0) (v := 1) (show decode cX0_init 50 = .ok (.iinc 2 1, 3) from by decide +kernel) hl rfl (by decide) (by decide) rfl (fun ls hl => ?_)
  have hl : lv_has ls 3 [(2, .int 1), (0, .ref h0), (1, .int t)] := hl
  refine lv_goto (tgt := 31) hx hb (show decode cX0_init 53 = .ok (.goto (-22), 3) from by decide +kernel) (by decide) ?_
  refine lv_iload_n hx hb (k := 2) (show decode cX0_init 31 = .ok (.iload_n 2, 1) from by decide +kernel) rfl (lv_at hl 0 rfl) ?_
  refine lv_bipush hx hb (v := 12) (show decode cX0_init 32 = .ok (.bipush 12, 2) from by decide +kernel) (by decide) ?_
  refine lv_icmp_ge (tgt := 56) hx hb (show decode cX0_init 34 = .ok (.if_icmp .ge 22, 3) from by decide +kernel) (by decide) (fun q9 => absurd q9 (by decide)) (fun _ => ?_)
  refine lv_aload_n hx hb (k := 0) (show decode cX0_init 37 = .ok (.aload_n 0, 1) from by decide +kernel) rfl (lv_at hl 1 rfl) ?_
  refine va_get (D := D) (fs := [.int t, .ref q7, .ref q14_2, .int 0, .int 0, .int 0, .int 0, .int 0]) (ci := 0) (v := .ref q7) (C := RX0) (T := TX0) (N := 8) hx hb hts (fun w hw => pz_tbl_in (pz_in0 w hw) (pz_layg w hw)) hown hB.1 hP (X.length + 0) (pz_xget rfl) rfl 1 (by decide) (hts (.fieldLink RX0 11 "TwelveChain$Chain" "links" "[LTwelveChain$Link;") (pz_tbl_in pz_wq96 rfl)) (fun _ h9 => h9) rfl (show decode cX0_init 38 = .ok (.getfield 11, 3) from by decide +kernel) ?_
  refine lv_iload_n hx hb (k := 2) (show decode cX0_init 41 = .ok (.iload_n 2, 1) from by decide +kernel) rfl (lv_at hl 0 rfl) ?_
  refine va_new (ci := 5) (fs := [.int 0, .int 0, .int 0, .int 0, .int 0, .int 0, .int 0, .int 0]) (C := RX5) (T := TX5) (N := 8) hx hb hts (fun w hw => pz_tbl_in (pz_in5 w hw) (pz_layg w hw)) tyX5 tyX5_ok hown (hts (.classLink RX0 9 RX5) (pz_tbl_in pz_wq35 rfl)) (hts (.instantiable RX5 8) (pz_tbl_in pz_wq37 rfl)) (hts (.initialized RX5) (pz_tbl_in pz_wq3 rfl)) hB.1 hP hD hS hA rfl pz_dv5 (Nat.le_of_ble_eq_true rfl) (Nat.le_of_ble_eq_true rfl) (show decode cX0_init 42 = .ok (.new 9, 3) from by decide +kernel) (fun q42_4 H hP hD hS => ?_)
  refine W.widen (k := 4) (n := 36) (Nat.le_of_ble_eq_true rfl) (Nat.le_of_ble_eq_true rfl) ?_
  refine lv_dup hx hb (show decode cX0_init 45 = .ok (.dup, 1) from by decide +kernel) rfl ?_
  refine pz_NcI (i := 17) (n := 0) Y hA (h_N_X5 (X := X ++ [(h0, .inr (0, [.int t, .ref q7, .ref q14_2, .int 0, .int 0, .int 0, .int 0, .int 0])), (q7, .inl (cy 2, 12, .inr (.inr (.inr (.inr (va_up (fun _ => none) 0 (some q42_3))))))), pz_LN q14_2, pz_LN q42_3]) (h0 := q42_4) ) ⟨(Nat.le_of_ble_eq_true rfl), (Nat.le_of_ble_eq_true rfl)⟩ (Nat.le_of_ble_eq_true rfl) (Nat.le_of_ble_eq_true rfl) rfl rfl ⟨(pz_nhc_RX5 yX5_init rfl).1, (pz_nhc_RX5 yX5_init rfl).2, pz_ds2⟩ ⟨(pz_tbl_in pz_wq40 rfl), (pz_tbl_in pz_wq39 rfl), (pz_tbl_in pz_wq3 rfl)⟩ (Or.inr (by decide +kernel)) rfl (show decode cX0_init 46 = .ok (.invokespecial 17, 3) from by decide +kernel) hP hD hS hl.1 (Nat.le_of_ble_eq_true rfl) (fun H locs ws9 hq hP hD hS => ?_)
  subst hq
  rw [List.append_assoc] at hP hD
  obtain ⟨hP, hD⟩ := (⟨hP, hD⟩ : pz_PD D A (X ++ [(h0, .inr (0, [.int t, .ref q7, .ref q14_2, .int 0, .int 0, .int 0, .int 0, .int 0])), (q7, .inl (cy 2, 12, .inr (.inr (.inr (.inr (va_up (fun _ => none) 0 (some q42_3))))))), pz_LN q14_2, pz_LN q42_3, pz_LN q42_4]) H)
  refine W.widen (k := 4) (n := 36) (Nat.le_of_ble_eq_true rfl) (Nat.le_of_ble_eq_true rfl) ?_
  refine va_astq (D := D) hx hb hB.1 hP hD hS (X.length + 1) 2 (X.length + 4) 5 (pz_xget rfl) rfl (pz_xget rfl) rfl (by unfold vp_in; decide) (show decode cX0_init 49 = .ok (.aastore, 1) from by decide +kernel) (fun H locs hP hD hS => ?_)
  rw [pz_xset] at hP hD
  obtain ⟨hP, hD⟩ := (⟨hP, hD⟩ : pz_PD D A (X ++ [(h0, .inr (0, [.int t, .ref q7, .ref q14_2, .int 0, .int 0, .int 0, .int 0, .int 0])), (q7, .inl (cy 2, 12, .inr (.inr (.inr (.inr (va_up (va_up (fun _ => none) 0 (some q42_3)) 1 (some q42_4))))))), pz_LN q14_2, pz_LN q42_3, pz_LN q42_4]) H)
  refine lv_iinc hx hb (k := 0) (v := 2) (show decode cX0_init 50 = .ok (.iinc 2 1, 3) from by decide +kernel) hl rfl (by decide) (by decide) rfl (fun ls hl => ?_)
  have hl : lv_has ls 3 [(2, .int 2), (0, .ref h0), (1, .int t)] := hl
  refine lv_goto (tgt := 31) hx hb (show decode cX0_init 53 = .ok (.goto (-22), 3) from by decide +kernel) (by decide) ?_
  refine lv_iload_n hx hb (k := 2) (show decode cX0_init 31 = .ok (.iload_n 2, 1) from by decide +kernel) rfl (lv_at hl 0 rfl) ?_
  refine lv_bipush hx hb (v := 12) (show decode cX0_init 32 = .ok (.bipush 12, 2) from by decide +kernel) (by decide) ?_
  refine lv_icmp_ge (tgt := 56) hx hb (show decode cX0_init 34 = .ok (.if_icmp .ge 22, 3) from by decide +kernel) (by decide) (fun q9 => absurd q9 (by decide)) (fun _ => ?_)
  refine lv_aload_n hx hb (k := 0) (show decode cX0_init 37 = .ok (.aload_n 0, 1) from by decide +kernel) rfl (lv_at hl 1 rfl) ?_
  refine va_get (D := D) (fs := [.int t, .ref q7, .ref q14_2, .int 0, .int 0, .int 0, .int 0, .int 0]) (ci := 0) (v := .ref q7) (C := RX0) (T := TX0) (N := 8) hx hb hts (fun w hw => pz_tbl_in (pz_in0 w hw) (pz_layg w hw)) hown hB.1 hP (X.length + 0) (pz_xget rfl) rfl 1 (by decide) (hts (.fieldLink RX0 11 "TwelveChain$Chain" "links" "[LTwelveChain$Link;") (pz_tbl_in pz_wq96 rfl)) (fun _ h9 => h9) rfl (show decode cX0_init 38 = .ok (.getfield 11, 3) from by decide +kernel) ?_
  refine lv_iload_n hx hb (k := 2) (show decode cX0_init 41 = .ok (.iload_n 2, 1) from by decide +kernel) rfl (lv_at hl 0 rfl) ?_
  refine va_new (ci := 5) (fs := [.int 0, .int 0, .int 0, .int 0, .int 0, .int 0, .int 0, .int 0]) (C := RX5) (T := TX5) (N := 8) hx hb hts (fun w hw => pz_tbl_in (pz_in5 w hw) (pz_layg w hw)) tyX5 tyX5_ok hown (hts (.classLink RX0 9 RX5) (pz_tbl_in pz_wq35 rfl)) (hts (.instantiable RX5 8) (pz_tbl_in pz_wq37 rfl)) (hts (.initialized RX5) (pz_tbl_in pz_wq3 rfl)) hB.1 hP hD hS hA rfl pz_dv5 (Nat.le_of_ble_eq_true rfl) (Nat.le_of_ble_eq_true rfl) (show decode cX0_init 42 = .ok (.new 9, 3) from by decide +kernel) (fun q42_5 H hP hD hS => ?_)
  refine W.widen (k := 5) (n := 44) (Nat.le_of_ble_eq_true rfl) (Nat.le_of_ble_eq_true rfl) ?_
  refine lv_dup hx hb (show decode cX0_init 45 = .ok (.dup, 1) from by decide +kernel) rfl ?_
  refine pz_NcI (i := 17) (n := 0) Y hA (h_N_X5 (X := X ++ [(h0, .inr (0, [.int t, .ref q7, .ref q14_2, .int 0, .int 0, .int 0, .int 0, .int 0])), (q7, .inl (cy 2, 12, .inr (.inr (.inr (.inr (va_up (va_up (fun _ => none) 0 (some q42_3)) 1 (some q42_4))))))), pz_LN q14_2, pz_LN q42_3, pz_LN q42_4]) (h0 := q42_5) ) ⟨(Nat.le_of_ble_eq_true rfl), (Nat.le_of_ble_eq_true rfl)⟩ (Nat.le_of_ble_eq_true rfl) (Nat.le_of_ble_eq_true rfl) rfl rfl ⟨(pz_nhc_RX5 yX5_init rfl).1, (pz_nhc_RX5 yX5_init rfl).2, pz_ds2⟩ ⟨(pz_tbl_in pz_wq40 rfl), (pz_tbl_in pz_wq39 rfl), (pz_tbl_in pz_wq3 rfl)⟩ (Or.inr (by decide +kernel)) rfl (show decode cX0_init 46 = .ok (.invokespecial 17, 3) from by decide +kernel) hP hD hS hl.1 (Nat.le_of_ble_eq_true rfl) (fun H locs ws9 hq hP hD hS => ?_)
  subst hq
  rw [List.append_assoc] at hP hD
  obtain ⟨hP, hD⟩ := (⟨hP, hD⟩ : pz_PD D A (X ++ [(h0, .inr (0, [.int t, .ref q7, .ref q14_2, .int 0, .int 0, .int 0, .int 0, .int 0])), (q7, .inl (cy 2, 12, .inr (.inr (.inr (.inr (va_up (va_up (fun _ => none) 0 (some q42_3)) 1 (some q42_4))))))), pz_LN q14_2, pz_LN q42_3, pz_LN q42_4, pz_LN q42_5]) H)
  refine W.widen (k := 5) (n := 44) (Nat.le_of_ble_eq_true rfl) (Nat.le_of_ble_eq_true rfl) ?_
  refine va_astq (D := D) hx hb hB.1 hP hD hS (X.length + 1) 2 (X.length + 5) 5 (pz_xget rfl) rfl (pz_xget rfl) rfl (by unfold vp_in; decide) (show decode cX0_init 49 = .ok (.aastore, 1) from by decide +kernel) (fun H locs hP hD hS => ?_)
  rw [pz_xset] at hP hD
  obtain ⟨hP, hD⟩ := (⟨hP, hD⟩ : pz_PD D A (X ++ [(h0, .inr (0, [.int t, .ref q7, .ref q14_2, .int 0, .int 0, .int 0, .int 0, .int 0])), (q7, .inl (cy 2, 12, .inr (.inr (.inr (.inr (va_up (va_up (va_up (fun _ => none) 0 (some q42_3)) 1 (some q42_4)) 2 (some q42_5))))))), pz_LN q14_2, pz_LN q42_3, pz_LN q42_4, pz_LN q42_5]) H)
  refine lv_iinc hx hb (k := 0) (v := 3) (show decode cX0_init 50 = .ok (.iinc 2 1, 3) from by decide +kernel) hl rfl (by decide) (by decide) rfl (fun ls hl => ?_)
  have hl : lv_has ls 3 [(2, .int 3), (0, .ref h0), (1, .int t)] := hl
  refine lv_goto (tgt := 31) hx hb (show decode cX0_init 53 = .ok (.goto (-22), 3) from by decide +kernel) (by decide) ?_
  refine lv_iload_n hx hb (k := 2) (show decode cX0_init 31 = .ok (.iload_n 2, 1) from by decide +kernel) rfl (lv_at hl 0 rfl) ?_
  refine lv_bipush hx hb (v := 12) (show decode cX0_init 32 = .ok (.bipush 12, 2) from by decide +kernel) (by decide) ?_
  refine lv_icmp_ge (tgt := 56) hx hb (show decode cX0_init 34 = .ok (.if_icmp .ge 22, 3) from by decide +kernel) (by decide) (fun q9 => absurd q9 (by decide)) (fun _ => ?_)
  refine lv_aload_n hx hb (k := 0) (show decode cX0_init 37 = .ok (.aload_n 0, 1) from by decide +kernel) rfl (lv_at hl 1 rfl) ?_
  refine va_get (D := D) (fs := [.int t, .ref q7, .ref q14_2, .int 0, .int 0, .int 0, .int 0, .int 0]) (ci := 0) (v := .ref q7) (C := RX0) (T := TX0) (N := 8) hx hb hts (fun w hw => pz_tbl_in (pz_in0 w hw) (pz_layg w hw)) hown hB.1 hP (X.length + 0) (pz_xget rfl) rfl 1 (by decide) (hts (.fieldLink RX0 11 "TwelveChain$Chain" "links" "[LTwelveChain$Link;") (pz_tbl_in pz_wq96 rfl)) (fun _ h9 => h9) rfl (show decode cX0_init 38 = .ok (.getfield 11, 3) from by decide +kernel) ?_
  refine lv_iload_n hx hb (k := 2) (show decode cX0_init 41 = .ok (.iload_n 2, 1) from by decide +kernel) rfl (lv_at hl 0 rfl) ?_
  refine va_new (ci := 5) (fs := [.int 0, .int 0, .int 0, .int 0, .int 0, .int 0, .int 0, .int 0]) (C := RX5) (T := TX5) (N := 8) hx hb hts (fun w hw => pz_tbl_in (pz_in5 w hw) (pz_layg w hw)) tyX5 tyX5_ok hown (hts (.classLink RX0 9 RX5) (pz_tbl_in pz_wq35 rfl)) (hts (.instantiable RX5 8) (pz_tbl_in pz_wq37 rfl)) (hts (.initialized RX5) (pz_tbl_in pz_wq3 rfl)) hB.1 hP hD hS hA rfl pz_dv5 (Nat.le_of_ble_eq_true rfl) (Nat.le_of_ble_eq_true rfl) (show decode cX0_init 42 = .ok (.new 9, 3) from by decide +kernel) (fun q42_6 H hP hD hS => ?_)
  refine W.widen (k := 6) (n := 52) (Nat.le_of_ble_eq_true rfl) (Nat.le_of_ble_eq_true rfl) ?_
  refine lv_dup hx hb (show decode cX0_init 45 = .ok (.dup, 1) from by decide +kernel) rfl ?_
  refine pz_NcI (i := 17) (n := 0) Y hA (h_N_X5 (X := X ++ [(h0, .inr (0, [.int t, .ref q7, .ref q14_2, .int 0, .int 0, .int 0, .int 0, .int 0])), (q7, .inl (cy 2, 12, .inr (.inr (.inr (.inr (va_up (va_up (va_up (fun _ => none) 0 (some q42_3)) 1 (some q42_4)) 2 (some q42_5))))))), pz_LN q14_2, pz_LN q42_3, pz_LN q42_4, pz_LN q42_5]) (h0 := q42_6) ) ⟨(Nat.le_of_ble_eq_true rfl), (Nat.le_of_ble_eq_true rfl)⟩ (Nat.le_of_ble_eq_true rfl) (Nat.le_of_ble_eq_true rfl) rfl rfl ⟨(pz_nhc_RX5 yX5_init rfl).1, (pz_nhc_RX5 yX5_init rfl).2, pz_ds2⟩ ⟨(pz_tbl_in pz_wq40 rfl), (pz_tbl_in pz_wq39 rfl), (pz_tbl_in pz_wq3 rfl)⟩ (Or.inr (by decide +kernel)) rfl (show decode cX0_init 46 = .ok (.invokespecial 17, 3) from by decide +kernel) hP hD hS hl.1 (Nat.le_of_ble_eq_true rfl) (fun H locs ws9 hq hP hD hS => ?_)
  subst hq
  rw [List.append_assoc] at hP hD
  obtain ⟨hP, hD⟩ := (⟨hP, hD⟩ : pz_PD D A (X ++ [(h0, .inr (0, [.int t, .ref q7, .ref q14_2, .int 0, .int 0, .int 0, .int 0, .int 0])), (q7, .inl (cy 2, 12, .inr (.inr (.inr (.inr (va_up (va_up (va_up (fun _ => none) 0 (some q42_3)) 1 (some q42_4)) 2 (some q42_5))))))), pz_LN q14_2, pz_LN q42_3, pz_LN q42_4, pz_LN q42_5, pz_LN q42_6]) H)
  refine W.widen (k := 6) (n := 52) (Nat.le_of_ble_eq_true rfl) (Nat.le_of_ble_eq_true rfl) ?_
  refine va_astq (D := D) hx hb hB.1 hP hD hS (X.length + 1) 2 (X.length + 6) 5 (pz_xget rfl) rfl (pz_xget rfl) rfl (by unfold vp_in; decide) (show decode cX0_init 49 = .ok (.aastore, 1) from by decide +kernel) (fun H locs hP hD hS => ?_)
  rw [pz_xset] at hP hD
  obtain ⟨hP, hD⟩ := (⟨hP, hD⟩ : pz_PD D A (X ++ [(h0, .inr (0, [.int t, .ref q7, .ref q14_2, .int 0, .int 0, .int 0, .int 0, .int 0])), (q7, .inl (cy 2, 12, .inr (.inr (.inr (.inr (va_up (va_up (va_up (va_up (fun _ => none) 0 (some q42_3)) 1 (some q42_4)) 2 (some q42_5)) 3 (some q42_6))))))), pz_LN q14_2, pz_LN q42_3, pz_LN q42_4, pz_LN q42_5, pz_LN q42_6]) H)
  refine lv_iinc hx hb (k := 0) (v := 4) (show decode cX0_init 50 = .ok (.iinc 2 1, 3) from by decide +kernel) hl rfl (by decide) (by decide) rfl (fun ls hl => ?_)
  have hl : lv_has ls 3 [(2, .int 4), (0, .ref h0), (1, .int t)] := hl
  refine lv_goto (tgt := 31) hx hb (show decode cX0_init 53 = .ok (.goto (-22), 3) from by decide +kernel) (by decide) ?_
  refine lv_iload_n hx hb (k := 2) (show decode cX0_init 31 = .ok (.iload_n 2, 1) from by decide +kernel) rfl (lv_at hl 0 rfl) ?_
  refine lv_bipush hx hb (v := 12) (show decode cX0_init 32 = .ok (.bipush 12, 2) from by decide +kernel) (by decide) ?_
  refine lv_icmp_ge (tgt := 56) hx hb (show decode cX0_init 34 = .ok (.if_icmp .ge 22, 3) from by decide +kernel) (by decide) (fun q9 => absurd q9 (by decide)) (fun _ => ?_)
  refine lv_aload_n hx hb (k := 0) (show decode cX0_init 37 = .ok (.aload_n 0, 1) from by decide +kernel) rfl (lv_at hl 1 rfl) ?_
  refine va_get (D := D) (fs := [.int t, .ref q7, .ref q14_2, .int 0, .int 0, .int 0, .int 0, .int 0]) (ci := 0) (v := .ref q7) (C := RX0) (T := TX0) (N := 8) hx hb hts (fun w hw => pz_tbl_in (pz_in0 w hw) (pz_layg w hw)) hown hB.1 hP (X.length + 0) (pz_xget rfl) rfl 1 (by decide) (hts (.fieldLink RX0 11 "TwelveChain$Chain" "links" "[LTwelveChain$Link;") (pz_tbl_in pz_wq96 rfl)) (fun _ h9 => h9) rfl (show decode cX0_init 38 = .ok (.getfield 11, 3) from by decide +kernel) ?_
  refine lv_iload_n hx hb (k := 2) (show decode cX0_init 41 = .ok (.iload_n 2, 1) from by decide +kernel) rfl (lv_at hl 0 rfl) ?_
  refine va_new (ci := 5) (fs := [.int 0, .int 0, .int 0, .int 0, .int 0, .int 0, .int 0, .int 0]) (C := RX5) (T := TX5) (N := 8) hx hb hts (fun w hw => pz_tbl_in (pz_in5 w hw) (pz_layg w hw)) tyX5 tyX5_ok hown (hts (.classLink RX0 9 RX5) (pz_tbl_in pz_wq35 rfl)) (hts (.instantiable RX5 8) (pz_tbl_in pz_wq37 rfl)) (hts (.initialized RX5) (pz_tbl_in pz_wq3 rfl)) hB.1 hP hD hS hA rfl pz_dv5 (Nat.le_of_ble_eq_true rfl) (Nat.le_of_ble_eq_true rfl) (show decode cX0_init 42 = .ok (.new 9, 3) from by decide +kernel) (fun q42_7 H hP hD hS => ?_)
  refine W.widen (k := 7) (n := 60) (Nat.le_of_ble_eq_true rfl) (Nat.le_of_ble_eq_true rfl) ?_
  refine lv_dup hx hb (show decode cX0_init 45 = .ok (.dup, 1) from by decide +kernel) rfl ?_
  refine pz_NcI (i := 17) (n := 0) Y hA (h_N_X5 (X := X ++ [(h0, .inr (0, [.int t, .ref q7, .ref q14_2, .int 0, .int 0, .int 0, .int 0, .int 0])), (q7, .inl (cy 2, 12, .inr (.inr (.inr (.inr (va_up (va_up (va_up (va_up (fun _ => none) 0 (some q42_3)) 1 (some q42_4)) 2 (some q42_5)) 3 (some q42_6))))))), pz_LN q14_2, pz_LN q42_3, pz_LN q42_4, pz_LN q42_5, pz_LN q42_6]) (h0 := q42_7) ) ⟨(Nat.le_of_ble_eq_true rfl), (Nat.le_of_ble_eq_true rfl)⟩ (Nat.le_of_ble_eq_true rfl) (Nat.le_of_ble_eq_true rfl) rfl rfl ⟨(pz_nhc_RX5 yX5_init rfl).1, (pz_nhc_RX5 yX5_init rfl).2, pz_ds2⟩ ⟨(pz_tbl_in pz_wq40 rfl), (pz_tbl_in pz_wq39 rfl), (pz_tbl_in pz_wq3 rfl)⟩ (Or.inr (by decide +kernel)) rfl (show decode cX0_init 46 = .ok (.invokespecial 17, 3) from by decide +kernel) hP hD hS hl.1 (Nat.le_of_ble_eq_true rfl) (fun H locs ws9 hq hP hD hS => ?_)
  subst hq
  rw [List.append_assoc] at hP hD
  obtain ⟨hP, hD⟩ := (⟨hP, hD⟩ : pz_PD D A (X ++ [(h0, .inr (0, [.int t, .ref q7, .ref q14_2, .int 0, .int 0, .int 0, .int 0, .int 0])), (q7, .inl (cy 2, 12, .inr (.inr (.inr (.inr (va_up (va_up (va_up (va_up (fun _ => none) 0 (some q42_3)) 1 (some q42_4)) 2 (some q42_5)) 3 (some q42_6))))))), pz_LN q14_2, pz_LN q42_3, pz_LN q42_4, pz_LN q42_5, pz_LN q42_6, pz_LN q42_7]) H)
  refine W.widen (k := 7) (n := 60) (Nat.le_of_ble_eq_true rfl) (Nat.le_of_ble_eq_true rfl) ?_
  refine va_astq (D := D) hx hb hB.1 hP hD hS (X.length + 1) 2 (X.length + 7) 5 (pz_xget rfl) rfl (pz_xget rfl) rfl (by unfold vp_in; decide) (show decode cX0_init 49 = .ok (.aastore, 1) from by decide +kernel) (fun H locs hP hD hS => ?_)
  rw [pz_xset] at hP hD
  obtain ⟨hP, hD⟩ := (⟨hP, hD⟩ : pz_PD D A (X ++ [(h0, .inr (0, [.int t, .ref q7, .ref q14_2, .int 0, .int 0, .int 0, .int 0, .int 0])), (q7, .inl (cy 2, 12, .inr (.inr (.inr (.inr (va_up (va_up (va_up (va_up (va_up (fun _ => none) 0 (some q42_3)) 1 (some q42_4)) 2 (some q42_5)) 3 (some q42_6)) 4 (some q42_7))))))), pz_LN q14_2, pz_LN q42_3, pz_LN q42_4, pz_LN q42_5, pz_LN q42_6, pz_LN q42_7]) H)
  refine lv_iinc hx hb (k := 0) (v := 5) (show decode cX0_init 50 = .ok (.iinc 2 1, 3) from by decide +kernel) hl rfl (by decide) (by decide) rfl (fun ls hl => ?_)
  have hl : lv_has ls 3 [(2, .int 5), (0, .ref h0), (1, .int t)] := hl
  refine lv_goto (tgt := 31) hx hb (show decode cX0_init 53 = .ok (.goto (-22), 3) from by decide +kernel) (by decide) ?_
  refine lv_iload_n hx hb (k := 2) (show decode cX0_init 31 = .ok (.iload_n 2, 1) from by decide +kernel) rfl (lv_at hl 0 rfl) ?_
  refine lv_bipush hx hb (v := 12) (show decode cX0_init 32 = .ok (.bipush 12, 2) from by decide +kernel) (by decide) ?_
  refine lv_icmp_ge (tgt := 56) hx hb (show decode cX0_init 34 = .ok (.if_icmp .ge 22, 3) from by decide +kernel) (by decide) (fun q9 => absurd q9 (by decide)) (fun _ => ?_)
  refine lv_aload_n hx hb (k := 0) (show decode cX0_init 37 = .ok (.aload_n 0, 1) from by decide +kernel) rfl (lv_at hl 1 rfl) ?_
  refine va_get (D := D) (fs := [.int t, .ref q7, .ref q14_2, .int 0, .int 0, .int 0, .int 0, .int 0]) (ci := 0) (v := .ref q7) (C := RX0) (T := TX0) (N := 8) hx hb hts (fun w hw => pz_tbl_in (pz_in0 w hw) (pz_layg w hw)) hown hB.1 hP (X.length + 0) (pz_xget rfl) rfl 1 (by decide) (hts (.fieldLink RX0 11 "TwelveChain$Chain" "links" "[LTwelveChain$Link;") (pz_tbl_in pz_wq96 rfl)) (fun _ h9 => h9) rfl (show decode cX0_init 38 = .ok (.getfield 11, 3) from by decide +kernel) ?_
  refine lv_iload_n hx hb (k := 2) (show decode cX0_init 41 = .ok (.iload_n 2, 1) from by decide +kernel) rfl (lv_at hl 0 rfl) ?_
  refine va_new (ci := 5) (fs := [.int 0, .int 0, .int 0, .int 0, .int 0, .int 0, .int 0, .int 0]) (C := RX5) (T := TX5) (N := 8) hx hb hts (fun w hw => pz_tbl_in (pz_in5 w hw) (pz_layg w hw)) tyX5 tyX5_ok hown (hts (.classLink RX0 9 RX5) (pz_tbl_in pz_wq35 rfl)) (hts (.instantiable RX5 8) (pz_tbl_in pz_wq37 rfl)) (hts (.initialized RX5) (pz_tbl_in pz_wq3 rfl)) hB.1 hP hD hS hA rfl pz_dv5 (Nat.le_of_ble_eq_true rfl) (Nat.le_of_ble_eq_true rfl) (show decode cX0_init 42 = .ok (.new 9, 3) from by decide +kernel) (fun q42_8 H hP hD hS => ?_)
  refine W.widen (k := 8) (n := 68) (Nat.le_of_ble_eq_true rfl) (Nat.le_of_ble_eq_true rfl) ?_
  refine lv_dup hx hb (show decode cX0_init 45 = .ok (.dup, 1) from by decide +kernel) rfl ?_
  refine pz_NcI (i := 17) (n := 0) Y hA (h_N_X5 (X := X ++ [(h0, .inr (0, [.int t, .ref q7, .ref q14_2, .int 0, .int 0, .int 0, .int 0, .int 0])), (q7, .inl (cy 2, 12, .inr (.inr (.inr (.inr (va_up (va_up (va_up (va_up (va_up (fun _ => none) 0 (some q42_3)) 1 (some q42_4)) 2 (some q42_5)) 3 (some q42_6)) 4 (some q42_7))))))), pz_LN q14_2, pz_LN q42_3, pz_LN q42_4, pz_LN q42_5, pz_LN q42_6, pz_LN q42_7]) (h0 := q42_8) ) ⟨(Nat.le_of_ble_eq_true rfl), (Nat.le_of_ble_eq_true rfl)⟩ (Nat.le_of_ble_eq_true rfl) (Nat.le_of_ble_eq_true rfl) rfl rfl ⟨(pz_nhc_RX5 yX5_init rfl).1, (pz_nhc_RX5 yX5_init rfl).2, pz_ds2⟩ ⟨(pz_tbl_in pz_wq40 rfl), (pz_tbl_in pz_wq39 rfl), (pz_tbl_in pz_wq3 rfl)⟩ (Or.inr (by decide +kernel)) rfl (show decode cX0_init 46 = .ok (.invokespecial 17, 3) from by decide +kernel) hP hD hS hl.1 (Nat.le_of_ble_eq_true rfl) (fun H locs ws9 hq hP hD hS => ?_)
  subst hq
  rw [List.append_assoc] at hP hD
  obtain ⟨hP, hD⟩ := (⟨hP, hD⟩ : pz_PD D A (X ++ [(h0, .inr (0, [.int t, .ref q7, .ref q14_2, .int 0, .int 0, .int 0, .int 0, .int 0])), (q7, .inl (cy 2, 12, .inr (.inr (.inr (.inr (va_up (va_up (va_up (va_up (va_up (fun _ => none) 0 (some q42_3)) 1 (some q42_4)) 2 (some q42_5)) 3 (some q42_6)) 4 (some q42_7))))))), pz_LN q14_2, pz_LN q42_3, pz_LN q42_4, pz_LN q42_5, pz_LN q42_6, pz_LN q42_7, pz_LN q42_8]) H)
  refine W.widen (k := 8) (n := 68) (Nat.le_of_ble_eq_true rfl) (Nat.le_of_ble_eq_true rfl) ?_
  refine va_astq (D := D) hx hb hB.1 hP hD hS (X.length + 1) 2 (X.length + 8) 5 (pz_xget rfl) rfl (pz_xget rfl) rfl (by unfold vp_in; decide) (show decode cX0_init 49 = .ok (.aastore, 1) from by decide +kernel) (fun H locs hP hD hS => ?_)
  rw [pz_xset] at hP hD
  obtain ⟨hP, hD⟩ := (⟨hP, hD⟩ : pz_PD D A (X ++ [(h0, .inr (0, [.int t, .ref q7, .ref q14_2, .int 0, .int 0, .int 0, .int 0, .int 0])), (q7, .inl (cy 2, 12, .inr (.inr (.inr (.inr (va_up (va_up (va_up (va_up (va_up (va_up (fun _ => none) 0 (some q42_3)) 1 (some q42_4)) 2 (some q42_5)) 3 (some q42_6)) 4 (some q42_7)) 5 (some q42_8))))))), pz_LN q14_2, pz_LN q42_3, pz_LN q42_4, pz_LN q42_5, pz_LN q42_6, pz_LN q42_7, pz_LN q42_8]) H)
  refine lv_iinc hx hb (k := 0) (v := 6) (show decode cX0_init 50 = .ok (.iinc 2 1, 3) from by decide +kernel) hl rfl (by decide) (by decide) rfl (fun ls hl => ?_)
  have hl : lv_has ls 3 [(2, .int 6), (0, .ref h0), (1, .int t)] := hl
  refine lv_goto (tgt := 31) hx hb (show decode cX0_init 53 = .ok (.goto (-22), 3) from by decide +kernel) (by decide) ?_
  refine lv_iload_n hx hb (k := 2) (show decode cX0_init 31 = .ok (.iload_n 2, 1) from by decide +kernel) rfl (lv_at hl 0 rfl) ?_
  refine lv_bipush hx hb (v := 12) (show decode cX0_init 32 = .ok (.bipush 12, 2) from by decide +kernel) (by decide) ?_
  refine lv_icmp_ge (tgt := 56) hx hb (show decode cX0_init 34 = .ok (.if_icmp .ge 22, 3) from by decide +kernel) (by decide) (fun q9 => absurd q9 (by decide)) (fun _ => ?_)
  refine lv_aload_n hx hb (k := 0) (show decode cX0_init 37 = .ok (.aload_n 0, 1) from by decide +kernel) rfl (lv_at hl 1 rfl) ?_
  refine va_get (D := D) (fs := [.int t, .ref q7, .ref q14_2, .int 0, .int 0, .int 0, .int 0, .int 0]) (ci := 0) (v := .ref q7) (C := RX0) (T := TX0) (N := 8) hx hb hts (fun w hw => pz_tbl_in (pz_in0 w hw) (pz_layg w hw)) hown hB.1 hP (X.length + 0) (pz_xget rfl) rfl 1 (by decide) (hts (.fieldLink RX0 11 "TwelveChain$Chain" "links" "[LTwelveChain$Link;") (pz_tbl_in pz_wq96 rfl)) (fun _ h9 => h9) rfl (show decode cX0_init 38 = .ok (.getfield 11, 3) from by decide +kernel) ?_
  refine lv_iload_n hx hb (k := 2) (show decode cX0_init 41 = .ok (.iload_n 2, 1) from by decide +kernel) rfl (lv_at hl 0 rfl) ?_
  refine va_new (ci := 5) (fs := [.int 0, .int 0, .int 0, .int 0, .int 0, .int 0, .int 0, .int 0]) (C := RX5) (T := TX5) (N := 8) hx hb hts (fun w hw => pz_tbl_in (pz_in5 w hw) (pz_layg w hw)) tyX5 tyX5_ok hown (hts (.classLink RX0 9 RX5) (pz_tbl_in pz_wq35 rfl)) (hts (.instantiable RX5 8) (pz_tbl_in pz_wq37 rfl)) (hts (.initialized RX5) (pz_tbl_in pz_wq3 rfl)) hB.1 hP hD hS hA rfl pz_dv5 (Nat.le_of_ble_eq_true rfl) (Nat.le_of_ble_eq_true rfl) (show decode cX0_init 42 = .ok (.new 9, 3) from by decide +kernel) (fun q42_9 H hP hD hS => ?_)
  refine W.widen (k := 9) (n := 76) (Nat.le_of_ble_eq_true rfl) (Nat.le_of_ble_eq_true rfl) ?_
  refine lv_dup hx hb (show decode cX0_init 45 = .ok (.dup, 1) from by decide +kernel) rfl ?_
  refine pz_NcI (i := 17) (n := 0) Y hA (h_N_X5 (X := X ++ [(h0, .inr (0, [.int t, .ref q7, .ref q14_2, .int 0, .int 0, .int 0, .int 0, .int 0])), (q7, .inl (cy 2, 12, .inr (.inr (.inr (.inr (va_up (va_up (va_up (va_up (va_up (va_up (fun _ => none) 0 (some q42_3)) 1 (some q42_4)) 2 (some q42_5)) 3 (some q42_6)) 4 (some q42_7)) 5 (some q42_8))))))), pz_LN q14_2, pz_LN q42_3, pz_LN q42_4, pz_LN q42_5, pz_LN q42_6, pz_LN q42_7, pz_LN q42_8]) (h0 := q42_9) ) ⟨(Nat.le_of_ble_eq_true rfl), (Nat.le_of_ble_eq_true rfl)⟩ (Nat.le_of_ble_eq_true rfl) (Nat.le_of_ble_eq_true rfl) rfl rfl ⟨(pz_nhc_RX5 yX5_init rfl).1, (pz_nhc_RX5 yX5_init rfl).2, pz_ds2⟩ ⟨(pz_tbl_in pz_wq40 rfl), (pz_tbl_in pz_wq39 rfl), (pz_tbl_in pz_wq3 rfl)⟩ (Or.inr (by decide +kernel)) rfl (show decode cX0_init 46 = .ok (.invokespecial 17, 3) from by decide +kernel) hP hD hS hl.1 (Nat.le_of_ble_eq_true rfl) (fun H locs ws9 hq hP hD hS => ?_)
  subst hq
  rw [List.append_assoc] at hP hD
  obtain ⟨hP, hD⟩ := (⟨hP, hD⟩ : pz_PD D A (X ++ [(h0, .inr (0, [.int t, .ref q7, .ref q14_2, .int 0, .int 0, .int 0, .int 0, .int 0])), (q7, .inl (cy 2, 12, .inr (.inr (.inr (.inr (va_up (va_up (va_up (va_up (va_up (va_up (fun _ => none) 0 (some q42_3)) 1 (some q42_4)) 2 (some q42_5)) 3 (some q42_6)) 4 (some q42_7)) 5 (some q42_8))))))), pz_LN q14_2, pz_LN q42_3, pz_LN q42_4, pz_LN q42_5, pz_LN q42_6, pz_LN q42_7, pz_LN q42_8, pz_LN q42_9]) H)
  refine W.widen (k := 9) (n := 76) (Nat.le_of_ble_eq_true rfl) (Nat.le_of_ble_eq_true rfl) ?_
  refine va_astq (D := D) hx hb hB.1 hP hD hS (X.length + 1) 2 (X.length + 9) 5 (pz_xget rfl) rfl (pz_xget rfl) rfl (by unfold vp_in; decide) (show decode cX0_init 49 = .ok (.aastore, 1) from by decide +kernel) (fun H locs hP hD hS => ?_)
  rw [pz_xset] at hP hD
  obtain ⟨hP, hD⟩ := (⟨hP, hD⟩ : pz_PD D A (X ++ [(h0, .inr (0, [.int t, .ref q7, .ref q14_2, .int 0, .int 0, .int 0, .int 0, .int 0])), (q7, .inl (cy 2, 12, .inr (.inr (.inr (.inr (va_up (va_up (va_up (va_up (va_up (va_up (va_up (fun _ => none) 0 (some q42_3)) 1 (some q42_4)) 2 (some q42_5)) 3 (some q42_6)) 4 (some q42_7)) 5 (some q42_8)) 6 (some q42_9))))))), pz_LN q14_2, pz_LN q42_3, pz_LN q42_4, pz_LN q42_5, pz_LN q42_6, pz_LN q42_7, pz_LN q42_8, pz_LN q42_9]) H)
  refine lv_iinc hx hb (k := 0) (v := 7) (show decode cX0_init 50 = .ok (.iinc 2 1, 3) from by decide +kernel) hl rfl (by decide) (by decide) rfl (fun ls hl => ?_)
  have hl : lv_has ls 3 [(2, .int 7), (0, .ref h0), (1, .int t)] := hl
  refine lv_goto (tgt := 31) hx hb (show decode cX0_init 53 = .ok (.goto (-22), 3) from by decide +kernel) (by decide) ?_
  refine lv_iload_n hx hb (k := 2) (show decode cX0_init 31 = .ok (.iload_n 2, 1) from by decide +kernel) rfl (lv_at hl 0 rfl) ?_
  refine lv_bipush hx hb (v := 12) (show decode cX0_init 32 = .ok (.bipush 12, 2) from by decide +kernel) (by decide) ?_
  refine lv_icmp_ge (tgt := 56) hx hb (show decode cX0_init 34 = .ok (.if_icmp .ge 22, 3) from by decide +kernel) (by decide) (fun q9 => absurd q9 (by decide)) (fun _ => ?_)
  refine lv_aload_n hx hb (k := 0) (show decode cX0_init 37 = .ok (.aload_n 0, 1) from by decide +kernel) rfl (lv_at hl 1 rfl) ?_
  refine va_get (D := D) (fs := [.int t, .ref q7, .ref q14_2, .int 0, .int 0, .int 0, .int 0, .int 0]) (ci := 0) (v := .ref q7) (C := RX0) (T := TX0) (N := 8) hx hb hts (fun w hw => pz_tbl_in (pz_in0 w hw) (pz_layg w hw)) hown hB.1 hP (X.length + 0) (pz_xget rfl) rfl 1 (by decide) (hts (.fieldLink RX0 11 "TwelveChain$Chain" "links" "[LTwelveChain$Link;") (pz_tbl_in pz_wq96 rfl)) (fun _ h9 => h9) rfl (show decode cX0_init 38 = .ok (.getfield 11, 3) from by decide +kernel) ?_
  refine lv_iload_n hx hb (k := 2) (show decode cX0_init 41 = .ok (.iload_n 2, 1) from by decide +kernel) rfl (lv_at hl 0 rfl) ?_
  refine va_new (ci := 5) (fs := [.int 0, .int 0, .int 0, .int 0, .int 0, .int 0, .int 0, .int 0]) (C := RX5) (T := TX5) (N := 8) hx hb hts (fun w hw => pz_tbl_in (pz_in5 w hw) (pz_layg w hw)) tyX5 tyX5_ok hown (hts (.classLink RX0 9 RX5) (pz_tbl_in pz_wq35 rfl)) (hts (.instantiable RX5 8) (pz_tbl_in pz_wq37 rfl)) (hts (.initialized RX5) (pz_tbl_in pz_wq3 rfl)) hB.1 hP hD hS hA rfl pz_dv5 (Nat.le_of_ble_eq_true rfl) (Nat.le_of_ble_eq_true rfl) (show decode cX0_init 42 = .ok (.new 9, 3) from by decide +kernel) (fun q42_10 H hP hD hS => ?_)
  refine W.widen (k := 10) (n := 84) (Nat.le_of_ble_eq_true rfl) (Nat.le_of_ble_eq_true rfl) ?_
  refine lv_dup hx hb (show decode cX0_init 45 = .ok (.dup, 1) from by decide +kernel) rfl ?_
  refine pz_NcI (i := 17) (n := 0) Y hA (h_N_X5 (X := X ++ [(h0, .inr (0, [.int t, .ref q7, .ref q14_2, .int 0, .int 0, .int 0, .int 0, .int 0])), (q7, .inl (cy 2, 12, .inr (.inr (.inr (.inr (va_up (va_up (va_up (va_up (va_up (va_up (va_up (fun _ => none) 0 (some q42_3)) 1 (some q42_4)) 2 (some q42_5)) 3 (some q42_6)) 4 (some q42_7)) 5 (some q42_8)) 6 (some q42_9))))))), pz_LN q14_2, pz_LN q42_3, pz_LN q42_4, pz_LN q42_5, pz_LN q42_6, pz_LN q42_7, pz_LN q42_8, pz_LN q42_9]) (h0 := q42_10) ) ⟨(Nat.le_of_ble_eq_true rfl), (Nat.le_of_ble_eq_true rfl)⟩ (Nat.le_of_ble_eq_true rfl) (Nat.le_of_ble_eq_true rfl) rfl rfl ⟨(pz_nhc_RX5 yX5_init rfl).1, (pz_nhc_RX5 yX5_init rfl).2, pz_ds2⟩ ⟨(pz_tbl_in pz_wq40 rfl), (pz_tbl_in pz_wq39 rfl), (pz_tbl_in pz_wq3 rfl)⟩ (Or.inr (by decide +kernel)) rfl (show decode cX0_init 46 = .ok (.invokespecial 17, 3) from by decide +kernel) hP hD hS hl.1 (Nat.le_of_ble_eq_true rfl) (fun H locs ws9 hq hP hD hS => ?_)
  subst hq
  rw [List.append_assoc] at hP hD
  obtain ⟨hP, hD⟩ := (⟨hP, hD⟩ : pz_PD D A (X ++ [(h0, .inr (0, [.int t, .ref q7, .ref q14_2, .int 0, .int 0, .int 0, .int 0, .int 0])), (q7, .inl (cy 2, 12, .inr (.inr (.inr (.inr (va_up (va_up (va_up (va_up (va_up (va_up (va_up (fun _ => none) 0 (some q42_3)) 1 (some q42_4)) 2 (some q42_5)) 3 (some q42_6)) 4 (some q42_7)) 5 (some q42_8)) 6 (some q42_9))))))), pz_LN q14_2, pz_LN q42_3, pz_LN q42_4, pz_LN q42_5, pz_LN q42_6, pz_LN q42_7, pz_LN q42_8, pz_LN q42_9, pz_LN q42_10]) H)
  refine W.widen (k := 10) (n := 84) (Nat.le_of_ble_eq_true rfl) (Nat.le_of_ble_eq_true rfl) ?_
  refine va_astq (D := D) hx hb hB.1 hP hD hS (X.length + 1) 2 (X.length + 10) 5 (pz_xget rfl) rfl (pz_xget rfl) rfl (by unfold vp_in; decide) (show decode cX0_init 49 = .ok (.aastore, 1) from by decide +kernel) (fun H locs hP hD hS => ?_)
  rw [pz_xset] at hP hD
  obtain ⟨hP, hD⟩ := (⟨hP, hD⟩ : pz_PD D A (X ++ [(h0, .inr (0, [.int t, .ref q7, .ref q14_2, .int 0, .int 0, .int 0, .int 0, .int 0])), (q7, .inl (cy 2, 12, .inr (.inr (.inr (.inr (va_up (va_up (va_up (va_up (va_up (va_up (va_up (va_up (fun _ => none) 0 (some q42_3)) 1 (some q42_4)) 2 (some q42_5)) 3 (some q42_6)) 4 (some q42_7)) 5 (some q42_8)) 6 (some q42_9)) 7 (some q42_10))))))), pz_LN q14_2, pz_LN q42_3, pz_LN q42_4, pz_LN q42_5, pz_LN q42_6, pz_LN q42_7, pz_LN q42_8, pz_LN q42_9, pz_LN q42_10]) H)
  refine lv_iinc hx hb (k := 0) (v := 8) (show decode cX0_init 50 = .ok (.iinc 2 1, 3) from by decide +kernel) hl rfl (by decide) (by decide) rfl (fun ls hl => ?_)
  have hl : lv_has ls 3 [(2, .int 8), (0, .ref h0), (1, .int t)] := hl
  refine lv_goto (tgt := 31) hx hb (show decode cX0_init 53 = .ok (.goto (-22), 3) from by decide +kernel) (by decide) ?_
  refine lv_iload_n hx hb (k := 2) (show decode cX0_init 31 = .ok (.iload_n 2, 1) from by decide +kernel) rfl (lv_at hl 0 rfl) ?_
  refine lv_bipush hx hb (v := 12) (show decode cX0_init 32 = .ok (.bipush 12, 2) from by decide +kernel) (by decide) ?_
  refine lv_icmp_ge (tgt := 56) hx hb (show decode cX0_init 34 = .ok (.if_icmp .ge 22, 3) from by decide +kernel) (by decide) (fun q9 => absurd q9 (by decide)) (fun _ => ?_)
  refine lv_aload_n hx hb (k := 0) (show decode cX0_init 37 = .ok (.aload_n 0, 1) from by decide +kernel) rfl (lv_at hl 1 rfl) ?_
  refine va_get (D := D) (fs := [.int t, .ref q7, .ref q14_2, .int 0, .int 0, .int 0, .int 0, .int 0]) (ci := 0) (v := .ref q7) (C := RX0) (T := TX0) (N := 8) hx hb hts (fun w hw => pz_tbl_in (pz_in0 w hw) (pz_layg w hw)) hown hB.1 hP (X.length + 0) (pz_xget rfl) rfl 1 (by decide) (hts (.fieldLink RX0 11 "TwelveChain$Chain" "links" "[LTwelveChain$Link;") (pz_tbl_in pz_wq96 rfl)) (fun _ h9 => h9) rfl (show decode cX0_init 38 = .ok (.getfield 11, 3) from by decide +kernel) ?_
  refine lv_iload_n hx hb (k := 2) (show decode cX0_init 41 = .ok (.iload_n 2, 1) from by decide +kernel) rfl (lv_at hl 0 rfl) ?_
  refine va_new (ci := 5) (fs := [.int 0, .int 0, .int 0, .int 0, .int 0, .int 0, .int 0, .int 0]) (C := RX5) (T := TX5) (N := 8) hx hb hts (fun w hw => pz_tbl_in (pz_in5 w hw) (pz_layg w hw)) tyX5 tyX5_ok hown (hts (.classLink RX0 9 RX5) (pz_tbl_in pz_wq35 rfl)) (hts (.instantiable RX5 8) (pz_tbl_in pz_wq37 rfl)) (hts (.initialized RX5) (pz_tbl_in pz_wq3 rfl)) hB.1 hP hD hS hA rfl pz_dv5 (Nat.le_of_ble_eq_true rfl) (Nat.le_of_ble_eq_true rfl) (show decode cX0_init 42 = .ok (.new 9, 3) from by decide +kernel) (fun q42_11 H hP hD hS => ?_)
  refine W.widen (k := 11) (n := 92) (Nat.le_of_ble_eq_true rfl) (Nat.le_of_ble_eq_true rfl) ?_
  refine lv_dup hx hb (show decode cX0_init 45 = .ok (.dup, 1) from by decide +kernel) rfl ?_
  refine pz_NcI (i := 17) (n := 0) Y hA (h_N_X5 (X := X ++ [(h0, .inr (0, [.int t, .ref q7, .ref q14_2, .int 0, .int 0, .int 0, .int 0, .int 0])), (q7, .inl (cy 2, 12, .inr (.inr (.inr (.inr (va_up (va_up (va_up (va_up (va_up (va_up (va_up (va_up (fun _ => none) 0 (some q42_3)) 1 (some q42_4)) 2 (some q42_5)) 3 (some q42_6)) 4 (some q42_7)) 5 (some q42_8)) 6 (some q42_9)) 7 (some q42_10))))))), pz_LN q14_2, pz_LN q42_3, pz_LN q42_4, pz_LN q42_5, pz_LN q42_6, pz_LN q42_7, pz_LN q42_8, pz_LN q42_9, pz_LN q42_10]) (h0 := q42_11) ) ⟨(Nat.le_of_ble_eq_true rfl), (Nat.le_of_ble_eq_true rfl)⟩ (Nat.le_of_ble_eq_true rfl) (Nat.le_of_ble_eq_true rfl) rfl rfl ⟨(pz_nhc_RX5 yX5_init rfl).1, (pz_nhc_RX5 yX5_init rfl).2, pz_ds2⟩ ⟨(pz_tbl_in pz_wq40 rfl), (pz_tbl_in pz_wq39 rfl), (pz_tbl_in pz_wq3 rfl)⟩ (Or.inr (by decide +kernel)) rfl (show decode cX0_init 46 = .ok (.invokespecial 17, 3) from by decide +kernel) hP hD hS hl.1 (Nat.le_of_ble_eq_true rfl) (fun H locs ws9 hq hP hD hS => ?_)
  subst hq
  rw [List.append_assoc] at hP hD
  obtain ⟨hP, hD⟩ := (⟨hP, hD⟩ : pz_PD D A (X ++ [(h0, .inr (0, [.int t, .ref q7, .ref q14_2, .int 0, .int 0, .int 0, .int 0, .int 0])), (q7, .inl (cy 2, 12, .inr (.inr (.inr (.inr (va_up (va_up (va_up (va_up (va_up (va_up (va_up (va_up (fun _ => none) 0 (some q42_3)) 1 (some q42_4)) 2 (some q42_5)) 3 (some q42_6)) 4 (some q42_7)) 5 (some q42_8)) 6 (some q42_9)) 7 (some q42_10))))))), pz_LN q14_2, pz_LN q42_3, pz_LN q42_4, pz_LN q42_5, pz_LN q42_6, pz_LN q42_7, pz_LN q42_8, pz_LN q42_9, pz_LN q42_10, pz_LN q42_11]) H)
  refine W.widen (k := 11) (n := 92) (Nat.le_of_ble_eq_true rfl) (Nat.le_of_ble_eq_true rfl) ?_
  refine va_astq (D := D) hx hb hB.1 hP hD hS (X.length + 1) 2 (X.length + 11) 5 (pz_xget rfl) rfl (pz_xget rfl) rfl (by unfold vp_in; decide) (show decode cX0_init 49 = .ok (.aastore, 1) from by decide +kernel) (fun H locs hP hD hS => ?_)
  rw [pz_xset] at hP hD
  obtain ⟨hP, hD⟩ := (⟨hP, hD⟩ : pz_PD D A (X ++ [(h0, .inr (0, [.int t, .ref q7, .ref q14_2, .int 0, .int 0, .int 0, .int 0, .int 0])), (q7, .inl (cy 2, 12, .inr (.inr (.inr (.inr (va_up (va_up (va_up (va_up (va_up (va_up (va_up (va_up (va_up (fun _ => none) 0 (some q42_3)) 1 (some q42_4)) 2 (some q42_5)) 3 (some q42_6)) 4 (some q42_7)) 5 (some q42_8)) 6 (some q42_9)) 7 (some q42_10)) 8 (some q42_11))))))), pz_LN q14_2, pz_LN q42_3, pz_LN q42_4, pz_LN q42_5, pz_LN q42_6, pz_LN q42_7, pz_LN q42_8, pz_LN q42_9, pz_LN q42_10, pz_LN q42_11]) H)
  refine lv_iinc hx hb (k := 0) (v := 9) (show decode cX0_init 50 = .ok (.iinc 2 1, 3) from by decide +kernel) hl rfl (by decide) (by decide) rfl (fun ls hl => ?_)
  have hl : lv_has ls 3 [(2, .int 9), (0, .ref h0), (1, .int t)] := hl
  refine lv_goto (tgt := 31) hx hb (show decode cX0_init 53 = .ok (.goto (-22), 3) from by decide +kernel) (by decide) ?_
  refine lv_iload_n hx hb (k := 2) (show decode cX0_init 31 = .ok (.iload_n 2, 1) from by decide +kernel) rfl (lv_at hl 0 rfl) ?_
  refine lv_bipush hx hb (v := 12) (show decode cX0_init 32 = .ok (.bipush 12, 2) from by decide +kernel) (by decide) ?_
  refine lv_icmp_ge (tgt := 56) hx hb (show decode cX0_init 34 = .ok (.if_icmp .ge 22, 3) from by decide +kernel) (by decide) (fun q9 => absurd q9 (by decide)) (fun _ => ?_)
  refine lv_aload_n hx hb (k := 0) (show decode cX0_init 37 = .ok (.aload_n 0, 1) from by decide +kernel) rfl (lv_at hl 1 rfl) ?_
  refine va_get (D := D) (fs := [.int t, .ref q7, .ref q14_2, .int 0, .int 0, .int 0, .int 0, .int 0]) (ci := 0) (v := .ref q7) (C := RX0) (T := TX0) (N := 8) hx hb hts (fun w hw => pz_tbl_in (pz_in0 w hw) (pz_layg w hw)) hown hB.1 hP (X.length + 0) (pz_xget rfl) rfl 1 (by decide) (hts (.fieldLink RX0 11 "TwelveChain$Chain" "links" "[LTwelveChain$Link;") (pz_tbl_in pz_wq96 rfl)) (fun _ h9 => h9) rfl (show decode cX0_init 38 = .ok (.getfield 11, 3) from by decide +kernel) ?_
  refine lv_iload_n hx hb (k := 2) (show decode cX0_init 41 = .ok (.iload_n 2, 1) from by decide +kernel) rfl (lv_at hl 0 rfl) ?_
  refine va_new (ci := 5) (fs := [.int 0, .int 0, .int 0, .int 0, .int 0, .int 0, .int 0, .int 0]) (C := RX5) (T := TX5) (N := 8) hx hb hts (fun w hw => pz_tbl_in (pz_in5 w hw) (pz_layg w hw)) tyX5 tyX5_ok hown (hts (.classLink RX0 9 RX5) (pz_tbl_in pz_wq35 rfl)) (hts (.instantiable RX5 8) (pz_tbl_in pz_wq37 rfl)) (hts (.initialized RX5) (pz_tbl_in pz_wq3 rfl)) hB.1 hP hD hS hA rfl pz_dv5 (Nat.le_of_ble_eq_true rfl) (Nat.le_of_ble_eq_true rfl) (show decode cX0_init 42 = .ok (.new 9, 3) from by decide +kernel) (fun q42_12 H hP hD hS => ?_)
  refine W.widen (k := 12) (n := 100) (Nat.le_of_ble_eq_true rfl) (Nat.le_of_ble_eq_true rfl) ?_
  refine lv_dup hx hb (show decode cX0_init 45 = .ok (.dup, 1) from by decide +kernel) rfl ?_
  refine pz_NcI (i := 17) (n := 0) Y hA (h_N_X5 (X := X ++ [(h0, .inr (0, [.int t, .ref q7, .ref q14_2, .int 0, .int 0, .int 0, .int 0, .int 0])), (q7, .inl (cy 2, 12, .inr (.inr (.inr (.inr (va_up (va_up (va_up (va_up (va_up (va_up (va_up (va_up (va_up (fun _ => none) 0 (some q42_3)) 1 (some q42_4)) 2 (some q42_5)) 3 (some q42_6)) 4 (some q42_7)) 5 (some q42_8)) 6 (some q42_9)) 7 (some q42_10)) 8 (some q42_11))))))), pz_LN q14_2, pz_LN q42_3, pz_LN q42_4, pz_LN q42_5, pz_LN q42_6, pz_LN q42_7, pz_LN q42_8, pz_LN q42_9, pz_LN q42_10, pz_LN q42_11]) (h0 := q42_12) ) ⟨(Nat.le_of_ble_eq_true rfl), (Nat.le_of_ble_eq_true rfl)⟩ (Nat.le_of_ble_eq_true rfl) (Nat.le_of_ble_eq_true rfl) rfl rfl ⟨(pz_nhc_RX5 yX5_init rfl).1, (pz_nhc_RX5 yX5_init rfl).2, pz_ds2⟩ ⟨(pz_tbl_in pz_wq40 rfl), (pz_tbl_in pz_wq39 rfl), (pz_tbl_in pz_wq3 rfl)⟩ (Or.inr (by decide +kernel)) rfl (show decode cX0_init 46 = .ok (.invokespecial 17, 3) from by decide +kernel) hP hD hS hl.1 (Nat.le_of_ble_eq_true rfl) (fun H locs ws9 hq hP hD hS => ?_)
  subst hq
  rw [List.append_assoc] at hP hD
  obtain ⟨hP, hD⟩ := (⟨hP, hD⟩ : pz_PD D A (X ++ [(h0, .inr (0, [.int t, .ref q7, .ref q14_2, .int 0, .int 0, .int 0, .int 0, .int 0])), (q7, .inl (cy 2, 12, .inr (.inr (.inr (.inr (va_up (va_up (va_up (va_up (va_up (va_up (va_up (va_up (va_up (fun _ => none) 0 (some q42_3)) 1 (some q42_4)) 2 (some q42_5)) 3 (some q42_6)) 4 (some q42_7)) 5 (some q42_8)) 6 (some q42_9)) 7 (some q42_10)) 8 (some q42_11))))))), pz_LN q14_2, pz_LN q42_3, pz_LN q42_4, pz_LN q42_5, pz_LN q42_6, pz_LN q42_7, pz_LN q42_8, pz_LN q42_9, pz_LN q42_10, pz_LN q42_11, pz_LN q42_12]) H)
  refine W.widen (k := 12) (n := 100) (Nat.le_of_ble_eq_true rfl) (Nat.le_of_ble_eq_true rfl) ?_
  refine va_astq (D := D) hx hb hB.1 hP hD hS (X.length + 1) 2 (X.length + 12) 5 (pz_xget rfl) rfl (pz_xget rfl) rfl (by unfold vp_in; decide) (show decode cX0_init 49 = .ok (.aastore, 1) from by decide +kernel) (fun H locs hP hD hS => ?_)
  rw [pz_xset] at hP hD
  obtain ⟨hP, hD⟩ := (⟨hP, hD⟩ : pz_PD D A (X ++ [(h0, .inr (0, [.int t, .ref q7, .ref q14_2, .int 0, .int 0, .int 0, .int 0, .int 0])), (q7, .inl (cy 2, 12, .inr (.inr (.inr (.inr (va_up (va_up (va_up (va_up (va_up (va_up (va_up (va_up (va_up (va_up (fun _ => none) 0 (some q42_3)) 1 (some q42_4)) 2 (some q42_5)) 3 (some q42_6)) 4 (some q42_7)) 5 (some q42_8)) 6 (some q42_9)) 7 (some q42_10)) 8 (some q42_11)) 9 (some q42_12))))))), pz_LN q14_2, pz_LN q42_3, pz_LN q42_4, pz_LN q42_5, pz_LN q42_6, pz_LN q42_7, pz_LN q42_8, pz_LN q42_9, pz_LN q42_10, pz_LN q42_11, pz_LN q42_12]) H)
  refine lv_iinc hx hb (k := 0) (v := 10) (show decode cX0_init 50 = .ok (.iinc 2 1, 3) from by decide +kernel) hl rfl (by decide) (by decide) rfl (fun ls hl => ?_)
  have hl : lv_has ls 3 [(2, .int 10), (0, .ref h0), (1, .int t)] := hl
  refine lv_goto (tgt := 31) hx hb (show decode cX0_init 53 = .ok (.goto (-22), 3) from by decide +kernel) (by decide) ?_
  refine lv_iload_n hx hb (k := 2) (show decode cX0_init 31 = .ok (.iload_n 2, 1) from by decide +kernel) rfl (lv_at hl 0 rfl) ?_
  refine lv_bipush hx hb (v := 12) (show decode cX0_init 32 = .ok (.bipush 12, 2) from by decide +kernel) (by decide) ?_
  refine lv_icmp_ge (tgt := 56) hx hb (show decode cX0_init 34 = .ok (.if_icmp .ge 22, 3) from by decide +kernel) (by decide) (fun q9 => absurd q9 (by decide)) (fun _ => ?_)
  refine lv_aload_n hx hb (k := 0) (show decode cX0_init 37 = .ok (.aload_n 0, 1) from by decide +kernel) rfl (lv_at hl 1 rfl) ?_
  refine va_get (D := D) (fs := [.int t, .ref q7, .ref q14_2, .int 0, .int 0, .int 0, .int 0, .int 0]) (ci := 0) (v := .ref q7) (C := RX0) (T := TX0) (N := 8) hx hb hts (fun w hw => pz_tbl_in (pz_in0 w hw) (pz_layg w hw)) hown hB.1 hP (X.length + 0) (pz_xget rfl) rfl 1 (by decide) (hts (.fieldLink RX0 11 "TwelveChain$Chain" "links" "[LTwelveChain$Link;") (pz_tbl_in pz_wq96 rfl)) (fun _ h9 => h9) rfl (show decode cX0_init 38 = .ok (.getfield 11, 3) from by decide +kernel) ?_
  refine lv_iload_n hx hb (k := 2) (show decode cX0_init 41 = .ok (.iload_n 2, 1) from by decide +kernel) rfl (lv_at hl 0 rfl) ?_
  refine va_new (ci := 5) (fs := [.int 0, .int 0, .int 0, .int 0, .int 0, .int 0, .int 0, .int 0]) (C := RX5) (T := TX5) (N := 8) hx hb hts (fun w hw => pz_tbl_in (pz_in5 w hw) (pz_layg w hw)) tyX5 tyX5_ok hown (hts (.classLink RX0 9 RX5) (pz_tbl_in pz_wq35 rfl)) (hts (.instantiable RX5 8) (pz_tbl_in pz_wq37 rfl)) (hts (.initialized RX5) (pz_tbl_in pz_wq3 rfl)) hB.1 hP hD hS hA rfl pz_dv5 (Nat.le_of_ble_eq_true rfl) (Nat.le_of_ble_eq_true rfl) (show decode cX0_init 42 = .ok (.new 9, 3) from by decide +kernel) (fun q42_13 H hP hD hS => ?_)
  refine W.widen (k := 13) (n := 108) (Nat.le_of_ble_eq_true rfl) (Nat.le_of_ble_eq_true rfl) ?_
  refine lv_dup hx hb (show decode cX0_init 45 = .ok (.dup, 1) from by decide +kernel) rfl ?_
  refine pz_NcI (i := 17) (n := 0) Y hA (h_N_X5 (X := X ++ [(h0, .inr (0, [.int t, .ref q7, .ref q14_2, .int 0, .int 0, .int 0, .int 0, .int 0])), (q7, .inl (cy 2, 12, .inr (.inr (.inr (.inr (va_up (va_up (va_up (va_up (va_up (va_up (va_up (va_up (va_up (va_up (fun _ => none) 0 (some q42_3)) 1 (some q42_4)) 2 (some q42_5)) 3 (some q42_6)) 4 (some q42_7)) 5 (some q42_8)) 6 (some q42_9)) 7 (some q42_10)) 8 (some q42_11)) 9 (some q42_12))))))), pz_LN q14_2, pz_LN q42_3, pz_LN q42_4, pz_LN q42_5, pz_LN q42_6, pz_LN q42_7, pz_LN q42_8, pz_LN q42_9, pz_LN q42_10, pz_LN q42_11, pz_LN q42_12]) (h0 := q42_13) ) ⟨(Nat.le_of_ble_eq_true rfl), (Nat.le_of_ble_eq_true rfl)⟩ (Nat.le_of_ble_eq_true rfl) (Nat.le_of_ble_eq_true rfl) rfl rfl ⟨(pz_nhc_RX5 yX5_init rfl).1, (pz_nhc_RX5 yX5_init rfl).2, pz_ds2⟩ ⟨(pz_tbl_in pz_wq40 rfl), (pz_tbl_in pz_wq39 rfl), (pz_tbl_in pz_wq3 rfl)⟩ (Or.inr (by decide +kernel)) rfl (show decode cX0_init 46 = .ok (.invokespecial 17, 3) from by decide +kernel) hP hD hS hl.1 (Nat.le_of_ble_eq_true rfl) (fun H locs ws9 hq hP hD hS => ?_)
  subst hq
  rw [List.append_assoc] at hP hD
  obtain ⟨hP, hD⟩ := (⟨hP, hD⟩ : pz_PD D A (X ++ [(h0, .inr (0, [.int t, .ref q7, .ref q14_2, .int 0, .int 0, .int 0, .int 0, .int 0])), (q7, .inl (cy 2, 12, .inr (.inr (.inr (.inr (va_up (va_up (va_up (va_up (va_up (va_up (va_up (va_up (va_up (va_up (fun _ => none) 0 (some q42_3)) 1 (some q42_4)) 2 (some q42_5)) 3 (some q42_6)) 4 (some q42_7)) 5 (some q42_8)) 6 (some q42_9)) 7 (some q42_10)) 8 (some q42_11)) 9 (some q42_12))))))), pz_LN q14_2, pz_LN q42_3, pz_LN q42_4, pz_LN q42_5, pz_LN q42_6, pz_LN q42_7, pz_LN q42_8, pz_LN q42_9, pz_LN q42_10, pz_LN q42_11, pz_LN q42_12, pz_LN q42_13]) H)
  refine W.widen (k := 13) (n := 108) (Nat.le_of_ble_eq_true rfl) (Nat.le_of_ble_eq_true rfl) ?_
  refine va_astq (D := D) hx hb hB.1 hP hD hS (X.length + 1) 2 (X.length + 13) 5 (pz_xget rfl) rfl (pz_xget rfl) rfl (by unfold vp_in; decide) (show decode cX0_init 49 = .ok (.aastore, 1) from by decide +kernel) (fun H locs hP hD hS => ?_)
  rw [pz_xset] at hP hD
  obtain ⟨hP, hD⟩ := (⟨hP, hD⟩ : pz_PD D A (X ++ [(h0, .inr (0, [.int t, .ref q7, .ref q14_2, .int 0, .int 0, .int 0, .int 0, .int 0])), (q7, .inl (cy 2, 12, .inr (.inr (.inr (.inr (va_up (va_up (va_up (va_up (va_up (va_up (va_up (va_up (va_up (va_up (va_up (fun _ => none) 0 (some q42_3)) 1 (some q42_4)) 2 (some q42_5)) 3 (some q42_6)) 4 (some q42_7)) 5 (some q42_8)) 6 (some q42_9)) 7 (some q42_10)) 8 (some q42_11)) 9 (some q42_12)) 10 (some q42_13))))))), pz_LN q14_2, pz_LN q42_3, pz_LN q42_4, pz_LN q42_5, pz_LN q42_6, pz_LN q42_7, pz_LN q42_8, pz_LN q42_9, pz_LN q42_10, pz_LN q42_11, pz_LN q42_12, pz_LN q42_13]) H)
  refine lv_iinc hx hb (k := 0) (v := 11) (show decode cX0_init 50 = .ok (.iinc 2 1, 3) from by decide +kernel) hl rfl (by decide) (by decide) rfl (fun ls hl => ?_)
  have hl : lv_has ls 3 [(2, .int 11), (0, .ref h0), (1, .int t)] := hl
  refine lv_goto (tgt := 31) hx hb (show decode cX0_init 53 = .ok (.goto (-22), 3) from by decide +kernel) (by decide) ?_
  refine lv_iload_n hx hb (k := 2) (show decode cX0_init 31 = .ok (.iload_n 2, 1) from by decide +kernel) rfl (lv_at hl 0 rfl) ?_
  refine lv_bipush hx hb (v := 12) (show decode cX0_init 32 = .ok (.bipush 12, 2) from by decide +kernel) (by decide) ?_
  refine lv_icmp_ge (tgt := 56) hx hb (show decode cX0_init 34 = .ok (.if_icmp .ge 22, 3) from by decide +kernel) (by decide) (fun q9 => absurd q9 (by decide)) (fun _ => ?_)
  refine lv_aload_n hx hb (k := 0) (show decode cX0_init 37 = .ok (.aload_n 0, 1) from by decide +kernel) rfl (lv_at hl 1 rfl) ?_
  refine va_get (D := D) (fs := [.int t, .ref q7, .ref q14_2, .int 0, .int 0, .int 0, .int 0, .int 0]) (ci := 0) (v := .ref q7) (C := RX0) (T := TX0) (N := 8) hx hb hts (fun w hw => pz_tbl_in (pz_in0 w hw) (pz_layg w hw)) hown hB.1 hP (X.length + 0) (pz_xget rfl) rfl 1 (by decide) (hts (.fieldLink RX0 11 "TwelveChain$Chain" "links" "[LTwelveChain$Link;") (pz_tbl_in pz_wq96 rfl)) (fun _ h9 => h9) rfl (show decode cX0_init 38 = .ok (.getfield 11, 3) from by decide +kernel) ?_
  refine lv_iload_n hx hb (k := 2) (show decode cX0_init 41 = .ok (.iload_n 2, 1) from by decide +kernel) rfl (lv_at hl 0 rfl) ?_
  refine va_new (ci := 5) (fs := [.int 0, .int 0, .int 0, .int 0, .int 0, .int 0, .int 0, .int 0]) (C := RX5) (T := TX5) (N := 8) hx hb hts (fun w hw => pz_tbl_in (pz_in5 w hw) (pz_layg w hw)) tyX5 tyX5_ok hown (hts (.classLink RX0 9 RX5) (pz_tbl_in pz_wq35 rfl)) (hts (.instantiable RX5 8) (pz_tbl_in pz_wq37 rfl)) (hts (.initialized RX5) (pz_tbl_in pz_wq3 rfl)) hB.1 hP hD hS hA rfl pz_dv5 (Nat.le_of_ble_eq_true rfl) (Nat.le_of_ble_eq_true rfl) (show decode cX0_init 42 = .ok (.new 9, 3) from by decide +kernel) (fun q42_14 H hP hD hS => ?_)
  refine W.widen (k := 14) (n := 116) (Nat.le_of_ble_eq_true rfl) (Nat.le_of_ble_eq_true rfl) ?_
  refine lv_dup hx hb (show decode cX0_init 45 = .ok (.dup, 1) from by decide +kernel) rfl ?_
  refine pz_NcI (i := 17) (n := 0) Y hA (h_N_X5 (X := X ++ [(h0, .inr (0, [.int t, .ref q7, .ref q14_2, .int 0, .int 0, .int 0, .int 0, .int 0])), (q7, .inl (cy 2, 12, .inr (.inr (.inr (.inr (va_up (va_up (va_up (va_up (va_up (va_up (va_up (va_up (va_up (va_up (va_up (fun _ => none) 0 (some q42_3)) 1 (some q42_4)) 2 (some q42_5)) 3 (some q42_6)) 4 (some q42_7)) 5 (some q42_8)) 6 (some q42_9)) 7 (some q42_10)) 8 (some q42_11)) 9 (some q42_12)) 10 (some q42_13))))))), pz_LN q14_2, pz_LN q42_3, pz_LN q42_4, pz_LN q42_5, pz_LN q42_6, pz_LN q42_7, pz_LN q42_8, pz_LN q42_9, pz_LN q42_10, pz_LN q42_11, pz_LN q42_12, pz_LN q42_13]) (h0 := q42_14) ) ⟨(Nat.le_of_ble_eq_true rfl), (Nat.le_of_ble_eq_true rfl)⟩ (Nat.le_of_ble_eq_true rfl) (Nat.le_of_ble_eq_true rfl) rfl rfl ⟨(pz_nhc_RX5 yX5_init rfl).1, (pz_nhc_RX5 yX5_init rfl).2, pz_ds2⟩ ⟨(pz_tbl_in pz_wq40 rfl), (pz_tbl_in pz_wq39 rfl), (pz_tbl_in pz_wq3 rfl)⟩ (Or.inr (by decide +kernel)) rfl (show decode cX0_init 46 = .ok (.invokespecial 17, 3) from by decide +kernel) hP hD hS hl.1 (Nat.le_of_ble_eq_true rfl) (fun H locs ws9 hq hP hD hS => ?_)
  subst hq
  rw [List.append_assoc] at hP hD
  obtain ⟨hP, hD⟩ := (⟨hP, hD⟩ : pz_PD D A (X ++ [(h0, .inr (0, [.int t, .ref q7, .ref q14_2, .int 0, .int 0, .int 0, .int 0, .int 0])), (q7, .inl (cy 2, 12, .inr (.inr (.inr (.inr (va_up (va_up (va_up (va_up (va_up (va_up (va_up (va_up (va_up (va_up (va_up (fun _ => none) 0 (some q42_3)) 1 (some q42_4)) 2 (some q42_5)) 3 (some q42_6)) 4 (some q42_7)) 5 (some q42_8)) 6 (some q42_9)) 7 (some q42_10)) 8 (some q42_11)) 9 (some q42_12)) 10 (some q42_13))))))), pz_LN q14_2, pz_LN q42_3, pz_LN q42_4, pz_LN q42_5, pz_LN q42_6, pz_LN q42_7, pz_LN q42_8, pz_LN q42_9, pz_LN q42_10, pz_LN q42_11, pz_LN q42_12, pz_LN q42_13, pz_LN q42_14]) H)
  refine W.widen (k := 14) (n := 116) (Nat.le_of_ble_eq_true rfl) (Nat.le_of_ble_eq_true rfl) ?_
  refine va_astq (D := D) hx hb hB.1 hP hD hS (X.length + 1) 2 (X.length + 14) 5 (pz_xget rfl) rfl (pz_xget rfl) rfl (by unfold vp_in; decide) (show decode cX0_init 49 = .ok (.aastore, 1) from by decide +kernel) (fun H locs hP hD hS => ?_)
  rw [pz_xset] at hP hD
  obtain ⟨hP, hD⟩ := (⟨hP, hD⟩ : pz_PD D A (X ++ [(h0, .inr (0, [.int t, .ref q7, .ref q14_2, .int 0, .int 0, .int 0, .int 0, .int 0])), (q7, .inl (cy 2, 12, .inr (.inr (.inr (.inr (va_up (va_up (va_up (va_up (va_up (va_up (va_up (va_up (va_up (va_up (va_up (va_up (fun _ => none) 0 (some q42_3)) 1 (some q42_4)) 2 (some q42_5)) 3 (some q42_6)) 4 (some q42_7)) 5 (some q42_8)) 6 (some q42_9)) 7 (some q42_10)) 8 (some q42_11)) 9 (some q42_12)) 10 (some q42_13)) 11 (some q42_14))))))), pz_LN q14_2, pz_LN q42_3, pz_LN q42_4, pz_LN q42_5, pz_LN q42_6, pz_LN q42_7, pz_LN q42_8, pz_LN q42_9, pz_LN q42_10, pz_LN q42_11, pz_LN q42_12, pz_LN q42_13, pz_LN q42_14]) H)
  refine lv_iinc hx hb (k := 0) (v := 12) (show decode cX0_init 50 = .ok (.iinc 2 1, 3) from by decide +kernel) hl rfl (by decide) (by decide) rfl (fun ls hl => ?_)
  have hl : lv_has ls 3 [(2, .int 12), (0, .ref h0), (1, .int t)] := hl
  refine lv_goto (tgt := 31) hx hb (show decode cX0_init 53 = .ok (.goto (-22), 3) from by decide +kernel) (by decide) ?_
  refine lv_iload_n hx hb (k := 2) (show decode cX0_init 31 = .ok (.iload_n 2, 1) from by decide +kernel) rfl (lv_at hl 0 rfl) ?_
  refine lv_bipush hx hb (v := 12) (show decode cX0_init 32 = .ok (.bipush 12, 2) from by decide +kernel) (by decide) ?_
  refine lv_icmp_ge (tgt := 56) hx hb (show decode cX0_init 34 = .ok (.if_icmp .ge 22, 3) from by decide +kernel) (by decide) (fun _ => ?_) (fun q9 => absurd (by decide) q9)
  have hP := pz_Pq (i := X.length + 1) (a := q7) (cA := cy 2) (n := 12) (F := (va_up (va_up (va_up (va_up (va_up (va_up (va_up (va_up (va_up (va_up (va_up (va_up (fun _ => none) 0 (some q42_3)) 1 (some q42_4)) 2 (some q42_5)) 3 (some q42_6)) 4 (some q42_7)) 5 (some q42_8)) 6 (some q42_9)) 7 (some q42_10)) 8 (some q42_11)) 9 (some q42_12)) 10 (some q42_13)) 11 (some q42_14))) (G := (fun j => some ((fun k => [q7, q14_2, q42_3, q42_4, q42_5, q42_6, q42_7, q42_8, q42_9, q42_10, q42_11, q42_12, q42_13, q42_14].getD k 0) (2 + j)))) (pz_xget rfl) (fun j hj => match j, hj with | 0, _ => rfl | 1, _ => rfl | 2, _ => rfl | 3, _ => rfl | 4, _ => rfl | 5, _ => rfl | 6, _ => rfl | 7, _ => rfl | 8, _ => rfl | 9, _ => rfl | 10, _ => rfl | 11, _ => rfl | n + 12, h => absurd h (by first | decide | omega)) hP
  have hD := hD.set (p := X.length + 1) (a := q7) (e := .inl (cy 2, 12, .inr (.inr (.inr (.inr (fun j => some ((fun k => [q7, q14_2, q42_3, q42_4, q42_5, q42_6, q42_7, q42_8, q42_9, q42_10, q42_11, q42_12, q42_13, q42_14].getD k 0) (2 + j)))))))) (pz_xget (i := 1) rfl)
  rw [pz_xset] at hP hD
  obtain ⟨hP, hD⟩ := (⟨hP, hD⟩ : pz_PD D A (X ++ [(h0, .inr (0, [.int t, .ref q7, .ref q14_2, .int 0, .int 0, .int 0, .int 0, .int 0])), (q7, .inl (cy 2, 12, .inr (.inr (.inr (.inr (fun j => some ((fun k => [q7, q14_2, q42_3, q42_4, q42_5, q42_6, q42_7, q42_8, q42_9, q42_10, q42_11, q42_12, q42_13, q42_14].getD k 0) (2 + j)))))))), pz_LN q14_2, pz_LN q42_3, pz_LN q42_4, pz_LN q42_5, pz_LN q42_6, pz_LN q42_7, pz_LN q42_8, pz_LN q42_9, pz_LN q42_10, pz_LN q42_11, pz_LN q42_12, pz_LN q42_13, pz_LN q42_14]) H)
  exact Kr H _ _ 56 _ _ _ hP hD hS ⟨fun k => [q7, q14_2, q42_3, q42_4, q42_5, q42_6, q42_7, q42_8, q42_9, q42_10, q42_11, q42_12, q42_13, q42_14].getD k 0, rfl⟩ (Nat.le_of_ble_eq_true rfl) (Nat.le_of_ble_eq_true rfl) (show decode cX0_init 56 = .ok (.return_, 1) from by decide +kernel)
set_option maxRecDepth 100000 in
set_option maxHeartbeats 4000000 in
theorem h_N_X2 {D : va_G} {cy : Nat → ClassId} {A : Nat → Prop} {X : va_W} {h0 : Nat} : pz_N yX2_init cX2_init 2 3 54 91 750 [.ref h0] D cy A (X ++ [(h0, .inr (2, [.null, .int 0, .int 0]))]) (fun ws' => ∃ g, ws' = X ++ pz_b2 cy h0 g) := by
  refine pz_Nmk (pz_pfc_RX2 yX2_init rfl) rfl ?_
  intro p l e s m below meth c Q Y hP hD hA Kr
  obtain ⟨hx, hb, hml, hown, hts, hB, hin⟩ := Y
  have Y : pz_Ym p s m _ c _ _ _ D cy := ⟨hx, hb, hml, hown, hts, hB⟩
  have hS : va_S A s.heap s.heap [] := va_S.rf
  have hl := lv_entry [.ref h0] (n := 2) (Nat.le_of_ble_eq_true rfl)
  generalize (lg_sl ([.ref h0] : List Value) ++ List.replicate (2 - (lg_sl ([.ref h0] : List Value)).length) Slot.unset).toArray = ls at hl ⊢
  have hl : lv_has ls 2 [(0, .ref h0)] := hl
  refine lv_aload_n hx hb (k := 0) (show decode cX2_init 0 = .ok (.aload_n 0, 1) from by decide +kernel) rfl (lv_at hl 0 rfl) ?_
  refine W.objInit hx hb hown (hts (.methodLink RX2 3 objectInit) (pz_tbl_in pz_wq226 rfl)) (hts (.instanceMethod objectInit) (pz_tbl_in pz_wq27 rfl)) (hts (.code objectInit ⟨#[0xb1]⟩ 1 none) (pz_tbl_in pz_wq28 rfl)) rfl (by rw [hml]; exact hl.1) rfl (show decode cX2_init 1 = .ok (.invokespecial 3, 3) from by decide +kernel) (Nat.le_of_ble_eq_true rfl) (Nat.le_of_ble_eq_true rfl) ?_
  refine W.eq (g2 := F0 m 4 ls []) rfl ?_
  refine lv_aload_n hx hb (k := 0) (show decode cX2_init 4 = .ok (.aload_n 0, 1) from by decide +kernel) rfl (lv_at hl 0 rfl) ?_
  refine lv_bipush hx hb (v := 6) (show decode cX2_init 5 = .ok (.bipush 6, 2) from by decide +kernel) (by decide) ?_
  refine va_newq hx hb hown (hts (.classLink RX2 9 "TwelveChain$Chain") (pz_tbl_in pz_wq227 rfl)) hB.2.2.2 hB.1 hP hD hS hA (by decide) (N' := 6) (by decide) (by decide) (Nat.le_of_ble_eq_true rfl) (Nat.le_of_ble_eq_true rfl) (show decode cX2_init 7 = .ok (.anewarray 9, 3) from by decide +kernel) (fun q7 cA H hK9 hP hD hS => ?_)
  have e9 : cA = cy 3 := pz_Ncq (hK9.2 (pz_ty cy).length (cA, .object "TwelveChain$Chain") (by simp)).2 (hB.1.2 3 _ rfl).2
  subst e9
  rw [List.append_assoc] at hP hD
  obtain ⟨hP, hD⟩ := (⟨hP, hD⟩ : pz_PD D A (X ++ [(h0, .inr (2, [.null, .int 0, .int 0])), (q7, .inl (cy 3, 6, .inr (.inr (.inr (.inr (fun _ => none))))))]) H)
  refine W.widen (k := 1) (n := 6) (Nat.le_of_ble_eq_true rfl) (Nat.le_of_ble_eq_true rfl) ?_
  refine va_putF (D := D) (ci := 2) (v := .ref q7) (ty := tyX2 0) (C := RX2) (T := TX2) (N := 3) hx hb hts (fun w hw => pz_tbl_in (pz_in2 w hw) (pz_layg w hw)) tyX2 tyX2_ok nmX2 hown hB.1 hP hD hS (X.length + 0) (pz_xget rfl) rfl 0 (by decide) (hts (.fieldLink RX2 11 "TwelveChain$Kept" "before" "[LTwelveChain$Chain;") (pz_tbl_in pz_wq230 rfl)) (fun _ h9 => h9) rfl hin rfl (tyX2_ok 0 (by decide)) rfl rfl (Nat.le_of_ble_eq_true rfl) (show decode cX2_init 10 = .ok (.putfield 11, 3) from by decide +kernel) (fun H locs hP hD hS => ?_)
  rw [pz_xset] at hP hD
  obtain ⟨hP, hD⟩ := (⟨hP, hD⟩ : pz_PD D A (X ++ [(h0, .inr (2, [.ref q7, .int 0, .int 0])), (q7, .inl (cy 3, 6, .inr (.inr (.inr (.inr (fun _ => none))))))]) H)
  refine lv_iconst hx hb (v := 0) (show decode cX2_init 13 = .ok (.iconst 0, 1) from by decide +kernel) (by decide) ?_
  refine lv_istore_n hx hb (k := 1) (show decode cX2_init 14 = .ok (.istore_n 1, 1) from by decide +kernel) rfl hl (by decide) rfl (fun ls hl => ?_)
  have hl : lv_has ls 2 [(1, .int 0), (0, .ref h0)] := hl
  refine lv_iload_n hx hb (k := 1) (show decode cX2_init 15 = .ok (.iload_n 1, 1) from by decide +kernel) rfl (lv_at hl 0 rfl) ?_
  refine lv_bipush hx hb (v := 6) (show decode cX2_init 16 = .ok (.bipush 6, 2) from by decide +kernel) (by decide) ?_
  refine lv_icmp_ge (tgt := 41) hx hb (show decode cX2_init 18 = .ok (.if_icmp .ge 23, 3) from by decide +kernel) (by decide) (fun q9 => absurd q9 (by decide)) (fun _ => ?_)
  refine lv_aload_n hx hb (k := 0) (show decode cX2_init 21 = .ok (.aload_n 0, 1) from by decide +kernel) rfl (lv_at hl 1 rfl) ?_
  refine va_get (D := D) (fs := [.ref q7, .int 0, .int 0]) (ci := 2) (v := .ref q7) (C := RX2) (T := TX2) (N := 3) hx hb hts (fun w hw => pz_tbl_in (pz_in2 w hw) (pz_layg w hw)) hown hB.1 hP (X.length + 0) (pz_xget rfl) rfl 0 (by decide) (hts (.fieldLink RX2 11 "TwelveChain$Kept" "before" "[LTwelveChain$Chain;") (pz_tbl_in pz_wq230 rfl)) (fun _ h9 => h9) rfl (show decode cX2_init 22 = .ok (.getfield 11, 3) from by decide +kernel) ?_
  refine lv_iload_n hx hb (k := 1) (show decode cX2_init 25 = .ok (.iload_n 1, 1) from by decide +kernel) rfl (lv_at hl 0 rfl) ?_
  refine va_new (ci := 0) (fs := [.int 0, .null, .null, .int 0, .int 0, .int 0, .int 0, .int 0]) (C := RX0) (T := TX0) (N := 8) hx hb hts (fun w hw => pz_tbl_in (pz_in0 w hw) (pz_layg w hw)) tyX0 tyX0_ok hown (hts (.classLink RX2 9 RX0) (pz_tbl_in pz_wq227 rfl)) (hts (.instantiable RX0 8) (pz_tbl_in pz_wq30 rfl)) (hts (.initialized RX0) (pz_tbl_in pz_wq2 rfl)) hB.1 hP hD hS hA rfl pz_dv0 (Nat.le_of_ble_eq_true rfl) (Nat.le_of_ble_eq_true rfl) (show decode cX2_init 26 = .ok (.new 9, 3) from by decide +kernel) (fun q26_2 H hP hD hS => ?_)
  refine W.widen (k := 2) (n := 14) (Nat.le_of_ble_eq_true rfl) (Nat.le_of_ble_eq_true rfl) ?_
  refine lv_dup hx hb (show decode cX2_init 29 = .ok (.dup, 1) from by decide +kernel) rfl ?_
  refine lv_iconst hx hb (v := 0) (show decode cX2_init 30 = .ok (.iconst 0, 1) from by decide +kernel) (by decide) ?_
  refine pz_NcI (i := 17) (n := 1) Y hA (h_N_X0 (X := X ++ [(h0, .inr (2, [.ref q7, .int 0, .int 0])), (q7, .inl (cy 3, 6, .inr (.inr (.inr (.inr (fun _ => none))))))]) (h0 := q26_2) (0) (by decide)) ⟨(Nat.le_of_ble_eq_true rfl), (Nat.le_of_ble_eq_true rfl)⟩ (Nat.le_of_ble_eq_true rfl) (Nat.le_of_ble_eq_true rfl) rfl rfl ⟨(pz_nhc_RX0 yX0_init rfl).1, (pz_nhc_RX0 yX0_init rfl).2, pz_ds47⟩ ⟨(pz_tbl_in pz_wq33 rfl), (pz_tbl_in pz_wq32 rfl), (pz_tbl_in pz_wq2 rfl)⟩ (Or.inl (pz_tbl_in pz_wq229 rfl)) rfl (show decode cX2_init 31 = .ok (.invokespecial 17, 3) from by decide +kernel) hP hD hS hl.1 (Nat.le_of_ble_eq_true rfl) (fun H locs ws9 hq hP hD hS => ?_)
  obtain ⟨g_q26_2, rfl⟩ := hq
  rw [List.append_assoc] at hP hD
  obtain ⟨hP, hD⟩ := (⟨hP, hD⟩ : pz_PD D A (X ++ ([(h0, .inr (2, [.ref q7, .int 0, .int 0])), (q7, .inl (cy 3, 6, .inr (.inr (.inr (.inr (fun _ => none))))))] ++ pz_b0 cy q26_2 (0) g_q26_2)) H)
  refine W.widen (k := 16) (n := 130) (Nat.le_of_ble_eq_true rfl) (Nat.le_of_ble_eq_true rfl) ?_
  refine va_astq (D := D) hx hb hB.1 hP hD hS (X.length + 1) 3 (X.length + 2) 0 (pz_xget rfl) rfl (pz_xget rfl) rfl (by unfold vp_in; decide) (show decode cX2_init 34 = .ok (.aastore, 1) from by decide +kernel) (fun H locs hP hD hS => ?_)
  rw [pz_xset] at hP hD
  obtain ⟨hP, hD⟩ := (⟨hP, hD⟩ : pz_PD D A (X ++ ([(h0, .inr (2, [.ref q7, .int 0, .int 0])), (q7, .inl (cy 3, 6, .inr (.inr (.inr (.inr (va_up (fun _ => none) 0 (some q26_2)))))))] ++ pz_b0 cy q26_2 (0) g_q26_2)) H)
  refine lv_iinc hx hb (k := 0) (v := 1) (show decode cX2_init 35 = .ok (.iinc 1 1, 3) from by decide +kernel) hl rfl (by decide) (by decide) rfl (fun ls hl => ?_)
  have hl : lv_has ls 2 [(1, .int 1), (0, .ref h0)] := hl
  refine lv_goto (tgt := 15) hx hb (show decode cX2_init 38 = .ok (.goto (-23), 3) from by decide +kernel) (by decide) ?_
  refine lv_iload_n hx hb (k := 1) (show decode cX2_init 15 = .ok (.iload_n 1, 1) from by decide +kernel) rfl (lv_at hl 0 rfl) ?_
  refine lv_bipush hx hb (v := 6) (show decode cX2_init 16 = .ok (.bipush 6, 2) from by decide +kernel) (by decide) ?_
  refine lv_icmp_ge (tgt := 41) hx hb (show decode cX2_init 18 = .ok (.if_icmp .ge 23, 3) from by decide +kernel) (by decide) (fun q9 => absurd q9 (by decide)) (fun _ => ?_)
  refine lv_aload_n hx hb (k := 0) (show decode cX2_init 21 = .ok (.aload_n 0, 1) from by decide +kernel) rfl (lv_at hl 1 rfl) ?_
  refine va_get (D := D) (fs := [.ref q7, .int 0, .int 0]) (ci := 2) (v := .ref q7) (C := RX2) (T := TX2) (N := 3) hx hb hts (fun w hw => pz_tbl_in (pz_in2 w hw) (pz_layg w hw)) hown hB.1 hP (X.length + 0) (pz_xget rfl) rfl 0 (by decide) (hts (.fieldLink RX2 11 "TwelveChain$Kept" "before" "[LTwelveChain$Chain;") (pz_tbl_in pz_wq230 rfl)) (fun _ h9 => h9) rfl (show decode cX2_init 22 = .ok (.getfield 11, 3) from by decide +kernel) ?_
  refine lv_iload_n hx hb (k := 1) (show decode cX2_init 25 = .ok (.iload_n 1, 1) from by decide +kernel) rfl (lv_at hl 0 rfl) ?_
  refine va_new (ci := 0) (fs := [.int 0, .null, .null, .int 0, .int 0, .int 0, .int 0, .int 0]) (C := RX0) (T := TX0) (N := 8) hx hb hts (fun w hw => pz_tbl_in (pz_in0 w hw) (pz_layg w hw)) tyX0 tyX0_ok hown (hts (.classLink RX2 9 RX0) (pz_tbl_in pz_wq227 rfl)) (hts (.instantiable RX0 8) (pz_tbl_in pz_wq30 rfl)) (hts (.initialized RX0) (pz_tbl_in pz_wq2 rfl)) hB.1 hP hD hS hA rfl pz_dv0 (Nat.le_of_ble_eq_true rfl) (Nat.le_of_ble_eq_true rfl) (show decode cX2_init 26 = .ok (.new 9, 3) from by decide +kernel) (fun q26_17 H hP hD hS => ?_)
  refine W.widen (k := 17) (n := 138) (Nat.le_of_ble_eq_true rfl) (Nat.le_of_ble_eq_true rfl) ?_
  refine lv_dup hx hb (show decode cX2_init 29 = .ok (.dup, 1) from by decide +kernel) rfl ?_
  refine lv_iconst hx hb (v := 0) (show decode cX2_init 30 = .ok (.iconst 0, 1) from by decide +kernel) (by decide) ?_
  refine pz_NcI (i := 17) (n := 1) Y hA (h_N_X0 (X := X ++ ([(h0, .inr (2, [.ref q7, .int 0, .int 0])), (q7, .inl (cy 3, 6, .inr (.inr (.inr (.inr (va_up (fun _ => none) 0 (some q26_2)))))))] ++ pz_b0 cy q26_2 (0) g_q26_2)) (h0 := q26_17) (0) (by decide)) ⟨(Nat.le_of_ble_eq_true rfl), (Nat.le_of_ble_eq_true rfl)⟩ (Nat.le_of_ble_eq_true rfl) (Nat.le_of_ble_eq_true rfl) rfl rfl ⟨(pz_nhc_RX0 yX0_init rfl).1, (pz_nhc_RX0 yX0_init rfl).2, pz_ds47⟩ ⟨(pz_tbl_in pz_wq33 rfl), (pz_tbl_in pz_wq32 rfl), (pz_tbl_in pz_wq2 rfl)⟩ (Or.inl (pz_tbl_in pz_wq229 rfl)) rfl (show decode cX2_init 31 = .ok (.invokespecial 17, 3) from by decide +kernel) hP hD hS hl.1 (Nat.le_of_ble_eq_true rfl) (fun H locs ws9 hq hP hD hS => ?_)
  obtain ⟨g_q26_17, rfl⟩ := hq
  rw [List.append_assoc] at hP hD
  obtain ⟨hP, hD⟩ := (⟨hP, hD⟩ : pz_PD D A (X ++ ([(h0, .inr (2, [.ref q7, .int 0, .int 0])), (q7, .inl (cy 3, 6, .inr (.inr (.inr (.inr (va_up (fun _ => none) 0 (some q26_2)))))))] ++ pz_b0 cy q26_2 (0) g_q26_2 ++ pz_b0 cy q26_17 (0) g_q26_17)) H)
  refine W.widen (k := 31) (n := 254) (Nat.le_of_ble_eq_true rfl) (Nat.le_of_ble_eq_true rfl) ?_
  refine va_astq (D := D) hx hb hB.1 hP hD hS (X.length + 1) 3 (X.length + 17) 0 (pz_xget rfl) rfl (pz_xget rfl) rfl (by unfold vp_in; decide) (show decode cX2_init 34 = .ok (.aastore, 1) from by decide +kernel) (fun H locs hP hD hS => ?_)
  rw [pz_xset] at hP hD
  obtain ⟨hP, hD⟩ := (⟨hP, hD⟩ : pz_PD D A (X ++ ([(h0, .inr (2, [.ref q7, .int 0, .int 0])), (q7, .inl (cy 3, 6, .inr (.inr (.inr (.inr (va_up (va_up (fun _ => none) 0 (some q26_2)) 1 (some q26_17)))))))] ++ pz_b0 cy q26_2 (0) g_q26_2 ++ pz_b0 cy q26_17 (0) g_q26_17)) H)
  refine lv_iinc hx hb (k := 0) (v := 2) (show decode cX2_init 35 = .ok (.iinc 1 1, 3) from by decide +kernel) hl rfl (by decide) (by decide) rfl (fun ls hl => ?_)
  have hl : lv_has ls 2 [(1, .int 2), (0, .ref h0)] := hl
  refine lv_goto (tgt := 15) hx hb (show decode cX2_init 38 = .ok (.goto (-23), 3) from by decide +kernel) (by decide) ?_
  refine lv_iload_n hx hb (k := 1) (show decode cX2_init 15 = .ok (.iload_n 1, 1) from by decide +kernel) rfl (lv_at hl 0 rfl) ?_
  refine lv_bipush hx hb (v := 6) (show decode cX2_init 16 = .ok (.bipush 6, 2) from by decide +kernel) (by decide) ?_
  refine lv_icmp_ge (tgt := 41) hx hb (show decode cX2_init 18 = .ok (.if_icmp .ge 23, 3) from by decide +kernel) (by decide) (fun q9 => absurd q9 (by decide)) (fun _ => ?_)
  refine lv_aload_n hx hb (k := 0) (show decode cX2_init 21 = .ok (.aload_n 0, 1) from by decide +kernel) rfl (lv_at hl 1 rfl) ?_
  refine va_get (D := D) (fs := [.ref q7, .int 0, .int 0]) (ci := 2) (v := .ref q7) (C := RX2) (T := TX2) (N := 3) hx hb hts (fun w hw => pz_tbl_in (pz_in2 w hw) (pz_layg w hw)) hown hB.1 hP (X.length + 0) (pz_xget rfl) rfl 0 (by decide) (hts (.fieldLink RX2 11 "TwelveChain$Kept" "before" "[LTwelveChain$Chain;") (pz_tbl_in pz_wq230 rfl)) (fun _ h9 => h9) rfl (show decode cX2_init 22 = .ok (.getfield 11, 3) from by decide +kernel) ?_
  refine lv_iload_n hx hb (k := 1) (show decode cX2_init 25 = .ok (.iload_n 1, 1) from by decide +kernel) rfl (lv_at hl 0 rfl) ?_
  refine va_new (ci := 0) (fs := [.int 0, .null, .null, .int 0, .int 0, .int 0, .int 0, .int 0]) (C := RX0) (T := TX0) (N := 8) hx hb hts (fun w hw => pz_tbl_in (pz_in0 w hw) (pz_layg w hw)) tyX0 tyX0_ok hown (hts (.classLink RX2 9 RX0) (pz_tbl_in pz_wq227 rfl)) (hts (.instantiable RX0 8) (pz_tbl_in pz_wq30 rfl)) (hts (.initialized RX0) (pz_tbl_in pz_wq2 rfl)) hB.1 hP hD hS hA rfl pz_dv0 (Nat.le_of_ble_eq_true rfl) (Nat.le_of_ble_eq_true rfl) (show decode cX2_init 26 = .ok (.new 9, 3) from by decide +kernel) (fun q26_32 H hP hD hS => ?_)
  refine W.widen (k := 32) (n := 262) (Nat.le_of_ble_eq_true rfl) (Nat.le_of_ble_eq_true rfl) ?_
  refine lv_dup hx hb (show decode cX2_init 29 = .ok (.dup, 1) from by decide +kernel) rfl ?_
  refine lv_iconst hx hb (v := 0) (show decode cX2_init 30 = .ok (.iconst 0, 1) from by decide +kernel) (by decide) ?_
  refine pz_NcI (i := 17) (n := 1) Y hA (h_N_X0 (X := X ++ ([(h0, .inr (2, [.ref q7, .int 0, .int 0])), (q7, .inl (cy 3, 6, .inr (.inr (.inr (.inr (va_up (va_up (fun _ => none) 0 (some q26_2)) 1 (some q26_17)))))))] ++ pz_b0 cy q26_2 (0) g_q26_2 ++ pz_b0 cy q26_17 (0) g_q26_17)) (h0 := q26_32) (0) (by decide)) ⟨(Nat.le_of_ble_eq_true rfl), (Nat.le_of_ble_eq_true rfl)⟩ (Nat.le_of_ble_eq_true rfl) (Nat.le_of_ble_eq_true rfl) rfl rfl ⟨(pz_nhc_RX0 yX0_init rfl).1, (pz_nhc_RX0 yX0_init rfl).2, pz_ds47⟩ ⟨(pz_tbl_in pz_wq33 rfl), (pz_tbl_in pz_wq32 rfl), (pz_tbl_in pz_wq2 rfl)⟩ (Or.inl (pz_tbl_in pz_wq229 rfl)) rfl (show decode cX2_init 31 = .ok (.invokespecial 17, 3) from by decide +kernel) hP hD hS hl.1 (Nat.le_of_ble_eq_true rfl) (fun H locs ws9 hq hP hD hS => ?_)
  obtain ⟨g_q26_32, rfl⟩ := hq
  rw [List.append_assoc] at hP hD
  obtain ⟨hP, hD⟩ := (⟨hP, hD⟩ : pz_PD D A (X ++ ([(h0, .inr (2, [.ref q7, .int 0, .int 0])), (q7, .inl (cy 3, 6, .inr (.inr (.inr (.inr (va_up (va_up (fun _ => none) 0 (some q26_2)) 1 (some q26_17)))))))] ++ pz_b0 cy q26_2 (0) g_q26_2 ++ pz_b0 cy q26_17 (0) g_q26_17 ++ pz_b0 cy q26_32 (0) g_q26_32)) H)
  refine W.widen (k := 46) (n := 378) (Nat.le_of_ble_eq_true rfl) (Nat.le_of_ble_eq_true rfl) ?_
  refine va_astq (D := D) hx hb hB.1 hP hD hS (X.length + 1) 3 (X.length + 32) 0 (pz_xget rfl) rfl (pz_xget rfl) rfl (by unfold vp_in; decide) (show decode cX2_init 34 = .ok (.aastore, 1) from by decide +kernel) (fun H locs hP hD hS => ?_)
  rw [pz_xset] at hP hD
  obtain ⟨hP, hD⟩ := (⟨hP, hD⟩ : pz_PD D A (X ++ ([(h0, .inr (2, [.ref q7, .int 0, .int 0])), (q7, .inl (cy 3, 6, .inr (.inr (.inr (.inr (va_up (va_up (va_up (fun _ => none) 0 (some q26_2)) 1 (some q26_17)) 2 (some q26_32)))))))] ++ pz_b0 cy q26_2 (0) g_q26_2 ++ pz_b0 cy q26_17 (0) g_q26_17 ++ pz_b0 cy q26_32 (0) g_q26_32)) H)
  refine lv_iinc hx hb (k := 0) (v := 3) (show decode cX2_init 35 = .ok (.iinc 1 1, 3) from by decide +kernel) hl rfl (by decide) (by decide) rfl (fun ls hl => ?_)
  have hl : lv_has ls 2 [(1, .int 3), (0, .ref h0)] := hl
  refine lv_goto (tgt := 15) hx hb (show decode cX2_init 38 = .ok (.goto (-23), 3) from by decide +kernel) (by decide) ?_
  refine lv_iload_n hx hb (k := 1) (show decode cX2_init 15 = .ok (.iload_n 1, 1) from by decide +kernel) rfl (lv_at hl 0 rfl) ?_
  refine lv_bipush hx hb (v := 6) (show decode cX2_init 16 = .ok (.bipush 6, 2) from by decide +kernel) (by decide) ?_
  refine lv_icmp_ge (tgt := 41) hx hb (show decode cX2_init 18 = .ok (.if_icmp .ge 23, 3) from by decide +kernel) (by decide) (fun q9 => absurd q9 (by decide)) (fun _ => ?_)
  refine lv_aload_n hx hb (k := 0) (show decode cX2_init 21 = .ok (.aload_n 0, 1) from by decide +kernel) rfl (lv_at hl 1 rfl) ?_
  refine va_get (D := D) (fs := [.ref q7, .int 0, .int 0]) (ci := 2) (v := .ref q7) (C := RX2) (T := TX2) (N := 3) hx hb hts (fun w hw => pz_tbl_in (pz_in2 w hw) (pz_layg w hw)) hown hB.1 hP (X.length + 0) (pz_xget rfl) rfl 0 (by decide) (hts (.fieldLink RX2 11 "TwelveChain$Kept" "before" "[LTwelveChain$Chain;") (pz_tbl_in pz_wq230 rfl)) (fun _ h9 => h9) rfl (show decode cX2_init 22 = .ok (.getfield 11, 3) from by decide +kernel) ?_
  refine lv_iload_n hx hb (k := 1) (show decode cX2_init 25 = .ok (.iload_n 1, 1) from by decide +kernel) rfl (lv_at hl 0 rfl) ?_
  refine va_new (ci := 0) (fs := [.int 0, .null, .null, .int 0, .int 0, .int 0, .int 0, .int 0]) (C := RX0) (T := TX0) (N := 8) hx hb hts (fun w hw => pz_tbl_in (pz_in0 w hw) (pz_layg w hw)) tyX0 tyX0_ok hown (hts (.classLink RX2 9 RX0) (pz_tbl_in pz_wq227 rfl)) (hts (.instantiable RX0 8) (pz_tbl_in pz_wq30 rfl)) (hts (.initialized RX0) (pz_tbl_in pz_wq2 rfl)) hB.1 hP hD hS hA rfl pz_dv0 (Nat.le_of_ble_eq_true rfl) (Nat.le_of_ble_eq_true rfl) (show decode cX2_init 26 = .ok (.new 9, 3) from by decide +kernel) (fun q26_47 H hP hD hS => ?_)
  refine W.widen (k := 47) (n := 386) (Nat.le_of_ble_eq_true rfl) (Nat.le_of_ble_eq_true rfl) ?_
  refine lv_dup hx hb (show decode cX2_init 29 = .ok (.dup, 1) from by decide +kernel) rfl ?_
  refine lv_iconst hx hb (v := 0) (show decode cX2_init 30 = .ok (.iconst 0, 1) from by decide +kernel) (by decide) ?_
  refine pz_NcI (i := 17) (n := 1) Y hA (h_N_X0 (X := X ++ ([(h0, .inr (2, [.ref q7, .int 0, .int 0])), (q7, .inl (cy 3, 6, .inr (.inr (.inr (.inr (va_up (va_up (va_up (fun _ => none) 0 (some q26_2)) 1 (some q26_17)) 2 (some q26_32)))))))] ++ pz_b0 cy q26_2 (0) g_q26_2 ++ pz_b0 cy q26_17 (0) g_q26_17 ++ pz_b0 cy q26_32 (0) g_q26_32)) (h0 := q26_47) (0) (by decide)) ⟨(Nat.le_of_ble_eq_true rfl), (Nat.le_of_ble_eq_true rfl)⟩ (Nat.le_of_ble_eq_true rfl) (Nat.le_of_ble_eq_true rfl) rfl rfl ⟨(pz_nhc_RX0 yX0_init rfl).1, (pz_nhc_RX0 yX0_init rfl).2, pz_ds47⟩ ⟨(pz_tbl_in pz_wq33 rfl), (pz_tbl_in pz_wq32 rfl), (pz_tbl_in pz_wq2 rfl)⟩ (Or.inl (pz_tbl_in pz_wq229 rfl)) rfl (show decode cX2_init 31 = .ok (.invokespecial 17, 3) from by decide +kernel) hP hD hS hl.1 (Nat.le_of_ble_eq_true rfl) (fun H locs ws9 hq hP hD hS => ?_)
  obtain ⟨g_q26_47, rfl⟩ := hq
  rw [List.append_assoc] at hP hD
  obtain ⟨hP, hD⟩ := (⟨hP, hD⟩ : pz_PD D A (X ++ ([(h0, .inr (2, [.ref q7, .int 0, .int 0])), (q7, .inl (cy 3, 6, .inr (.inr (.inr (.inr (va_up (va_up (va_up (fun _ => none) 0 (some q26_2)) 1 (some q26_17)) 2 (some q26_32)))))))] ++ pz_b0 cy q26_2 (0) g_q26_2 ++ pz_b0 cy q26_17 (0) g_q26_17 ++ pz_b0 cy q26_32 (0) g_q26_32 ++ pz_b0 cy q26_47 (0) g_q26_47)) H)
  refine W.widen (k := 61) (n := 502) (Nat.le_of_ble_eq_true rfl) (Nat.le_of_ble_eq_true rfl) ?_
  refine va_astq (D := D) hx hb hB.1 hP hD hS (X.length + 1) 3 (X.length + 47) 0 (pz_xget rfl) rfl (pz_xget rfl) rfl (by unfold vp_in; decide) (show decode cX2_init 34 = .ok (.aastore, 1) from by decide +kernel) (fun H locs hP hD hS => ?_)
  rw [pz_xset] at hP hD
  obtain ⟨hP, hD⟩ := (⟨hP, hD⟩ : pz_PD D A (X ++ ([(h0, .inr (2, [.ref q7, .int 0, .int 0])), (q7, .inl (cy 3, 6, .inr (.inr (.inr (.inr (va_up (va_up (va_up (va_up (fun _ => none) 0 (some q26_2)) 1 (some q26_17)) 2 (some q26_32)) 3 (some q26_47)))))))] ++ pz_b0 cy q26_2 (0) g_q26_2 ++ pz_b0 cy q26_17 (0) g_q26_17 ++ pz_b0 cy q26_32 (0) g_q26_32 ++ pz_b0 cy q26_47 (0) g_q26_47)) H)
  refine lv_iinc hx hb (k := 0) (v := 4) (show decode cX2_init 35 = .ok (.iinc 1 1, 3) from by decide +kernel) hl rfl (by decide) (by decide) rfl (fun ls hl => ?_)
  have hl : lv_has ls 2 [(1, .int 4), (0, .ref h0)] := hl
  refine lv_goto (tgt := 15) hx hb (show decode cX2_init 38 = .ok (.goto (-23), 3) from by decide +kernel) (by decide) ?_
  refine lv_iload_n hx hb (k := 1) (show decode cX2_init 15 = .ok (.iload_n 1, 1) from by decide +kernel) rfl (lv_at hl 0 rfl) ?_
  refine lv_bipush hx hb (v := 6) (show decode cX2_init 16 = .ok (.bipush 6, 2) from by decide +kernel) (by decide) ?_
  refine lv_icmp_ge (tgt := 41) hx hb (show decode cX2_init 18 = .ok (.if_icmp .ge 23, 3) from by decide +kernel) (by decide) (fun q9 => absurd q9 (by decide)) (fun _ => ?_)
  refine lv_aload_n hx hb (k := 0) (show decode cX2_init 21 = .ok (.aload_n 0, 1) from by decide +kernel) rfl (lv_at hl 1 rfl) ?_
  refine va_get (D := D) (fs := [.ref q7, .int 0, .int 0]) (ci := 2) (v := .ref q7) (C := RX2) (T := TX2) (N := 3) hx hb hts (fun w hw => pz_tbl_in (pz_in2 w hw) (pz_layg w hw)) hown hB.1 hP (X.length + 0) (pz_xget rfl) rfl 0 (by decide) (hts (.fieldLink RX2 11 "TwelveChain$Kept" "before" "[LTwelveChain$Chain;") (pz_tbl_in pz_wq230 rfl)) (fun _ h9 => h9) rfl (show decode cX2_init 22 = .ok (.getfield 11, 3) from by decide +kernel) ?_
  refine lv_iload_n hx hb (k := 1) (show decode cX2_init 25 = .ok (.iload_n 1, 1) from by decide +kernel) rfl (lv_at hl 0 rfl) ?_
  refine va_new (ci := 0) (fs := [.int 0, .null, .null, .int 0, .int 0, .int 0, .int 0, .int 0]) (C := RX0) (T := TX0) (N := 8) hx hb hts (fun w hw => pz_tbl_in (pz_in0 w hw) (pz_layg w hw)) tyX0 tyX0_ok hown (hts (.classLink RX2 9 RX0) (pz_tbl_in pz_wq227 rfl)) (hts (.instantiable RX0 8) (pz_tbl_in pz_wq30 rfl)) (hts (.initialized RX0) (pz_tbl_in pz_wq2 rfl)) hB.1 hP hD hS hA rfl pz_dv0 (Nat.le_of_ble_eq_true rfl) (Nat.le_of_ble_eq_true rfl) (show decode cX2_init 26 = .ok (.new 9, 3) from by decide +kernel) (fun q26_62 H hP hD hS => ?_)
  refine W.widen (k := 62) (n := 510) (Nat.le_of_ble_eq_true rfl) (Nat.le_of_ble_eq_true rfl) ?_
  refine lv_dup hx hb (show decode cX2_init 29 = .ok (.dup, 1) from by decide +kernel) rfl ?_
  refine lv_iconst hx hb (v := 0) (show decode cX2_init 30 = .ok (.iconst 0, 1) from by decide +kernel) (by decide) ?_
  refine pz_NcI (i := 17) (n := 1) Y hA (h_N_X0 (X := X ++ ([(h0, .inr (2, [.ref q7, .int 0, .int 0])), (q7, .inl (cy 3, 6, .inr (.inr (.inr (.inr (va_up (va_up (va_up (va_up (fun _ => none) 0 (some q26_2)) 1 (some q26_17)) 2 (some q26_32)) 3 (some q26_47)))))))] ++ pz_b0 cy q26_2 (0) g_q26_2 ++ pz_b0 cy q26_17 (0) g_q26_17 ++ pz_b0 cy q26_32 (0) g_q26_32 ++ pz_b0 cy q26_47 (0) g_q26_47)) (h0 := q26_62) (0) (by decide)) ⟨(Nat.le_of_ble_eq_true rfl), (Nat.le_of_ble_eq_true rfl)⟩ (Nat.le_of_ble_eq_true rfl) (Nat.le_of_ble_eq_true rfl) rfl rfl ⟨(pz_nhc_RX0 yX0_init rfl).1, (pz_nhc_RX0 yX0_init rfl).2, pz_ds47⟩ ⟨(pz_tbl_in pz_wq33 rfl), (pz_tbl_in pz_wq32 rfl), (pz_tbl_in pz_wq2 rfl)⟩ (Or.inl (pz_tbl_in pz_wq229 rfl)) rfl (show decode cX2_init 31 = .ok (.invokespecial 17, 3) from by decide +kernel) hP hD hS hl.1 (Nat.le_of_ble_eq_true rfl) (fun H locs ws9 hq hP hD hS => ?_)
  obtain ⟨g_q26_62, rfl⟩ := hq
  rw [List.append_assoc] at hP hD
  obtain ⟨hP, hD⟩ := (⟨hP, hD⟩ : pz_PD D A (X ++ ([(h0, .inr (2, [.ref q7, .int 0, .int 0])), (q7, .inl (cy 3, 6, .inr (.inr (.inr (.inr (va_up (va_up (va_up (va_up (fun _ => none) 0 (some q26_2)) 1 (some q26_17)) 2 (some q26_32)) 3 (some q26_47)))))))] ++ pz_b0 cy q26_2 (0) g_q26_2 ++ pz_b0 cy q26_17 (0) g_q26_17 ++ pz_b0 cy q26_32 (0) g_q26_32 ++ pz_b0 cy q26_47 (0) g_q26_47 ++ pz_b0 cy q26_62 (0) g_q26_62)) H)
  refine W.widen (k := 76) (n := 626) (Nat.le_of_ble_eq_true rfl) (Nat.le_of_ble_eq_true rfl) ?_
  refine va_astq (D := D) hx hb hB.1 hP hD hS (X.length + 1) 3 (X.length + 62) 0 (pz_xget rfl) rfl (pz_xget rfl) rfl (by unfold vp_in; decide) (show decode cX2_init 34 = .ok (.aastore, 1) from by decide +kernel) (fun H locs hP hD hS => ?_)
  rw [pz_xset] at hP hD
  obtain ⟨hP, hD⟩ := (⟨hP, hD⟩ : pz_PD D A (X ++ ([(h0, .inr (2, [.ref q7, .int 0, .int 0])), (q7, .inl (cy 3, 6, .inr (.inr (.inr (.inr (va_up (va_up (va_up (va_up (va_up (fun _ => none) 0 (some q26_2)) 1 (some q26_17)) 2 (some q26_32)) 3 (some q26_47)) 4 (some q26_62)))))))] ++ pz_b0 cy q26_2 (0) g_q26_2 ++ pz_b0 cy q26_17 (0) g_q26_17 ++ pz_b0 cy q26_32 (0) g_q26_32 ++ pz_b0 cy q26_47 (0) g_q26_47 ++ pz_b0 cy q26_62 (0) g_q26_62)) H)
  refine lv_iinc hx hb (k := 0) (v := 5) (show decode cX2_init 35 = .ok (.iinc 1 1, 3) from by decide +kernel) hl rfl (by decide) (by decide) rfl (fun ls hl => ?_)
  have hl : lv_has ls 2 [(1, .int 5), (0, .ref h0)] := hl
  refine lv_goto (tgt := 15) hx hb (show decode cX2_init 38 = .ok (.goto (-23), 3) from by decide +kernel) (by decide) ?_
  refine lv_iload_n hx hb (k := 1) (show decode cX2_init 15 = .ok (.iload_n 1, 1) from by decide +kernel) rfl (lv_at hl 0 rfl) ?_
  refine lv_bipush hx hb (v := 6) (show decode cX2_init 16 = .ok (.bipush 6, 2) from by decide +kernel) (by decide) ?_
  refine lv_icmp_ge (tgt := 41) hx hb (show decode cX2_init 18 = .ok (.if_icmp .ge 23, 3) from by decide +kernel) (by decide) (fun q9 => absurd q9 (by decide)) (fun _ => ?_)
  refine lv_aload_n hx hb (k := 0) (show decode cX2_init 21 = .ok (.aload_n 0, 1) from by decide +kernel) rfl (lv_at hl 1 rfl) ?_
  refine va_get (D := D) (fs := [.ref q7, .int 0, .int 0]) (ci := 2) (v := .ref q7) (C := RX2) (T := TX2) (N := 3) hx hb hts (fun w hw => pz_tbl_in (pz_in2 w hw) (pz_layg w hw)) hown hB.1 hP (X.length + 0) (pz_xget rfl) rfl 0 (by decide) (hts (.fieldLink RX2 11 "TwelveChain$Kept" "before" "[LTwelveChain$Chain;") (pz_tbl_in pz_wq230 rfl)) (fun _ h9 => h9) rfl (show decode cX2_init 22 = .ok (.getfield 11, 3) from by decide +kernel) ?_
  refine lv_iload_n hx hb (k := 1) (show decode cX2_init 25 = .ok (.iload_n 1, 1) from by decide +kernel) rfl (lv_at hl 0 rfl) ?_
  refine va_new (ci := 0) (fs := [.int 0, .null, .null, .int 0, .int 0, .int 0, .int 0, .int 0]) (C := RX0) (T := TX0) (N := 8) hx hb hts (fun w hw => pz_tbl_in (pz_in0 w hw) (pz_layg w hw)) tyX0 tyX0_ok hown (hts (.classLink RX2 9 RX0) (pz_tbl_in pz_wq227 rfl)) (hts (.instantiable RX0 8) (pz_tbl_in pz_wq30 rfl)) (hts (.initialized RX0) (pz_tbl_in pz_wq2 rfl)) hB.1 hP hD hS hA rfl pz_dv0 (Nat.le_of_ble_eq_true rfl) (Nat.le_of_ble_eq_true rfl) (show decode cX2_init 26 = .ok (.new 9, 3) from by decide +kernel) (fun q26_77 H hP hD hS => ?_)
  refine W.widen (k := 77) (n := 634) (Nat.le_of_ble_eq_true rfl) (Nat.le_of_ble_eq_true rfl) ?_
  refine lv_dup hx hb (show decode cX2_init 29 = .ok (.dup, 1) from by decide +kernel) rfl ?_
  refine lv_iconst hx hb (v := 0) (show decode cX2_init 30 = .ok (.iconst 0, 1) from by decide +kernel) (by decide) ?_
  refine pz_NcI (i := 17) (n := 1) Y hA (h_N_X0 (X := X ++ ([(h0, .inr (2, [.ref q7, .int 0, .int 0])), (q7, .inl (cy 3, 6, .inr (.inr (.inr (.inr (va_up (va_up (va_up (va_up (va_up (fun _ => none) 0 (some q26_2)) 1 (some q26_17)) 2 (some q26_32)) 3 (some q26_47)) 4 (some q26_62)))))))] ++ pz_b0 cy q26_2 (0) g_q26_2 ++ pz_b0 cy q26_17 (0) g_q26_17 ++ pz_b0 cy q26_32 (0) g_q26_32 ++ pz_b0 cy q26_47 (0) g_q26_47 ++ pz_b0 cy q26_62 (0) g_q26_62)) (h0 := q26_77) (0) (by decide)) ⟨(Nat.le_of_ble_eq_true rfl), (Nat.le_of_ble_eq_true rfl)⟩ (Nat.le_of_ble_eq_true rfl) (Nat.le_of_ble_eq_true rfl) rfl rfl ⟨(pz_nhc_RX0 yX0_init rfl).1, (pz_nhc_RX0 yX0_init rfl).2, pz_ds47⟩ ⟨(pz_tbl_in pz_wq33 rfl), (pz_tbl_in pz_wq32 rfl), (pz_tbl_in pz_wq2 rfl)⟩ (Or.inl (pz_tbl_in pz_wq229 rfl)) rfl (show decode cX2_init 31 = .ok (.invokespecial 17, 3) from by decide +kernel) hP hD hS hl.1 (Nat.le_of_ble_eq_true rfl) (fun H locs ws9 hq hP hD hS => ?_)
  obtain ⟨g_q26_77, rfl⟩ := hq
  rw [List.append_assoc] at hP hD
  obtain ⟨hP, hD⟩ := (⟨hP, hD⟩ : pz_PD D A (X ++ ([(h0, .inr (2, [.ref q7, .int 0, .int 0])), (q7, .inl (cy 3, 6, .inr (.inr (.inr (.inr (va_up (va_up (va_up (va_up (va_up (fun _ => none) 0 (some q26_2)) 1 (some q26_17)) 2 (some q26_32)) 3 (some q26_47)) 4 (some q26_62)))))))] ++ pz_b0 cy q26_2 (0) g_q26_2 ++ pz_b0 cy q26_17 (0) g_q26_17 ++ pz_b0 cy q26_32 (0) g_q26_32 ++ pz_b0 cy q26_47 (0) g_q26_47 ++ pz_b0 cy q26_62 (0) g_q26_62 ++ pz_b0 cy q26_77 (0) g_q26_77)) H)
  refine W.widen (k := 91) (n := 750) (Nat.le_of_ble_eq_true rfl) (Nat.le_of_ble_eq_true rfl) ?_
  refine va_astq (D := D) hx hb hB.1 hP hD hS (X.length + 1) 3 (X.length + 77) 0 (pz_xget rfl) rfl (pz_xget rfl) rfl (by unfold vp_in; decide) (show decode cX2_init 34 = .ok (.aastore, 1) from by decide +kernel) (fun H locs hP hD hS => ?_)
  rw [pz_xset] at hP hD
  obtain ⟨hP, hD⟩ := (⟨hP, hD⟩ : pz_PD D A (X ++ ([(h0, .inr (2, [.ref q7, .int 0, .int 0])), (q7, .inl (cy 3, 6, .inr (.inr (.inr (.inr (va_up (va_up (va_up (va_up (va_up (va_up (fun _ => none) 0 (some q26_2)) 1 (some q26_17)) 2 (some q26_32)) 3 (some q26_47)) 4 (some q26_62)) 5 (some q26_77)))))))] ++ pz_b0 cy q26_2 (0) g_q26_2 ++ pz_b0 cy q26_17 (0) g_q26_17 ++ pz_b0 cy q26_32 (0) g_q26_32 ++ pz_b0 cy q26_47 (0) g_q26_47 ++ pz_b0 cy q26_62 (0) g_q26_62 ++ pz_b0 cy q26_77 (0) g_q26_77)) H)
  refine lv_iinc hx hb (k := 0) (v := 6) (show decode cX2_init 35 = .ok (.iinc 1 1, 3) from by decide +kernel) hl rfl (by decide) (by decide) rfl (fun ls hl => ?_)
  have hl : lv_has ls 2 [(1, .int 6), (0, .ref h0)] := hl
  refine lv_goto (tgt := 15) hx hb (show decode cX2_init 38 = .ok (.goto (-23), 3) from by decide +kernel) (by decide) ?_
  refine lv_iload_n hx hb (k := 1) (show decode cX2_init 15 = .ok (.iload_n 1, 1) from by decide +kernel) rfl (lv_at hl 0 rfl) ?_
  refine lv_bipush hx hb (v := 6) (show decode cX2_init 16 = .ok (.bipush 6, 2) from by decide +kernel) (by decide) ?_
  refine lv_icmp_ge (tgt := 41) hx hb (show decode cX2_init 18 = .ok (.if_icmp .ge 23, 3) from by decide +kernel) (by decide) (fun _ => ?_) (fun q9 => absurd (by decide) q9)
  have hP := pz_Pq (i := X.length + 1) (a := q7) (cA := cy 3) (n := 6) (F := (va_up (va_up (va_up (va_up (va_up (va_up (fun _ => none) 0 (some q26_2)) 1 (some q26_17)) 2 (some q26_32)) 3 (some q26_47)) 4 (some q26_62)) 5 (some q26_77))) (G := (fun j => some ((fun k => [q7, q26_2, q26_17, q26_32, q26_47, q26_62, q26_77].getD k 0) (1 + j)))) (pz_xget rfl) (fun j hj => match j, hj with | 0, _ => rfl | 1, _ => rfl | 2, _ => rfl | 3, _ => rfl | 4, _ => rfl | 5, _ => rfl | n + 6, h => absurd h (by first | decide | omega)) hP
  have hD := hD.set (p := X.length + 1) (a := q7) (e := .inl (cy 3, 6, .inr (.inr (.inr (.inr (fun j => some ((fun k => [q7, q26_2, q26_17, q26_32, q26_47, q26_62, q26_77].getD k 0) (1 + j)))))))) (pz_xget (i := 1) rfl)
  rw [pz_xset] at hP hD
  obtain ⟨hP, hD⟩ := (⟨hP, hD⟩ : pz_PD D A (X ++ ([(h0, .inr (2, [.ref q7, .int 0, .int 0])), (q7, .inl (cy 3, 6, .inr (.inr (.inr (.inr (fun j => some ((fun k => [q7, q26_2, q26_17, q26_32, q26_47, q26_62, q26_77].getD k 0) (1 + j))))))))] ++ pz_b0 cy q26_2 (0) g_q26_2 ++ pz_b0 cy q26_17 (0) g_q26_17 ++ pz_b0 cy q26_32 (0) g_q26_32 ++ pz_b0 cy q26_47 (0) g_q26_47 ++ pz_b0 cy q26_62 (0) g_q26_62 ++ pz_b0 cy q26_77 (0) g_q26_77)) H)
  exact Kr H _ _ 41 _ _ _ hP hD hS ⟨(fun k => [q7, q26_2, q26_17, q26_32, q26_47, q26_62, q26_77].getD k 0, fun k => [g_q26_2, g_q26_17, g_q26_32, g_q26_47, g_q26_62, g_q26_77].getD k (fun _ => 0)), rfl⟩ (Nat.le_of_ble_eq_true rfl) (Nat.le_of_ble_eq_true rfl) (show decode cX2_init 41 = .ok (.return_, 1) from by decide +kernel)
