section
theorem pz_good {ws : List Cond} (h : ∀ w ∈ ws, w ∈ pz_tbl) : GoodIn pz_tbl ws := fun w hw => ⟨h w hw, good_of_word (List.mem_filter.mp (h w hw)).2⟩
theorem pz_blind (D : va_G) (ad adV : Nat → Nat) (cy : Nat → ClassId) (A : Nat → Prop) (av : List Value) (M : pz_M) : FrameBlind (va_Pc av (pz_G D ad adV cy A M)) :=
  fun _ U g mk q => ⟨q.1, q.2.1, pz_X.same (u := U) (U := U.calling g mk _) rfl q.2.2.1, q.2.2.2⟩
/-- a receiver's class: by its number among the classes, or a String -/
def pz_rcv (rc : Nat) (C : String) : Prop := (∃ T N, vwCl[rc]? = some (C, T, N)) ∨ (rc = 99 ∧ C = "java/lang/String")
/-- what is known of a virtual call's callee -/
def pz_cV (fr lo : Nat) (own : String) (i : Nat) (k : pz_C) : Prop :=
  ∃ (y : MethodName) (cc : ByteArray) (maxL : Nat) (ret : Option FieldType) (fr' lo' n rc : Nat), pz_H y cc maxL ret k fr' lo' ∧ fr' + 1 ≤ fr ∧ 8 + (maxL + 11) + lo' ≤ lo ∧ k.1 = n + 1 ∧
    (y.cls ≠ "java/lang/invoke/MethodHandle" ∧ y.cls ≠ "java/lang/invoke/VarHandle" ∧ (parseMethodDescriptor y.desc).map (fun d => d.parameters.length) = some n) ∧
    (.code y cc maxL ret ∈ pz_tbl ∧ .methodLink own i y ∈ pz_tbl ∧ .instanceMethod y ∈ pz_tbl ∧ .selects y.cls y y ∈ pz_tbl ∧ .initialized y.cls ∈ pz_tbl) ∧
    pz_rcv rc y.cls ∧ ∀ (a : List pz_V) (M : pz_M), a.length = k.1 → k.2.2.1 a M → ∃ id t, a = .inr (.inr (rc, id)) :: t
/-- of a static call's -/
def pz_cS (fr lo : Nat) (own : String) (i : Nat) (k : pz_C) : Prop :=
  ∃ (y : MethodName) (cc : ByteArray) (maxL : Nat) (ret : Option FieldType) (fr' lo' n : Nat), pz_H y cc maxL ret k fr' lo' ∧ fr' + 1 ≤ fr ∧ 8 + (maxL + 11) + lo' ≤ lo ∧ k.1 = n ∧
    (y.cls ≠ "java/lang/invoke/MethodHandle" ∧ y.cls ≠ "java/lang/invoke/VarHandle" ∧ (parseMethodDescriptor y.desc).map (fun d => d.parameters.length) = some n) ∧
    (.code y cc maxL ret ∈ pz_tbl ∧ .static y ∈ pz_tbl ∧ .initialized y.cls ∈ pz_tbl) ∧ (.methodLink own i y ∈ pz_tbl ∨ (own = RX1 ∧ i = 35 ∧ y = yX11_within))
section PZV
variable {p : Program} {l : Launch} {e : Env} {R : Room} {s : State} {m : MethodId} {args : Array Value} {below : List Frame} {meth : Method} {c : Code} {cells slots : Nat} {Q : State → Prop}
variable {cc : ByteArray} {own : String} {nL : Nat} {D : va_G} {ad adV : Nat → Nat} {cy : Nat → ClassId} {A : Nat → Prop}
theorem pz_fromRun {H : Heap} {locs : List Loc} {ls : Array Slot} {st0 rest : List Value} {pc rk : Nat} {post : Option pz_V → pz_M → Prop} {k9 : List Value → State}
    (hr : va_Run p l e R s m args below meth c H locs cells slots 0 0 (F0 m pc ls st0) rest (fun st o t => (∃ (r : Option pz_V) (M' : pz_M), post r M' ∧ pz_rr rk r ∧ o = .returned (r.map (pz_v ad)) ∧ pz_G D ad adV cy A M' t) ∧ va_F A st t) A) (hS : va_S A s.heap H locs)
    (kk : ∀ (r : Option pz_V) (M' : pz_M) (H' : Heap) (locs' : List Loc), post r M' → pz_rr rk r → va_P D vwCl (pz_ws ad cy M') H' → va_S A s.heap H' locs' → (∀ a k : Nat, pz_c (M' a k)) → W p l e R s m args below meth c H' locs' cells slots Q (F0 m (pc + 3) ls (r.toList.map (pz_v ad) ++ rest))) : W p l e R s m args below meth c H locs cells slots Q (F0 m pc ls st0) := by
  intro T hT X
  obtain ⟨v, st₀, t, T', L, h0, X', hL, e1, e2, ⟨⟨r, M', q1, q2, q3, q4⟩, q5⟩, st⟩ := hr T hT X
  have hv : v = r.map (pz_v ad) := by cases q3; rfl
  subst hv
  have hS' : va_S A s.heap T'.heap (locs ++ L) := by
    refine ⟨?_, fun q h1 h2 => ?_, fun x hx => ?_⟩
    · have a1 := hS.1
      have a2 := q5.1
      rw [h0] at a2
      rw [e1]
      omega
    · have a1 := hS.1
      have a3 := q5.2 q (by rw [h0]; omega) h2
      rw [e1, a3, h0]
      exact hS.2.1 q h1 h2
    · rcases List.mem_append.mp hx with hx | hx
      · exact hS.2.2 x hx
      · exact hL x hx
  obtain ⟨t2, a1, b1⟩ := kk r M' T'.heap (locs ++ L) q1 q2 (by rw [e1]; exact q4.1) hS' q4.2.2 T' rfl X'
  refine ⟨t2, st t2 ?_, b1⟩
  have e3 : (r.map (pz_v ad)).toList = r.toList.map (pz_v ad) := by cases r <;> rfl
  rw [e3]
  exact a1
theorem pz_crV (Y : pz_Y p s m args c cc own nL D ad adV cy A) (hcs : cells ≤ R.cells ∧ slots ≤ R.slots) {i : Nat} {k : pz_C} (h : pz_cV R.frames R.locals own i k) : pz_CR p l e R s m args below meth c cells slots Q cc nL D ad cy A (.invokevirtual i) k := by
  obtain ⟨hx, hb, hml, hown, hts, hX⟩ := Y
  obtain ⟨y, bytes, maxL, ret, fr', lo', n, rc, hH, hfr, hlo, hn, hd, ⟨w1, w2, w3, w4, w5⟩, hrc, hre⟩ := h
  intro H locs ls M As rest pc hdg hP hS hM hAs hls hlen hrest hpre kk
  obtain ⟨id, t, rfl⟩ := hre As M hlen hpre
  have hid := hAs _ List.mem_cons_self
  have hcell : ∃ cellB : Cell, H[ad id]? = some cellB ∧ cellB.vm.isStatics = false ∧ s.vm.findClass y.cls = some cellB.cls := by
    rcases hrc with ⟨T, N, hc⟩ | ⟨rfl, hc⟩
    · have h13 : rc < 13 := (List.getElem?_eq_some_iff.mp hc).1
      have hlt : id < 206 := pz_kd_lo hid.1 (by show rc ≠ 99; omega)
      exact va_recv hX.1 hP hc (pz_wso hid.1 hlt h13)
    · have hlo : ¬ id < 206 := fun q => by
        have key : ∀ a, a < 206 → pz_kd a ≠ 99 := by decide +kernel
        exact key id q hid.1
      have h231 : id < 231 := hid.2
      have := vk_recv (i := id - 206) (adK := fun i => ad (206 + i)) hX.2.2.2.1 (by omega) hS
      rw [hc]
      rw [show 206 + (id - 206) = id by omega] at this
      exact this
  have hmet := hH l D ad adV cy A (.inr (.inr (rc, id)) :: t) M hlen hpre hAs
  have hrun := va_runV (p := p) (e := e) (R := R) (s := s) (m := m) (args := args) (below := below) (meth := meth) (c := c) (H := H) (locs := locs) (cells := cells) (slots := slots) (nL := nL) (own := own) (C := y.cls) (index := i) (n := n) (b := ad id) (As := t.map (pz_v ad)) (rest := rest.map (pz_v ad)) (g := F0 m pc ls ((( .inr (.inr (rc, id)) :: t : List pz_V).reverse ++ rest).map (pz_v ad))) (Ts := pz_tbl)
    ⟨hx, hb, hml, hown, hts⟩ hmet
    (cwV n hts (pz_good (by
      intro w hw
      rcases List.mem_append.mp hw with hw | hw
      · simp only [List.mem_cons, List.not_mem_nil, or_false] at hw
        rcases hw with rfl | rfl | rfl | rfl
        · exact w2
        · exact w3
        · exact w4
        · exact w5
      · rcases List.mem_cons.mp hw with rfl | hw
        · exact w1
        · exact hw)) rfl rfl rfl ⟨rfl, hd⟩ ⟨hfr, hlo⟩)
    ⟨pz_blind D ad adV cy A _ M, hcell, fun U hU hW => ⟨rfl, by rw [hU]; exact hP, by rw [hU]; exact (hX.kept hS.2.1).warm hW, hM⟩⟩
    rfl (by have : ( .inr (.inr (rc, id)) :: t : List pz_V).length = n + 1 := by rw [hlen, hn]
            simpa using this) hls (by simp [pz_v]) (by show 2 * 0 + _ ≤ 8; rw [pz_cs_v]; omega) hdg ⟨by simpa using hcs.1, by simpa using hcs.2⟩
  exact pz_fromRun (rk := k.2.1) (k9 := fun _ => s) hrun hS kk
theorem pz_crS (Y : pz_Y p s m args c cc own nL D ad adV cy A) (hcs : cells ≤ R.cells ∧ slots ≤ R.slots) {i : Nat} {k : pz_C} (h : pz_cS R.frames R.locals own i k) : pz_CR p l e R s m args below meth c cells slots Q cc nL D ad cy A (.invokestatic i) k := by
  obtain ⟨hx, hb, hml, hown, hts, hX⟩ := Y
  obtain ⟨y, bytes, maxL, ret, fr', lo', n, hH, hfr, hlo, hn, hd, ⟨w1, w3, w5⟩, w2⟩ := h
  intro H locs ls M As rest pc hdg hP hS hM hAs hls hlen hrest hpre kk
  have hmet := hH l D ad adV cy A As M hlen hpre hAs
  have hpS : PreS s H (va_Pc (As.map (pz_v ad)) (pz_G D ad adV cy A M)) (As.map (pz_v ad)) := ⟨pz_blind D ad adV cy A _ M, fun U hU hW => ⟨rfl, by rw [hU]; exact hP, by rw [hU]; exact (hX.kept hS.2.1).warm hW, hM⟩⟩
  have hgood : GoodIn pz_tbl (Cond.code y bytes maxL ret :: pz_tbl) := pz_good (by
    intro w hw
    rcases List.mem_cons.mp hw with rfl | hw
    · exact w1
    · exact hw)
  rcases w2 with w2 | ⟨rfl, rfl, rfl⟩
  · have hrun := va_runS (p := p) (e := e) (R := R) (s := s) (m := m) (args := args) (below := below) (meth := meth) (c := c) (H := H) (locs := locs) (cells := cells) (slots := slots) (nL := nL) (own := own) (index := i) (n := n) (As := As.map (pz_v ad)) (rest := rest.map (pz_v ad)) (g := F0 m pc ls ((As.reverse ++ rest).map (pz_v ad))) (Ts := pz_tbl)
      ⟨hx, hb, hml, hown, hts⟩ hmet
      (va_cwS n hts (pz_good (by
        intro w hw
        rcases List.mem_append.mp hw with hw | hw
        · simp only [List.mem_cons, List.not_mem_nil, or_false] at hw
          rcases hw with rfl | rfl | rfl
          · exact w2
          · exact w3
          · exact w5
        · rcases List.mem_cons.mp hw with rfl | hw
          · exact w1
          · exact hw)) rfl rfl rfl hd ⟨hfr, hlo⟩)
      hpS rfl (by simp [hlen, hn]) hls (by simp) (by show 2 * 0 + _ ≤ 8; rw [pz_cs_v]; omega) hdg ⟨by simpa using hcs.1, by simpa using hcs.2⟩
    exact pz_fromRun (rk := k.2.1) (k9 := fun _ => s) hrun hS kk
  · have hrun := va_runSN (p := p) (e := e) (R := R) (s := s) (m := m) (args := args) (below := below) (meth := meth) (c := c) (H := H) (locs := locs) (cells := cells) (slots := slots) (nL := nL) (own := RX1) (host := "TwelveChain") (index := 35) (n := n) (As := As.map (pz_v ad)) (rest := rest.map (pz_v ad)) (g := F0 m pc ls ((As.reverse ++ rest).map (pz_v ad))) (Ts := pz_tbl)
      ⟨hx, hb, hml, hown, hts⟩ hmet
      ⟨va_cnB n hts hgood rfl rfl rfl hX.2.2.2.2.2.2 (hts _ w5) hd ⟨hfr, hlo⟩, hts _ w3, trivial⟩
      hpS rfl (by simp [hlen, hn]) hls (by simp) (by show 2 * 0 + _ ≤ 8; rw [pz_cs_v]; omega) hdg ⟨by simpa using hcs.1, by simpa using hcs.2⟩
    exact pz_fromRun (rk := k.2.1) (k9 := fun _ => s) hrun hS kk
end PZV
/-- the locals at a method's start -/
def pz_es : List pz_V → pz_L
  | [] => []
  | .inr (.inl x) :: t => some (.inr (.inl x)) :: none :: pz_es t
  | v :: t => some v :: pz_es t
def pz_ent (a : List pz_V) (n : Nat) : pz_L := pz_es a ++ List.replicate (n - (pz_es a).length) none
/-- what is answered, by the descriptor and by the contract -/
def pz_ret (ret : Option FieldType) (rk : Nat) (rz : Bool) : Prop := match rk with
  | 0 => ret = none
  | 1 => ret = some .int ∧ rz = false ∨ ret = some .boolean ∧ rz = true
  | 2 => ret = some .long
  | k + 3 => ∃ C T N, vwCl[k]? = some (C, T, N) ∧ ret = some (.object C)
end
