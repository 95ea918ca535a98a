section
/-! a String's length() and charAt(): by hand, for they read cells that the world doesn't hold -/
def pz_J (y : MethodName) (cc : ByteArray) (maxL : Nat) (ret : Option FieldType) (fr lo : Nat) (av : List Value) (rv : Option Value) (D : va_G) (ad adV : Nat → Nat) (cy : Nat → ClassId) (A : Nat → Prop) (M : pz_M) : Prop :=
  ∀ l : Launch, Met l y (.code y cc maxL ret :: pz_tbl) { frames := fr, cells := 0, slots := 0, locals := lo } (va_Pc av (pz_G D ad adV cy A M)) (fun _ st o t => (o = .returned rv ∧ pz_G D ad adV cy A M t) ∧ va_F A st t) 0 0 A
theorem pz_Jmk {y : MethodName} {cc : ByteArray} {maxL : Nat} {ret : Option FieldType} {fr lo : Nat} {av : List Value} {rv : Option Value} {D : va_G} {ad adV : Nat → Nat} {cy : Nat → ClassId} {A : Nat → Prop} {M : pz_M} (hy : plainFor y = true)
    (vc : ∀ (p : Program) (l : Launch) (e : Env) (s : State) (m : MethodId) (below : List Frame) (meth : Method) (c : Code) (Q : State → Prop), pz_Y p s m av.toArray c cc y.cls maxL D ad adV cy A → va_P D vwCl (pz_ws ad cy M) s.heap → (∀ a k : Nat, pz_c (M a k)) →
      (∀ (v : Int32) (ty : FieldType), ret = some ty → narrow ty (.int v) = .int v → rv = some (.int v) → ∀ (H : Heap) (locs : List Loc) (ls : Array Slot) (pc : Nat), va_P D vwCl (pz_ws ad cy M) H → va_S A s.heap H locs → decode cc pc = .ok (.ireturn, 1) → W p l e { frames := fr, cells := 0, slots := 0, locals := lo } s m av.toArray below meth c H locs 0 0 Q (F0 m pc ls [.int v])) →
      (ret = none → rv = none → ∀ (H : Heap) (locs : List Loc) (ls : Array Slot) (pc : Nat), va_P D vwCl (pz_ws ad cy M) H → va_S A s.heap H locs → decode cc pc = .ok (.return_, 1) → W p l e { frames := fr, cells := 0, slots := 0, locals := lo } s m av.toArray below meth c H locs 0 0 Q (F0 m pc ls [])) →
      W p l e { frames := fr, cells := 0, slots := 0, locals := lo } s m av.toArray below meth c s.heap [] 0 0 Q (F0 m 0 ((lg_sl av ++ List.replicate (maxL - (lg_sl av).length) Slot.unset).toArray) [])) : pz_J y cc maxL ret fr lo av rv D ad adV cy A M := by
  intro l
  refine va_MetF (cc := cc) (maxL := maxL) (ret := ret) hy rfl ?_
  intro p e s m args below meth c s₁ B hml hv
  obtain ⟨rfl, hP, hX, hM⟩ := hv
  have hx := B.exec
  have hb := B.bytes
  have hr := B.returns
  have hts0 := atoms_spec (ws := .code y cc maxL ret :: pz_tbl) B.pre
  have hts : ∀ w ∈ pz_tbl, w.before av.toArray s = true := fun w hw => hts0 w (List.mem_cons_of_mem _ hw)
  have hown2 : s.vm.findClass y.cls = some m.cls := findClass_of_methodNamed B.named
  have hlocks := B.notSynchronized
  have hfin : ∀ (H : Heap) (locs : List Loc), va_P D vwCl (pz_ws ad cy M) H → va_S A s.heap H locs → ∀ t : State, t.heap = H → s.WarmedH t.vm → ((Outcome.returned rv = .returned rv ∧ pz_G D ad adV cy A M t) ∧ va_F A s t) := by
    intro H locs hP' hS' t ht hW
    exact ⟨⟨rfl, by rw [ht]; exact hP', by rw [ht]; exact (hX.kept hS'.2.1).warm hW, hM⟩, by rw [ht]; exact hS'.1, fun q h1 h2 => by rw [ht]; exact hS'.2.1 q h1 h2⟩
  rw [lg_entry_eq]
  refine vc p l e s m below meth c _ ⟨hx, hb, hml, hown2, hts, hX⟩ hP hM ?_ ?_
  · intro v ty h1 h2 h3 H locs ls pc hP' hS' hd
    subst h3
    exact W.zret (v := v) (ty := ty) hx hb (by rw [hr, h1]) h2 (fun t ht hW => hfin H locs hP' hS' t ht hW) hS'.2.2 hd
  · intro h1 h3 H locs ls pc hP' hS' hd
    subst h3
    exact W.vret hx hb (by rw [hr, h1]) (fun t ht hW => hfin H locs hP' hS' t ht hW) hS'.2.2 hd
section PZJ
variable {p : Program} {l : Launch} {e : Env} {R : Room} {s : State} {m : MethodId} {args : Array Value} {below : List Frame} {meth : Method} {c : Code} {cells slots : Nat} {Q : State → Prop}
variable {cc : ByteArray} {own : String} {nL : Nat} {D : va_G} {ad adV : Nat → Nat} {cy : Nat → ClassId} {A : Nat → Prop} {M : pz_M}
theorem pz_JfromRun {H : Heap} {locs : List Loc} {ls : Array Slot} {st0 rest : List Value} {pc : Nat} {rv : Option Value}
    (hr : va_Run p l e R s m args below meth c H locs cells slots 0 0 (F0 m pc ls st0) rest (fun st o t => (o = .returned rv ∧ pz_G D ad adV cy A M t) ∧ va_F A st t) A) (hS : va_S A s.heap H locs)
    (kk : ∀ (H' : Heap) (locs' : List Loc), va_P D vwCl (pz_ws ad cy M) H' → va_S A s.heap H' locs' → W p l e R s m args below meth c H' locs' cells slots Q (F0 m (pc + 3) ls (rv.toList ++ rest))) : W p l e R s m args below meth c H locs cells slots Q (F0 m pc ls st0) := by
  intro T hT X
  obtain ⟨v, st₀, t, T', L, h0, X', hL, e1, e2, ⟨⟨q3, q4⟩, q5⟩, st⟩ := hr T hT X
  have hv : v = rv := by cases q3; rfl
  subst hv
  have hS' : va_S A s.heap T'.heap (locs ++ L) := by
    refine ⟨?_, fun q h1 h2 => ?_, fun x hx => ?_⟩
    · have a1 := hS.1
      have a2 := q5.1
      rw [h0] at a2
      rw [e1]
      omega
    · have a1 := hS.1
      have a3 := q5.2 q (by rw [h0]; omega) h2
      rw [e1, a3, h0]
      exact hS.2.1 q h1 h2
    · rcases List.mem_append.mp hx with hx | hx
      · exact hS.2.2 x hx
      · exact hL x hx
  obtain ⟨t2, a1, b1⟩ := kk T'.heap (locs ++ L) (by rw [e1]; exact q4.1) hS' T' rfl X'
  exact ⟨t2, st t2 a1, b1⟩
theorem pz_JcS (Y : pz_Y p s m args c cc own nL D ad adV cy A) (hM : ∀ a k : Nat, pz_c (M a k)) (hcs : cells ≤ R.cells ∧ slots ≤ R.slots) {i n : Nat} {y : MethodName} {bytes : ByteArray} {maxL fr' lo' : Nat} {ret : Option FieldType} {av : List Value} {rv : Option Value} (hH : pz_J y bytes maxL ret fr' lo' av rv D ad adV cy A M) (hfr : fr' + 1 ≤ R.frames) (hlo : 8 + (maxL + 11) + lo' ≤ R.locals)
    (hn : av.length = n) (hd : y.cls ≠ "java/lang/invoke/MethodHandle" ∧ y.cls ≠ "java/lang/invoke/VarHandle" ∧ (parseMethodDescriptor y.desc).map (fun d => d.parameters.length) = some n) (hw : .code y bytes maxL ret ∈ pz_tbl ∧ .static y ∈ pz_tbl ∧ .initialized y.cls ∈ pz_tbl ∧ .methodLink own i y ∈ pz_tbl)
    {H : Heap} {locs : List Loc} {ls : Array Slot} {rest st0 : List Value} {pc : Nat} (hst : st0 = av.reverse ++ rest) (hdg : decode cc pc = .ok (.invokestatic i, 3)) (hP : va_P D vwCl (pz_ws ad cy M) H) (hS : va_S A s.heap H locs) (hls : ls.size = nL) (hrest : (rest.map fun v => v.category).sum ≤ 8)
    (kk : ∀ (H' : Heap) (locs' : List Loc), va_P D vwCl (pz_ws ad cy M) H' → va_S A s.heap H' locs' → W p l e R s m args below meth c H' locs' cells slots Q (F0 m (pc + 3) ls (rv.toList ++ rest))) : W p l e R s m args below meth c H locs cells slots Q (F0 m pc ls st0) := by
  subst hst
  obtain ⟨hx, hb, hml, hown, hts, hX⟩ := Y
  obtain ⟨w1, w3, w5, w2⟩ := hw
  have hpS : PreS s H (va_Pc av (pz_G D ad adV cy A M)) av := ⟨pz_blind D ad adV cy A _ M, fun U hU hW => ⟨rfl, by rw [hU]; exact hP, by rw [hU]; exact (hX.kept hS.2.1).warm hW, hM⟩⟩
  have hrun := va_runS (p := p) (e := e) (R := R) (s := s) (m := m) (args := args) (below := below) (meth := meth) (c := c) (H := H) (locs := locs) (cells := cells) (slots := slots) (nL := nL) (own := own) (index := i) (n := n) (As := av) (rest := rest) (g := F0 m pc ls (av.reverse ++ rest)) (Ts := pz_tbl)
      ⟨hx, hb, hml, hown, hts⟩ (hH l)
      (va_cwS n hts (pz_good (by
        intro w hw
        rcases List.mem_append.mp hw with hw | hw
        · simp only [List.mem_cons, List.not_mem_nil, or_false] at hw
          rcases hw with rfl | rfl | rfl
          · exact w2
          · exact w3
          · exact w5
        · rcases List.mem_cons.mp hw with rfl | hw
          · exact w1
          · exact hw)) rfl rfl rfl hd ⟨hfr, hlo⟩)
      hpS rfl hn hls rfl (by show 2 * 0 + _ ≤ 8; omega) hdg ⟨by simpa using hcs.1, by simpa using hcs.2⟩
  exact pz_JfromRun hrun hS kk
theorem pz_JcV (Y : pz_Y p s m args c cc own nL D ad adV cy A) (hM : ∀ a k : Nat, pz_c (M a k)) (hcs : cells ≤ R.cells ∧ slots ≤ R.slots) {i n j : Nat} {y : MethodName} {bytes : ByteArray} {maxL fr' lo' : Nat} {ret : Option FieldType} {t : List Value} {rv : Option Value} (hj : j < 25) (hC : y.cls = "java/lang/String") (hH : pz_J y bytes maxL ret fr' lo' (.ref (ad (206 + j)) :: t) rv D ad adV cy A M) (hfr : fr' + 1 ≤ R.frames) (hlo : 8 + (maxL + 11) + lo' ≤ R.locals)
    (hn : t.length = n) (hd : y.cls ≠ "java/lang/invoke/MethodHandle" ∧ y.cls ≠ "java/lang/invoke/VarHandle" ∧ (parseMethodDescriptor y.desc).map (fun d => d.parameters.length) = some n) (hw : .code y bytes maxL ret ∈ pz_tbl ∧ .methodLink own i y ∈ pz_tbl ∧ .instanceMethod y ∈ pz_tbl ∧ .selects y.cls y y ∈ pz_tbl ∧ .initialized y.cls ∈ pz_tbl)
    {H : Heap} {locs : List Loc} {ls : Array Slot} {rest st0 : List Value} {pc : Nat} (hst : st0 = t.reverse ++ .ref (ad (206 + j)) :: rest) (hdg : decode cc pc = .ok (.invokevirtual i, 3)) (hP : va_P D vwCl (pz_ws ad cy M) H) (hS : va_S A s.heap H locs) (hls : ls.size = nL) (hrest : (rest.map fun v => v.category).sum ≤ 8)
    (kk : ∀ (H' : Heap) (locs' : List Loc), va_P D vwCl (pz_ws ad cy M) H' → va_S A s.heap H' locs' → W p l e R s m args below meth c H' locs' cells slots Q (F0 m (pc + 3) ls (rv.toList ++ rest))) : W p l e R s m args below meth c H locs cells slots Q (F0 m pc ls st0) := by
  subst hst
  obtain ⟨hx, hb, hml, hown, hts, hX⟩ := Y
  obtain ⟨w1, w2, w3, w4, w5⟩ := hw
  have hcell : ∃ cellB : Cell, H[ad (206 + j)]? = some cellB ∧ cellB.vm.isStatics = false ∧ s.vm.findClass y.cls = some cellB.cls := by
    have := vk_recv (i := j) (adK := fun i => ad (206 + i)) hX.2.2.2.1 (by omega) hS
    rw [hC]
    exact this
  have hrun := va_runV (p := p) (e := e) (R := R) (s := s) (m := m) (args := args) (below := below) (meth := meth) (c := c) (H := H) (locs := locs) (cells := cells) (slots := slots) (nL := nL) (own := own) (C := y.cls) (index := i) (n := n) (b := ad (206 + j)) (As := t) (rest := rest) (g := F0 m pc ls (t.reverse ++ .ref (ad (206 + j)) :: rest)) (Ts := pz_tbl)
    ⟨hx, hb, hml, hown, hts⟩ (hH l)
    (cwV n hts (pz_good (by
      intro w hw
      rcases List.mem_append.mp hw with hw | hw
      · simp only [List.mem_cons, List.not_mem_nil, or_false] at hw
        rcases hw with rfl | rfl | rfl | rfl
        · exact w2
        · exact w3
        · exact w4
        · exact w5
      · rcases List.mem_cons.mp hw with rfl | hw
        · exact w1
        · exact hw)) rfl rfl rfl ⟨rfl, hd⟩ ⟨hfr, hlo⟩)
    ⟨pz_blind D ad adV cy A _ M, hcell, fun U hU hW => ⟨rfl, by rw [hU]; exact hP, by rw [hU]; exact (hX.kept hS.2.1).warm hW, hM⟩⟩
    rfl hn hls rfl (by show 2 * 0 + _ ≤ 8; omega) hdg ⟨by simpa using hcs.1, by simpa using hcs.2⟩
  exact pz_JfromRun hrun hS kk
end PZJ
theorem pz_gd {l : List Int32} {i : Nat} (h : i < l.length) : l.getD i 0 ∈ l := by
  rw [List.getD_eq_getElem?_getD, List.getElem?_eq_getElem h]
  exact List.getElem_mem _
section PZK
variable {D : va_G} {ad adV : Nat → Nat} {cy : Nat → ClassId} {A : Nat → Prop} {M : pz_M}
theorem pz_jsb : ∀ k, k < 25 → (pz_sb.getD k []).length = pz_stl.getD k 0 ∧ pz_stl.getD k 0 < 200 ∧ ∀ b ∈ pz_sb.getD k [], (((b &&& 255).toUInt32 % 65536).toInt32 = b ∧ narrow .char (.int b) = .int b) ∧ 0 ≤ b.toInt ∧ b.toInt ≤ 255 := by decide +kernel
theorem pz_J_coder {k : Nat} (hk : k < 25) : pz_J yJ0_coder_7d493 cJ0_coder_7d493 1 (some .byte) 0 0 [.ref (ad (206 + k))] (some (.int 0)) D ad adV cy A M := by
  refine pz_Jmk (by decide +kernel) ?_
  intro p l e s m below meth c Q Y hP hM Kr _
  obtain ⟨hx, hb, hml, hown, hts, hX⟩ := Y
  refine va_gets hx hb hX.2.2.2.2.2.1.1 va_S.rf hown (hts (.fieldLink RJ0 38 "java/lang/String" "COMPACT_STRINGS" "Z") (pz_tbl_in (List.mem_append_right _ (pz_ti42 _ (List.mem_of_getElem? (i := 15) rfl))) rfl)) (fun _ h => h) (by decide +kernel) ?_
  refine lv_if_eq (tgt := 13) hx hb (off := 10) (by decide +kernel) (by decide) (fun q => absurd q (by decide)) (fun _ => ?_)
  refine lv_aload_n (i := 0) hx hb (k := 0) (by decide +kernel) rfl rfl ?_
  refine vk_getf hx hb (hX.2.2.2.1.1 k hk).2.1 va_S.rf hown (hts (.fieldLink RJ0 15 "java/lang/String" "coder" "B") (pz_tbl_in (List.mem_append_right _ (pz_ti110 _ (List.mem_of_getElem? (i := 6) rfl))) rfl)) (fun _ h => h) (by decide +kernel) ?_
  refine lv_goto (tgt := 14) (off := 4) hx hb (by decide +kernel) (by decide) ?_
  exact Kr 0 .byte rfl (by decide) rfl s.heap [] _ 14 hP va_S.rf (by decide +kernel)
theorem pz_J_isLatin1 {k : Nat} (hk : k < 25) : pz_J yJ0_isLatin1_aae02 cJ0_isLatin1_aae02 1 (some .boolean) 0 0 [.ref (ad (206 + k))] (some (.int 1)) D ad adV cy A M := by
  refine pz_Jmk (by decide +kernel) ?_
  intro p l e s m below meth c Q Y hP hM Kr _
  obtain ⟨hx, hb, hml, hown, hts, hX⟩ := Y
  refine va_gets hx hb hX.2.2.2.2.2.1.1 va_S.rf hown (hts (.fieldLink RJ0 38 "java/lang/String" "COMPACT_STRINGS" "Z") (pz_tbl_in (List.mem_append_right _ (pz_ti42 _ (List.mem_of_getElem? (i := 15) rfl))) rfl)) (fun _ h => h) (by decide +kernel) ?_
  refine lv_if_eq (tgt := 17) hx hb (off := 14) (by decide +kernel) (by decide) (fun q => absurd q (by decide)) (fun _ => ?_)
  refine lv_aload_n (i := 0) hx hb (k := 0) (by decide +kernel) rfl rfl ?_
  refine vk_getf hx hb (hX.2.2.2.1.1 k hk).2.1 va_S.rf hown (hts (.fieldLink RJ0 15 "java/lang/String" "coder" "B") (pz_tbl_in (List.mem_append_right _ (pz_ti110 _ (List.mem_of_getElem? (i := 6) rfl))) rfl)) (fun _ h => h) (by decide +kernel) ?_
  refine lv_if_ne (tgt := 17) hx hb (off := 7) (by decide +kernel) (by decide) (fun q => absurd rfl q) (fun _ => ?_)
  refine lv_iconst (n := 1) (v := 1) hx hb (by decide +kernel) (by decide) ?_
  refine lv_goto (tgt := 18) (off := 4) hx hb (by decide +kernel) (by decide) ?_
  exact Kr 1 .boolean rfl (by decide) rfl s.heap [] _ 18 hP va_S.rf (by decide +kernel)
theorem pz_J_length {k : Nat} (hk : k < 25) : pz_J yJ0_length_8abf5 cJ0_length_8abf5 1 (some .int) 1 20 [.ref (ad (206 + k))] (some (.int (Int32.ofNat (pz_stl.getD k 0)))) D ad adV cy A M := by
  refine pz_Jmk (by decide +kernel) ?_
  intro p l e s m below meth c Q Y hP hM Kr _
  have Y0 := Y
  obtain ⟨hx, hb, hml, hown, hts, hX⟩ := Y
  refine lv_aload_n (i := 0) hx hb (k := 0) (by decide +kernel) rfl rfl ?_
  refine vk_getf hx hb (hX.2.2.2.1.1 k hk).2.2.1 va_S.rf hown (hts (.fieldLink RJ0 9 "java/lang/String" "value" "[B") (pz_tbl_in (List.mem_append_right _ (pz_ti110 _ (List.mem_of_getElem? (i := 5) rfl))) rfl)) (fun _ h => h) (by decide +kernel) ?_
  refine va_tlen hx hb (hX.2.2.2.1.1 k hk).2.2.2 va_S.rf rfl (by decide +kernel) ?_
  refine lv_aload_n (i := 0) hx hb (k := 0) (by decide +kernel) rfl rfl ?_
  refine pz_JcV (i := 335) (n := 0) Y0 hM ⟨Nat.le_refl 0, Nat.le_refl 0⟩ hk rfl (pz_J_coder hk) (by decide) (by decide) rfl ⟨by decide +kernel, by decide +kernel, by decide +kernel⟩ ⟨(pz_tbl_in (List.mem_append_right _ (pz_ti42 _ (List.mem_of_getElem? (i := 14) rfl))) rfl), (pz_tbl_in (List.mem_append_right _ (pz_ti42 _ (List.mem_of_getElem? (i := 11) rfl))) rfl), (pz_tbl_in (List.mem_append_right _ (pz_ti42 _ (List.mem_of_getElem? (i := 12) rfl))) rfl), (pz_tbl_in (List.mem_append_right _ (pz_ti42 _ (List.mem_of_getElem? (i := 13) rfl))) rfl), (pz_tbl_in (List.mem_append_right _ (pz_ti1 _ (List.mem_of_getElem? (i := 0) rfl))) rfl)⟩ rfl (by decide +kernel) hP va_S.rf rfl (by simp [Value.category]) (fun H' locs' hP' hS' => ?_)
  refine lv_ishr hx hb (by decide +kernel) ?_
  have e0 : Int32.ofNat (pz_stl.getD k 0) >>> ((0 : Int32) &&& 31) = Int32.ofNat (pz_stl.getD k 0) := by
    have key : ∀ k, k < 25 → Int32.ofNat (pz_stl.getD k 0) >>> ((0 : Int32) &&& 31) = Int32.ofNat (pz_stl.getD k 0) := by decide +kernel
    exact key k hk
  rw [e0]
  exact Kr _ .int rfl rfl rfl H' locs' _ 10 hP' hS' (by decide +kernel)
theorem pz_J_check3 {i n : Int32} {z : Value} (hz : z.category = 1) (h0 : ¬ i < 0) (h1 : i < n) : pz_J yJ3_checkIndex_8e157 cJ3_checkIndex_8e157 3 (some .int) 0 0 [.int i, .int n, z] (some (.int i)) D ad adV cy A M := by
  refine pz_Jmk (by decide +kernel) ?_
  have es : lg_sl [.int i, .int n, z] = [.val (.int i), .val (.int n), .val z] := by
    show (if _ then _ else _) ++ ((if _ then _ else _) ++ ((if z.category = 2 then _ else _) ++ [])) = _
    rw [if_neg (show ¬ z.category = 2 by rw [hz]; decide)]
    rfl
  rw [es]
  intro p l e s m below meth c Q Y hP hM Kr _
  obtain ⟨hx, hb, hml, hown, hts, hX⟩ := Y
  refine lv_iload_n (i := 0) hx hb (k := 0) (by decide +kernel) rfl rfl ?_
  refine lv_if_lt (tgt := 9) hx hb (off := 8) (by decide +kernel) (by decide) (fun q => absurd q h0) (fun _ => ?_)
  refine lv_iload_n (i := 0) hx hb (k := 0) (by decide +kernel) rfl rfl ?_
  refine lv_iload_n (i := 1) hx hb (k := 1) (by decide +kernel) rfl rfl ?_
  refine lv_icmp_lt (tgt := 16) hx hb (off := 10) (by decide +kernel) (by decide) (fun _ => ?_) (fun q => absurd h1 q)
  refine lv_iload_n (i := 0) hx hb (k := 0) (by decide +kernel) rfl rfl ?_
  exact Kr i .int rfl rfl rfl s.heap [] _ 17 hP va_S.rf (by decide +kernel)
theorem pz_J_check {i n : Int32} (h0 : ¬ i < 0) (h1 : i < n) : pz_J yJ0_checkIndex_df160 cJ0_checkIndex_df160 2 none 1 22 [.int i, .int n] none D ad adV cy A M := by
  refine pz_Jmk (by decide +kernel) ?_
  intro p l e s m below meth c Q Y hP hM _ Kv
  have Y0 := Y
  obtain ⟨hx, hb, hml, hown, hts, hX⟩ := Y
  refine lv_iload_n (i := 0) hx hb (k := 0) (by decide +kernel) rfl rfl ?_
  refine lv_iload_n (i := 1) hx hb (k := 1) (by decide +kernel) rfl rfl ?_
  have hZ : ∃ z : Value, z.category = 1 ∧ va_Z "jdk/internal/util/Preconditions" "SIOOBE_FORMATTER" "Ljava/util/function/BiFunction;" z A s s.heap := by
    rcases hX.2.2.2.2.2.1.2 with h | ⟨t, h⟩
    · exact ⟨_, rfl, h⟩
    · exact ⟨_, rfl, h⟩
  obtain ⟨z, hz, hZ⟩ := hZ
  refine va_gets hx hb hZ va_S.rf hown (hts (.fieldLink RJ0 1053 "jdk/internal/util/Preconditions" "SIOOBE_FORMATTER" "Ljava/util/function/BiFunction;") (pz_tbl_in (List.mem_append_right _ (pz_ti43 _ (List.mem_of_getElem? (i := 15) rfl))) rfl)) (fun _ h => h) (by decide +kernel) ?_
  refine pz_JcS (i := 1059) (n := 3) Y0 hM ⟨Nat.le_refl 0, Nat.le_refl 0⟩ (pz_J_check3 hz h0 h1) (by decide) (by decide) rfl ⟨by decide +kernel, by decide +kernel, by decide +kernel⟩ ⟨(pz_tbl_in (List.mem_append_right _ (pz_ti44 _ (List.mem_of_getElem? (i := 3) rfl))) rfl), (pz_tbl_in (List.mem_append_right _ (pz_ti44 _ (List.mem_of_getElem? (i := 2) rfl))) rfl), (pz_tbl_in (List.mem_append_right _ (pz_ti1 _ (List.mem_of_getElem? (i := 2) rfl))) rfl), (pz_tbl_in (List.mem_append_right _ (pz_ti44 _ (List.mem_of_getElem? (i := 1) rfl))) rfl)⟩ (rest := []) rfl (by decide +kernel) hP va_S.rf rfl (by decide) (fun H' locs' hP' hS' => ?_)
  refine lv_pop hx hb (by decide +kernel) rfl ?_
  exact Kv rfl rfl H' locs' _ 9 hP' hS' (by decide +kernel)
theorem pz_J_charAt1 {k : Nat} {i : Int32} (hk : k < 25) (h0 : ¬ i < 0) (h1 : i < Int32.ofNat (pz_stl.getD k 0)) (h2 : i.toNatClampNeg < pz_stl.getD k 0) : pz_J yJ1_charAt_3b067 cJ1_charAt_3b067 2 (some .char) 2 43 [.ref (adV k), .int i] (some (.int ((pz_sb.getD k []).getD i.toNatClampNeg 0))) D ad adV cy A M := by
  refine pz_Jmk (by decide +kernel) ?_
  intro p l e s m below meth c Q Y hP hM Kr _
  have Y0 := Y
  obtain ⟨hx, hb, hml, hown, hts, hX⟩ := Y
  have hT := (hX.2.2.2.1.1 k hk).2.2.2
  refine lv_iload_n (i := 1) hx hb (k := 1) (by decide +kernel) rfl rfl ?_
  refine lv_aload_n (i := 0) hx hb (k := 0) (by decide +kernel) rfl rfl ?_
  refine va_tlen hx hb hT va_S.rf rfl (by decide +kernel) ?_
  refine pz_JcS (i := 9) (n := 2) Y0 hM ⟨Nat.le_refl 0, Nat.le_refl 0⟩ (pz_J_check h0 h1) (by decide) (by decide) rfl ⟨by decide +kernel, by decide +kernel, by decide +kernel⟩ ⟨(pz_tbl_in (List.mem_append_right _ (pz_ti43 _ (List.mem_of_getElem? (i := 14) rfl))) rfl), (pz_tbl_in (List.mem_append_right _ (pz_ti43 _ (List.mem_of_getElem? (i := 13) rfl))) rfl), (pz_tbl_in (List.mem_append_right _ (pz_ti1 _ (List.mem_of_getElem? (i := 0) rfl))) rfl), (pz_tbl_in (List.mem_append_right _ (pz_ti43 _ (List.mem_of_getElem? (i := 12) rfl))) rfl)⟩ (rest := []) rfl (by decide +kernel) hP va_S.rf rfl (by decide) (fun H' locs' hP' hS' => ?_)
  refine lv_aload_n (i := 0) hx hb (k := 0) (by decide +kernel) rfl rfl ?_
  refine lv_iload_n (i := 1) hx hb (k := 1) (by decide +kernel) rfl rfl ?_
  refine va_tb hx hb hT hS' (show vp_in i (pz_stl.getD k 0) from fun q => by rcases q with q | q; exact h0 q; omega) rfl (by decide +kernel) ?_
  obtain ⟨g1, g2, g3⟩ := pz_jsb k hk
  have hb9 := g3 ((pz_sb.getD k []).getD i.toNatClampNeg 0) (pz_gd (by omega))
  refine lv_sipush (n := 255) (v := 255) hx hb (by decide +kernel) (by decide) ?_
  refine lv_iand hx hb (by decide +kernel) ?_
  refine lv_i2c hx hb (by decide +kernel) hb9.1.1 ?_
  exact Kr _ .char rfl hb9.1.2 rfl H' locs' _ 14 hP' hS' (by decide +kernel)
theorem pz_J_charAt {k : Nat} {i : Int32} (hk : k < 25) (h0 : ¬ i < 0) (h1 : i < Int32.ofNat (pz_stl.getD k 0)) (h2 : i.toNatClampNeg < pz_stl.getD k 0) : pz_J yJ0_charAt_5068e cJ0_charAt_5068e 2 (some .char) 3 64 [.ref (ad (206 + k)), .int i] (some (.int ((pz_sb.getD k []).getD i.toNatClampNeg 0))) D ad adV cy A M := by
  refine pz_Jmk (by decide +kernel) ?_
  intro p l e s m below meth c Q Y hP hM Kr _
  have Y0 := Y
  obtain ⟨hx, hb, hml, hown, hts, hX⟩ := Y
  refine lv_aload_n (i := 0) hx hb (k := 0) (by decide +kernel) rfl rfl ?_
  refine pz_JcV (i := 492) (n := 0) Y0 hM ⟨Nat.le_refl 0, Nat.le_refl 0⟩ hk rfl (pz_J_isLatin1 hk) (by decide) (by decide) rfl ⟨by decide +kernel, by decide +kernel, by decide +kernel⟩ ⟨(pz_tbl_in (List.mem_append_right _ (pz_ti43 _ (List.mem_of_getElem? (i := 8) rfl))) rfl), (pz_tbl_in (List.mem_append_right _ (pz_ti43 _ (List.mem_of_getElem? (i := 5) rfl))) rfl), (pz_tbl_in (List.mem_append_right _ (pz_ti43 _ (List.mem_of_getElem? (i := 6) rfl))) rfl), (pz_tbl_in (List.mem_append_right _ (pz_ti43 _ (List.mem_of_getElem? (i := 7) rfl))) rfl), (pz_tbl_in (List.mem_append_right _ (pz_ti1 _ (List.mem_of_getElem? (i := 0) rfl))) rfl)⟩ (rest := []) rfl (by decide +kernel) hP va_S.rf rfl (by decide) (fun H' locs' hP' hS' => ?_)
  refine lv_if_eq (tgt := 16) hx hb (off := 12) (by decide +kernel) (by decide) (fun q => absurd q (by decide)) (fun _ => ?_)
  refine lv_aload_n (i := 0) hx hb (k := 0) (by decide +kernel) rfl rfl ?_
  refine vk_getf hx hb (hX.2.2.2.1.1 k hk).2.2.1 hS' hown (hts (.fieldLink RJ0 9 "java/lang/String" "value" "[B") (pz_tbl_in (List.mem_append_right _ (pz_ti110 _ (List.mem_of_getElem? (i := 5) rfl))) rfl)) (fun _ h => h) (by decide +kernel) ?_
  refine lv_iload_n (i := 1) hx hb (k := 1) (by decide +kernel) rfl rfl ?_
  refine pz_JcS (i := 495) (n := 2) Y0 hM ⟨Nat.le_refl 0, Nat.le_refl 0⟩ (pz_J_charAt1 hk h0 h1 h2) (by decide) (by decide) rfl ⟨by decide +kernel, by decide +kernel, by decide +kernel⟩ ⟨(pz_tbl_in (List.mem_append_right _ (pz_ti43 _ (List.mem_of_getElem? (i := 11) rfl))) rfl), (pz_tbl_in (List.mem_append_right _ (pz_ti43 _ (List.mem_of_getElem? (i := 10) rfl))) rfl), (pz_tbl_in (List.mem_append_right _ (pz_ti1 _ (List.mem_of_getElem? (i := 1) rfl))) rfl), (pz_tbl_in (List.mem_append_right _ (pz_ti43 _ (List.mem_of_getElem? (i := 9) rfl))) rfl)⟩ (rest := []) rfl (by decide +kernel) hP' hS' rfl (by decide) (fun H'' locs'' hP'' hS'' => ?_)
  obtain ⟨g1, g2, g3⟩ := pz_jsb k hk
  have hb9 := g3 ((pz_sb.getD k []).getD i.toNatClampNeg 0) (pz_gd (by omega))
  exact Kr _ .char rfl hb9.1.2 rfl H'' locs'' _ 15 hP'' hS'' (by decide +kernel)
end PZK
theorem pz_Met_imp {l : Launch} {y : MethodName} {ws : List Cond} {rm : Room} {Pc : Array Value → State → Prop} {Qc Qc' : Array Value → State → Outcome → State → Prop} {mc ms : Nat} {free : Addr → Prop} (h : Met l y ws rm Pc Qc mc ms free) (hq : ∀ a st o t, Qc a st o t → Qc' a st o t) : Met l y ws rm Pc Qc' mc ms free := by
  intro p e ha hc hk s m args below hf happ hP hK
  obtain ⟨n, o, h1, h2, h3, h4⟩ := h p e ha hc hk s m args below hf happ hP hK
  exact ⟨n, o, h1, h2, h3, hq _ _ _ _ h4.1, h4.2⟩
theorem pz_str {s : Nat} (h : pz_kd s = 99 ∧ s < 231) : ∃ k, k < 25 ∧ s = 206 + k := by
  have h2 : ¬ s < 206 := fun q => by
    have key : ∀ a, a < 206 → pz_kd a ≠ 99 := by decide +kernel
    exact key s q h.1
  exact ⟨s - 206, by have := h.2; omega, by omega⟩
def k_J0_length_8abf5 : pz_C := (1, 1, fun a M => (match a with | [.inr (.inr (99, s))] => True | _ => False), fun a M r M' => (match a, r with | [.inr (.inr (99, s))], some (.inl v) => (v = ((pz_stl.getD (s - 206) 0 : Nat) : Int)) ∧ M = M' | _, _ => False))
theorem h_J0_length_8abf5 : pz_H yJ0_length_8abf5 cJ0_length_8abf5 1 (some .int) k_J0_length_8abf5 1 20 := by
  intro l D ad adV cy A a M hlen hpre hcan
  obtain ⟨s, rfl⟩ : ∃ s, a = [.inr (.inr (99, s))] := by
    have hpre : (match (generalizing := false) a with | [.inr (.inr (99, s))] => True | _ => False) := hpre
    split at hpre
    · exact ⟨_, rfl⟩
    · exact hpre.elim
  obtain ⟨k_s, -⟩ := pz_tlm hcan
  obtain ⟨k, hk, rfl⟩ := pz_str (s := s) k_s
  refine pz_Met_imp (pz_J_length (D := D) (ad := ad) (adV := adV) (cy := cy) (A := A) (M := M) hk l) ?_
  intro a st o t h
  have e : ∀ k, k < 25 → Int32.ofNat (pz_stl.getD k 0) = Int32.ofInt ((pz_stl.getD k 0 : Nat) : Int) ∧ pz_stl.getD k 0 < 200 := by decide +kernel
  refine ⟨⟨some (.inl ((pz_stl.getD k 0 : Nat) : Int)), M, ⟨?_, rfl⟩, ⟨_, rfl, ?_⟩, ?_, h.1.2⟩, h.2⟩
  · rw [show 206 + k - 206 = k by omega]
  · have := (e k hk).2
    unfold pz_c
    omega
  · rw [h.1.1]
    show Outcome.returned (some (.int (Int32.ofNat (pz_stl.getD k 0)))) = .returned (some (.int (Int32.ofInt ((pz_stl.getD k 0 : Nat) : Int))))
    rw [(e k hk).1]
theorem v_J0_length_8abf5 {fr lo i : Nat} {own : String} (h1 : 1 + 1 ≤ fr) (h2 : 8 + (1 + 11) + 20 ≤ lo) (h3 : .methodLink own i yJ0_length_8abf5 ∈ lw_tbl) : pz_cV fr lo own i k_J0_length_8abf5 :=
  pz_cVk (maxL := 1) (fr' := 1) (lo' := 20) 0 99 h_J0_length_8abf5 rfl ⟨by decide +kernel, by decide +kernel, by decide +kernel⟩ ⟨(List.mem_append_right _ (pz_ti42 _ (List.mem_of_getElem? (i := 10) rfl))), (List.mem_append_right _ (pz_ti42 _ (List.mem_of_getElem? (i := 8) rfl))), (List.mem_append_right _ (pz_ti42 _ (List.mem_of_getElem? (i := 9) rfl))), (List.mem_append_right _ (pz_ti1 _ (List.mem_of_getElem? (i := 0) rfl)))⟩ (Or.inr ⟨rfl, rfl⟩) (fun a M _ h => by
    have h : (match (generalizing := false) a with | [.inr (.inr (99, s))] => True | _ => False) := h
    split at h
    · exact ⟨_, _, rfl⟩
    · exact h.elim) h1 h2 h3
def k_J0_charAt_5068e : pz_C := (2, 1, fun a M => (match a with | [.inr (.inr (99, s)), .inl i] => 0 ≤ i ∧ i < ((pz_stl.getD (s - 206) 0 : Nat) : Int) | _ => False), fun a M r M' => (match a, r with | [.inr (.inr (99, s)), .inl i], some (.inl v) => (v = ((pz_sb.getD (s - 206) []).getD i.toNat 0).toInt ∧ 0 ≤ v ∧ v ≤ 255) ∧ M = M' | _, _ => False))
theorem h_J0_charAt_5068e : pz_H yJ0_charAt_5068e cJ0_charAt_5068e 2 (some .char) k_J0_charAt_5068e 3 64 := by
  intro l D ad adV cy A a M hlen hpre hcan
  obtain ⟨s, i, rfl, hp2⟩ : ∃ s i, a = [.inr (.inr (99, s)), .inl i] ∧ (0 ≤ i ∧ i < ((pz_stl.getD (s - 206) 0 : Nat) : Int)) := by
    have hpre : (match (generalizing := false) a with | [.inr (.inr (99, s)), .inl i] => 0 ≤ i ∧ i < ((pz_stl.getD (s - 206) 0 : Nat) : Int) | _ => False) := hpre
    split at hpre
    · exact ⟨_, _, rfl, hpre⟩
    · exact hpre.elim
  obtain ⟨k_s, hc2⟩ := pz_tlm hcan
  obtain ⟨k_i, -⟩ := pz_tlm hc2
  have k_i : pz_c i := k_i
  obtain ⟨k, hk, rfl⟩ := pz_str (s := s) k_s
  rw [show 206 + k - 206 = k by omega] at hp2
  obtain ⟨g1, g2, g3⟩ := pz_jsb k hk
  have e1 : Int32.ofNat (pz_stl.getD k 0) = Int32.ofInt ((pz_stl.getD k 0 : Nat) : Int) := by
    have e : ∀ k, k < 25 → Int32.ofNat (pz_stl.getD k 0) = Int32.ofInt ((pz_stl.getD k 0 : Nat) : Int) := by decide +kernel
    exact e k hk
  have h0 : ¬ Int32.ofInt i < 0 := fun q => by
    have := (pz_lt k_i (show pz_c 0 by unfold pz_c; omega)).mp q
    omega
  have h1 : Int32.ofInt i < Int32.ofNat (pz_stl.getD k 0) := by
    rw [e1]
    exact (pz_lt k_i (show pz_c _ by unfold pz_c; omega)).mpr hp2.2
  have hcl := pz_clamp k_i
  refine pz_Met_imp (pz_J_charAt (D := D) (ad := ad) (adV := adV) (cy := cy) (A := A) (M := M) hk h0 h1 (by rw [hcl]; omega) l) ?_
  intro a st o t h
  rw [hcl] at h
  have hb9 := g3 ((pz_sb.getD k []).getD i.toNat 0) (pz_gd (by omega))
  refine ⟨⟨some (.inl ((pz_sb.getD k []).getD i.toNat 0).toInt), M, ⟨⟨?_, hb9.2⟩, rfl⟩, ⟨_, rfl, ?_⟩, ?_, h.1.2⟩, h.2⟩
  · rw [show 206 + k - 206 = k by omega]
  · unfold pz_c
    have := hb9.2
    omega
  · rw [h.1.1]
    show Outcome.returned (some (.int ((pz_sb.getD k []).getD i.toNat 0))) = .returned (some (.int (Int32.ofInt ((pz_sb.getD k []).getD i.toNat 0).toInt)))
    rw [Int32.ofInt_toInt]
theorem v_J0_charAt_5068e {fr lo i : Nat} {own : String} (h1 : 3 + 1 ≤ fr) (h2 : 8 + (2 + 11) + 64 ≤ lo) (h3 : .methodLink own i yJ0_charAt_5068e ∈ lw_tbl) : pz_cV fr lo own i k_J0_charAt_5068e :=
  pz_cVk (maxL := 2) (fr' := 3) (lo' := 64) 1 99 h_J0_charAt_5068e rfl ⟨by decide +kernel, by decide +kernel, by decide +kernel⟩ ⟨(List.mem_append_right _ (pz_ti43 _ (List.mem_of_getElem? (i := 4) rfl))), (List.mem_append_right _ (pz_ti43 _ (List.mem_of_getElem? (i := 2) rfl))), (List.mem_append_right _ (pz_ti43 _ (List.mem_of_getElem? (i := 3) rfl))), (List.mem_append_right _ (pz_ti1 _ (List.mem_of_getElem? (i := 0) rfl)))⟩ (Or.inr ⟨rfl, rfl⟩) (fun a M _ h => by
    have h : (match (generalizing := false) a with | [.inr (.inr (99, s)), .inl i] => 0 ≤ i ∧ i < ((pz_stl.getD (s - 206) 0 : Nat) : Int) | _ => False) := h
    split at h
    · exact ⟨_, _, rfl⟩
    · exact h.elim) h1 h2 h3
end
