section
section PZT
variable {p : Program} {l : Launch} {e : Env} {R : Room} {s : State} {m : MethodId} {args : Array Value} {below : List Frame} {meth : Method} {c : Code} {cells slots : Nat} {Q : State → Prop}
variable {cc : ByteArray} {own : String} {nL : Nat} {D : va_G} {ad adV : Nat → Nat} {cy : Nat → ClassId} {A : Nat → Prop}
/-- a call at this place keeps the contract k -/
def pz_CR (p : Program) (l : Launch) (e : Env) (R : Room) (s : State) (m : MethodId) (args : Array Value) (below : List Frame) (meth : Method) (c : Code) (cells slots : Nat) (Q : State → Prop) (cc : ByteArray) (nL : Nat) (D : va_G) (ad : Nat → Nat) (cy : Nat → ClassId) (A : Nat → Prop) (I : Instr) (k : pz_C) : Prop :=
  ∀ (H : Heap) (locs : List Loc) (ls : Array Slot) (M : pz_M) (As rest : List pz_V) (pc : Nat), decode cc pc = .ok (I, 3) → va_P D vwCl (pz_ws ad cy M) H → va_S A s.heap H locs → (∀ a k : Nat, pz_c (M a k)) → (∀ v ∈ As, pz_cv v) → ls.size = nL → As.length = k.1 → pz_cs rest ≤ 8 → k.2.2.1 As M →
    (∀ (r : Option pz_V) (M' : pz_M) (H' : Heap) (locs' : List Loc), k.2.2.2 As M r M' → pz_rr k.2.1 r → va_P D vwCl (pz_ws ad cy M') H' → va_S A s.heap H' locs' → (∀ a k : Nat, pz_c (M' a k)) → W p l e R s m args below meth c H' locs' cells slots Q (F0 m (pc + 3) ls (r.toList.map (pz_v ad) ++ rest.map (pz_v ad)))) →
    W p l e R s m args below meth c H locs cells slots Q (F0 m pc ls ((As.reverse ++ rest).map (pz_v ad)))
def pz_rok (rz : Bool) (I : Instr) (r : Option pz_V) : Prop := (I = .ireturn ∧ ∃ x, r = some (.inl x) ∧ (rz = true → x = 0 ∨ x = 1)) ∨ (I = .lreturn ∧ ∃ x, r = some (.inr (.inl x))) ∨ (I = .areturn ∧ ∃ x, r = some (.inr (.inr x))) ∨ (I = .return_ ∧ r = none)
def pz_RT (p : Program) (l : Launch) (e : Env) (R : Room) (s : State) (m : MethodId) (args : Array Value) (below : List Frame) (meth : Method) (c : Code) (cells slots : Nat) (Q : State → Prop) (cc : ByteArray) (D : va_G) (ad : Nat → Nat) (cy : Nat → ClassId) (A : Nat → Prop) (Rt : Option pz_V → pz_M → Prop) (rz : Bool) : Prop :=
  ∀ (I : Instr) (r : Option pz_V) (pc : Nat) (H : Heap) (locs : List Loc) (ls : Array Slot) (M : pz_M), decode cc pc = .ok (I, 1) → pz_rok rz I r → (∀ v ∈ r, pz_cv v) → va_P D vwCl (pz_ws ad cy M) H → va_S A s.heap H locs → (∀ a k : Nat, pz_c (M a k)) → Rt r M →
    W p l e R s m args below meth c H locs cells slots Q (F0 m pc ls (r.toList.map (pz_v ad)))
theorem pz_LV1 {ls : Array Slot} {lo lo' : pz_L} {k : Nat} {v : pz_V} (hL : pz_LV ad ls nL lo) (hc : pz_cv v) (h3 : lo'.length = lo.length) (h4 : lo'[k]? = some (some v)) (h5 : ∀ (i : Nat) (w : pz_V), i ≠ k → lo'[i]? = some (some w) → lo[i]? = some (some w) ∧ ¬ (i + 1 = k ∧ pz_cat w = 2)) {ls' : Array Slot} (h : lv_has ls' nL ((k, pz_v ad v) :: (pz_pr ad lo).filter (fun q => !(q.1 == k) && !(q.1 + 1 == k && q.2.category == 2)))) : pz_LV ad ls' nL lo' := by
  refine pz_LV.of h (h3.trans hL.2.2.1) (fun i w hw => ?_)
  by_cases hi : i = k
  · subst hi
    rw [h4] at hw
    cases hw
    exact ⟨List.mem_cons_self, hc⟩
  · obtain ⟨q1, q2⟩ := h5 i w hi hw
    refine ⟨List.mem_cons_of_mem _ (List.mem_filter.mpr ⟨pz_pr_mem q1, ?_⟩), (hL.2.2.2 i w q1).2⟩
    simp only [pz_v_cat, Bool.and_eq_true, Bool.not_eq_true', beq_eq_false_iff_ne, ne_eq, Bool.and_eq_false_iff]
    refine ⟨hi, ?_⟩
    by_cases hz : i + 1 = k
    · exact Or.inr (fun z => q2 ⟨hz, z⟩)
    · exact Or.inl hz
theorem pz_LV2 {ls : Array Slot} {lo lo' : pz_L} {k : Nat} {v : pz_V} (hL : pz_LV ad ls nL lo) (hc : pz_cv v) (h3 : lo'.length = lo.length) (h4 : lo'[k]? = some (some v)) (h5 : ∀ (i : Nat) (w : pz_V), i ≠ k → lo'[i]? = some (some w) → lo[i]? = some (some w) ∧ i ≠ k + 1 ∧ ¬ (i + 1 = k ∧ pz_cat w = 2)) {ls' : Array Slot} (h : lv_has ls' nL ((k, pz_v ad v) :: (pz_pr ad lo).filter (fun q => !(q.1 == k) && (!(q.1 == k + 1) && !(q.1 + 1 == k && q.2.category == 2))))) : pz_LV ad ls' nL lo' := by
  refine pz_LV.of h (h3.trans hL.2.2.1) (fun i w hw => ?_)
  by_cases hi : i = k
  · subst hi
    rw [h4] at hw
    cases hw
    exact ⟨List.mem_cons_self, hc⟩
  · obtain ⟨q1, q0, q2⟩ := h5 i w hi hw
    refine ⟨List.mem_cons_of_mem _ (List.mem_filter.mpr ⟨pz_pr_mem q1, ?_⟩), (hL.2.2.2 i w q1).2⟩
    simp only [pz_v_cat, Bool.and_eq_true, Bool.not_eq_true', beq_eq_false_iff_ne, ne_eq, Bool.and_eq_false_iff]
    refine ⟨hi, q0, ?_⟩
    by_cases hz : i + 1 = k
    · exact Or.inr (fun z => q2 ⟨hz, z⟩)
    · exact Or.inl hz
theorem pz_lg {ls : Array Slot} {lo : pz_L} {k : Nat} {v : pz_V} (hL : pz_LV ad ls nL lo) (h : lo[k]? = some (some v)) : ls[k]? = some (.val (pz_v ad v)) ∧ pz_cv v := hL.2.2.2 k v h
theorem pz_pos {lo : pz_L} {k : Nat} {v : pz_V} (h : lo[k]? = some (some v)) : ∃ j : Nat, (pz_pr ad lo)[j]? = some (k, pz_v ad v) := by
  obtain ⟨j, hj⟩ := List.getElem?_of_mem (pz_pr_mem (ad := ad) h)
  exact ⟨j, hj⟩
theorem pz_cs_v (ad : Nat → Nat) : ∀ rest : List pz_V, ((rest.map (pz_v ad)).map fun v => v.category).sum = pz_cs rest
  | [] => rfl
  | v :: t => by
    simp only [List.map_cons, List.sum_cons, pz_v_cat, pz_cs]
    rw [← pz_cs_v ad t]

theorem ps_iconst (Y : pz_Y p s m args c cc own nL D ad adV cy A) {K : pz_F} (hK : ∀ pc lo st M, K pc lo st M → pz_Ok p l e R s m args below meth c cells slots Q nL D ad cy A pc lo st M) {fl : Nat → Option (Nat × Nat)} {ci : Nat → Option pz_V} {ct : Bool → Nat → Option pz_C} {Rt : Option pz_V → pz_M → Prop} {rz : Bool} {pc len nx : Nat} {tg : List Nat} {lo : pz_L} {st : List pz_V} {M : pz_M} {v : Int}  (hw : pz_wf cc (pc, .iconst v, len, nx, tg) = true) (h : pz_stp fl ci ct K Rt rz (.iconst v) nx tg lo st M) : pz_Ok p l e R s m args below meth c cells slots Q nL D ad cy A pc lo st M := by
  obtain ⟨hx, hb, hml, hown, hts, hX⟩ := Y
  obtain ⟨hd, hn, hsl, htk, him⟩ := pz_wf_spec hw
  subst hn
  have hl1 : len = 1 := of_decide_eq_true hsl
  subst hl1
  intro H locs ls hP hS hM hL hst
  simp only [pz_imm, Bool.and_eq_true, decide_eq_true_eq] at him
  exact lv_iconst hx hb hd rfl (hK _ _ _ _ h H locs ls hP hS hM hL (pz_all (show pz_c v from ⟨by have := him.1; omega, by have := him.2; omega⟩) hst))
theorem ps_bipush (Y : pz_Y p s m args c cc own nL D ad adV cy A) {K : pz_F} (hK : ∀ pc lo st M, K pc lo st M → pz_Ok p l e R s m args below meth c cells slots Q nL D ad cy A pc lo st M) {fl : Nat → Option (Nat × Nat)} {ci : Nat → Option pz_V} {ct : Bool → Nat → Option pz_C} {Rt : Option pz_V → pz_M → Prop} {rz : Bool} {pc len nx : Nat} {tg : List Nat} {lo : pz_L} {st : List pz_V} {M : pz_M} {v : Int}  (hw : pz_wf cc (pc, .bipush v, len, nx, tg) = true) (h : pz_stp fl ci ct K Rt rz (.bipush v) nx tg lo st M) : pz_Ok p l e R s m args below meth c cells slots Q nL D ad cy A pc lo st M := by
  obtain ⟨hx, hb, hml, hown, hts, hX⟩ := Y
  obtain ⟨hd, hn, hsl, htk, him⟩ := pz_wf_spec hw
  subst hn
  have hl1 : len = 2 := of_decide_eq_true hsl
  subst hl1
  intro H locs ls hP hS hM hL hst
  simp only [pz_imm, Bool.and_eq_true, decide_eq_true_eq] at him
  exact lv_bipush hx hb hd (pz_bip him.1 him.2) (hK _ _ _ _ h H locs ls hP hS hM hL (pz_all (show pz_c v from ⟨by have := him.1; omega, by have := him.2; omega⟩) hst))
theorem ps_sipush (Y : pz_Y p s m args c cc own nL D ad adV cy A) {K : pz_F} (hK : ∀ pc lo st M, K pc lo st M → pz_Ok p l e R s m args below meth c cells slots Q nL D ad cy A pc lo st M) {fl : Nat → Option (Nat × Nat)} {ci : Nat → Option pz_V} {ct : Bool → Nat → Option pz_C} {Rt : Option pz_V → pz_M → Prop} {rz : Bool} {pc len nx : Nat} {tg : List Nat} {lo : pz_L} {st : List pz_V} {M : pz_M} {v : Int}  (hw : pz_wf cc (pc, .sipush v, len, nx, tg) = true) (h : pz_stp fl ci ct K Rt rz (.sipush v) nx tg lo st M) : pz_Ok p l e R s m args below meth c cells slots Q nL D ad cy A pc lo st M := by
  obtain ⟨hx, hb, hml, hown, hts, hX⟩ := Y
  obtain ⟨hd, hn, hsl, htk, him⟩ := pz_wf_spec hw
  subst hn
  have hl1 : len = 3 := of_decide_eq_true hsl
  subst hl1
  intro H locs ls hP hS hM hL hst
  simp only [pz_imm, Bool.and_eq_true, decide_eq_true_eq] at him
  exact lv_sipush hx hb hd (pz_sip him.1 him.2) (hK _ _ _ _ h H locs ls hP hS hM hL (pz_all (show pz_c v from ⟨by have := him.1; omega, by have := him.2; omega⟩) hst))
theorem ps_lconst (Y : pz_Y p s m args c cc own nL D ad adV cy A) {K : pz_F} (hK : ∀ pc lo st M, K pc lo st M → pz_Ok p l e R s m args below meth c cells slots Q nL D ad cy A pc lo st M) {fl : Nat → Option (Nat × Nat)} {ci : Nat → Option pz_V} {ct : Bool → Nat → Option pz_C} {Rt : Option pz_V → pz_M → Prop} {rz : Bool} {pc len nx : Nat} {tg : List Nat} {lo : pz_L} {st : List pz_V} {M : pz_M} {v : Fin 2}  (hw : pz_wf cc (pc, .lconst v, len, nx, tg) = true) (h : pz_stp fl ci ct K Rt rz (.lconst v) nx tg lo st M) : pz_Ok p l e R s m args below meth c cells slots Q nL D ad cy A pc lo st M := by
  obtain ⟨hx, hb, hml, hown, hts, hX⟩ := Y
  obtain ⟨hd, hn, hsl, htk, him⟩ := pz_wf_spec hw
  subst hn
  have hl1 : len = 1 := of_decide_eq_true hsl
  subst hl1
  intro H locs ls hP hS hM hL hst
  have hv : Int64.ofNat (v : Nat) = Int64.ofInt ((v : Nat) : Int) := (Int64.ofInt_eq_ofNat).symm
  exact lv_lconst hx hb hd hv (hK _ _ _ _ h H locs ls hP hS hM hL (pz_all (show pz_cl ((v : Nat) : Int) from ⟨by omega, by have := v.isLt; omega⟩) hst))
theorem ps_ldc (Y : pz_Y p s m args c cc own nL D ad adV cy A) {K : pz_F} (hK : ∀ pc lo st M, K pc lo st M → pz_Ok p l e R s m args below meth c cells slots Q nL D ad cy A pc lo st M) {fl : Nat → Option (Nat × Nat)} {ci : Nat → Option pz_V} {ct : Bool → Nat → Option pz_C} {Rt : Option pz_V → pz_M → Prop} {rz : Bool} {pc len nx : Nat} {tg : List Nat} {lo : pz_L} {st : List pz_V} {M : pz_M} {i : Nat} (hci : ∀ i v, ci i = some v → pz_ciok own i v) (hw : pz_wf cc (pc, .ldc i, len, nx, tg) = true) (h : pz_stp fl ci ct K Rt rz (.ldc i) nx tg lo st M) : pz_Ok p l e R s m args below meth c cells slots Q nL D ad cy A pc lo st M := by
  obtain ⟨hx, hb, hml, hown, hts, hX⟩ := Y
  obtain ⟨hd, hn, hsl, htk, him⟩ := pz_wf_spec hw
  subst hn
  have hl1 : len = 2 := of_decide_eq_true hsl
  subst hl1
  intro H locs ls hP hS hM hL hst
  change (match ci i with | some (.inr (.inl _)) => False | some v => K _ lo (v :: st) M | none => False) at h
  cases hc : ci i with
  | none => rw [hc] at h; exact h.elim
  | some v =>
    rw [hc] at h
    have hk := hci i v hc
    match v, h, hk with
    | .inr (.inl x), h, _ => exact h.elim
    | .inl x, h, hk => exact lv_ldc hx hb hown (hts _ hk.1) hd (hK _ _ _ _ h H locs ls hP hS hM hL (pz_all hk.2 hst))
    | .inr (.inr q), h, hk =>
      obtain ⟨j, tx, rfl, hj⟩ := hk
      have hj25 : j < 25 := (List.getElem?_eq_some_iff.mp hj).1
      exact va_ldcS hx hb hown (hX.2.2.2.2.1 j _ hj) hd (hK _ _ _ _ h H locs ls hP hS hM hL (pz_all ⟨pz_kd_hi (by omega), (by show 206 + j < 231; omega)⟩ hst))
theorem ps_ldc_w (Y : pz_Y p s m args c cc own nL D ad adV cy A) {K : pz_F} (hK : ∀ pc lo st M, K pc lo st M → pz_Ok p l e R s m args below meth c cells slots Q nL D ad cy A pc lo st M) {fl : Nat → Option (Nat × Nat)} {ci : Nat → Option pz_V} {ct : Bool → Nat → Option pz_C} {Rt : Option pz_V → pz_M → Prop} {rz : Bool} {pc len nx : Nat} {tg : List Nat} {lo : pz_L} {st : List pz_V} {M : pz_M} {i : Nat} (hci : ∀ i v, ci i = some v → pz_ciok own i v) (hw : pz_wf cc (pc, .ldc_w i, len, nx, tg) = true) (h : pz_stp fl ci ct K Rt rz (.ldc_w i) nx tg lo st M) : pz_Ok p l e R s m args below meth c cells slots Q nL D ad cy A pc lo st M := by
  obtain ⟨hx, hb, hml, hown, hts, hX⟩ := Y
  obtain ⟨hd, hn, hsl, htk, him⟩ := pz_wf_spec hw
  subst hn
  have hl1 : len = 3 := of_decide_eq_true hsl
  subst hl1
  intro H locs ls hP hS hM hL hst
  change (match ci i with | some (.inl v) => K _ lo (.inl v :: st) M | _ => False) at h
  cases hc : ci i with
  | none => rw [hc] at h; exact h.elim
  | some v =>
    rw [hc] at h
    have hk := hci i v hc
    match v, h, hk with
    | .inr _, h, _ => exact h.elim
    | .inl x, h, hk => exact lv_ldcw hx hb hown (hts _ hk.1) hd (hK _ _ _ _ h H locs ls hP hS hM hL (pz_all hk.2 hst))
theorem ps_ldc2_w (Y : pz_Y p s m args c cc own nL D ad adV cy A) {K : pz_F} (hK : ∀ pc lo st M, K pc lo st M → pz_Ok p l e R s m args below meth c cells slots Q nL D ad cy A pc lo st M) {fl : Nat → Option (Nat × Nat)} {ci : Nat → Option pz_V} {ct : Bool → Nat → Option pz_C} {Rt : Option pz_V → pz_M → Prop} {rz : Bool} {pc len nx : Nat} {tg : List Nat} {lo : pz_L} {st : List pz_V} {M : pz_M} {i : Nat} (hci : ∀ i v, ci i = some v → pz_ciok own i v) (hw : pz_wf cc (pc, .ldc2_w i, len, nx, tg) = true) (h : pz_stp fl ci ct K Rt rz (.ldc2_w i) nx tg lo st M) : pz_Ok p l e R s m args below meth c cells slots Q nL D ad cy A pc lo st M := by
  obtain ⟨hx, hb, hml, hown, hts, hX⟩ := Y
  obtain ⟨hd, hn, hsl, htk, him⟩ := pz_wf_spec hw
  subst hn
  have hl1 : len = 3 := of_decide_eq_true hsl
  subst hl1
  intro H locs ls hP hS hM hL hst
  change (match ci i with | some (.inr (.inl v)) => K _ lo (.inr (.inl v) :: st) M | _ => False) at h
  cases hc : ci i with
  | none => rw [hc] at h; exact h.elim
  | some v =>
    rw [hc] at h
    have hk := hci i v hc
    match v, h, hk with
    | .inl _, h, _ => exact h.elim
    | .inr (.inr _), h, _ => exact h.elim
    | .inr (.inl x), h, hk => exact lv_ldc2 hx hb hown (hts _ hk.1) hd (hK _ _ _ _ h H locs ls hP hS hM hL (pz_all hk.2 hst))
theorem ps_iload (Y : pz_Y p s m args c cc own nL D ad adV cy A) {K : pz_F} (hK : ∀ pc lo st M, K pc lo st M → pz_Ok p l e R s m args below meth c cells slots Q nL D ad cy A pc lo st M) {fl : Nat → Option (Nat × Nat)} {ci : Nat → Option pz_V} {ct : Bool → Nat → Option pz_C} {Rt : Option pz_V → pz_M → Prop} {rz : Bool} {pc len nx : Nat} {tg : List Nat} {lo : pz_L} {st : List pz_V} {M : pz_M} {k : Nat}  (hw : pz_wf cc (pc, .iload k, len, nx, tg) = true) (h : pz_stp fl ci ct K Rt rz (.iload k) nx tg lo st M) : pz_Ok p l e R s m args below meth c cells slots Q nL D ad cy A pc lo st M := by
  obtain ⟨hx, hb, hml, hown, hts, hX⟩ := Y
  obtain ⟨hd, hn, hsl, htk, him⟩ := pz_wf_spec hw
  subst hn
  have hl1 : len = 2 := of_decide_eq_true hsl
  subst hl1
  intro H locs ls hP hS hM hL hst
  obtain ⟨v, hv, h⟩ := pz_get_spec _ _ _ h
  obtain ⟨g1, g2⟩ := pz_lg hL hv
  match v, h, g1, g2 with
  | .inr _, h, _, _ => exact h.elim
  | .inl x, h, g1, g2 => exact lv_iload hx hb hd g1 (hK _ _ _ _ h H locs ls hP hS hM hL (pz_all g2 hst))
theorem ps_iload_n (Y : pz_Y p s m args c cc own nL D ad adV cy A) {K : pz_F} (hK : ∀ pc lo st M, K pc lo st M → pz_Ok p l e R s m args below meth c cells slots Q nL D ad cy A pc lo st M) {fl : Nat → Option (Nat × Nat)} {ci : Nat → Option pz_V} {ct : Bool → Nat → Option pz_C} {Rt : Option pz_V → pz_M → Prop} {rz : Bool} {pc len nx : Nat} {tg : List Nat} {lo : pz_L} {st : List pz_V} {M : pz_M} {k : Fin 4}  (hw : pz_wf cc (pc, .iload_n k, len, nx, tg) = true) (h : pz_stp fl ci ct K Rt rz (.iload_n k) nx tg lo st M) : pz_Ok p l e R s m args below meth c cells slots Q nL D ad cy A pc lo st M := by
  obtain ⟨hx, hb, hml, hown, hts, hX⟩ := Y
  obtain ⟨hd, hn, hsl, htk, him⟩ := pz_wf_spec hw
  subst hn
  have hl1 : len = 1 := of_decide_eq_true hsl
  subst hl1
  intro H locs ls hP hS hM hL hst
  obtain ⟨v, hv, h⟩ := pz_get_spec _ _ _ h
  obtain ⟨g1, g2⟩ := pz_lg hL hv
  match v, h, g1, g2 with
  | .inr _, h, _, _ => exact h.elim
  | .inl x, h, g1, g2 => exact lv_iload_n hx hb hd rfl g1 (hK _ _ _ _ h H locs ls hP hS hM hL (pz_all g2 hst))
theorem ps_lload (Y : pz_Y p s m args c cc own nL D ad adV cy A) {K : pz_F} (hK : ∀ pc lo st M, K pc lo st M → pz_Ok p l e R s m args below meth c cells slots Q nL D ad cy A pc lo st M) {fl : Nat → Option (Nat × Nat)} {ci : Nat → Option pz_V} {ct : Bool → Nat → Option pz_C} {Rt : Option pz_V → pz_M → Prop} {rz : Bool} {pc len nx : Nat} {tg : List Nat} {lo : pz_L} {st : List pz_V} {M : pz_M} {k : Nat}  (hw : pz_wf cc (pc, .lload k, len, nx, tg) = true) (h : pz_stp fl ci ct K Rt rz (.lload k) nx tg lo st M) : pz_Ok p l e R s m args below meth c cells slots Q nL D ad cy A pc lo st M := by
  obtain ⟨hx, hb, hml, hown, hts, hX⟩ := Y
  obtain ⟨hd, hn, hsl, htk, him⟩ := pz_wf_spec hw
  subst hn
  have hl1 : len = 2 := of_decide_eq_true hsl
  subst hl1
  intro H locs ls hP hS hM hL hst
  obtain ⟨v, hv, h⟩ := pz_get_spec _ _ _ h
  obtain ⟨g1, g2⟩ := pz_lg hL hv
  match v, h, g1, g2 with
  | .inl _, h, _, _ => exact h.elim
  | .inr (.inr _), h, _, _ => exact h.elim
  | .inr (.inl x), h, g1, g2 => exact lv_lload hx hb hd g1 (hK _ _ _ _ h H locs ls hP hS hM hL (pz_all g2 hst))
theorem ps_lload_n (Y : pz_Y p s m args c cc own nL D ad adV cy A) {K : pz_F} (hK : ∀ pc lo st M, K pc lo st M → pz_Ok p l e R s m args below meth c cells slots Q nL D ad cy A pc lo st M) {fl : Nat → Option (Nat × Nat)} {ci : Nat → Option pz_V} {ct : Bool → Nat → Option pz_C} {Rt : Option pz_V → pz_M → Prop} {rz : Bool} {pc len nx : Nat} {tg : List Nat} {lo : pz_L} {st : List pz_V} {M : pz_M} {k : Fin 4}  (hw : pz_wf cc (pc, .lload_n k, len, nx, tg) = true) (h : pz_stp fl ci ct K Rt rz (.lload_n k) nx tg lo st M) : pz_Ok p l e R s m args below meth c cells slots Q nL D ad cy A pc lo st M := by
  obtain ⟨hx, hb, hml, hown, hts, hX⟩ := Y
  obtain ⟨hd, hn, hsl, htk, him⟩ := pz_wf_spec hw
  subst hn
  have hl1 : len = 1 := of_decide_eq_true hsl
  subst hl1
  intro H locs ls hP hS hM hL hst
  obtain ⟨v, hv, h⟩ := pz_get_spec _ _ _ h
  obtain ⟨g1, g2⟩ := pz_lg hL hv
  match v, h, g1, g2 with
  | .inl _, h, _, _ => exact h.elim
  | .inr (.inr _), h, _, _ => exact h.elim
  | .inr (.inl x), h, g1, g2 => exact lv_lload_n hx hb hd rfl g1 (hK _ _ _ _ h H locs ls hP hS hM hL (pz_all g2 hst))
theorem ps_aload (Y : pz_Y p s m args c cc own nL D ad adV cy A) {K : pz_F} (hK : ∀ pc lo st M, K pc lo st M → pz_Ok p l e R s m args below meth c cells slots Q nL D ad cy A pc lo st M) {fl : Nat → Option (Nat × Nat)} {ci : Nat → Option pz_V} {ct : Bool → Nat → Option pz_C} {Rt : Option pz_V → pz_M → Prop} {rz : Bool} {pc len nx : Nat} {tg : List Nat} {lo : pz_L} {st : List pz_V} {M : pz_M} {k : Nat}  (hw : pz_wf cc (pc, .aload k, len, nx, tg) = true) (h : pz_stp fl ci ct K Rt rz (.aload k) nx tg lo st M) : pz_Ok p l e R s m args below meth c cells slots Q nL D ad cy A pc lo st M := by
  obtain ⟨hx, hb, hml, hown, hts, hX⟩ := Y
  obtain ⟨hd, hn, hsl, htk, him⟩ := pz_wf_spec hw
  subst hn
  have hl1 : len = 2 := of_decide_eq_true hsl
  subst hl1
  intro H locs ls hP hS hM hL hst
  obtain ⟨v, hv, h⟩ := pz_get_spec _ _ _ h
  obtain ⟨g1, g2⟩ := pz_lg hL hv
  match v, h, g1, g2 with
  | .inl _, h, _, _ => exact h.elim
  | .inr (.inl _), h, _, _ => exact h.elim
  | .inr (.inr x), h, g1, g2 => exact lv_aload hx hb hd g1 (hK _ _ _ _ h H locs ls hP hS hM hL (pz_all g2 hst))
theorem ps_aload_n (Y : pz_Y p s m args c cc own nL D ad adV cy A) {K : pz_F} (hK : ∀ pc lo st M, K pc lo st M → pz_Ok p l e R s m args below meth c cells slots Q nL D ad cy A pc lo st M) {fl : Nat → Option (Nat × Nat)} {ci : Nat → Option pz_V} {ct : Bool → Nat → Option pz_C} {Rt : Option pz_V → pz_M → Prop} {rz : Bool} {pc len nx : Nat} {tg : List Nat} {lo : pz_L} {st : List pz_V} {M : pz_M} {k : Fin 4}  (hw : pz_wf cc (pc, .aload_n k, len, nx, tg) = true) (h : pz_stp fl ci ct K Rt rz (.aload_n k) nx tg lo st M) : pz_Ok p l e R s m args below meth c cells slots Q nL D ad cy A pc lo st M := by
  obtain ⟨hx, hb, hml, hown, hts, hX⟩ := Y
  obtain ⟨hd, hn, hsl, htk, him⟩ := pz_wf_spec hw
  subst hn
  have hl1 : len = 1 := of_decide_eq_true hsl
  subst hl1
  intro H locs ls hP hS hM hL hst
  obtain ⟨v, hv, h⟩ := pz_get_spec _ _ _ h
  obtain ⟨g1, g2⟩ := pz_lg hL hv
  match v, h, g1, g2 with
  | .inl _, h, _, _ => exact h.elim
  | .inr (.inl _), h, _, _ => exact h.elim
  | .inr (.inr x), h, g1, g2 => exact lv_aload_n hx hb hd rfl g1 (hK _ _ _ _ h H locs ls hP hS hM hL (pz_all g2 hst))
theorem ps_istore (Y : pz_Y p s m args c cc own nL D ad adV cy A) {K : pz_F} (hK : ∀ pc lo st M, K pc lo st M → pz_Ok p l e R s m args below meth c cells slots Q nL D ad cy A pc lo st M) {fl : Nat → Option (Nat × Nat)} {ci : Nat → Option pz_V} {ct : Bool → Nat → Option pz_C} {Rt : Option pz_V → pz_M → Prop} {rz : Bool} {pc len nx : Nat} {tg : List Nat} {lo : pz_L} {st : List pz_V} {M : pz_M} {k : Nat}  (hw : pz_wf cc (pc, .istore k, len, nx, tg) = true) (h : pz_stp fl ci ct K Rt rz (.istore k) nx tg lo st M) : pz_Ok p l e R s m args below meth c cells slots Q nL D ad cy A pc lo st M := by
  obtain ⟨hx, hb, hml, hown, hts, hX⟩ := Y
  obtain ⟨hd, hn, hsl, htk, him⟩ := pz_wf_spec hw
  subst hn
  have hl1 : len = 2 := of_decide_eq_true hsl
  subst hl1
  intro H locs ls hP hS hM hL hst
  obtain ⟨x, r, rfl, h⟩ := pz_1_spec h
  obtain ⟨lo', h1, h2, h3, h4, h5⟩ := pz_set_spec _ _ _ _ h
  obtain ⟨c1, c2⟩ := pz_tlm hst
  exact lv_istore hx hb hd hL.has (by have := hL.2.2.1; omega) rfl (fun ls' hl' => hK _ _ _ _ h1 H locs ls' hP hS hM (pz_LV1 hL c1 h3 h4 h5 hl') c2)
theorem ps_istore_n (Y : pz_Y p s m args c cc own nL D ad adV cy A) {K : pz_F} (hK : ∀ pc lo st M, K pc lo st M → pz_Ok p l e R s m args below meth c cells slots Q nL D ad cy A pc lo st M) {fl : Nat → Option (Nat × Nat)} {ci : Nat → Option pz_V} {ct : Bool → Nat → Option pz_C} {Rt : Option pz_V → pz_M → Prop} {rz : Bool} {pc len nx : Nat} {tg : List Nat} {lo : pz_L} {st : List pz_V} {M : pz_M} {k : Fin 4}  (hw : pz_wf cc (pc, .istore_n k, len, nx, tg) = true) (h : pz_stp fl ci ct K Rt rz (.istore_n k) nx tg lo st M) : pz_Ok p l e R s m args below meth c cells slots Q nL D ad cy A pc lo st M := by
  obtain ⟨hx, hb, hml, hown, hts, hX⟩ := Y
  obtain ⟨hd, hn, hsl, htk, him⟩ := pz_wf_spec hw
  subst hn
  have hl1 : len = 1 := of_decide_eq_true hsl
  subst hl1
  intro H locs ls hP hS hM hL hst
  obtain ⟨x, r, rfl, h⟩ := pz_1_spec h
  obtain ⟨lo', h1, h2, h3, h4, h5⟩ := pz_set_spec _ _ _ _ h
  obtain ⟨c1, c2⟩ := pz_tlm hst
  exact lv_istore_n hx hb hd rfl hL.has (by have := hL.2.2.1; omega) rfl (fun ls' hl' => hK _ _ _ _ h1 H locs ls' hP hS hM (pz_LV1 hL c1 h3 h4 h5 hl') c2)
theorem ps_lstore (Y : pz_Y p s m args c cc own nL D ad adV cy A) {K : pz_F} (hK : ∀ pc lo st M, K pc lo st M → pz_Ok p l e R s m args below meth c cells slots Q nL D ad cy A pc lo st M) {fl : Nat → Option (Nat × Nat)} {ci : Nat → Option pz_V} {ct : Bool → Nat → Option pz_C} {Rt : Option pz_V → pz_M → Prop} {rz : Bool} {pc len nx : Nat} {tg : List Nat} {lo : pz_L} {st : List pz_V} {M : pz_M} {k : Nat}  (hw : pz_wf cc (pc, .lstore k, len, nx, tg) = true) (h : pz_stp fl ci ct K Rt rz (.lstore k) nx tg lo st M) : pz_Ok p l e R s m args below meth c cells slots Q nL D ad cy A pc lo st M := by
  obtain ⟨hx, hb, hml, hown, hts, hX⟩ := Y
  obtain ⟨hd, hn, hsl, htk, him⟩ := pz_wf_spec hw
  subst hn
  have hl1 : len = 2 := of_decide_eq_true hsl
  subst hl1
  intro H locs ls hP hS hM hL hst
  obtain ⟨x, r, rfl, h⟩ := pz_l1_spec h
  obtain ⟨lo', h1, h2, h3, h4, h5⟩ := pz_setl_spec _ _ _ _ h
  obtain ⟨c1, c2⟩ := pz_tlm hst
  exact lv_lstore hx hb hd hL.has (by have := hL.2.2.1; omega) rfl (fun ls' hl' => hK _ _ _ _ h1 H locs ls' hP hS hM (pz_LV2 hL c1 h3 h4 h5 hl') c2)
theorem ps_lstore_n (Y : pz_Y p s m args c cc own nL D ad adV cy A) {K : pz_F} (hK : ∀ pc lo st M, K pc lo st M → pz_Ok p l e R s m args below meth c cells slots Q nL D ad cy A pc lo st M) {fl : Nat → Option (Nat × Nat)} {ci : Nat → Option pz_V} {ct : Bool → Nat → Option pz_C} {Rt : Option pz_V → pz_M → Prop} {rz : Bool} {pc len nx : Nat} {tg : List Nat} {lo : pz_L} {st : List pz_V} {M : pz_M} {k : Fin 4}  (hw : pz_wf cc (pc, .lstore_n k, len, nx, tg) = true) (h : pz_stp fl ci ct K Rt rz (.lstore_n k) nx tg lo st M) : pz_Ok p l e R s m args below meth c cells slots Q nL D ad cy A pc lo st M := by
  obtain ⟨hx, hb, hml, hown, hts, hX⟩ := Y
  obtain ⟨hd, hn, hsl, htk, him⟩ := pz_wf_spec hw
  subst hn
  have hl1 : len = 1 := of_decide_eq_true hsl
  subst hl1
  intro H locs ls hP hS hM hL hst
  obtain ⟨x, r, rfl, h⟩ := pz_l1_spec h
  obtain ⟨lo', h1, h2, h3, h4, h5⟩ := pz_setl_spec _ _ _ _ h
  obtain ⟨c1, c2⟩ := pz_tlm hst
  exact lv_lstore_n hx hb hd rfl hL.has (by have := hL.2.2.1; omega) rfl (fun ls' hl' => hK _ _ _ _ h1 H locs ls' hP hS hM (pz_LV2 hL c1 h3 h4 h5 hl') c2)
theorem ps_astore (Y : pz_Y p s m args c cc own nL D ad adV cy A) {K : pz_F} (hK : ∀ pc lo st M, K pc lo st M → pz_Ok p l e R s m args below meth c cells slots Q nL D ad cy A pc lo st M) {fl : Nat → Option (Nat × Nat)} {ci : Nat → Option pz_V} {ct : Bool → Nat → Option pz_C} {Rt : Option pz_V → pz_M → Prop} {rz : Bool} {pc len nx : Nat} {tg : List Nat} {lo : pz_L} {st : List pz_V} {M : pz_M} {k : Nat}  (hw : pz_wf cc (pc, .astore k, len, nx, tg) = true) (h : pz_stp fl ci ct K Rt rz (.astore k) nx tg lo st M) : pz_Ok p l e R s m args below meth c cells slots Q nL D ad cy A pc lo st M := by
  obtain ⟨hx, hb, hml, hown, hts, hX⟩ := Y
  obtain ⟨hd, hn, hsl, htk, him⟩ := pz_wf_spec hw
  subst hn
  have hl1 : len = 2 := of_decide_eq_true hsl
  subst hl1
  intro H locs ls hP hS hM hL hst
  obtain ⟨kd, a, r, rfl, h⟩ := pz_r_spec h
  obtain ⟨lo', h1, h2, h3, h4, h5⟩ := pz_set_spec _ _ _ _ h
  obtain ⟨c1, c2⟩ := pz_tlm hst
  exact lv_astore hx hb hd hL.has (by have := hL.2.2.1; omega) rfl (fun ls' hl' => hK _ _ _ _ h1 H locs ls' hP hS hM (pz_LV1 hL c1 h3 h4 h5 hl') c2)
theorem ps_astore_n (Y : pz_Y p s m args c cc own nL D ad adV cy A) {K : pz_F} (hK : ∀ pc lo st M, K pc lo st M → pz_Ok p l e R s m args below meth c cells slots Q nL D ad cy A pc lo st M) {fl : Nat → Option (Nat × Nat)} {ci : Nat → Option pz_V} {ct : Bool → Nat → Option pz_C} {Rt : Option pz_V → pz_M → Prop} {rz : Bool} {pc len nx : Nat} {tg : List Nat} {lo : pz_L} {st : List pz_V} {M : pz_M} {k : Fin 4}  (hw : pz_wf cc (pc, .astore_n k, len, nx, tg) = true) (h : pz_stp fl ci ct K Rt rz (.astore_n k) nx tg lo st M) : pz_Ok p l e R s m args below meth c cells slots Q nL D ad cy A pc lo st M := by
  obtain ⟨hx, hb, hml, hown, hts, hX⟩ := Y
  obtain ⟨hd, hn, hsl, htk, him⟩ := pz_wf_spec hw
  subst hn
  have hl1 : len = 1 := of_decide_eq_true hsl
  subst hl1
  intro H locs ls hP hS hM hL hst
  obtain ⟨kd, a, r, rfl, h⟩ := pz_r_spec h
  obtain ⟨lo', h1, h2, h3, h4, h5⟩ := pz_set_spec _ _ _ _ h
  obtain ⟨c1, c2⟩ := pz_tlm hst
  exact lv_astore_n hx hb hd rfl hL.has (by have := hL.2.2.1; omega) rfl (fun ls' hl' => hK _ _ _ _ h1 H locs ls' hP hS hM (pz_LV1 hL c1 h3 h4 h5 hl') c2)
theorem ps_iinc (Y : pz_Y p s m args c cc own nL D ad adV cy A) {K : pz_F} (hK : ∀ pc lo st M, K pc lo st M → pz_Ok p l e R s m args below meth c cells slots Q nL D ad cy A pc lo st M) {fl : Nat → Option (Nat × Nat)} {ci : Nat → Option pz_V} {ct : Bool → Nat → Option pz_C} {Rt : Option pz_V → pz_M → Prop} {rz : Bool} {pc len nx : Nat} {tg : List Nat} {lo : pz_L} {st : List pz_V} {M : pz_M} {k : Nat} {n : Int}  (hw : pz_wf cc (pc, .iinc k n, len, nx, tg) = true) (h : pz_stp fl ci ct K Rt rz (.iinc k n) nx tg lo st M) : pz_Ok p l e R s m args below meth c cells slots Q nL D ad cy A pc lo st M := by
  obtain ⟨hx, hb, hml, hown, hts, hX⟩ := Y
  obtain ⟨hd, hn, hsl, htk, him⟩ := pz_wf_spec hw
  subst hn
  have hl1 : len = 3 := of_decide_eq_true hsl
  subst hl1
  intro H locs ls hP hS hM hL hst
  obtain ⟨v, hv, h⟩ := pz_get_spec _ _ _ h
  obtain ⟨g1, g2⟩ := pz_lg hL hv
  match v, hv, h, g1, g2 with
  | .inr _, _, h, _, _ => exact h.elim
  | .inl x, hv, h, g1, g2 =>
    have h := h (pz_w (x + n)) rfl (pz_wc _).1 (pz_wc _).2
    obtain ⟨lo', h1, h2, h3, h4, h5⟩ := pz_set_spec _ _ _ _ h
    obtain ⟨j, hj⟩ := pz_pos (ad := ad) hv
    exact lv_iinc hx hb hd hL.has hj (pz_add x n) (by have := hL.2.2.1; omega) rfl (fun ls' hl' => hK _ _ _ _ h1 H locs ls' hP hS hM (pz_LV1 hL (show pz_cv (.inl (pz_w (x + n))) from pz_wc _) h3 h4 h5 hl') hst)
theorem ps_iadd (Y : pz_Y p s m args c cc own nL D ad adV cy A) {K : pz_F} (hK : ∀ pc lo st M, K pc lo st M → pz_Ok p l e R s m args below meth c cells slots Q nL D ad cy A pc lo st M) {fl : Nat → Option (Nat × Nat)} {ci : Nat → Option pz_V} {ct : Bool → Nat → Option pz_C} {Rt : Option pz_V → pz_M → Prop} {rz : Bool} {pc len nx : Nat} {tg : List Nat} {lo : pz_L} {st : List pz_V} {M : pz_M}   (hw : pz_wf cc (pc, .iadd, len, nx, tg) = true) (h : pz_stp fl ci ct K Rt rz (.iadd) nx tg lo st M) : pz_Ok p l e R s m args below meth c cells slots Q nL D ad cy A pc lo st M := by
  obtain ⟨hx, hb, hml, hown, hts, hX⟩ := Y
  obtain ⟨hd, hn, hsl, htk, him⟩ := pz_wf_spec hw
  subst hn
  have hl1 : len = 1 := of_decide_eq_true hsl
  subst hl1
  intro H locs ls hP hS hM hL hst
  obtain ⟨x, y, r, rfl, h⟩ := pz_2_spec h
  obtain ⟨cy1, c2⟩ := pz_tlm hst
  obtain ⟨cx1, c3⟩ := pz_tlm c2
  have h := h (pz_w (x + y)) rfl (pz_wc _).1 (pz_wc _).2
  refine lv_iadd hx hb hd ?_
  rw [pz_add]
  exact hK _ _ _ _ h H locs ls hP hS hM hL (pz_all (pz_wc _) c3)
theorem ps_isub (Y : pz_Y p s m args c cc own nL D ad adV cy A) {K : pz_F} (hK : ∀ pc lo st M, K pc lo st M → pz_Ok p l e R s m args below meth c cells slots Q nL D ad cy A pc lo st M) {fl : Nat → Option (Nat × Nat)} {ci : Nat → Option pz_V} {ct : Bool → Nat → Option pz_C} {Rt : Option pz_V → pz_M → Prop} {rz : Bool} {pc len nx : Nat} {tg : List Nat} {lo : pz_L} {st : List pz_V} {M : pz_M}   (hw : pz_wf cc (pc, .isub, len, nx, tg) = true) (h : pz_stp fl ci ct K Rt rz (.isub) nx tg lo st M) : pz_Ok p l e R s m args below meth c cells slots Q nL D ad cy A pc lo st M := by
  obtain ⟨hx, hb, hml, hown, hts, hX⟩ := Y
  obtain ⟨hd, hn, hsl, htk, him⟩ := pz_wf_spec hw
  subst hn
  have hl1 : len = 1 := of_decide_eq_true hsl
  subst hl1
  intro H locs ls hP hS hM hL hst
  obtain ⟨x, y, r, rfl, h⟩ := pz_2_spec h
  obtain ⟨cy1, c2⟩ := pz_tlm hst
  obtain ⟨cx1, c3⟩ := pz_tlm c2
  have h := h (pz_w (x - y)) rfl (pz_wc _).1 (pz_wc _).2
  refine lv_isub hx hb hd ?_
  rw [pz_sub]
  exact hK _ _ _ _ h H locs ls hP hS hM hL (pz_all (pz_wc _) c3)
theorem ps_imul (Y : pz_Y p s m args c cc own nL D ad adV cy A) {K : pz_F} (hK : ∀ pc lo st M, K pc lo st M → pz_Ok p l e R s m args below meth c cells slots Q nL D ad cy A pc lo st M) {fl : Nat → Option (Nat × Nat)} {ci : Nat → Option pz_V} {ct : Bool → Nat → Option pz_C} {Rt : Option pz_V → pz_M → Prop} {rz : Bool} {pc len nx : Nat} {tg : List Nat} {lo : pz_L} {st : List pz_V} {M : pz_M}   (hw : pz_wf cc (pc, .imul, len, nx, tg) = true) (h : pz_stp fl ci ct K Rt rz (.imul) nx tg lo st M) : pz_Ok p l e R s m args below meth c cells slots Q nL D ad cy A pc lo st M := by
  obtain ⟨hx, hb, hml, hown, hts, hX⟩ := Y
  obtain ⟨hd, hn, hsl, htk, him⟩ := pz_wf_spec hw
  subst hn
  have hl1 : len = 1 := of_decide_eq_true hsl
  subst hl1
  intro H locs ls hP hS hM hL hst
  obtain ⟨x, y, r, rfl, h⟩ := pz_2_spec h
  obtain ⟨cy1, c2⟩ := pz_tlm hst
  obtain ⟨cx1, c3⟩ := pz_tlm c2
  have h := h (pz_w (x * y)) rfl (pz_wc _).1 (pz_wc _).2
  refine lv_imul hx hb hd ?_
  rw [pz_mul]
  exact hK _ _ _ _ h H locs ls hP hS hM hL (pz_all (pz_wc _) c3)
theorem ps_idiv (Y : pz_Y p s m args c cc own nL D ad adV cy A) {K : pz_F} (hK : ∀ pc lo st M, K pc lo st M → pz_Ok p l e R s m args below meth c cells slots Q nL D ad cy A pc lo st M) {fl : Nat → Option (Nat × Nat)} {ci : Nat → Option pz_V} {ct : Bool → Nat → Option pz_C} {Rt : Option pz_V → pz_M → Prop} {rz : Bool} {pc len nx : Nat} {tg : List Nat} {lo : pz_L} {st : List pz_V} {M : pz_M}   (hw : pz_wf cc (pc, .idiv, len, nx, tg) = true) (h : pz_stp fl ci ct K Rt rz (.idiv) nx tg lo st M) : pz_Ok p l e R s m args below meth c cells slots Q nL D ad cy A pc lo st M := by
  obtain ⟨hx, hb, hml, hown, hts, hX⟩ := Y
  obtain ⟨hd, hn, hsl, htk, him⟩ := pz_wf_spec hw
  subst hn
  have hl1 : len = 1 := of_decide_eq_true hsl
  subst hl1
  intro H locs ls hP hS hM hL hst
  obtain ⟨x, y, r, rfl, h⟩ := pz_2_spec h
  obtain ⟨cy1, c2⟩ := pz_tlm hst
  obtain ⟨cx1, c3⟩ := pz_tlm c2
  have h2 := h.2 (pz_w (x.tdiv y)) rfl (pz_wc _).1 (pz_wc _).2
  refine lv_idiv hx hb hd (pz_ne0 cy1 h.1) ?_
  rw [pz_div cx1 cy1]
  exact hK _ _ _ _ h2 H locs ls hP hS hM hL (pz_all (pz_wc _) c3)
theorem ps_irem (Y : pz_Y p s m args c cc own nL D ad adV cy A) {K : pz_F} (hK : ∀ pc lo st M, K pc lo st M → pz_Ok p l e R s m args below meth c cells slots Q nL D ad cy A pc lo st M) {fl : Nat → Option (Nat × Nat)} {ci : Nat → Option pz_V} {ct : Bool → Nat → Option pz_C} {Rt : Option pz_V → pz_M → Prop} {rz : Bool} {pc len nx : Nat} {tg : List Nat} {lo : pz_L} {st : List pz_V} {M : pz_M}   (hw : pz_wf cc (pc, .irem, len, nx, tg) = true) (h : pz_stp fl ci ct K Rt rz (.irem) nx tg lo st M) : pz_Ok p l e R s m args below meth c cells slots Q nL D ad cy A pc lo st M := by
  obtain ⟨hx, hb, hml, hown, hts, hX⟩ := Y
  obtain ⟨hd, hn, hsl, htk, him⟩ := pz_wf_spec hw
  subst hn
  have hl1 : len = 1 := of_decide_eq_true hsl
  subst hl1
  intro H locs ls hP hS hM hL hst
  obtain ⟨x, y, r, rfl, h⟩ := pz_2_spec h
  obtain ⟨cy1, c2⟩ := pz_tlm hst
  obtain ⟨cx1, c3⟩ := pz_tlm c2
  have h2 := h.2 (pz_w (x.tmod y)) rfl (pz_wc _).1 (pz_wc _).2
  refine lv_irem hx hb hd (pz_ne0 cy1 h.1) ?_
  rw [pz_rem cx1 cy1]
  exact hK _ _ _ _ h2 H locs ls hP hS hM hL (pz_all (pz_wc _) c3)
theorem ps_iand (Y : pz_Y p s m args c cc own nL D ad adV cy A) {K : pz_F} (hK : ∀ pc lo st M, K pc lo st M → pz_Ok p l e R s m args below meth c cells slots Q nL D ad cy A pc lo st M) {fl : Nat → Option (Nat × Nat)} {ci : Nat → Option pz_V} {ct : Bool → Nat → Option pz_C} {Rt : Option pz_V → pz_M → Prop} {rz : Bool} {pc len nx : Nat} {tg : List Nat} {lo : pz_L} {st : List pz_V} {M : pz_M}   (hw : pz_wf cc (pc, .iand, len, nx, tg) = true) (h : pz_stp fl ci ct K Rt rz (.iand) nx tg lo st M) : pz_Ok p l e R s m args below meth c cells slots Q nL D ad cy A pc lo st M := by
  obtain ⟨hx, hb, hml, hown, hts, hX⟩ := Y
  obtain ⟨hd, hn, hsl, htk, him⟩ := pz_wf_spec hw
  subst hn
  have hl1 : len = 1 := of_decide_eq_true hsl
  subst hl1
  intro H locs ls hP hS hM hL hst
  obtain ⟨x, y, r, rfl, h⟩ := pz_2_spec h
  obtain ⟨cy1, c2⟩ := pz_tlm hst
  obtain ⟨cx1, c3⟩ := pz_tlm c2
  have h := h _ rfl (pz_tc _).1 (pz_tc _).2
  refine lv_iand hx hb hd ?_
  have h := hK _ _ _ _ h H locs ls hP hS hM hL (pz_all (pz_tc _) c3)
  rw [List.map_cons] at h
  simp only [pz_v, Int32.ofInt_toInt] at h
  exact h
theorem ps_ior (Y : pz_Y p s m args c cc own nL D ad adV cy A) {K : pz_F} (hK : ∀ pc lo st M, K pc lo st M → pz_Ok p l e R s m args below meth c cells slots Q nL D ad cy A pc lo st M) {fl : Nat → Option (Nat × Nat)} {ci : Nat → Option pz_V} {ct : Bool → Nat → Option pz_C} {Rt : Option pz_V → pz_M → Prop} {rz : Bool} {pc len nx : Nat} {tg : List Nat} {lo : pz_L} {st : List pz_V} {M : pz_M}   (hw : pz_wf cc (pc, .ior, len, nx, tg) = true) (h : pz_stp fl ci ct K Rt rz (.ior) nx tg lo st M) : pz_Ok p l e R s m args below meth c cells slots Q nL D ad cy A pc lo st M := by
  obtain ⟨hx, hb, hml, hown, hts, hX⟩ := Y
  obtain ⟨hd, hn, hsl, htk, him⟩ := pz_wf_spec hw
  subst hn
  have hl1 : len = 1 := of_decide_eq_true hsl
  subst hl1
  intro H locs ls hP hS hM hL hst
  obtain ⟨x, y, r, rfl, h⟩ := pz_2_spec h
  obtain ⟨cy1, c2⟩ := pz_tlm hst
  obtain ⟨cx1, c3⟩ := pz_tlm c2
  have h := h _ rfl (pz_tc _).1 (pz_tc _).2
  refine lv_ior hx hb hd ?_
  have h := hK _ _ _ _ h H locs ls hP hS hM hL (pz_all (pz_tc _) c3)
  rw [List.map_cons] at h
  simp only [pz_v, Int32.ofInt_toInt] at h
  exact h
theorem ps_ixor (Y : pz_Y p s m args c cc own nL D ad adV cy A) {K : pz_F} (hK : ∀ pc lo st M, K pc lo st M → pz_Ok p l e R s m args below meth c cells slots Q nL D ad cy A pc lo st M) {fl : Nat → Option (Nat × Nat)} {ci : Nat → Option pz_V} {ct : Bool → Nat → Option pz_C} {Rt : Option pz_V → pz_M → Prop} {rz : Bool} {pc len nx : Nat} {tg : List Nat} {lo : pz_L} {st : List pz_V} {M : pz_M}   (hw : pz_wf cc (pc, .ixor, len, nx, tg) = true) (h : pz_stp fl ci ct K Rt rz (.ixor) nx tg lo st M) : pz_Ok p l e R s m args below meth c cells slots Q nL D ad cy A pc lo st M := by
  obtain ⟨hx, hb, hml, hown, hts, hX⟩ := Y
  obtain ⟨hd, hn, hsl, htk, him⟩ := pz_wf_spec hw
  subst hn
  have hl1 : len = 1 := of_decide_eq_true hsl
  subst hl1
  intro H locs ls hP hS hM hL hst
  obtain ⟨x, y, r, rfl, h⟩ := pz_2_spec h
  obtain ⟨cy1, c2⟩ := pz_tlm hst
  obtain ⟨cx1, c3⟩ := pz_tlm c2
  have h := h _ rfl (pz_tc _).1 (pz_tc _).2
  refine lv_ixor hx hb hd ?_
  have h := hK _ _ _ _ h H locs ls hP hS hM hL (pz_all (pz_tc _) c3)
  rw [List.map_cons] at h
  simp only [pz_v, Int32.ofInt_toInt] at h
  exact h
theorem ps_ishl (Y : pz_Y p s m args c cc own nL D ad adV cy A) {K : pz_F} (hK : ∀ pc lo st M, K pc lo st M → pz_Ok p l e R s m args below meth c cells slots Q nL D ad cy A pc lo st M) {fl : Nat → Option (Nat × Nat)} {ci : Nat → Option pz_V} {ct : Bool → Nat → Option pz_C} {Rt : Option pz_V → pz_M → Prop} {rz : Bool} {pc len nx : Nat} {tg : List Nat} {lo : pz_L} {st : List pz_V} {M : pz_M}   (hw : pz_wf cc (pc, .ishl, len, nx, tg) = true) (h : pz_stp fl ci ct K Rt rz (.ishl) nx tg lo st M) : pz_Ok p l e R s m args below meth c cells slots Q nL D ad cy A pc lo st M := by
  obtain ⟨hx, hb, hml, hown, hts, hX⟩ := Y
  obtain ⟨hd, hn, hsl, htk, him⟩ := pz_wf_spec hw
  subst hn
  have hl1 : len = 1 := of_decide_eq_true hsl
  subst hl1
  intro H locs ls hP hS hM hL hst
  obtain ⟨x, y, r, rfl, h⟩ := pz_2_spec h
  obtain ⟨cy1, c2⟩ := pz_tlm hst
  obtain ⟨cx1, c3⟩ := pz_tlm c2
  have h := h _ rfl (pz_tc _).1 (pz_tc _).2
  refine lv_ishl hx hb hd ?_
  have h := hK _ _ _ _ h H locs ls hP hS hM hL (pz_all (pz_tc _) c3)
  rw [List.map_cons] at h
  simp only [pz_v, Int32.ofInt_toInt] at h
  exact h
theorem ps_ishr (Y : pz_Y p s m args c cc own nL D ad adV cy A) {K : pz_F} (hK : ∀ pc lo st M, K pc lo st M → pz_Ok p l e R s m args below meth c cells slots Q nL D ad cy A pc lo st M) {fl : Nat → Option (Nat × Nat)} {ci : Nat → Option pz_V} {ct : Bool → Nat → Option pz_C} {Rt : Option pz_V → pz_M → Prop} {rz : Bool} {pc len nx : Nat} {tg : List Nat} {lo : pz_L} {st : List pz_V} {M : pz_M}   (hw : pz_wf cc (pc, .ishr, len, nx, tg) = true) (h : pz_stp fl ci ct K Rt rz (.ishr) nx tg lo st M) : pz_Ok p l e R s m args below meth c cells slots Q nL D ad cy A pc lo st M := by
  obtain ⟨hx, hb, hml, hown, hts, hX⟩ := Y
  obtain ⟨hd, hn, hsl, htk, him⟩ := pz_wf_spec hw
  subst hn
  have hl1 : len = 1 := of_decide_eq_true hsl
  subst hl1
  intro H locs ls hP hS hM hL hst
  obtain ⟨x, y, r, rfl, h⟩ := pz_2_spec h
  obtain ⟨cy1, c2⟩ := pz_tlm hst
  obtain ⟨cx1, c3⟩ := pz_tlm c2
  have h := h _ rfl (pz_tc _).1 (pz_tc _).2
  refine lv_ishr hx hb hd ?_
  have h := hK _ _ _ _ h H locs ls hP hS hM hL (pz_all (pz_tc _) c3)
  rw [List.map_cons] at h
  simp only [pz_v, Int32.ofInt_toInt] at h
  exact h
theorem ps_iushr (Y : pz_Y p s m args c cc own nL D ad adV cy A) {K : pz_F} (hK : ∀ pc lo st M, K pc lo st M → pz_Ok p l e R s m args below meth c cells slots Q nL D ad cy A pc lo st M) {fl : Nat → Option (Nat × Nat)} {ci : Nat → Option pz_V} {ct : Bool → Nat → Option pz_C} {Rt : Option pz_V → pz_M → Prop} {rz : Bool} {pc len nx : Nat} {tg : List Nat} {lo : pz_L} {st : List pz_V} {M : pz_M}   (hw : pz_wf cc (pc, .iushr, len, nx, tg) = true) (h : pz_stp fl ci ct K Rt rz (.iushr) nx tg lo st M) : pz_Ok p l e R s m args below meth c cells slots Q nL D ad cy A pc lo st M := by
  obtain ⟨hx, hb, hml, hown, hts, hX⟩ := Y
  obtain ⟨hd, hn, hsl, htk, him⟩ := pz_wf_spec hw
  subst hn
  have hl1 : len = 1 := of_decide_eq_true hsl
  subst hl1
  intro H locs ls hP hS hM hL hst
  obtain ⟨x, y, r, rfl, h⟩ := pz_2_spec h
  obtain ⟨cy1, c2⟩ := pz_tlm hst
  obtain ⟨cx1, c3⟩ := pz_tlm c2
  have h := h _ rfl (pz_tc _).1 (pz_tc _).2
  refine lv_iushr hx hb hd rfl ?_
  have h := hK _ _ _ _ h H locs ls hP hS hM hL (pz_all (pz_tc _) c3)
  rw [List.map_cons] at h
  simp only [pz_v, Int32.ofInt_toInt] at h
  exact h
theorem ps_i2b (Y : pz_Y p s m args c cc own nL D ad adV cy A) {K : pz_F} (hK : ∀ pc lo st M, K pc lo st M → pz_Ok p l e R s m args below meth c cells slots Q nL D ad cy A pc lo st M) {fl : Nat → Option (Nat × Nat)} {ci : Nat → Option pz_V} {ct : Bool → Nat → Option pz_C} {Rt : Option pz_V → pz_M → Prop} {rz : Bool} {pc len nx : Nat} {tg : List Nat} {lo : pz_L} {st : List pz_V} {M : pz_M}   (hw : pz_wf cc (pc, .i2b, len, nx, tg) = true) (h : pz_stp fl ci ct K Rt rz (.i2b) nx tg lo st M) : pz_Ok p l e R s m args below meth c cells slots Q nL D ad cy A pc lo st M := by
  obtain ⟨hx, hb, hml, hown, hts, hX⟩ := Y
  obtain ⟨hd, hn, hsl, htk, him⟩ := pz_wf_spec hw
  subst hn
  have hl1 : len = 1 := of_decide_eq_true hsl
  subst hl1
  intro H locs ls hP hS hM hL hst
  obtain ⟨x, r, rfl, h⟩ := pz_1_spec h
  obtain ⟨c1, c2⟩ := pz_tlm hst
  have h := h _ rfl (pz_tc _).1 (pz_tc _).2
  refine lv_i2b hx hb hd rfl ?_
  have h := hK _ _ _ _ h H locs ls hP hS hM hL (pz_all (pz_tc _) c2)
  rw [List.map_cons] at h
  simp only [pz_v, Int32.ofInt_toInt] at h
  exact h
theorem ps_i2l (Y : pz_Y p s m args c cc own nL D ad adV cy A) {K : pz_F} (hK : ∀ pc lo st M, K pc lo st M → pz_Ok p l e R s m args below meth c cells slots Q nL D ad cy A pc lo st M) {fl : Nat → Option (Nat × Nat)} {ci : Nat → Option pz_V} {ct : Bool → Nat → Option pz_C} {Rt : Option pz_V → pz_M → Prop} {rz : Bool} {pc len nx : Nat} {tg : List Nat} {lo : pz_L} {st : List pz_V} {M : pz_M}   (hw : pz_wf cc (pc, .i2l, len, nx, tg) = true) (h : pz_stp fl ci ct K Rt rz (.i2l) nx tg lo st M) : pz_Ok p l e R s m args below meth c cells slots Q nL D ad cy A pc lo st M := by
  obtain ⟨hx, hb, hml, hown, hts, hX⟩ := Y
  obtain ⟨hd, hn, hsl, htk, him⟩ := pz_wf_spec hw
  subst hn
  have hl1 : len = 1 := of_decide_eq_true hsl
  subst hl1
  intro H locs ls hP hS hM hL hst
  obtain ⟨x, r, rfl, h⟩ := pz_1_spec h
  obtain ⟨c1, c2⟩ := pz_tlm hst
  exact lv_i2l hx hb hd (pz_i2l c1) (hK _ _ _ _ h H locs ls hP hS hM hL (pz_all (show pz_cl x from ⟨by have := c1.1; omega, by have := c1.2; omega⟩) c2))
theorem ps_l2i (Y : pz_Y p s m args c cc own nL D ad adV cy A) {K : pz_F} (hK : ∀ pc lo st M, K pc lo st M → pz_Ok p l e R s m args below meth c cells slots Q nL D ad cy A pc lo st M) {fl : Nat → Option (Nat × Nat)} {ci : Nat → Option pz_V} {ct : Bool → Nat → Option pz_C} {Rt : Option pz_V → pz_M → Prop} {rz : Bool} {pc len nx : Nat} {tg : List Nat} {lo : pz_L} {st : List pz_V} {M : pz_M}   (hw : pz_wf cc (pc, .l2i, len, nx, tg) = true) (h : pz_stp fl ci ct K Rt rz (.l2i) nx tg lo st M) : pz_Ok p l e R s m args below meth c cells slots Q nL D ad cy A pc lo st M := by
  obtain ⟨hx, hb, hml, hown, hts, hX⟩ := Y
  obtain ⟨hd, hn, hsl, htk, him⟩ := pz_wf_spec hw
  subst hn
  have hl1 : len = 1 := of_decide_eq_true hsl
  subst hl1
  intro H locs ls hP hS hM hL hst
  obtain ⟨x, r, rfl, h⟩ := pz_l1_spec h
  obtain ⟨c1, c2⟩ := pz_tlm hst
  have h := h _ rfl (pz_wc _).1 (pz_wc _).2
  exact lv_l2i hx hb hd (pz_l2i c1) (hK _ _ _ _ h H locs ls hP hS hM hL (pz_all (pz_wc _) c2))
theorem ps_ladd (Y : pz_Y p s m args c cc own nL D ad adV cy A) {K : pz_F} (hK : ∀ pc lo st M, K pc lo st M → pz_Ok p l e R s m args below meth c cells slots Q nL D ad cy A pc lo st M) {fl : Nat → Option (Nat × Nat)} {ci : Nat → Option pz_V} {ct : Bool → Nat → Option pz_C} {Rt : Option pz_V → pz_M → Prop} {rz : Bool} {pc len nx : Nat} {tg : List Nat} {lo : pz_L} {st : List pz_V} {M : pz_M}   (hw : pz_wf cc (pc, .ladd, len, nx, tg) = true) (h : pz_stp fl ci ct K Rt rz (.ladd) nx tg lo st M) : pz_Ok p l e R s m args below meth c cells slots Q nL D ad cy A pc lo st M := by
  obtain ⟨hx, hb, hml, hown, hts, hX⟩ := Y
  obtain ⟨hd, hn, hsl, htk, him⟩ := pz_wf_spec hw
  subst hn
  have hl1 : len = 1 := of_decide_eq_true hsl
  subst hl1
  intro H locs ls hP hS hM hL hst
  obtain ⟨x, y, r, rfl, h⟩ := pz_l2_spec h
  obtain ⟨cy1, c2⟩ := pz_tlm hst
  obtain ⟨cx1, c3⟩ := pz_tlm c2
  have h := h (pz_wl (x + y)) rfl (pz_wlc _).1 (pz_wlc _).2
  refine lv_ladd hx hb hd ?_
  rw [pz_ladd]
  exact hK _ _ _ _ h H locs ls hP hS hM hL (pz_all (pz_wlc _) c3)
theorem ps_lsub (Y : pz_Y p s m args c cc own nL D ad adV cy A) {K : pz_F} (hK : ∀ pc lo st M, K pc lo st M → pz_Ok p l e R s m args below meth c cells slots Q nL D ad cy A pc lo st M) {fl : Nat → Option (Nat × Nat)} {ci : Nat → Option pz_V} {ct : Bool → Nat → Option pz_C} {Rt : Option pz_V → pz_M → Prop} {rz : Bool} {pc len nx : Nat} {tg : List Nat} {lo : pz_L} {st : List pz_V} {M : pz_M}   (hw : pz_wf cc (pc, .lsub, len, nx, tg) = true) (h : pz_stp fl ci ct K Rt rz (.lsub) nx tg lo st M) : pz_Ok p l e R s m args below meth c cells slots Q nL D ad cy A pc lo st M := by
  obtain ⟨hx, hb, hml, hown, hts, hX⟩ := Y
  obtain ⟨hd, hn, hsl, htk, him⟩ := pz_wf_spec hw
  subst hn
  have hl1 : len = 1 := of_decide_eq_true hsl
  subst hl1
  intro H locs ls hP hS hM hL hst
  obtain ⟨x, y, r, rfl, h⟩ := pz_l2_spec h
  obtain ⟨cy1, c2⟩ := pz_tlm hst
  obtain ⟨cx1, c3⟩ := pz_tlm c2
  have h := h (pz_wl (x - y)) rfl (pz_wlc _).1 (pz_wlc _).2
  refine lv_lsub hx hb hd ?_
  rw [pz_lsub]
  exact hK _ _ _ _ h H locs ls hP hS hM hL (pz_all (pz_wlc _) c3)
theorem ps_lmul (Y : pz_Y p s m args c cc own nL D ad adV cy A) {K : pz_F} (hK : ∀ pc lo st M, K pc lo st M → pz_Ok p l e R s m args below meth c cells slots Q nL D ad cy A pc lo st M) {fl : Nat → Option (Nat × Nat)} {ci : Nat → Option pz_V} {ct : Bool → Nat → Option pz_C} {Rt : Option pz_V → pz_M → Prop} {rz : Bool} {pc len nx : Nat} {tg : List Nat} {lo : pz_L} {st : List pz_V} {M : pz_M}   (hw : pz_wf cc (pc, .lmul, len, nx, tg) = true) (h : pz_stp fl ci ct K Rt rz (.lmul) nx tg lo st M) : pz_Ok p l e R s m args below meth c cells slots Q nL D ad cy A pc lo st M := by
  obtain ⟨hx, hb, hml, hown, hts, hX⟩ := Y
  obtain ⟨hd, hn, hsl, htk, him⟩ := pz_wf_spec hw
  subst hn
  have hl1 : len = 1 := of_decide_eq_true hsl
  subst hl1
  intro H locs ls hP hS hM hL hst
  obtain ⟨x, y, r, rfl, h⟩ := pz_l2_spec h
  obtain ⟨cy1, c2⟩ := pz_tlm hst
  obtain ⟨cx1, c3⟩ := pz_tlm c2
  have h := h (pz_wl (x * y)) rfl (pz_wlc _).1 (pz_wlc _).2
  refine lv_lmul hx hb hd ?_
  rw [pz_lmul]
  exact hK _ _ _ _ h H locs ls hP hS hM hL (pz_all (pz_wlc _) c3)
theorem ps_ldiv (Y : pz_Y p s m args c cc own nL D ad adV cy A) {K : pz_F} (hK : ∀ pc lo st M, K pc lo st M → pz_Ok p l e R s m args below meth c cells slots Q nL D ad cy A pc lo st M) {fl : Nat → Option (Nat × Nat)} {ci : Nat → Option pz_V} {ct : Bool → Nat → Option pz_C} {Rt : Option pz_V → pz_M → Prop} {rz : Bool} {pc len nx : Nat} {tg : List Nat} {lo : pz_L} {st : List pz_V} {M : pz_M}   (hw : pz_wf cc (pc, .ldiv, len, nx, tg) = true) (h : pz_stp fl ci ct K Rt rz (.ldiv) nx tg lo st M) : pz_Ok p l e R s m args below meth c cells slots Q nL D ad cy A pc lo st M := by
  obtain ⟨hx, hb, hml, hown, hts, hX⟩ := Y
  obtain ⟨hd, hn, hsl, htk, him⟩ := pz_wf_spec hw
  subst hn
  have hl1 : len = 1 := of_decide_eq_true hsl
  subst hl1
  intro H locs ls hP hS hM hL hst
  obtain ⟨x, y, r, rfl, h⟩ := pz_l2_spec h
  obtain ⟨cy1, c2⟩ := pz_tlm hst
  obtain ⟨cx1, c3⟩ := pz_tlm c2
  have h2 := h.2 (pz_wl (x.tdiv y)) rfl (pz_wlc _).1 (pz_wlc _).2
  refine lv_ldiv hx hb hd (pz_lne0 cy1 h.1) ?_
  rw [pz_ldiv cx1 cy1]
  exact hK _ _ _ _ h2 H locs ls hP hS hM hL (pz_all (pz_wlc _) c3)
theorem ps_lcmp (Y : pz_Y p s m args c cc own nL D ad adV cy A) {K : pz_F} (hK : ∀ pc lo st M, K pc lo st M → pz_Ok p l e R s m args below meth c cells slots Q nL D ad cy A pc lo st M) {fl : Nat → Option (Nat × Nat)} {ci : Nat → Option pz_V} {ct : Bool → Nat → Option pz_C} {Rt : Option pz_V → pz_M → Prop} {rz : Bool} {pc len nx : Nat} {tg : List Nat} {lo : pz_L} {st : List pz_V} {M : pz_M}   (hw : pz_wf cc (pc, .lcmp, len, nx, tg) = true) (h : pz_stp fl ci ct K Rt rz (.lcmp) nx tg lo st M) : pz_Ok p l e R s m args below meth c cells slots Q nL D ad cy A pc lo st M := by
  obtain ⟨hx, hb, hml, hown, hts, hX⟩ := Y
  obtain ⟨hd, hn, hsl, htk, him⟩ := pz_wf_spec hw
  subst hn
  have hl1 : len = 1 := of_decide_eq_true hsl
  subst hl1
  intro H locs ls hP hS hM hL hst
  obtain ⟨x, y, r, rfl, h⟩ := pz_l2_spec h
  obtain ⟨cy1, c2⟩ := pz_tlm hst
  obtain ⟨cx1, c3⟩ := pz_tlm c2
  refine W.lcmp hx hb hd ?_
  obtain ⟨e1, e2, e3⟩ := pz_lcmp cx1 cy1
  rcases Int.lt_trichotomy x y with q | q | q
  · rw [e1 q]
    exact hK _ _ _ _ (h.1 q) H locs ls hP hS hM hL (pz_all (show pz_c (-1) by unfold pz_c; omega) c3)
  · rw [e2 q]
    exact hK _ _ _ _ (h.2.1 q) H locs ls hP hS hM hL (pz_all (show pz_c 0 by unfold pz_c; omega) c3)
  · rw [e3 q]
    exact hK _ _ _ _ (h.2.2 q) H locs ls hP hS hM hL (pz_all (show pz_c 1 by unfold pz_c; omega) c3)
theorem ps_dup (Y : pz_Y p s m args c cc own nL D ad adV cy A) {K : pz_F} (hK : ∀ pc lo st M, K pc lo st M → pz_Ok p l e R s m args below meth c cells slots Q nL D ad cy A pc lo st M) {fl : Nat → Option (Nat × Nat)} {ci : Nat → Option pz_V} {ct : Bool → Nat → Option pz_C} {Rt : Option pz_V → pz_M → Prop} {rz : Bool} {pc len nx : Nat} {tg : List Nat} {lo : pz_L} {st : List pz_V} {M : pz_M}   (hw : pz_wf cc (pc, .dup, len, nx, tg) = true) (h : pz_stp fl ci ct K Rt rz (.dup) nx tg lo st M) : pz_Ok p l e R s m args below meth c cells slots Q nL D ad cy A pc lo st M := by
  obtain ⟨hx, hb, hml, hown, hts, hX⟩ := Y
  obtain ⟨hd, hn, hsl, htk, him⟩ := pz_wf_spec hw
  subst hn
  have hl1 : len = 1 := of_decide_eq_true hsl
  subst hl1
  intro H locs ls hP hS hM hL hst
  match st, h, hst with
  | [], h, _ => exact h.elim
  | v :: r, h, hst =>
    obtain ⟨h1, h2⟩ := pz_b_spec h
    obtain ⟨c1, c2⟩ := pz_tlm hst
    exact lv_dup hx hb hd (by rw [pz_v_cat]; exact Nat.eq_of_beq_eq_true h1) (hK _ _ _ _ h2 H locs ls hP hS hM hL (pz_all c1 (pz_all c1 c2)))
theorem ps_pop (Y : pz_Y p s m args c cc own nL D ad adV cy A) {K : pz_F} (hK : ∀ pc lo st M, K pc lo st M → pz_Ok p l e R s m args below meth c cells slots Q nL D ad cy A pc lo st M) {fl : Nat → Option (Nat × Nat)} {ci : Nat → Option pz_V} {ct : Bool → Nat → Option pz_C} {Rt : Option pz_V → pz_M → Prop} {rz : Bool} {pc len nx : Nat} {tg : List Nat} {lo : pz_L} {st : List pz_V} {M : pz_M}   (hw : pz_wf cc (pc, .pop, len, nx, tg) = true) (h : pz_stp fl ci ct K Rt rz (.pop) nx tg lo st M) : pz_Ok p l e R s m args below meth c cells slots Q nL D ad cy A pc lo st M := by
  obtain ⟨hx, hb, hml, hown, hts, hX⟩ := Y
  obtain ⟨hd, hn, hsl, htk, him⟩ := pz_wf_spec hw
  subst hn
  have hl1 : len = 1 := of_decide_eq_true hsl
  subst hl1
  intro H locs ls hP hS hM hL hst
  match st, h, hst with
  | [], h, _ => exact h.elim
  | v :: r, h, hst =>
    obtain ⟨h1, h2⟩ := pz_b_spec h
    obtain ⟨c1, c2⟩ := pz_tlm hst
    exact lv_pop hx hb hd (by rw [pz_v_cat]; exact Nat.eq_of_beq_eq_true h1) (hK _ _ _ _ h2 H locs ls hP hS hM hL c2)
theorem ps_dup2 (Y : pz_Y p s m args c cc own nL D ad adV cy A) {K : pz_F} (hK : ∀ pc lo st M, K pc lo st M → pz_Ok p l e R s m args below meth c cells slots Q nL D ad cy A pc lo st M) {fl : Nat → Option (Nat × Nat)} {ci : Nat → Option pz_V} {ct : Bool → Nat → Option pz_C} {Rt : Option pz_V → pz_M → Prop} {rz : Bool} {pc len nx : Nat} {tg : List Nat} {lo : pz_L} {st : List pz_V} {M : pz_M}   (hw : pz_wf cc (pc, .dup2, len, nx, tg) = true) (h : pz_stp fl ci ct K Rt rz (.dup2) nx tg lo st M) : pz_Ok p l e R s m args below meth c cells slots Q nL D ad cy A pc lo st M := by
  obtain ⟨hx, hb, hml, hown, hts, hX⟩ := Y
  obtain ⟨hd, hn, hsl, htk, him⟩ := pz_wf_spec hw
  subst hn
  have hl1 : len = 1 := of_decide_eq_true hsl
  subst hl1
  intro H locs ls hP hS hM hL hst
  match st, h, hst with
  | [], h, _ => exact h.elim
  | [v], h, _ => exact h.elim
  | v :: u :: r, h, hst =>
    obtain ⟨h1, h⟩ := pz_b_spec h
    obtain ⟨h2, h⟩ := pz_b_spec h
    obtain ⟨c1, c2⟩ := pz_tlm hst
    obtain ⟨d1, d2⟩ := pz_tlm c2
    exact lv_dup2_11 hx hb hd (by rw [pz_v_cat]; exact Nat.eq_of_beq_eq_true h1) (by rw [pz_v_cat]; exact Nat.eq_of_beq_eq_true h2) (hK _ _ _ _ h H locs ls hP hS hM hL (pz_all c1 (pz_all d1 (pz_all c1 (pz_all d1 d2)))))
theorem ps_goto (Y : pz_Y p s m args c cc own nL D ad adV cy A) {K : pz_F} (hK : ∀ pc lo st M, K pc lo st M → pz_Ok p l e R s m args below meth c cells slots Q nL D ad cy A pc lo st M) {fl : Nat → Option (Nat × Nat)} {ci : Nat → Option pz_V} {ct : Bool → Nat → Option pz_C} {Rt : Option pz_V → pz_M → Prop} {rz : Bool} {pc len nx : Nat} {tg : List Nat} {lo : pz_L} {st : List pz_V} {M : pz_M} {o : Int}  (hw : pz_wf cc (pc, .goto o, len, nx, tg) = true) (h : pz_stp fl ci ct K Rt rz (.goto o) nx tg lo st M) : pz_Ok p l e R s m args below meth c cells slots Q nL D ad cy A pc lo st M := by
  obtain ⟨hx, hb, hml, hown, hts, hX⟩ := Y
  obtain ⟨hd, hn, hsl, htk, him⟩ := pz_wf_spec hw
  subst hn
  have hl1 : len = 3 := of_decide_eq_true hsl
  subst hl1
  intro H locs ls hP hS hM hL hst
  match tg, htk, h with
  | [], htk, h => exact h.elim
  | _ :: _ :: _, htk, h => simp [pz_tok] at htk
  | [t], htk, h =>
    simp only [pz_tok, decide_eq_true_eq] at htk
    exact lv_goto hx hb hd htk (hK _ _ _ _ h H locs ls hP hS hM hL hst)
theorem ps_ifCond (Y : pz_Y p s m args c cc own nL D ad adV cy A) {K : pz_F} (hK : ∀ pc lo st M, K pc lo st M → pz_Ok p l e R s m args below meth c cells slots Q nL D ad cy A pc lo st M) {fl : Nat → Option (Nat × Nat)} {ci : Nat → Option pz_V} {ct : Bool → Nat → Option pz_C} {Rt : Option pz_V → pz_M → Prop} {rz : Bool} {pc len nx : Nat} {tg : List Nat} {lo : pz_L} {st : List pz_V} {M : pz_M} {b : Jvm.ClassFile.Cond} {o : Int}  (hw : pz_wf cc (pc, .ifCond b o, len, nx, tg) = true) (h : pz_stp fl ci ct K Rt rz (.ifCond b o) nx tg lo st M) : pz_Ok p l e R s m args below meth c cells slots Q nL D ad cy A pc lo st M := by
  obtain ⟨hx, hb, hml, hown, hts, hX⟩ := Y
  obtain ⟨hd, hn, hsl, htk, him⟩ := pz_wf_spec hw
  subst hn
  have hl1 : len = 3 := of_decide_eq_true hsl
  subst hl1
  intro H locs ls hP hS hM hL hst
  match tg, htk, h with
  | [], htk, h => exact h.elim
  | _ :: _ :: _, htk, h => simp [pz_tok] at htk
  | [t], htk, h =>
    have htk2 : (pc : Int) + o = (t : Int) := of_decide_eq_true htk
    clear htk
    obtain ⟨x, r, rfl, h⟩ := pz_1_spec h
    obtain ⟨cx1, c2⟩ := pz_tlm hst
    have c0 : pz_c 0 := by unfold pz_c; omega
    have e0 : (0 : Int32) = Int32.ofInt 0 := rfl
    cases b with
    | eq => exact lv_if_eq hx hb hd htk2 (fun q => hK _ _ _ _ (h.1 ((pz_eq cx1 c0).mp q)) H locs ls hP hS hM hL c2) (fun q => hK _ _ _ _ (h.2 (fun z => q ((pz_eq cx1 c0).mpr z))) H locs ls hP hS hM hL c2)
    | ne => exact lv_if_ne hx hb hd htk2 (fun q => hK _ _ _ _ (h.1 (fun z => q ((pz_eq cx1 c0).mpr z))) H locs ls hP hS hM hL c2) (fun q => hK _ _ _ _ (h.2 ((pz_eq cx1 c0).mp q)) H locs ls hP hS hM hL c2)
    | lt => exact lv_if_lt hx hb hd htk2 (fun q => hK _ _ _ _ (h.1 ((pz_lt cx1 c0).mp q)) H locs ls hP hS hM hL c2) (fun q => hK _ _ _ _ (h.2 (fun z => q ((pz_lt cx1 c0).mpr z))) H locs ls hP hS hM hL c2)
    | ge => exact lv_if_ge hx hb hd htk2 (fun q => hK _ _ _ _ (h.1 (by have := (pz_le c0 cx1).mp q; omega)) H locs ls hP hS hM hL c2) (fun q => hK _ _ _ _ (h.2 (Int.lt_of_not_ge (fun z => q ((pz_le c0 cx1).mpr z)))) H locs ls hP hS hM hL c2)
    | gt => exact lv_if_gt hx hb hd htk2 (fun q => hK _ _ _ _ (h.1 ((pz_lt c0 cx1).mp q)) H locs ls hP hS hM hL c2) (fun q => hK _ _ _ _ (h.2 (fun z => q ((pz_lt c0 cx1).mpr z))) H locs ls hP hS hM hL c2)
    | le => exact lv_if_le hx hb hd htk2 (fun q => hK _ _ _ _ (h.1 (by have := (pz_le cx1 c0).mp q; omega)) H locs ls hP hS hM hL c2) (fun q => hK _ _ _ _ (h.2 (Int.lt_of_not_ge (fun z => q ((pz_le cx1 c0).mpr z)))) H locs ls hP hS hM hL c2)

theorem ps_if_icmp (Y : pz_Y p s m args c cc own nL D ad adV cy A) {K : pz_F} (hK : ∀ pc lo st M, K pc lo st M → pz_Ok p l e R s m args below meth c cells slots Q nL D ad cy A pc lo st M) {fl : Nat → Option (Nat × Nat)} {ci : Nat → Option pz_V} {ct : Bool → Nat → Option pz_C} {Rt : Option pz_V → pz_M → Prop} {rz : Bool} {pc len nx : Nat} {tg : List Nat} {lo : pz_L} {st : List pz_V} {M : pz_M} {b : Jvm.ClassFile.Cond} {o : Int}  (hw : pz_wf cc (pc, .if_icmp b o, len, nx, tg) = true) (h : pz_stp fl ci ct K Rt rz (.if_icmp b o) nx tg lo st M) : pz_Ok p l e R s m args below meth c cells slots Q nL D ad cy A pc lo st M := by
  obtain ⟨hx, hb, hml, hown, hts, hX⟩ := Y
  obtain ⟨hd, hn, hsl, htk, him⟩ := pz_wf_spec hw
  subst hn
  have hl1 : len = 3 := of_decide_eq_true hsl
  subst hl1
  intro H locs ls hP hS hM hL hst
  match tg, htk, h with
  | [], htk, h => exact h.elim
  | _ :: _ :: _, htk, h => simp [pz_tok] at htk
  | [t], htk, h =>
    have htk2 : (pc : Int) + o = (t : Int) := of_decide_eq_true htk
    clear htk
    obtain ⟨x, y, r, rfl, h⟩ := pz_2_spec h
    obtain ⟨cy1, c1⟩ := pz_tlm hst
    obtain ⟨cx1, c2⟩ := pz_tlm c1
    cases b with
    | eq => exact lv_icmp_eq hx hb hd htk2 (fun q => hK _ _ _ _ (h.1 ((pz_eq cx1 cy1).mp q)) H locs ls hP hS hM hL c2) (fun q => hK _ _ _ _ (h.2 (fun z => q ((pz_eq cx1 cy1).mpr z))) H locs ls hP hS hM hL c2)
    | ne => exact lv_icmp_ne hx hb hd htk2 (fun q => hK _ _ _ _ (h.1 (fun z => q ((pz_eq cx1 cy1).mpr z))) H locs ls hP hS hM hL c2) (fun q => hK _ _ _ _ (h.2 ((pz_eq cx1 cy1).mp q)) H locs ls hP hS hM hL c2)
    | lt => exact lv_icmp_lt hx hb hd htk2 (fun q => hK _ _ _ _ (h.1 ((pz_lt cx1 cy1).mp q)) H locs ls hP hS hM hL c2) (fun q => hK _ _ _ _ (h.2 (fun z => q ((pz_lt cx1 cy1).mpr z))) H locs ls hP hS hM hL c2)
    | ge => exact lv_icmp_ge hx hb hd htk2 (fun q => hK _ _ _ _ (h.1 (by have := (pz_le cy1 cx1).mp q; omega)) H locs ls hP hS hM hL c2) (fun q => hK _ _ _ _ (h.2 (Int.lt_of_not_ge (fun z => q ((pz_le cy1 cx1).mpr z)))) H locs ls hP hS hM hL c2)
    | gt => exact lv_icmp_gt hx hb hd htk2 (fun q => hK _ _ _ _ (h.1 ((pz_lt cy1 cx1).mp q)) H locs ls hP hS hM hL c2) (fun q => hK _ _ _ _ (h.2 (fun z => q ((pz_lt cy1 cx1).mpr z))) H locs ls hP hS hM hL c2)
    | le => exact lv_icmp_le hx hb hd htk2 (fun q => hK _ _ _ _ (h.1 (by have := (pz_le cx1 cy1).mp q; omega)) H locs ls hP hS hM hL c2) (fun q => hK _ _ _ _ (h.2 (Int.lt_of_not_ge (fun z => q ((pz_le cx1 cy1).mpr z)))) H locs ls hP hS hM hL c2)

end PZT
end
