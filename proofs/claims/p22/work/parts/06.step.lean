section
section PZT
variable {p : Program} {l : Launch} {e : Env} {R : Room} {s : State} {m : MethodId} {args : Array Value} {below : List Frame} {meth : Method} {c : Code} {cells slots : Nat} {Q : State → Prop}
variable {cc : ByteArray} {own : String} {nL : Nat} {D : va_G} {ad adV : Nat → Nat} {cy : Nat → ClassId} {A : Nat → Prop}
/-- a call at this place keeps the contract k -/
def pz_CR (p : Program) (l : Launch) (e : Env) (R : Room) (s : State) (m : MethodId) (args : Array Value) (below : List Frame) (meth : Method) (c : Code) (cells slots : Nat) (Q : State → Prop) (cc : ByteArray) (nL : Nat) (D : va_G) (ad : Nat → Nat) (cy : Nat → ClassId) (A : Nat → Prop) (I : Instr) (k : pz_C) : Prop :=
  ∀ (H : Heap) (locs : List Loc) (ls : Array Slot) (M : pz_M) (As rest : List pz_V) (pc : Nat), decode cc pc = .ok (I, 3) → va_P D vwCl (pz_ws ad cy M) H → va_S A s.heap H locs → (∀ a k : Nat, pz_c (M a k)) → (∀ v ∈ As, pz_cv v) → ls.size = nL → As.length = k.1 → pz_cs rest ≤ 8 → k.2.2.1 As M →
    (∀ (r : Option pz_V) (M' : pz_M) (H' : Heap) (locs' : List Loc), k.2.2.2 As M r M' → pz_rr k.2.1 r → va_P D vwCl (pz_ws ad cy M') H' → va_S A s.heap H' locs' → (∀ a k : Nat, pz_c (M' a k)) → W p l e R s m args below meth c H' locs' cells slots Q (F0 m (pc + 3) ls (r.toList.map (pz_v ad) ++ rest.map (pz_v ad)))) →
    W p l e R s m args below meth c H locs cells slots Q (F0 m pc ls ((As.reverse ++ rest).map (pz_v ad)))
def pz_rok (rz : Bool) (I : Instr) (r : Option pz_V) : Prop := (I = .ireturn ∧ ∃ x, r = some (.inl x) ∧ (rz = true → x = 0 ∨ x = 1)) ∨ (I = .lreturn ∧ ∃ x, r = some (.inr (.inl x))) ∨ (I = .areturn ∧ ∃ x, r = some (.inr (.inr x))) ∨ (I = .return_ ∧ r = none)
def pz_RT (p : Program) (l : Launch) (e : Env) (R : Room) (s : State) (m : MethodId) (args : Array Value) (below : List Frame) (meth : Method) (c : Code) (cells slots : Nat) (Q : State → Prop) (cc : ByteArray) (D : va_G) (ad : Nat → Nat) (cy : Nat → ClassId) (A : Nat → Prop) (Rt : Option pz_V → pz_M → Prop) (rz : Bool) : Prop :=
  ∀ (I : Instr) (r : Option pz_V) (pc : Nat) (H : Heap) (locs : List Loc) (ls : Array Slot) (M : pz_M), decode cc pc = .ok (I, 1) → pz_rok rz I r → (∀ v ∈ r, pz_cv v) → va_P D vwCl (pz_ws ad cy M) H → va_S A s.heap H locs → (∀ a k : Nat, pz_c (M a k)) → Rt r M →
    W p l e R s m args below meth c H locs cells slots Q (F0 m pc ls (r.toList.map (pz_v ad)))
theorem pz_LV1 {ls : Array Slot} {lo lo' : pz_L} {k : Nat} {v : pz_V} (hL : pz_LV ad ls nL lo) (hc : pz_cv v) (h3 : lo'.length = lo.length) (h4 : lo'[k]? = some (some v)) (h5 : ∀ (i : Nat) (w : pz_V), i ≠ k → lo'[i]? = some (some w) → lo[i]? = some (some w) ∧ ¬ (i + 1 = k ∧ pz_cat w = 2)) {ls' : Array Slot} (h : lv_has ls' nL ((k, pz_v ad v) :: (pz_pr ad lo).filter (fun q => !(q.1 == k) && !(q.1 + 1 == k && q.2.category == 2)))) : pz_LV ad ls' nL lo' := by
  refine pz_LV.of h (h3.trans hL.2.2.1) (fun i w hw => ?_)
  by_cases hi : i = k
  · subst hi
    rw [h4] at hw
    cases hw
    exact ⟨List.mem_cons_self, hc⟩
  · obtain ⟨q1, q2⟩ := h5 i w hi hw
    refine ⟨List.mem_cons_of_mem _ (List.mem_filter.mpr ⟨pz_pr_mem q1, ?_⟩), (hL.2.2.2 i w q1).2⟩
    simp only [pz_v_cat, Bool.and_eq_true, Bool.not_eq_true', beq_eq_false_iff_ne, ne_eq, Bool.and_eq_false_iff]
    refine ⟨hi, ?_⟩
    by_cases hz : i + 1 = k
    · exact Or.inr (fun z => q2 ⟨hz, z⟩)
    · exact Or.inl hz
theorem pz_LV2 {ls : Array Slot} {lo lo' : pz_L} {k : Nat} {v : pz_V} (hL : pz_LV ad ls nL lo) (hc : pz_cv v) (h3 : lo'.length = lo.length) (h4 : lo'[k]? = some (some v)) (h5 : ∀ (i : Nat) (w : pz_V), i ≠ k → lo'[i]? = some (some w) → lo[i]? = some (some w) ∧ i ≠ k + 1 ∧ ¬ (i + 1 = k ∧ pz_cat w = 2)) {ls' : Array Slot} (h : lv_has ls' nL ((k, pz_v ad v) :: (pz_pr ad lo).filter (fun q => !(q.1 == k) && (!(q.1 == k + 1) && !(q.1 + 1 == k && q.2.category == 2))))) : pz_LV ad ls' nL lo' := by
  refine pz_LV.of h (h3.trans hL.2.2.1) (fun i w hw => ?_)
  by_cases hi : i = k
  · subst hi
    rw [h4] at hw
    cases hw
    exact ⟨List.mem_cons_self, hc⟩
  · obtain ⟨q1, q0, q2⟩ := h5 i w hi hw
    refine ⟨List.mem_cons_of_mem _ (List.mem_filter.mpr ⟨pz_pr_mem q1, ?_⟩), (hL.2.2.2 i w q1).2⟩
    simp only [pz_v_cat, Bool.and_eq_true, Bool.not_eq_true', beq_eq_false_iff_ne, ne_eq, Bool.and_eq_false_iff]
    refine ⟨hi, q0, ?_⟩
    by_cases hz : i + 1 = k
    · exact Or.inr (fun z => q2 ⟨hz, z⟩)
    · exact Or.inl hz
theorem pz_lg {ls : Array Slot} {lo : pz_L} {k : Nat} {v : pz_V} (hL : pz_LV ad ls nL lo) (h : lo[k]? = some (some v)) : ls[k]? = some (.val (pz_v ad v)) ∧ pz_cv v := hL.2.2.2 k v h
theorem pz_pos {lo : pz_L} {k : Nat} {v : pz_V} (h : lo[k]? = some (some v)) : ∃ j : Nat, (pz_pr ad lo)[j]? = some (k, pz_v ad v) := by
  obtain ⟨j, hj⟩ := List.getElem?_of_mem (pz_pr_mem (ad := ad) h)
  exact ⟨j, hj⟩
theorem pz_cs_v (ad : Nat → Nat) : ∀ rest : List pz_V, ((rest.map (pz_v ad)).map fun v => v.category).sum = pz_cs rest
  | [] => rfl
  | v :: t => by
    simp only [List.map_cons, List.sum_cons, pz_v_cat, pz_cs]
    rw [← pz_cs_v ad t]

theorem ps_iconst (Y : pz_Y p s m args c cc own nL D ad adV cy A) {K : pz_F} (hK : ∀ pc lo st M, K pc lo st M → pz_Ok p l e R s m args below meth c cells slots Q nL D ad cy A pc lo st M) {fl : Nat → Option (Nat × Nat)} {ci : Nat → Option pz_V} {ct : Bool → Nat → Option pz_C} {Rt : Option pz_V → pz_M → Prop} {rz : Bool} {pc len nx : Nat} {tg : List Nat} {lo : pz_L} {st : List pz_V} {M : pz_M} {v : Int}  (hw : pz_wf cc (pc, .iconst v, len, nx, tg) = true) (h : pz_stp fl ci ct K Rt rz (.iconst v) nx tg lo st M) : pz_Ok p l e R s m args below meth c cells slots Q nL D ad cy A pc lo st M := by
  obtain ⟨hx, hb, hml, hown, hts, hX⟩ := Y
  obtain ⟨hd, hn, hsl, htk, him⟩ := pz_wf_spec hw
  subst hn
  have hl1 : len = 1 := of_decide_eq_true hsl
  subst hl1
  intro H locs ls hP hS hM hL hst
  simp only [pz_imm, Bool.and_eq_true, decide_eq_true_eq] at him
  exact lv_iconst hx hb hd rfl (hK _ _ _ _ h H locs ls hP hS hM hL (pz_all (show pz_c v from ⟨by have := him.1; omega, by have := him.2; omega⟩) hst))
theorem ps_bipush (Y : pz_Y p s m args c cc own nL D ad adV cy A) {K : pz_F} (hK : ∀ pc lo st M, K pc lo st M → pz_Ok p l e R s m args below meth c cells slots Q nL D ad cy A pc lo st M) {fl : Nat → Option (Nat × Nat)} {ci : Nat → Option pz_V} {ct : Bool → Nat → Option pz_C} {Rt : Option pz_V → pz_M → Prop} {rz : Bool} {pc len nx : Nat} {tg : List Nat} {lo : pz_L} {st : List pz_V} {M : pz_M} {v : Int}  (hw : pz_wf cc (pc, .bipush v, len, nx, tg) = true) (h : pz_stp fl ci ct K Rt rz (.bipush v) nx tg lo st M) : pz_Ok p l e R s m args below meth c cells slots Q nL D ad cy A pc lo st M := by
  obtain ⟨hx, hb, hml, hown, hts, hX⟩ := Y
  obtain ⟨hd, hn, hsl, htk, him⟩ := pz_wf_spec hw
  subst hn
  have hl1 : len = 2 := of_decide_eq_true hsl
  subst hl1
  intro H locs ls hP hS hM hL hst
  simp only [pz_imm, Bool.and_eq_true, decide_eq_true_eq] at him
  exact lv_bipush hx hb hd (pz_bip him.1 him.2) (hK _ _ _ _ h H locs ls hP hS hM hL (pz_all (show pz_c v from ⟨by have := him.1; omega, by have := him.2; omega⟩) hst))
theorem ps_sipush (Y : pz_Y p s m args c cc own nL D ad adV cy A) {K : pz_F} (hK : ∀ pc lo st M, K pc lo st M → pz_Ok p l e R s m args below meth c cells slots Q nL D ad cy A pc lo st M) {fl : Nat → Option (Nat × Nat)} {ci : Nat → Option pz_V} {ct : Bool → Nat → Option pz_C} {Rt : Option pz_V → pz_M → Prop} {rz : Bool} {pc len nx : Nat} {tg : List Nat} {lo : pz_L} {st : List pz_V} {M : pz_M} {v : Int}  (hw : pz_wf cc (pc, .sipush v, len, nx, tg) = true) (h : pz_stp fl ci ct K Rt rz (.sipush v) nx tg lo st M) : pz_Ok p l e R s m args below meth c cells slots Q nL D ad cy A pc lo st M := by
  obtain ⟨hx, hb, hml, hown, hts, hX⟩ := Y
  obtain ⟨hd, hn, hsl, htk, him⟩ := pz_wf_spec hw
  subst hn
  have hl1 : len = 3 := of_decide_eq_true hsl
  subst hl1
  intro H locs ls hP hS hM hL hst
  simp only [pz_imm, Bool.and_eq_true, decide_eq_true_eq] at him
  exact lv_sipush hx hb hd (pz_sip him.1 him.2) (hK _ _ _ _ h H locs ls hP hS hM hL (pz_all (show pz_c v from ⟨by have := him.1; omega, by have := him.2; omega⟩) hst))
theorem ps_lconst (Y : pz_Y p s m args c cc own nL D ad adV cy A) {K : pz_F} (hK : ∀ pc lo st M, K pc lo st M → pz_Ok p l e R s m args below meth c cells slots Q nL D ad cy A pc lo st M) {fl : Nat → Option (Nat × Nat)} {ci : Nat → Option pz_V} {ct : Bool → Nat → Option pz_C} {Rt : Option pz_V → pz_M → Prop} {rz : Bool} {pc len nx : Nat} {tg : List Nat} {lo : pz_L} {st : List pz_V} {M : pz_M} {v : Fin 2}  (hw : pz_wf cc (pc, .lconst v, len, nx, tg) = true) (h : pz_stp fl ci ct K Rt rz (.lconst v) nx tg lo st M) : pz_Ok p l e R s m args below meth c cells slots Q nL D ad cy A pc lo st M := by
  obtain ⟨hx, hb, hml, hown, hts, hX⟩ := Y
  obtain ⟨hd, hn, hsl, htk, him⟩ := pz_wf_spec hw
  subst hn
  have hl1 : len = 1 := of_decide_eq_true hsl
  subst hl1
  intro H locs ls hP hS hM hL hst
  have hv : Int64.ofNat (v : Nat) = Int64.ofInt ((v : Nat) : Int) := (Int64.ofInt_eq_ofNat).symm
  exact lv_lconst hx hb hd hv (hK _ _ _ _ h H locs ls hP hS hM hL (pz_all (show pz_cl ((v : Nat) : Int) from ⟨by omega, by have := v.isLt; omega⟩) hst))
theorem ps_ldc (Y : pz_Y p s m args c cc own nL D ad adV cy A) {K : pz_F} (hK : ∀ pc lo st M, K pc lo st M → pz_Ok p l e R s m args below meth c cells slots Q nL D ad cy A pc lo st M) {fl : Nat → Option (Nat × Nat)} {ci : Nat → Option pz_V} {ct : Bool → Nat → Option pz_C} {Rt : Option pz_V → pz_M → Prop} {rz : Bool} {pc len nx : Nat} {tg : List Nat} {lo : pz_L} {st : List pz_V} {M : pz_M} {i : Nat} (hci : ∀ i v, ci i = some v → pz_ciok own i v) (hw : pz_wf cc (pc, .ldc i, len, nx, tg) = true) (h : pz_stp fl ci ct K Rt rz (.ldc i) nx tg lo st M) : pz_Ok p l e R s m args below meth c cells slots Q nL D ad cy A pc lo st M := by
  obtain ⟨hx, hb, hml, hown, hts, hX⟩ := Y
  obtain ⟨hd, hn, hsl, htk, him⟩ := pz_wf_spec hw
  subst hn
  have hl1 : len = 2 := of_decide_eq_true hsl
  subst hl1
  intro H locs ls hP hS hM hL hst
  change (match ci i with | some (.inr (.inl _)) => False | some v => K _ lo (v :: st) M | none => False) at h
  cases hc : ci i with
  | none => rw [hc] at h; exact h.elim
  | some v =>
    rw [hc] at h
    have hk := hci i v hc
    match v, h, hk with
    | .inr (.inl x), h, _ => exact h.elim
    | .inl x, h, hk => exact lv_ldc hx hb hown (hts _ hk.1) hd (hK _ _ _ _ h H locs ls hP hS hM hL (pz_all hk.2 hst))
    | .inr (.inr q), h, hk =>
      obtain ⟨j, tx, rfl, hj⟩ := hk
      have hj25 : j < 25 := (List.getElem?_eq_some_iff.mp hj).1
      exact va_ldcS hx hb hown (hX.2.2.2.2.1 j _ hj) hd (hK _ _ _ _ h H locs ls hP hS hM hL (pz_all ⟨pz_kd_hi (by omega), (by show 206 + j < 231; omega)⟩ hst))
theorem ps_ldc_w (Y : pz_Y p s m args c cc own nL D ad adV cy A) {K : pz_F} (hK : ∀ pc lo st M, K pc lo st M → pz_Ok p l e R s m args below meth c cells slots Q nL D ad cy A pc lo st M) {fl : Nat → Option (Nat × Nat)} {ci : Nat → Option pz_V} {ct : Bool → Nat → Option pz_C} {Rt : Option pz_V → pz_M → Prop} {rz : Bool} {pc len nx : Nat} {tg : List Nat} {lo : pz_L} {st : List pz_V} {M : pz_M} {i : Nat} (hci : ∀ i v, ci i = some v → pz_ciok own i v) (hw : pz_wf cc (pc, .ldc_w i, len, nx, tg) = true) (h : pz_stp fl ci ct K Rt rz (.ldc_w i) nx tg lo st M) : pz_Ok p l e R s m args below meth c cells slots Q nL D ad cy A pc lo st M := by
  obtain ⟨hx, hb, hml, hown, hts, hX⟩ := Y
  obtain ⟨hd, hn, hsl, htk, him⟩ := pz_wf_spec hw
  subst hn
  have hl1 : len = 3 := of_decide_eq_true hsl
  subst hl1
  intro H locs ls hP hS hM hL hst
  change (match ci i with | some (.inl v) => K _ lo (.inl v :: st) M | _ => False) at h
  cases hc : ci i with
  | none => rw [hc] at h; exact h.elim
  | some v =>
    rw [hc] at h
    have hk := hci i v hc
    match v, h, hk with
    | .inr _, h, _ => exact h.elim
    | .inl x, h, hk => exact lv_ldcw hx hb hown (hts _ hk.1) hd (hK _ _ _ _ h H locs ls hP hS hM hL (pz_all hk.2 hst))
theorem ps_ldc2_w (Y : pz_Y p s m args c cc own nL D ad adV cy A) {K : pz_F} (hK : ∀ pc lo st M, K pc lo st M → pz_Ok p l e R s m args below meth c cells slots Q nL D ad cy A pc lo st M) {fl : Nat → Option (Nat × Nat)} {ci : Nat → Option pz_V} {ct : Bool → Nat → Option pz_C} {Rt : Option pz_V → pz_M → Prop} {rz : Bool} {pc len nx : Nat} {tg : List Nat} {lo : pz_L} {st : List pz_V} {M : pz_M} {i : Nat} (hci : ∀ i v, ci i = some v → pz_ciok own i v) (hw : pz_wf cc (pc, .ldc2_w i, len, nx, tg) = true) (h : pz_stp fl ci ct K Rt rz (.ldc2_w i) nx tg lo st M) : pz_Ok p l e R s m args below meth c cells slots Q nL D ad cy A pc lo st M := by
  obtain ⟨hx, hb, hml, hown, hts, hX⟩ := Y
  obtain ⟨hd, hn, hsl, htk, him⟩ := pz_wf_spec hw
  subst hn
  have hl1 : len = 3 := of_decide_eq_true hsl
  subst hl1
  intro H locs ls hP hS hM hL hst
  change (match ci i with | some (.inr (.inl v)) => K _ lo (.inr (.inl v) :: st) M | _ => False) at h
  cases hc : ci i with
  | none => rw [hc] at h; exact h.elim
  | some v =>
    rw [hc] at h
    have hk := hci i v hc
    match v, h, hk with
    | .inl _, h, _ => exact h.elim
    | .inr (.inr _), h, _ => exact h.elim
    | .inr (.inl x), h, hk => exact lv_ldc2 hx hb hown (hts _ hk.1) hd (hK _ _ _ _ h H locs ls hP hS hM hL (pz_all hk.2 hst))
theorem ps_iload (Y : pz_Y p s m args c cc own nL D ad adV cy A) {K : pz_F} (hK : ∀ pc lo st M, K pc lo st M → pz_Ok p l e R s m args below meth c cells slots Q nL D ad cy A pc lo st M) {fl : Nat → Option (Nat × Nat)} {ci : Nat → Option pz_V} {ct : Bool → Nat → Option pz_C} {Rt : Option pz_V → pz_M → Prop} {rz : Bool} {pc len nx : Nat} {tg : List Nat} {lo : pz_L} {st : List pz_V} {M : pz_M} {k : Nat}  (hw : pz_wf cc (pc, .iload k, len, nx, tg) = true) (h : pz_stp fl ci ct K Rt rz (.iload k) nx tg lo st M) : pz_Ok p l e R s m args below meth c cells slots Q nL D ad cy A pc lo st M := by
  obtain ⟨hx, hb, hml, hown, hts, hX⟩ := Y
  obtain ⟨hd, hn, hsl, htk, him⟩ := pz_wf_spec hw
  subst hn
  have hl1 : len = 2 := of_decide_eq_true hsl
  subst hl1
  intro H locs ls hP hS hM hL hst
  obtain ⟨v, hv, h⟩ := pz_get_spec _ _ _ h
  obtain ⟨g1, g2⟩ := pz_lg hL hv
  match v, h, g1, g2 with
  | .inr _, h, _, _ => exact h.elim
  | .inl x, h, g1, g2 => exact lv_iload hx hb hd g1 (hK _ _ _ _ h H locs ls hP hS hM hL (pz_all g2 hst))
theorem ps_iload_n (Y : pz_Y p s m args c cc own nL D ad adV cy A) {K : pz_F} (hK : ∀ pc lo st M, K pc lo st M → pz_Ok p l e R s m args below meth c cells slots Q nL D ad cy A pc lo st M) {fl : Nat → Option (Nat × Nat)} {ci : Nat → Option pz_V} {ct : Bool → Nat → Option pz_C} {Rt : Option pz_V → pz_M → Prop} {rz : Bool} {pc len nx : Nat} {tg : List Nat} {lo : pz_L} {st : List pz_V} {M : pz_M} {k : Fin 4}  (hw : pz_wf cc (pc, .iload_n k, len, nx, tg) = true) (h : pz_stp fl ci ct K Rt rz (.iload_n k) nx tg lo st M) : pz_Ok p l e R s m args below meth c cells slots Q nL D ad cy A pc lo st M := by
  obtain ⟨hx, hb, hml, hown, hts, hX⟩ := Y
  obtain ⟨hd, hn, hsl, htk, him⟩ := pz_wf_spec hw
  subst hn
  have hl1 : len = 1 := of_decide_eq_true hsl
  subst hl1
  intro H locs ls hP hS hM hL hst
  obtain ⟨v, hv, h⟩ := pz_get_spec _ _ _ h
  obtain ⟨g1, g2⟩ := pz_lg hL hv
  match v, h, g1, g2 with
  | .inr _, h, _, _ => exact h.elim
  | .inl x, h, g1, g2 => exact lv_iload_n hx hb hd rfl g1 (hK _ _ _ _ h H locs ls hP hS hM hL (pz_all g2 hst))
theorem ps_lload (Y : pz_Y p s m args c cc own nL D ad adV cy A) {K : pz_F} (hK : ∀ pc lo st M, K pc lo st M → pz_Ok p l e R s m args below meth c cells slots Q nL D ad cy A pc lo st M) {fl : Nat → Option (Nat × Nat)} {ci : Nat → Option pz_V} {ct : Bool → Nat → Option pz_C} {Rt : Option pz_V → pz_M → Prop} {rz : Bool} {pc len nx : Nat} {tg : List Nat} {lo : pz_L} {st : List pz_V} {M : pz_M} {k : Nat}  (hw : pz_wf cc (pc, .lload k, len, nx, tg) = true) (h : pz_stp fl ci ct K Rt rz (.lload k) nx tg lo st M) : pz_Ok p l e R s m args below meth c cells slots Q nL D ad cy A pc lo st M := by
  obtain ⟨hx, hb, hml, hown, hts, hX⟩ := Y
  obtain ⟨hd, hn, hsl, htk, him⟩ := pz_wf_spec hw
  subst hn
  have hl1 : len = 2 := of_decide_eq_true hsl
  subst hl1
  intro H locs ls hP hS hM hL hst
  obtain ⟨v, hv, h⟩ := pz_get_spec _ _ _ h
  obtain ⟨g1, g2⟩ := pz_lg hL hv
  match v, h, g1, g2 with
  | .inl _, h, _, _ => exact h.elim
  | .inr (.inr _), h, _, _ => exact h.elim
  | .inr (.inl x), h, g1, g2 => exact lv_lload hx hb hd g1 (hK _ _ _ _ h H locs ls hP hS hM hL (pz_all g2 hst))
theorem ps_lload_n (Y : pz_Y p s m args c cc own nL D ad adV cy A) {K : pz_F} (hK : ∀ pc lo st M, K pc lo st M → pz_Ok p l e R s m args below meth c cells slots Q nL D ad cy A pc lo st M) {fl : Nat → Option (Nat × Nat)} {ci : Nat → Option pz_V} {ct : Bool → Nat → Option pz_C} {Rt : Option pz_V → pz_M → Prop} {rz : Bool} {pc len nx : Nat} {tg : List Nat} {lo : pz_L} {st : List pz_V} {M : pz_M} {k : Fin 4}  (hw : pz_wf cc (pc, .lload_n k, len, nx, tg) = true) (h : pz_stp fl ci ct K Rt rz (.lload_n k) nx tg lo st M) : pz_Ok p l e R s m args below meth c cells slots Q nL D ad cy A pc lo st M := by
  obtain ⟨hx, hb, hml, hown, hts, hX⟩ := Y
  obtain ⟨hd, hn, hsl, htk, him⟩ := pz_wf_spec hw
  subst hn
  have hl1 : len = 1 := of_decide_eq_true hsl
  subst hl1
  intro H locs ls hP hS hM hL hst
  obtain ⟨v, hv, h⟩ := pz_get_spec _ _ _ h
  obtain ⟨g1, g2⟩ := pz_lg hL hv
  match v, h, g1, g2 with
  | .inl _, h, _, _ => exact h.elim
  | .inr (.inr _), h, _, _ => exact h.elim
  | .inr (.inl x), h, g1, g2 => exact lv_lload_n hx hb hd rfl g1 (hK _ _ _ _ h H locs ls hP hS hM hL (pz_all g2 hst))
theorem ps_aload (Y : pz_Y p s m args c cc own nL D ad adV cy A) {K : pz_F} (hK : ∀ pc lo st M, K pc lo st M → pz_Ok p l e R s m args below meth c cells slots Q nL D ad cy A pc lo st M) {fl : Nat → Option (Nat × Nat)} {ci : Nat → Option pz_V} {ct : Bool → Nat → Option pz_C} {Rt : Option pz_V → pz_M → Prop} {rz : Bool} {pc len nx : Nat} {tg : List Nat} {lo : pz_L} {st : List pz_V} {M : pz_M} {k : Nat}  (hw : pz_wf cc (pc, .aload k, len, nx, tg) = true) (h : pz_stp fl ci ct K Rt rz (.aload k) nx tg lo st M) : pz_Ok p l e R s m args below meth c cells slots Q nL D ad cy A pc lo st M := by
  obtain ⟨hx, hb, hml, hown, hts, hX⟩ := Y
  obtain ⟨hd, hn, hsl, htk, him⟩ := pz_wf_spec hw
  subst hn
  have hl1 : len = 2 := of_decide_eq_true hsl
  subst hl1
  intro H locs ls hP hS hM hL hst
  obtain ⟨v, hv, h⟩ := pz_get_spec _ _ _ h
  obtain ⟨g1, g2⟩ := pz_lg hL hv
  match v, h, g1, g2 with
  | .inl _, h, _, _ => exact h.elim
  | .inr (.inl _), h, _, _ => exact h.elim
  | .inr (.inr x), h, g1, g2 => exact lv_aload hx hb hd g1 (hK _ _ _ _ h H locs ls hP hS hM hL (pz_all g2 hst))
theorem ps_aload_n (Y : pz_Y p s m args c cc own nL D ad adV cy A) {K : pz_F} (hK : ∀ pc lo st M, K pc lo st M → pz_Ok p l e R s m args below meth c cells slots Q nL D ad cy A pc lo st M) {fl : Nat → Option (Nat × Nat)} {ci : Nat → Option pz_V} {ct : Bool → Nat → Option pz_C} {Rt : Option pz_V → pz_M → Prop} {rz : Bool} {pc len nx : Nat} {tg : List Nat} {lo : pz_L} {st : List pz_V} {M : pz_M} {k : Fin 4}  (hw : pz_wf cc (pc, .aload_n k, len, nx, tg) = true) (h : pz_stp fl ci ct K Rt rz (.aload_n k) nx tg lo st M) : pz_Ok p l e R s m args below meth c cells slots Q nL D ad cy A pc lo st M := by
  obtain ⟨hx, hb, hml, hown, hts, hX⟩ := Y
  obtain ⟨hd, hn, hsl, htk, him⟩ := pz_wf_spec hw
  subst hn
  have hl1 : len = 1 := of_decide_eq_true hsl
  subst hl1
  intro H locs ls hP hS hM hL hst
  obtain ⟨v, hv, h⟩ := pz_get_spec _ _ _ h
  obtain ⟨g1, g2⟩ := pz_lg hL hv
  match v, h, g1, g2 with
  | .inl _, h, _, _ => exact h.elim
  | .inr (.inl _), h, _, _ => exact h.elim
  | .inr (.inr x), h, g1, g2 => exact lv_aload_n hx hb hd rfl g1 (hK _ _ _ _ h H locs ls hP hS hM hL (pz_all g2 hst))
theorem ps_istore (Y : pz_Y p s m args c cc own nL D ad adV cy A) {K : pz_F} (hK : ∀ pc lo st M, K pc lo st M → pz_Ok p l e R s m args below meth c cells slots Q nL D ad cy A pc lo st M) {fl : Nat → Option (Nat × Nat)} {ci : Nat → Option pz_V} {ct : Bool → Nat → Option pz_C} {Rt : Option pz_V → pz_M → Prop} {rz : Bool} {pc len nx : Nat} {tg : List Nat} {lo : pz_L} {st : List pz_V} {M : pz_M} {k : Nat}  (hw : pz_wf cc (pc, .istore k, len, nx, tg) = true) (h : pz_stp fl ci ct K Rt rz (.istore k) nx tg lo st M) : pz_Ok p l e R s m args below meth c cells slots Q nL D ad cy A pc lo st M := by
  obtain ⟨hx, hb, hml, hown, hts, hX⟩ := Y
  obtain ⟨hd, hn, hsl, htk, him⟩ := pz_wf_spec hw
  subst hn
  have hl1 : len = 2 := of_decide_eq_true hsl
  subst hl1
  intro H locs ls hP hS hM hL hst
  obtain ⟨x, r, rfl, h⟩ := pz_1_spec h
  obtain ⟨lo', h1, h2, h3, h4, h5⟩ := pz_set_spec _ _ _ _ h
  obtain ⟨c1, c2⟩ := pz_tlm hst
  exact lv_istore hx hb hd hL.has (by have := hL.2.2.1; omega) rfl (fun ls' hl' => hK _ _ _ _ h1 H locs ls' hP hS hM (pz_LV1 hL c1 h3 h4 h5 hl') c2)
theorem ps_istore_n (Y : pz_Y p s m args c cc own nL D ad adV cy A) {K : pz_F} (hK : ∀ pc lo st M, K pc lo st M → pz_Ok p l e R s m args below meth c cells slots Q nL D ad cy A pc lo st M) {fl : Nat → Option (Nat × Nat)} {ci : Nat → Option pz_V} {ct : Bool → Nat → Option pz_C} {Rt : Option pz_V → pz_M → Prop} {rz : Bool} {pc len nx : Nat} {tg : List Nat} {lo : pz_L} {st : List pz_V} {M : pz_M} {k : Fin 4}  (hw : pz_wf cc (pc, .istore_n k, len, nx, tg) = true) (h : pz_stp fl ci ct K Rt rz (.istore_n k) nx tg lo st M) : pz_Ok p l e R s m args below meth c cells slots Q nL D ad cy A pc lo st M := by
  obtain ⟨hx, hb, hml, hown, hts, hX⟩ := Y
  obtain ⟨hd, hn, hsl, htk, him⟩ := pz_wf_spec hw
  subst hn
  have hl1 : len = 1 := of_decide_eq_true hsl
  subst hl1
  intro H locs ls hP hS hM hL hst
  obtain ⟨x, r, rfl, h⟩ := pz_1_spec h
  obtain ⟨lo', h1, h2, h3, h4, h5⟩ := pz_set_spec _ _ _ _ h
  obtain ⟨c1, c2⟩ := pz_tlm hst
  exact lv_istore_n hx hb hd rfl hL.has (by have := hL.2.2.1; omega) rfl (fun ls' hl' => hK _ _ _ _ h1 H locs ls' hP hS hM (pz_LV1 hL c1 h3 h4 h5 hl') c2)
theorem ps_lstore (Y : pz_Y p s m args c cc own nL D ad adV cy A) {K : pz_F} (hK : ∀ pc lo st M, K pc lo st M → pz_Ok p l e R s m args below meth c cells slots Q nL D ad cy A pc lo st M) {fl : Nat → Option (Nat × Nat)} {ci : Nat → Option pz_V} {ct : Bool → Nat → Option pz_C} {Rt : Option pz_V → pz_M → Prop} {rz : Bool} {pc len nx : Nat} {tg : List Nat} {lo : pz_L} {st : List pz_V} {M : pz_M} {k : Nat}  (hw : pz_wf cc (pc, .lstore k, len, nx, tg) = true) (h : pz_stp fl ci ct K Rt rz (.lstore k) nx tg lo st M) : pz_Ok p l e R s m args below meth c cells slots Q nL D ad cy A pc lo st M := by
  obtain ⟨hx, hb, hml, hown, hts, hX⟩ := Y
  obtain ⟨hd, hn, hsl, htk, him⟩ := pz_wf_spec hw
  subst hn
  have hl1 : len = 2 := of_decide_eq_true hsl
  subst hl1
  intro H locs ls hP hS hM hL hst
  obtain ⟨x, r, rfl, h⟩ := pz_l1_spec h
  obtain ⟨lo', h1, h2, h3, h4, h5⟩ := pz_setl_spec _ _ _ _ h
  obtain ⟨c1, c2⟩ := pz_tlm hst
  exact lv_lstore hx hb hd hL.has (by have := hL.2.2.1; omega) rfl (fun ls' hl' => hK _ _ _ _ h1 H locs ls' hP hS hM (pz_LV2 hL c1 h3 h4 h5 hl') c2)
theorem ps_lstore_n (Y : pz_Y p s m args c cc own nL D ad adV cy A) {K : pz_F} (hK : ∀ pc lo st M, K pc lo st M → pz_Ok p l e R s m args below meth c cells slots Q nL D ad cy A pc lo st M) {fl : Nat → Option (Nat × Nat)} {ci : Nat → Option pz_V} {ct : Bool → Nat → Option pz_C} {Rt : Option pz_V → pz_M → Prop} {rz : Bool} {pc len nx : Nat} {tg : List Nat} {lo : pz_L} {st : List pz_V} {M : pz_M} {k : Fin 4}  (hw : pz_wf cc (pc, .lstore_n k, len, nx, tg) = true) (h : pz_stp fl ci ct K Rt rz (.lstore_n k) nx tg lo st M) : pz_Ok p l e R s m args below meth c cells slots Q nL D ad cy A pc lo st M := by
  obtain ⟨hx, hb, hml, hown, hts, hX⟩ := Y
  obtain ⟨hd, hn, hsl, htk, him⟩ := pz_wf_spec hw
  subst hn
  have hl1 : len = 1 := of_decide_eq_true hsl
  subst hl1
  intro H locs ls hP hS hM hL hst
  obtain ⟨x, r, rfl, h⟩ := pz_l1_spec h
  obtain ⟨lo', h1, h2, h3, h4, h5⟩ := pz_setl_spec _ _ _ _ h
  obtain ⟨c1, c2⟩ := pz_tlm hst
  exact lv_lstore_n hx hb hd rfl hL.has (by have := hL.2.2.1; omega) rfl (fun ls' hl' => hK _ _ _ _ h1 H locs ls' hP hS hM (pz_LV2 hL c1 h3 h4 h5 hl') c2)
theorem ps_astore (Y : pz_Y p s m args c cc own nL D ad adV cy A) {K : pz_F} (hK : ∀ pc lo st M, K pc lo st M → pz_Ok p l e R s m args below meth c cells slots Q nL D ad cy A pc lo st M) {fl : Nat → Option (Nat × Nat)} {ci : Nat → Option pz_V} {ct : Bool → Nat → Option pz_C} {Rt : Option pz_V → pz_M → Prop} {rz : Bool} {pc len nx : Nat} {tg : List Nat} {lo : pz_L} {st : List pz_V} {M : pz_M} {k : Nat}  (hw : pz_wf cc (pc, .astore k, len, nx, tg) = true) (h : pz_stp fl ci ct K Rt rz (.astore k) nx tg lo st M) : pz_Ok p l e R s m args below meth c cells slots Q nL D ad cy A pc lo st M := by
  obtain ⟨hx, hb, hml, hown, hts, hX⟩ := Y
  obtain ⟨hd, hn, hsl, htk, him⟩ := pz_wf_spec hw
  subst hn
  have hl1 : len = 2 := of_decide_eq_true hsl
  subst hl1
  intro H locs ls hP hS hM hL hst
  obtain ⟨kd, a, r, rfl, h⟩ := pz_r_spec h
  obtain ⟨lo', h1, h2, h3, h4, h5⟩ := pz_set_spec _ _ _ _ h
  obtain ⟨c1, c2⟩ := pz_tlm hst
  exact lv_astore hx hb hd hL.has (by have := hL.2.2.1; omega) rfl (fun ls' hl' => hK _ _ _ _ h1 H locs ls' hP hS hM (pz_LV1 hL c1 h3 h4 h5 hl') c2)
theorem ps_astore_n (Y : pz_Y p s m args c cc own nL D ad adV cy A) {K : pz_F} (hK : ∀ pc lo st M, K pc lo st M → pz_Ok p l e R s m args below meth c cells slots Q nL D ad cy A pc lo st M) {fl : Nat → Option (Nat × Nat)} {ci : Nat → Option pz_V} {ct : Bool → Nat → Option pz_C} {Rt : Option pz_V → pz_M → Prop} {rz : Bool} {pc len nx : Nat} {tg : List Nat} {lo : pz_L} {st : List pz_V} {M : pz_M} {k : Fin 4}  (hw : pz_wf cc (pc, .astore_n k, len, nx, tg) = true) (h : pz_stp fl ci ct K Rt rz (.astore_n k) nx tg lo st M) : pz_Ok p l e R s m args below meth c cells slots Q nL D ad cy A pc lo st M := by
  obtain ⟨hx, hb, hml, hown, hts, hX⟩ := Y
  obtain ⟨hd, hn, hsl, htk, him⟩ := pz_wf_spec hw
  subst hn
  have hl1 : len = 1 := of_decide_eq_true hsl
  subst hl1
  intro H locs ls hP hS hM hL hst
  obtain ⟨kd, a, r, rfl, h⟩ := pz_r_spec h
  obtain ⟨lo', h1, h2, h3, h4, h5⟩ := pz_set_spec _ _ _ _ h
  obtain ⟨c1, c2⟩ := pz_tlm hst
  exact lv_astore_n hx hb hd rfl hL.has (by have := hL.2.2.1; omega) rfl (fun ls' hl' => hK _ _ _ _ h1 H locs ls' hP hS hM (pz_LV1 hL c1 h3 h4 h5 hl') c2)
theorem ps_iinc (Y : pz_Y p s m args c cc own nL D ad adV cy A) {K : pz_F} (hK : ∀ pc lo st M, K pc lo st M → pz_Ok p l e R s m args below meth c cells slots Q nL D ad cy A pc lo st M) {fl : Nat → Option (Nat × Nat)} {ci : Nat → Option pz_V} {ct : Bool → Nat → Option pz_C} {Rt : Option pz_V → pz_M → Prop} {rz : Bool} {pc len nx : Nat} {tg : List Nat} {lo : pz_L} {st : List pz_V} {M : pz_M} {k : Nat} {n : Int}  (hw : pz_wf cc (pc, .iinc k n, len, nx, tg) = true) (h : pz_stp fl ci ct K Rt rz (.iinc k n) nx tg lo st M) : pz_Ok p l e R s m args below meth c cells slots Q nL D ad cy A pc lo st M := by
  obtain ⟨hx, hb, hml, hown, hts, hX⟩ := Y
  obtain ⟨hd, hn, hsl, htk, him⟩ := pz_wf_spec hw
  subst hn
  have hl1 : len = 3 := of_decide_eq_true hsl
  subst hl1
  intro H locs ls hP hS hM hL hst
  obtain ⟨v, hv, h⟩ := pz_get_spec _ _ _ h
  obtain ⟨g1, g2⟩ := pz_lg hL hv
  match v, hv, h, g1, g2 with
  | .inr _, _, h, _, _ => exact h.elim
  | .inl x, hv, h, g1, g2 =>
    have h := h (pz_w (x + n)) rfl (pz_wc _).1 (pz_wc _).2
    obtain ⟨lo', h1, h2, h3, h4, h5⟩ := pz_set_spec _ _ _ _ h
    obtain ⟨j, hj⟩ := pz_pos (ad := ad) hv
    exact lv_iinc hx hb hd hL.has hj (pz_add x n) (by have := hL.2.2.1; omega) rfl (fun ls' hl' => hK _ _ _ _ h1 H locs ls' hP hS hM (pz_LV1 hL (show pz_cv (.inl (pz_w (x + n))) from pz_wc _) h3 h4 h5 hl') hst)
theorem ps_iadd (Y : pz_Y p s m args c cc own nL D ad adV cy A) {K : pz_F} (hK : ∀ pc lo st M, K pc lo st M → pz_Ok p l e R s m args below meth c cells slots Q nL D ad cy A pc lo st M) {fl : Nat → Option (Nat × Nat)} {ci : Nat → Option pz_V} {ct : Bool → Nat → Option pz_C} {Rt : Option pz_V → pz_M → Prop} {rz : Bool} {pc len nx : Nat} {tg : List Nat} {lo : pz_L} {st : List pz_V} {M : pz_M}   (hw : pz_wf cc (pc, .iadd, len, nx, tg) = true) (h : pz_stp fl ci ct K Rt rz (.iadd) nx tg lo st M) : pz_Ok p l e R s m args below meth c cells slots Q nL D ad cy A pc lo st M := by
  obtain ⟨hx, hb, hml, hown, hts, hX⟩ := Y
  obtain ⟨hd, hn, hsl, htk, him⟩ := pz_wf_spec hw
  subst hn
  have hl1 : len = 1 := of_decide_eq_true hsl
  subst hl1
  intro H locs ls hP hS hM hL hst
  obtain ⟨x, y, r, rfl, h⟩ := pz_2_spec h
  obtain ⟨cy1, c2⟩ := pz_tlm hst
  obtain ⟨cx1, c3⟩ := pz_tlm c2
  have h := h (pz_w (x + y)) rfl (pz_wc _).1 (pz_wc _).2
  refine lv_iadd hx hb hd ?_
  rw [pz_add]
  exact hK _ _ _ _ h H locs ls hP hS hM hL (pz_all (pz_wc _) c3)
theorem ps_isub (Y : pz_Y p s m args c cc own nL D ad adV cy A) {K : pz_F} (hK : ∀ pc lo st M, K pc lo st M → pz_Ok p l e R s m args below meth c cells slots Q nL D ad cy A pc lo st M) {fl : Nat → Option (Nat × Nat)} {ci : Nat → Option pz_V} {ct : Bool → Nat → Option pz_C} {Rt : Option pz_V → pz_M → Prop} {rz : Bool} {pc len nx : Nat} {tg : List Nat} {lo : pz_L} {st : List pz_V} {M : pz_M}   (hw : pz_wf cc (pc, .isub, len, nx, tg) = true) (h : pz_stp fl ci ct K Rt rz (.isub) nx tg lo st M) : pz_Ok p l e R s m args below meth c cells slots Q nL D ad cy A pc lo st M := by
  obtain ⟨hx, hb, hml, hown, hts, hX⟩ := Y
  obtain ⟨hd, hn, hsl, htk, him⟩ := pz_wf_spec hw
  subst hn
  have hl1 : len = 1 := of_decide_eq_true hsl
  subst hl1
  intro H locs ls hP hS hM hL hst
  obtain ⟨x, y, r, rfl, h⟩ := pz_2_spec h
  obtain ⟨cy1, c2⟩ := pz_tlm hst
  obtain ⟨cx1, c3⟩ := pz_tlm c2
  have h := h (pz_w (x - y)) rfl (pz_wc _).1 (pz_wc _).2
  refine lv_isub hx hb hd ?_
  rw [pz_sub]
  exact hK _ _ _ _ h H locs ls hP hS hM hL (pz_all (pz_wc _) c3)
theorem ps_imul (Y : pz_Y p s m args c cc own nL D ad adV cy A) {K : pz_F} (hK : ∀ pc lo st M, K pc lo st M → pz_Ok p l e R s m args below meth c cells slots Q nL D ad cy A pc lo st M) {fl : Nat → Option (Nat × Nat)} {ci : Nat → Option pz_V} {ct : Bool → Nat → Option pz_C} {Rt : Option pz_V → pz_M → Prop} {rz : Bool} {pc len nx : Nat} {tg : List Nat} {lo : pz_L} {st : List pz_V} {M : pz_M}   (hw : pz_wf cc (pc, .imul, len, nx, tg) = true) (h : pz_stp fl ci ct K Rt rz (.imul) nx tg lo st M) : pz_Ok p l e R s m args below meth c cells slots Q nL D ad cy A pc lo st M := by
  obtain ⟨hx, hb, hml, hown, hts, hX⟩ := Y
  obtain ⟨hd, hn, hsl, htk, him⟩ := pz_wf_spec hw
  subst hn
  have hl1 : len = 1 := of_decide_eq_true hsl
  subst hl1
  intro H locs ls hP hS hM hL hst
  obtain ⟨x, y, r, rfl, h⟩ := pz_2_spec h
  obtain ⟨cy1, c2⟩ := pz_tlm hst
  obtain ⟨cx1, c3⟩ := pz_tlm c2
  have h := h (pz_w (x * y)) rfl (pz_wc _).1 (pz_wc _).2
  refine lv_imul hx hb hd ?_
  rw [pz_mul]
  exact hK _ _ _ _ h H locs ls hP hS hM hL (pz_all (pz_wc _) c3)
theorem ps_idiv (Y : pz_Y p s m args c cc own nL D ad adV cy A) {K : pz_F} (hK : ∀ pc lo st M, K pc lo st M → pz_Ok p l e R s m args below meth c cells slots Q nL D ad cy A pc lo st M) {fl : Nat → Option (Nat × Nat)} {ci : Nat → Option pz_V} {ct : Bool → Nat → Option pz_C} {Rt : Option pz_V → pz_M → Prop} {rz : Bool} {pc len nx : Nat} {tg : List Nat} {lo : pz_L} {st : List pz_V} {M : pz_M}   (hw : pz_wf cc (pc, .idiv, len, nx, tg) = true) (h : pz_stp fl ci ct K Rt rz (.idiv) nx tg lo st M) : pz_Ok p l e R s m args below meth c cells slots Q nL D ad cy A pc lo st M := by
  obtain ⟨hx, hb, hml, hown, hts, hX⟩ := Y
  obtain ⟨hd, hn, hsl, htk, him⟩ := pz_wf_spec hw
  subst hn
  have hl1 : len = 1 := of_decide_eq_true hsl
  subst hl1
  intro H locs ls hP hS hM hL hst
  obtain ⟨x, y, r, rfl, h⟩ := pz_2_spec h
  obtain ⟨cy1, c2⟩ := pz_tlm hst
  obtain ⟨cx1, c3⟩ := pz_tlm c2
  have h2 := h.2 (pz_w (x.tdiv y)) rfl (pz_wc _).1 (pz_wc _).2
  refine lv_idiv hx hb hd (pz_ne0 cy1 h.1) ?_
  rw [pz_div cx1 cy1]
  exact hK _ _ _ _ h2 H locs ls hP hS hM hL (pz_all (pz_wc _) c3)
theorem ps_irem (Y : pz_Y p s m args c cc own nL D ad adV cy A) {K : pz_F} (hK : ∀ pc lo st M, K pc lo st M → pz_Ok p l e R s m args below meth c cells slots Q nL D ad cy A pc lo st M) {fl : Nat → Option (Nat × Nat)} {ci : Nat → Option pz_V} {ct : Bool → Nat → Option pz_C} {Rt : Option pz_V → pz_M → Prop} {rz : Bool} {pc len nx : Nat} {tg : List Nat} {lo : pz_L} {st : List pz_V} {M : pz_M}   (hw : pz_wf cc (pc, .irem, len, nx, tg) = true) (h : pz_stp fl ci ct K Rt rz (.irem) nx tg lo st M) : pz_Ok p l e R s m args below meth c cells slots Q nL D ad cy A pc lo st M := by
  obtain ⟨hx, hb, hml, hown, hts, hX⟩ := Y
  obtain ⟨hd, hn, hsl, htk, him⟩ := pz_wf_spec hw
  subst hn
  have hl1 : len = 1 := of_decide_eq_true hsl
  subst hl1
  intro H locs ls hP hS hM hL hst
  obtain ⟨x, y, r, rfl, h⟩ := pz_2_spec h
  obtain ⟨cy1, c2⟩ := pz_tlm hst
  obtain ⟨cx1, c3⟩ := pz_tlm c2
  have h2 := h.2 (pz_w (x.tmod y)) rfl (pz_wc _).1 (pz_wc _).2
  refine lv_irem hx hb hd (pz_ne0 cy1 h.1) ?_
  rw [pz_rem cx1 cy1]
  exact hK _ _ _ _ h2 H locs ls hP hS hM hL (pz_all (pz_wc _) c3)
theorem ps_iand (Y : pz_Y p s m args c cc own nL D ad adV cy A) {K : pz_F} (hK : ∀ pc lo st M, K pc lo st M → pz_Ok p l e R s m args below meth c cells slots Q nL D ad cy A pc lo st M) {fl : Nat → Option (Nat × Nat)} {ci : Nat → Option pz_V} {ct : Bool → Nat → Option pz_C} {Rt : Option pz_V → pz_M → Prop} {rz : Bool} {pc len nx : Nat} {tg : List Nat} {lo : pz_L} {st : List pz_V} {M : pz_M}   (hw : pz_wf cc (pc, .iand, len, nx, tg) = true) (h : pz_stp fl ci ct K Rt rz (.iand) nx tg lo st M) : pz_Ok p l e R s m args below meth c cells slots Q nL D ad cy A pc lo st M := by
  obtain ⟨hx, hb, hml, hown, hts, hX⟩ := Y
  obtain ⟨hd, hn, hsl, htk, him⟩ := pz_wf_spec hw
  subst hn
  have hl1 : len = 1 := of_decide_eq_true hsl
  subst hl1
  intro H locs ls hP hS hM hL hst
  obtain ⟨x, y, r, rfl, h⟩ := pz_2_spec h
  obtain ⟨cy1, c2⟩ := pz_tlm hst
  obtain ⟨cx1, c3⟩ := pz_tlm c2
  have h := h _ rfl (pz_tc _).1 (pz_tc _).2
  refine lv_iand hx hb hd ?_
  have h := hK _ _ _ _ h H locs ls hP hS hM hL (pz_all (pz_tc _) c3)
  rw [List.map_cons] at h
  simp only [pz_v, Int32.ofInt_toInt] at h
  exact h
theorem ps_ior (Y : pz_Y p s m args c cc own nL D ad adV cy A) {K : pz_F} (hK : ∀ pc lo st M, K pc lo st M → pz_Ok p l e R s m args below meth c cells slots Q nL D ad cy A pc lo st M) {fl : Nat → Option (Nat × Nat)} {ci : Nat → Option pz_V} {ct : Bool → Nat → Option pz_C} {Rt : Option pz_V → pz_M → Prop} {rz : Bool} {pc len nx : Nat} {tg : List Nat} {lo : pz_L} {st : List pz_V} {M : pz_M}   (hw : pz_wf cc (pc, .ior, len, nx, tg) = true) (h : pz_stp fl ci ct K Rt rz (.ior) nx tg lo st M) : pz_Ok p l e R s m args below meth c cells slots Q nL D ad cy A pc lo st M := by
  obtain ⟨hx, hb, hml, hown, hts, hX⟩ := Y
  obtain ⟨hd, hn, hsl, htk, him⟩ := pz_wf_spec hw
  subst hn
  have hl1 : len = 1 := of_decide_eq_true hsl
  subst hl1
  intro H locs ls hP hS hM hL hst
  obtain ⟨x, y, r, rfl, h⟩ := pz_2_spec h
  obtain ⟨cy1, c2⟩ := pz_tlm hst
  obtain ⟨cx1, c3⟩ := pz_tlm c2
  have h := h _ rfl (pz_tc _).1 (pz_tc _).2
  refine lv_ior hx hb hd ?_
  have h := hK _ _ _ _ h H locs ls hP hS hM hL (pz_all (pz_tc _) c3)
  rw [List.map_cons] at h
  simp only [pz_v, Int32.ofInt_toInt] at h
  exact h
theorem ps_ixor (Y : pz_Y p s m args c cc own nL D ad adV cy A) {K : pz_F} (hK : ∀ pc lo st M, K pc lo st M → pz_Ok p l e R s m args below meth c cells slots Q nL D ad cy A pc lo st M) {fl : Nat → Option (Nat × Nat)} {ci : Nat → Option pz_V} {ct : Bool → Nat → Option pz_C} {Rt : Option pz_V → pz_M → Prop} {rz : Bool} {pc len nx : Nat} {tg : List Nat} {lo : pz_L} {st : List pz_V} {M : pz_M}   (hw : pz_wf cc (pc, .ixor, len, nx, tg) = true) (h : pz_stp fl ci ct K Rt rz (.ixor) nx tg lo st M) : pz_Ok p l e R s m args below meth c cells slots Q nL D ad cy A pc lo st M := by
  obtain ⟨hx, hb, hml, hown, hts, hX⟩ := Y
  obtain ⟨hd, hn, hsl, htk, him⟩ := pz_wf_spec hw
  subst hn
  have hl1 : len = 1 := of_decide_eq_true hsl
  subst hl1
  intro H locs ls hP hS hM hL hst
  obtain ⟨x, y, r, rfl, h⟩ := pz_2_spec h
  obtain ⟨cy1, c2⟩ := pz_tlm hst
  obtain ⟨cx1, c3⟩ := pz_tlm c2
  have h := h _ rfl (pz_tc _).1 (pz_tc _).2
  refine lv_ixor hx hb hd ?_
  have h := hK _ _ _ _ h H locs ls hP hS hM hL (pz_all (pz_tc _) c3)
  rw [List.map_cons] at h
  simp only [pz_v, Int32.ofInt_toInt] at h
  exact h
theorem ps_ishl (Y : pz_Y p s m args c cc own nL D ad adV cy A) {K : pz_F} (hK : ∀ pc lo st M, K pc lo st M → pz_Ok p l e R s m args below meth c cells slots Q nL D ad cy A pc lo st M) {fl : Nat → Option (Nat × Nat)} {ci : Nat → Option pz_V} {ct : Bool → Nat → Option pz_C} {Rt : Option pz_V → pz_M → Prop} {rz : Bool} {pc len nx : Nat} {tg : List Nat} {lo : pz_L} {st : List pz_V} {M : pz_M}   (hw : pz_wf cc (pc, .ishl, len, nx, tg) = true) (h : pz_stp fl ci ct K Rt rz (.ishl) nx tg lo st M) : pz_Ok p l e R s m args below meth c cells slots Q nL D ad cy A pc lo st M := by
  obtain ⟨hx, hb, hml, hown, hts, hX⟩ := Y
  obtain ⟨hd, hn, hsl, htk, him⟩ := pz_wf_spec hw
  subst hn
  have hl1 : len = 1 := of_decide_eq_true hsl
  subst hl1
  intro H locs ls hP hS hM hL hst
  obtain ⟨x, y, r, rfl, h⟩ := pz_2_spec h
  obtain ⟨cy1, c2⟩ := pz_tlm hst
  obtain ⟨cx1, c3⟩ := pz_tlm c2
  have h := h _ rfl (pz_tc _).1 (pz_tc _).2
  refine lv_ishl hx hb hd ?_
  have h := hK _ _ _ _ h H locs ls hP hS hM hL (pz_all (pz_tc _) c3)
  rw [List.map_cons] at h
  simp only [pz_v, Int32.ofInt_toInt] at h
  exact h
theorem ps_ishr (Y : pz_Y p s m args c cc own nL D ad adV cy A) {K : pz_F} (hK : ∀ pc lo st M, K pc lo st M → pz_Ok p l e R s m args below meth c cells slots Q nL D ad cy A pc lo st M) {fl : Nat → Option (Nat × Nat)} {ci : Nat → Option pz_V} {ct : Bool → Nat → Option pz_C} {Rt : Option pz_V → pz_M → Prop} {rz : Bool} {pc len nx : Nat} {tg : List Nat} {lo : pz_L} {st : List pz_V} {M : pz_M}   (hw : pz_wf cc (pc, .ishr, len, nx, tg) = true) (h : pz_stp fl ci ct K Rt rz (.ishr) nx tg lo st M) : pz_Ok p l e R s m args below meth c cells slots Q nL D ad cy A pc lo st M := by
  obtain ⟨hx, hb, hml, hown, hts, hX⟩ := Y
  obtain ⟨hd, hn, hsl, htk, him⟩ := pz_wf_spec hw
  subst hn
  have hl1 : len = 1 := of_decide_eq_true hsl
  subst hl1
  intro H locs ls hP hS hM hL hst
  obtain ⟨x, y, r, rfl, h⟩ := pz_2_spec h
  obtain ⟨cy1, c2⟩ := pz_tlm hst
  obtain ⟨cx1, c3⟩ := pz_tlm c2
  have h := h _ rfl (pz_tc _).1 (pz_tc _).2
  refine lv_ishr hx hb hd ?_
  have h := hK _ _ _ _ h H locs ls hP hS hM hL (pz_all (pz_tc _) c3)
  rw [List.map_cons] at h
  simp only [pz_v, Int32.ofInt_toInt] at h
  exact h
theorem ps_iushr (Y : pz_Y p s m args c cc own nL D ad adV cy A) {K : pz_F} (hK : ∀ pc lo st M, K pc lo st M → pz_Ok p l e R s m args below meth c cells slots Q nL D ad cy A pc lo st M) {fl : Nat → Option (Nat × Nat)} {ci : Nat → Option pz_V} {ct : Bool → Nat → Option pz_C} {Rt : Option pz_V → pz_M → Prop} {rz : Bool} {pc len nx : Nat} {tg : List Nat} {lo : pz_L} {st : List pz_V} {M : pz_M}   (hw : pz_wf cc (pc, .iushr, len, nx, tg) = true) (h : pz_stp fl ci ct K Rt rz (.iushr) nx tg lo st M) : pz_Ok p l e R s m args below meth c cells slots Q nL D ad cy A pc lo st M := by
  obtain ⟨hx, hb, hml, hown, hts, hX⟩ := Y
  obtain ⟨hd, hn, hsl, htk, him⟩ := pz_wf_spec hw
  subst hn
  have hl1 : len = 1 := of_decide_eq_true hsl
  subst hl1
  intro H locs ls hP hS hM hL hst
  obtain ⟨x, y, r, rfl, h⟩ := pz_2_spec h
  obtain ⟨cy1, c2⟩ := pz_tlm hst
  obtain ⟨cx1, c3⟩ := pz_tlm c2
  have h := h _ rfl (pz_tc _).1 (pz_tc _).2
  refine lv_iushr hx hb hd rfl ?_
  have h := hK _ _ _ _ h H locs ls hP hS hM hL (pz_all (pz_tc _) c3)
  rw [List.map_cons] at h
  simp only [pz_v, Int32.ofInt_toInt] at h
  exact h
theorem ps_i2b (Y : pz_Y p s m args c cc own nL D ad adV cy A) {K : pz_F} (hK : ∀ pc lo st M, K pc lo st M → pz_Ok p l e R s m args below meth c cells slots Q nL D ad cy A pc lo st M) {fl : Nat → Option (Nat × Nat)} {ci : Nat → Option pz_V} {ct : Bool → Nat → Option pz_C} {Rt : Option pz_V → pz_M → Prop} {rz : Bool} {pc len nx : Nat} {tg : List Nat} {lo : pz_L} {st : List pz_V} {M : pz_M}   (hw : pz_wf cc (pc, .i2b, len, nx, tg) = true) (h : pz_stp fl ci ct K Rt rz (.i2b) nx tg lo st M) : pz_Ok p l e R s m args below meth c cells slots Q nL D ad cy A pc lo st M := by
  obtain ⟨hx, hb, hml, hown, hts, hX⟩ := Y
  obtain ⟨hd, hn, hsl, htk, him⟩ := pz_wf_spec hw
  subst hn
  have hl1 : len = 1 := of_decide_eq_true hsl
  subst hl1
  intro H locs ls hP hS hM hL hst
  obtain ⟨x, r, rfl, h⟩ := pz_1_spec h
  obtain ⟨c1, c2⟩ := pz_tlm hst
  have h := h _ rfl (pz_tc _).1 (pz_tc _).2
  refine lv_i2b hx hb hd rfl ?_
  have h := hK _ _ _ _ h H locs ls hP hS hM hL (pz_all (pz_tc _) c2)
  rw [List.map_cons] at h
  simp only [pz_v, Int32.ofInt_toInt] at h
  exact h
theorem ps_i2l (Y : pz_Y p s m args c cc own nL D ad adV cy A) {K : pz_F} (hK : ∀ pc lo st M, K pc lo st M → pz_Ok p l e R s m args below meth c cells slots Q nL D ad cy A pc lo st M) {fl : Nat → Option (Nat × Nat)} {ci : Nat → Option pz_V} {ct : Bool → Nat → Option pz_C} {Rt : Option pz_V → pz_M → Prop} {rz : Bool} {pc len nx : Nat} {tg : List Nat} {lo : pz_L} {st : List pz_V} {M : pz_M}   (hw : pz_wf cc (pc, .i2l, len, nx, tg) = true) (h : pz_stp fl ci ct K Rt rz (.i2l) nx tg lo st M) : pz_Ok p l e R s m args below meth c cells slots Q nL D ad cy A pc lo st M := by
  obtain ⟨hx, hb, hml, hown, hts, hX⟩ := Y
  obtain ⟨hd, hn, hsl, htk, him⟩ := pz_wf_spec hw
  subst hn
  have hl1 : len = 1 := of_decide_eq_true hsl
  subst hl1
  intro H locs ls hP hS hM hL hst
  obtain ⟨x, r, rfl, h⟩ := pz_1_spec h
  obtain ⟨c1, c2⟩ := pz_tlm hst
  exact lv_i2l hx hb hd (pz_i2l c1) (hK _ _ _ _ h H locs ls hP hS hM hL (pz_all (show pz_cl x from ⟨by have := c1.1; omega, by have := c1.2; omega⟩) c2))
theorem ps_l2i (Y : pz_Y p s m args c cc own nL D ad adV cy A) {K : pz_F} (hK : ∀ pc lo st M, K pc lo st M → pz_Ok p l e R s m args below meth c cells slots Q nL D ad cy A pc lo st M) {fl : Nat → Option (Nat × Nat)} {ci : Nat → Option pz_V} {ct : Bool → Nat → Option pz_C} {Rt : Option pz_V → pz_M → Prop} {rz : Bool} {pc len nx : Nat} {tg : List Nat} {lo : pz_L} {st : List pz_V} {M : pz_M}   (hw : pz_wf cc (pc, .l2i, len, nx, tg) = true) (h : pz_stp fl ci ct K Rt rz (.l2i) nx tg lo st M) : pz_Ok p l e R s m args below meth c cells slots Q nL D ad cy A pc lo st M := by
  obtain ⟨hx, hb, hml, hown, hts, hX⟩ := Y
  obtain ⟨hd, hn, hsl, htk, him⟩ := pz_wf_spec hw
  subst hn
  have hl1 : len = 1 := of_decide_eq_true hsl
  subst hl1
  intro H locs ls hP hS hM hL hst
  obtain ⟨x, r, rfl, h⟩ := pz_l1_spec h
  obtain ⟨c1, c2⟩ := pz_tlm hst
  have h := h _ rfl (pz_wc _).1 (pz_wc _).2
  exact lv_l2i hx hb hd (pz_l2i c1) (hK _ _ _ _ h H locs ls hP hS hM hL (pz_all (pz_wc _) c2))
theorem ps_ladd (Y : pz_Y p s m args c cc own nL D ad adV cy A) {K : pz_F} (hK : ∀ pc lo st M, K pc lo st M → pz_Ok p l e R s m args below meth c cells slots Q nL D ad cy A pc lo st M) {fl : Nat → Option (Nat × Nat)} {ci : Nat → Option pz_V} {ct : Bool → Nat → Option pz_C} {Rt : Option pz_V → pz_M → Prop} {rz : Bool} {pc len nx : Nat} {tg : List Nat} {lo : pz_L} {st : List pz_V} {M : pz_M}   (hw : pz_wf cc (pc, .ladd, len, nx, tg) = true) (h : pz_stp fl ci ct K Rt rz (.ladd) nx tg lo st M) : pz_Ok p l e R s m args below meth c cells slots Q nL D ad cy A pc lo st M := by
  obtain ⟨hx, hb, hml, hown, hts, hX⟩ := Y
  obtain ⟨hd, hn, hsl, htk, him⟩ := pz_wf_spec hw
  subst hn
  have hl1 : len = 1 := of_decide_eq_true hsl
  subst hl1
  intro H locs ls hP hS hM hL hst
  obtain ⟨x, y, r, rfl, h⟩ := pz_l2_spec h
  obtain ⟨cy1, c2⟩ := pz_tlm hst
  obtain ⟨cx1, c3⟩ := pz_tlm c2
  have h := h (pz_wl (x + y)) rfl (pz_wlc _).1 (pz_wlc _).2
  refine lv_ladd hx hb hd ?_
  rw [pz_ladd]
  exact hK _ _ _ _ h H locs ls hP hS hM hL (pz_all (pz_wlc _) c3)
theorem ps_lsub (Y : pz_Y p s m args c cc own nL D ad adV cy A) {K : pz_F} (hK : ∀ pc lo st M, K pc lo st M → pz_Ok p l e R s m args below meth c cells slots Q nL D ad cy A pc lo st M) {fl : Nat → Option (Nat × Nat)} {ci : Nat → Option pz_V} {ct : Bool → Nat → Option pz_C} {Rt : Option pz_V → pz_M → Prop} {rz : Bool} {pc len nx : Nat} {tg : List Nat} {lo : pz_L} {st : List pz_V} {M : pz_M}   (hw : pz_wf cc (pc, .lsub, len, nx, tg) = true) (h : pz_stp fl ci ct K Rt rz (.lsub) nx tg lo st M) : pz_Ok p l e R s m args below meth c cells slots Q nL D ad cy A pc lo st M := by
  obtain ⟨hx, hb, hml, hown, hts, hX⟩ := Y
  obtain ⟨hd, hn, hsl, htk, him⟩ := pz_wf_spec hw
  subst hn
  have hl1 : len = 1 := of_decide_eq_true hsl
  subst hl1
  intro H locs ls hP hS hM hL hst
  obtain ⟨x, y, r, rfl, h⟩ := pz_l2_spec h
  obtain ⟨cy1, c2⟩ := pz_tlm hst
  obtain ⟨cx1, c3⟩ := pz_tlm c2
  have h := h (pz_wl (x - y)) rfl (pz_wlc _).1 (pz_wlc _).2
  refine lv_lsub hx hb hd ?_
  rw [pz_lsub]
  exact hK _ _ _ _ h H locs ls hP hS hM hL (pz_all (pz_wlc _) c3)
theorem ps_lmul (Y : pz_Y p s m args c cc own nL D ad adV cy A) {K : pz_F} (hK : ∀ pc lo st M, K pc lo st M → pz_Ok p l e R s m args below meth c cells slots Q nL D ad cy A pc lo st M) {fl : Nat → Option (Nat × Nat)} {ci : Nat → Option pz_V} {ct : Bool → Nat → Option pz_C} {Rt : Option pz_V → pz_M → Prop} {rz : Bool} {pc len nx : Nat} {tg : List Nat} {lo : pz_L} {st : List pz_V} {M : pz_M}   (hw : pz_wf cc (pc, .lmul, len, nx, tg) = true) (h : pz_stp fl ci ct K Rt rz (.lmul) nx tg lo st M) : pz_Ok p l e R s m args below meth c cells slots Q nL D ad cy A pc lo st M := by
  obtain ⟨hx, hb, hml, hown, hts, hX⟩ := Y
  obtain ⟨hd, hn, hsl, htk, him⟩ := pz_wf_spec hw
  subst hn
  have hl1 : len = 1 := of_decide_eq_true hsl
  subst hl1
  intro H locs ls hP hS hM hL hst
  obtain ⟨x, y, r, rfl, h⟩ := pz_l2_spec h
  obtain ⟨cy1, c2⟩ := pz_tlm hst
  obtain ⟨cx1, c3⟩ := pz_tlm c2
  have h := h (pz_wl (x * y)) rfl (pz_wlc _).1 (pz_wlc _).2
  refine lv_lmul hx hb hd ?_
  rw [pz_lmul]
  exact hK _ _ _ _ h H locs ls hP hS hM hL (pz_all (pz_wlc _) c3)
theorem ps_ldiv (Y : pz_Y p s m args c cc own nL D ad adV cy A) {K : pz_F} (hK : ∀ pc lo st M, K pc lo st M → pz_Ok p l e R s m args below meth c cells slots Q nL D ad cy A pc lo st M) {fl : Nat → Option (Nat × Nat)} {ci : Nat → Option pz_V} {ct : Bool → Nat → Option pz_C} {Rt : Option pz_V → pz_M → Prop} {rz : Bool} {pc len nx : Nat} {tg : List Nat} {lo : pz_L} {st : List pz_V} {M : pz_M}   (hw : pz_wf cc (pc, .ldiv, len, nx, tg) = true) (h : pz_stp fl ci ct K Rt rz (.ldiv) nx tg lo st M) : pz_Ok p l e R s m args below meth c cells slots Q nL D ad cy A pc lo st M := by
  obtain ⟨hx, hb, hml, hown, hts, hX⟩ := Y
  obtain ⟨hd, hn, hsl, htk, him⟩ := pz_wf_spec hw
  subst hn
  have hl1 : len = 1 := of_decide_eq_true hsl
  subst hl1
  intro H locs ls hP hS hM hL hst
  obtain ⟨x, y, r, rfl, h⟩ := pz_l2_spec h
  obtain ⟨cy1, c2⟩ := pz_tlm hst
  obtain ⟨cx1, c3⟩ := pz_tlm c2
  have h2 := h.2 (pz_wl (x.tdiv y)) rfl (pz_wlc _).1 (pz_wlc _).2
  refine lv_ldiv hx hb hd (pz_lne0 cy1 h.1) ?_
  rw [pz_ldiv cx1 cy1]
  exact hK _ _ _ _ h2 H locs ls hP hS hM hL (pz_all (pz_wlc _) c3)
theorem ps_lcmp (Y : pz_Y p s m args c cc own nL D ad adV cy A) {K : pz_F} (hK : ∀ pc lo st M, K pc lo st M → pz_Ok p l e R s m args below meth c cells slots Q nL D ad cy A pc lo st M) {fl : Nat → Option (Nat × Nat)} {ci : Nat → Option pz_V} {ct : Bool → Nat → Option pz_C} {Rt : Option pz_V → pz_M → Prop} {rz : Bool} {pc len nx : Nat} {tg : List Nat} {lo : pz_L} {st : List pz_V} {M : pz_M}   (hw : pz_wf cc (pc, .lcmp, len, nx, tg) = true) (h : pz_stp fl ci ct K Rt rz (.lcmp) nx tg lo st M) : pz_Ok p l e R s m args below meth c cells slots Q nL D ad cy A pc lo st M := by
  obtain ⟨hx, hb, hml, hown, hts, hX⟩ := Y
  obtain ⟨hd, hn, hsl, htk, him⟩ := pz_wf_spec hw
  subst hn
  have hl1 : len = 1 := of_decide_eq_true hsl
  subst hl1
  intro H locs ls hP hS hM hL hst
  obtain ⟨x, y, r, rfl, h⟩ := pz_l2_spec h
  obtain ⟨cy1, c2⟩ := pz_tlm hst
  obtain ⟨cx1, c3⟩ := pz_tlm c2
  refine W.lcmp hx hb hd ?_
  obtain ⟨e1, e2, e3⟩ := pz_lcmp cx1 cy1
  rcases Int.lt_trichotomy x y with q | q | q
  · rw [e1 q]
    exact hK _ _ _ _ (h.1 q) H locs ls hP hS hM hL (pz_all (show pz_c (-1) by unfold pz_c; omega) c3)
  · rw [e2 q]
    exact hK _ _ _ _ (h.2.1 q) H locs ls hP hS hM hL (pz_all (show pz_c 0 by unfold pz_c; omega) c3)
  · rw [e3 q]
    exact hK _ _ _ _ (h.2.2 q) H locs ls hP hS hM hL (pz_all (show pz_c 1 by unfold pz_c; omega) c3)
theorem ps_dup (Y : pz_Y p s m args c cc own nL D ad adV cy A) {K : pz_F} (hK : ∀ pc lo st M, K pc lo st M → pz_Ok p l e R s m args below meth c cells slots Q nL D ad cy A pc lo st M) {fl : Nat → Option (Nat × Nat)} {ci : Nat → Option pz_V} {ct : Bool → Nat → Option pz_C} {Rt : Option pz_V → pz_M → Prop} {rz : Bool} {pc len nx : Nat} {tg : List Nat} {lo : pz_L} {st : List pz_V} {M : pz_M}   (hw : pz_wf cc (pc, .dup, len, nx, tg) = true) (h : pz_stp fl ci ct K Rt rz (.dup) nx tg lo st M) : pz_Ok p l e R s m args below meth c cells slots Q nL D ad cy A pc lo st M := by
  obtain ⟨hx, hb, hml, hown, hts, hX⟩ := Y
  obtain ⟨hd, hn, hsl, htk, him⟩ := pz_wf_spec hw
  subst hn
  have hl1 : len = 1 := of_decide_eq_true hsl
  subst hl1
  intro H locs ls hP hS hM hL hst
  match st, h, hst with
  | [], h, _ => exact h.elim
  | v :: r, h, hst =>
    obtain ⟨h1, h2⟩ := pz_b_spec h
    obtain ⟨c1, c2⟩ := pz_tlm hst
    exact lv_dup hx hb hd (by rw [pz_v_cat]; exact Nat.eq_of_beq_eq_true h1) (hK _ _ _ _ h2 H locs ls hP hS hM hL (pz_all c1 (pz_all c1 c2)))
theorem ps_pop (Y : pz_Y p s m args c cc own nL D ad adV cy A) {K : pz_F} (hK : ∀ pc lo st M, K pc lo st M → pz_Ok p l e R s m args below meth c cells slots Q nL D ad cy A pc lo st M) {fl : Nat → Option (Nat × Nat)} {ci : Nat → Option pz_V} {ct : Bool → Nat → Option pz_C} {Rt : Option pz_V → pz_M → Prop} {rz : Bool} {pc len nx : Nat} {tg : List Nat} {lo : pz_L} {st : List pz_V} {M : pz_M}   (hw : pz_wf cc (pc, .pop, len, nx, tg) = true) (h : pz_stp fl ci ct K Rt rz (.pop) nx tg lo st M) : pz_Ok p l e R s m args below meth c cells slots Q nL D ad cy A pc lo st M := by
  obtain ⟨hx, hb, hml, hown, hts, hX⟩ := Y
  obtain ⟨hd, hn, hsl, htk, him⟩ := pz_wf_spec hw
  subst hn
  have hl1 : len = 1 := of_decide_eq_true hsl
  subst hl1
  intro H locs ls hP hS hM hL hst
  match st, h, hst with
  | [], h, _ => exact h.elim
  | v :: r, h, hst =>
    obtain ⟨h1, h2⟩ := pz_b_spec h
    obtain ⟨c1, c2⟩ := pz_tlm hst
    exact lv_pop hx hb hd (by rw [pz_v_cat]; exact Nat.eq_of_beq_eq_true h1) (hK _ _ _ _ h2 H locs ls hP hS hM hL c2)
theorem ps_dup2 (Y : pz_Y p s m args c cc own nL D ad adV cy A) {K : pz_F} (hK : ∀ pc lo st M, K pc lo st M → pz_Ok p l e R s m args below meth c cells slots Q nL D ad cy A pc lo st M) {fl : Nat → Option (Nat × Nat)} {ci : Nat → Option pz_V} {ct : Bool → Nat → Option pz_C} {Rt : Option pz_V → pz_M → Prop} {rz : Bool} {pc len nx : Nat} {tg : List Nat} {lo : pz_L} {st : List pz_V} {M : pz_M}   (hw : pz_wf cc (pc, .dup2, len, nx, tg) = true) (h : pz_stp fl ci ct K Rt rz (.dup2) nx tg lo st M) : pz_Ok p l e R s m args below meth c cells slots Q nL D ad cy A pc lo st M := by
  obtain ⟨hx, hb, hml, hown, hts, hX⟩ := Y
  obtain ⟨hd, hn, hsl, htk, him⟩ := pz_wf_spec hw
  subst hn
  have hl1 : len = 1 := of_decide_eq_true hsl
  subst hl1
  intro H locs ls hP hS hM hL hst
  match st, h, hst with
  | [], h, _ => exact h.elim
  | [v], h, _ => exact h.elim
  | v :: u :: r, h, hst =>
    obtain ⟨h1, h⟩ := pz_b_spec h
    obtain ⟨h2, h⟩ := pz_b_spec h
    obtain ⟨c1, c2⟩ := pz_tlm hst
    obtain ⟨d1, d2⟩ := pz_tlm c2
    exact lv_dup2_11 hx hb hd (by rw [pz_v_cat]; exact Nat.eq_of_beq_eq_true h1) (by rw [pz_v_cat]; exact Nat.eq_of_beq_eq_true h2) (hK _ _ _ _ h H locs ls hP hS hM hL (pz_all c1 (pz_all d1 (pz_all c1 (pz_all d1 d2)))))
theorem ps_goto (Y : pz_Y p s m args c cc own nL D ad adV cy A) {K : pz_F} (hK : ∀ pc lo st M, K pc lo st M → pz_Ok p l e R s m args below meth c cells slots Q nL D ad cy A pc lo st M) {fl : Nat → Option (Nat × Nat)} {ci : Nat → Option pz_V} {ct : Bool → Nat → Option pz_C} {Rt : Option pz_V → pz_M → Prop} {rz : Bool} {pc len nx : Nat} {tg : List Nat} {lo : pz_L} {st : List pz_V} {M : pz_M} {o : Int}  (hw : pz_wf cc (pc, .goto o, len, nx, tg) = true) (h : pz_stp fl ci ct K Rt rz (.goto o) nx tg lo st M) : pz_Ok p l e R s m args below meth c cells slots Q nL D ad cy A pc lo st M := by
  obtain ⟨hx, hb, hml, hown, hts, hX⟩ := Y
  obtain ⟨hd, hn, hsl, htk, him⟩ := pz_wf_spec hw
  subst hn
  have hl1 : len = 3 := of_decide_eq_true hsl
  subst hl1
  intro H locs ls hP hS hM hL hst
  match tg, htk, h with
  | [], htk, h => exact h.elim
  | _ :: _ :: _, htk, h => simp [pz_tok] at htk
  | [t], htk, h =>
    simp only [pz_tok, decide_eq_true_eq] at htk
    exact lv_goto hx hb hd htk (hK _ _ _ _ h H locs ls hP hS hM hL hst)
theorem ps_ifCond (Y : pz_Y p s m args c cc own nL D ad adV cy A) {K : pz_F} (hK : ∀ pc lo st M, K pc lo st M → pz_Ok p l e R s m args below meth c cells slots Q nL D ad cy A pc lo st M) {fl : Nat → Option (Nat × Nat)} {ci : Nat → Option pz_V} {ct : Bool → Nat → Option pz_C} {Rt : Option pz_V → pz_M → Prop} {rz : Bool} {pc len nx : Nat} {tg : List Nat} {lo : pz_L} {st : List pz_V} {M : pz_M} {b : Jvm.ClassFile.Cond} {o : Int}  (hw : pz_wf cc (pc, .ifCond b o, len, nx, tg) = true) (h : pz_stp fl ci ct K Rt rz (.ifCond b o) nx tg lo st M) : pz_Ok p l e R s m args below meth c cells slots Q nL D ad cy A pc lo st M := by
  obtain ⟨hx, hb, hml, hown, hts, hX⟩ := Y
  obtain ⟨hd, hn, hsl, htk, him⟩ := pz_wf_spec hw
  subst hn
  have hl1 : len = 3 := of_decide_eq_true hsl
  subst hl1
  intro H locs ls hP hS hM hL hst
  match tg, htk, h with
  | [], htk, h => exact h.elim
  | _ :: _ :: _, htk, h => simp [pz_tok] at htk
  | [t], htk, h =>
    have htk2 : (pc : Int) + o = (t : Int) := of_decide_eq_true htk
    clear htk
    obtain ⟨x, r, rfl, h⟩ := pz_1_spec h
    obtain ⟨cx1, c2⟩ := pz_tlm hst
    have c0 : pz_c 0 := by unfold pz_c; omega
    have e0 : (0 : Int32) = Int32.ofInt 0 := rfl
    cases b with
    | eq => exact lv_if_eq hx hb hd htk2 (fun q => hK _ _ _ _ (h.1 ((pz_eq cx1 c0).mp q)) H locs ls hP hS hM hL c2) (fun q => hK _ _ _ _ (h.2 (fun z => q ((pz_eq cx1 c0).mpr z))) H locs ls hP hS hM hL c2)
    | ne => exact lv_if_ne hx hb hd htk2 (fun q => hK _ _ _ _ (h.1 (fun z => q ((pz_eq cx1 c0).mpr z))) H locs ls hP hS hM hL c2) (fun q => hK _ _ _ _ (h.2 ((pz_eq cx1 c0).mp q)) H locs ls hP hS hM hL c2)
    | lt => exact lv_if_lt hx hb hd htk2 (fun q => hK _ _ _ _ (h.1 ((pz_lt cx1 c0).mp q)) H locs ls hP hS hM hL c2) (fun q => hK _ _ _ _ (h.2 (fun z => q ((pz_lt cx1 c0).mpr z))) H locs ls hP hS hM hL c2)
    | ge => exact lv_if_ge hx hb hd htk2 (fun q => hK _ _ _ _ (h.1 (by have := (pz_le c0 cx1).mp q; omega)) H locs ls hP hS hM hL c2) (fun q => hK _ _ _ _ (h.2 (Int.lt_of_not_ge (fun z => q ((pz_le c0 cx1).mpr z)))) H locs ls hP hS hM hL c2)
    | gt => exact lv_if_gt hx hb hd htk2 (fun q => hK _ _ _ _ (h.1 ((pz_lt c0 cx1).mp q)) H locs ls hP hS hM hL c2) (fun q => hK _ _ _ _ (h.2 (fun z => q ((pz_lt c0 cx1).mpr z))) H locs ls hP hS hM hL c2)
    | le => exact lv_if_le hx hb hd htk2 (fun q => hK _ _ _ _ (h.1 (by have := (pz_le cx1 c0).mp q; omega)) H locs ls hP hS hM hL c2) (fun q => hK _ _ _ _ (h.2 (Int.lt_of_not_ge (fun z => q ((pz_le cx1 c0).mpr z)))) H locs ls hP hS hM hL c2)

theorem ps_if_icmp (Y : pz_Y p s m args c cc own nL D ad adV cy A) {K : pz_F} (hK : ∀ pc lo st M, K pc lo st M → pz_Ok p l e R s m args below meth c cells slots Q nL D ad cy A pc lo st M) {fl : Nat → Option (Nat × Nat)} {ci : Nat → Option pz_V} {ct : Bool → Nat → Option pz_C} {Rt : Option pz_V → pz_M → Prop} {rz : Bool} {pc len nx : Nat} {tg : List Nat} {lo : pz_L} {st : List pz_V} {M : pz_M} {b : Jvm.ClassFile.Cond} {o : Int}  (hw : pz_wf cc (pc, .if_icmp b o, len, nx, tg) = true) (h : pz_stp fl ci ct K Rt rz (.if_icmp b o) nx tg lo st M) : pz_Ok p l e R s m args below meth c cells slots Q nL D ad cy A pc lo st M := by
  obtain ⟨hx, hb, hml, hown, hts, hX⟩ := Y
  obtain ⟨hd, hn, hsl, htk, him⟩ := pz_wf_spec hw
  subst hn
  have hl1 : len = 3 := of_decide_eq_true hsl
  subst hl1
  intro H locs ls hP hS hM hL hst
  match tg, htk, h with
  | [], htk, h => exact h.elim
  | _ :: _ :: _, htk, h => simp [pz_tok] at htk
  | [t], htk, h =>
    have htk2 : (pc : Int) + o = (t : Int) := of_decide_eq_true htk
    clear htk
    obtain ⟨x, y, r, rfl, h⟩ := pz_2_spec h
    obtain ⟨cy1, c1⟩ := pz_tlm hst
    obtain ⟨cx1, c2⟩ := pz_tlm c1
    cases b with
    | eq => exact lv_icmp_eq hx hb hd htk2 (fun q => hK _ _ _ _ (h.1 ((pz_eq cx1 cy1).mp q)) H locs ls hP hS hM hL c2) (fun q => hK _ _ _ _ (h.2 (fun z => q ((pz_eq cx1 cy1).mpr z))) H locs ls hP hS hM hL c2)
    | ne => exact lv_icmp_ne hx hb hd htk2 (fun q => hK _ _ _ _ (h.1 (fun z => q ((pz_eq cx1 cy1).mpr z))) H locs ls hP hS hM hL c2) (fun q => hK _ _ _ _ (h.2 ((pz_eq cx1 cy1).mp q)) H locs ls hP hS hM hL c2)
    | lt => exact lv_icmp_lt hx hb hd htk2 (fun q => hK _ _ _ _ (h.1 ((pz_lt cx1 cy1).mp q)) H locs ls hP hS hM hL c2) (fun q => hK _ _ _ _ (h.2 (fun z => q ((pz_lt cx1 cy1).mpr z))) H locs ls hP hS hM hL c2)
    | ge => exact lv_icmp_ge hx hb hd htk2 (fun q => hK _ _ _ _ (h.1 (by have := (pz_le cy1 cx1).mp q; omega)) H locs ls hP hS hM hL c2) (fun q => hK _ _ _ _ (h.2 (Int.lt_of_not_ge (fun z => q ((pz_le cy1 cx1).mpr z)))) H locs ls hP hS hM hL c2)
    | gt => exact lv_icmp_gt hx hb hd htk2 (fun q => hK _ _ _ _ (h.1 ((pz_lt cy1 cx1).mp q)) H locs ls hP hS hM hL c2) (fun q => hK _ _ _ _ (h.2 (fun z => q ((pz_lt cy1 cx1).mpr z))) H locs ls hP hS hM hL c2)
    | le => exact lv_icmp_le hx hb hd htk2 (fun q => hK _ _ _ _ (h.1 (by have := (pz_le cx1 cy1).mp q; omega)) H locs ls hP hS hM hL c2) (fun q => hK _ _ _ _ (h.2 (Int.lt_of_not_ge (fun z => q ((pz_le cx1 cy1).mpr z)))) H locs ls hP hS hM hL c2)

end PZT
end
section
section PZU
variable {p : Program} {l : Launch} {e : Env} {R : Room} {s : State} {m : MethodId} {args : Array Value} {below : List Frame} {meth : Method} {c : Code} {cells slots : Nat} {Q : State → Prop}
variable {cc : ByteArray} {own : String} {nL : Nat} {D : va_G} {ad adV : Nat → Nat} {cy : Nat → ClassId} {A : Nat → Prop}
theorem pz_sw_spec {x : Int} {K : Nat → Prop} : ∀ (ts : List Nat) (lo : Int), pz_sw x lo K ts → ∀ (j t : Nat), ts[j]? = some t → x = lo + j → K t
  | [], _, _, j, t, e, _ => by simp at e
  | a :: ts, lo, h, 0, t, e, hx => by
    simp at e; subst e
    exact h.1 (by omega)
  | a :: ts, lo, h, j + 1, t, e, hx => pz_sw_spec ts (lo + 1) h.2 j t (by simpa using e) (by push_cast at hx; omega)
theorem pz_off {x : Int} {K : Nat → Prop} {P : Prop} {pc : Nat} {d : Int} {dt : Nat} (hdt : (pc : Int) + d = dt) : ∀ (ps : List (Int × Int)) (ts : List Nat), pz_lk x K ps ts → pz_nk x P ps → (∀ h : P, P) → (ps.map (·.2)).map (fun o => (pc : Int) + o) = ts.map Int.ofNat → (∃ t : Nat, (pc : Int) + Op.lookupswitch.offset ps d x = t ∧ (K t ∨ (P ∧ t = dt)))
  | [], ts, _, h2, _, _ => ⟨dt, by simp [Op.lookupswitch.offset, hdt], Or.inr ⟨h2, rfl⟩⟩
  | q :: ps, [], _, _, _, e => by simp at e
  | q :: ps, t :: ts, h1, h2, hp, e => by
    simp only [List.map_cons, List.cons.injEq] at e
    by_cases hx : x = q.1
    · refine ⟨t, ?_, Or.inl (h1.1 hx)⟩
      subst hx
      simp [Op.lookupswitch.offset]
      exact e.1
    · obtain ⟨t2, e2, e3⟩ := pz_off hdt ps ts h1.2 (h2 hx) hp e.2
      refine ⟨t2, ?_, e3⟩
      have hx2 : ¬ q.1 = x := fun z => hx z.symm
      simp [Op.lookupswitch.offset, hx2] at e2 ⊢
      exact e2
theorem pz_al_spec {q : Nat × Nat} {t : Nat} {i : Int} {P : Prop} (h : pz_al q t i P) : q.1 = t ∧ 0 ≤ i ∧ i < (q.2 : Int) ∧ P := by
  unfold pz_al at h
  cases hb : Nat.beq q.1 t with
  | true => rw [hb] at h; exact ⟨Nat.eq_of_beq_eq_true hb, h⟩
  | false => rw [hb] at h; exact h.elim
theorem pz_aal_spec {kd : Nat} {i : Int} {K : Nat → Prop} (h : pz_aal kd i K) : (kd = 29 ∧ 0 ≤ i ∧ i < 12 ∧ K 5) ∨ (kd = 30 ∧ 0 ≤ i ∧ i < 6 ∧ K 0) := by
  unfold pz_aal at h
  split at h
  · exact Or.inl ⟨rfl, h⟩
  · exact Or.inr ⟨rfl, h⟩
  · exact h.elim
theorem pz_wse {ad : Nat → Nat} {cy : Nat → ClassId} {M : pz_M} {a kd : Nat} (hkd : pz_kd a = kd) (hlt : a < 206) (h13 : ¬ kd < 13) (h2 : (pz_ak kd).1 < 2) : (pz_ws ad cy M)[a]? = some (ad a, .inl (cy (pz_ak kd).1, (pz_ak kd).2, .inl (fun j => Int32.ofInt (M a j)))) := by
  rw [pz_ws_get hlt]
  unfold pz_en
  rw [hkd, if_neg h13, if_pos h2]
  rfl
theorem pz_wsq {ad : Nat → Nat} {cy : Nat → ClassId} {M : pz_M} {a kd : Nat} (hkd : pz_kd a = kd) (hlt : a < 206) (h13 : ¬ kd < 13) (h2 : ¬ (pz_ak kd).1 < 2) : (pz_ws ad cy M)[a]? = some (ad a, .inl (cy (pz_ak kd).1, (pz_ak kd).2, .inr (.inr (.inr (.inr (fun j => some (ad (pz_rf a j)))))))) := by
  rw [pz_ws_get hlt]
  unfold pz_en
  rw [hkd, if_neg h13, if_neg h2]
  rfl
theorem pz_wso {ad : Nat → Nat} {cy : Nat → ClassId} {M : pz_M} {a kd : Nat} (hkd : pz_kd a = kd) (hlt : a < 206) (h13 : kd < 13) : (pz_ws ad cy M)[a]? = some (ad a, .inr (kd, (List.range (pz_nf kd)).map (pz_fv ad M a kd))) := by
  rw [pz_ws_get hlt]
  unfold pz_en
  rw [hkd, if_pos h13]
  rfl
theorem pz_ak_of {kd t n : Nat} (h : pz_ak kd = (t, n)) (ht : t < 9) : 13 ≤ kd ∧ kd < 31 ∧ (t = 2 → kd = 29) ∧ (t = 3 → kd = 30) ∧ (kd = 29 → n = 12) ∧ (kd = 30 → n = 6) := by
  have h31 : kd < 31 ∨ 31 ≤ kd := Nat.lt_or_ge kd 31
  rcases h31 with h31 | h31
  · have key : ∀ k, k < 31 → ((pz_ak k).1 < 9 → 13 ≤ k ∧ ((pz_ak k).1 = 2 → k = 29) ∧ ((pz_ak k).1 = 3 → k = 30) ∧ (k = 29 → (pz_ak k).2 = 12) ∧ (k = 30 → (pz_ak k).2 = 6)) := by decide +kernel
    have k2 := key kd h31
    rw [h] at k2
    obtain ⟨a1, a2, a3, a4, a5⟩ := k2 ht
    exact ⟨a1, h31, a2, a3, a4, a5⟩
  · exfalso
    have e : pz_ak kd = (9, 0) := by
      unfold pz_ak
      split <;> first | omega | rfl
    rw [e] at h
    cases h
    omega

theorem ps_tableswitch (Y : pz_Y p s m args c cc own nL D ad adV cy A) {K : pz_F} (hK : ∀ pc lo st M, K pc lo st M → pz_Ok p l e R s m args below meth c cells slots Q nL D ad cy A pc lo st M) {fl : Nat → Option (Nat × Nat)} {ci : Nat → Option pz_V} {ct : Bool → Nat → Option pz_C} {Rt : Option pz_V → pz_M → Prop} {rz : Bool} {pc len nx : Nat} {tg : List Nat} {lo : pz_L} {st : List pz_V} {M : pz_M} {d low high : Int} {os : Array Int}  (hw : pz_wf cc (pc, .tableswitch d low high os, len, nx, tg) = true) (h : pz_stp fl ci ct K Rt rz (.tableswitch d low high os) nx tg lo st M) : pz_Ok p l e R s m args below meth c cells slots Q nL D ad cy A pc lo st M := by
  obtain ⟨hx, hb, hml, hown, hts, hX⟩ := Y
  obtain ⟨hd, hn, hsl, htk, him⟩ := pz_wf_spec hw
  subst hn
  intro H locs ls hP hS hM hL hst
  match tg, htk, h with
  | [], htk, h => exact h.elim
  | dt :: ts, htk, h =>
    obtain ⟨x, r, rfl, h1, h2⟩ := pz_1_spec h
    obtain ⟨c1, c2⟩ := pz_tlm hst
    simp only [pz_tok, Bool.and_eq_true, decide_eq_true_eq, List.map_cons, List.cons.injEq] at htk
    obtain ⟨⟨hdt, hts2⟩, hsz⟩ := htk
    have hti := pz_ti c1
    by_cases ho : x < low ∨ high < x
    · exact lv_tableOut hx hb hd (by rw [hti]; exact ho) hdt (hK _ _ _ _ (h2 ho) H locs ls hP hS hM hL c2)
    · have hj : (x - low).toNat < os.toList.length := by omega
      obtain ⟨off, hoff⟩ : ∃ off, os.toList[(x - low).toNat]? = some off := ⟨_, List.getElem?_eq_getElem hj⟩
      have e1 := congrArg (fun z : List Int => z[(x - low).toNat]?) hts2
      simp only [List.getElem?_map, hoff, Option.map_some] at e1
      cases ht : ts[(x - low).toNat]? with
      | none => rw [ht] at e1; cases e1
      | some t =>
        rw [ht] at e1
        simp only [Option.map_some, Option.some.injEq] at e1
        exact lv_tableIn hx hb hd (off := off) (by rw [hti]; omega) (by rw [hti]; omega) (by rw [hti, ← Array.getElem?_toList]; exact hoff) e1 (hK _ _ _ _ (pz_sw_spec ts low h1 _ t ht (by omega)) H locs ls hP hS hM hL c2)
theorem ps_lookupswitch (Y : pz_Y p s m args c cc own nL D ad adV cy A) {K : pz_F} (hK : ∀ pc lo st M, K pc lo st M → pz_Ok p l e R s m args below meth c cells slots Q nL D ad cy A pc lo st M) {fl : Nat → Option (Nat × Nat)} {ci : Nat → Option pz_V} {ct : Bool → Nat → Option pz_C} {Rt : Option pz_V → pz_M → Prop} {rz : Bool} {pc len nx : Nat} {tg : List Nat} {lo : pz_L} {st : List pz_V} {M : pz_M} {d : Int} {ps : Array (Int × Int)}  (hw : pz_wf cc (pc, .lookupswitch d ps, len, nx, tg) = true) (h : pz_stp fl ci ct K Rt rz (.lookupswitch d ps) nx tg lo st M) : pz_Ok p l e R s m args below meth c cells slots Q nL D ad cy A pc lo st M := by
  obtain ⟨hx, hb, hml, hown, hts, hX⟩ := Y
  obtain ⟨hd, hn, hsl, htk, him⟩ := pz_wf_spec hw
  subst hn
  intro H locs ls hP hS hM hL hst
  match tg, htk, h with
  | [], htk, h => exact h.elim
  | dt :: ts, htk, h =>
    obtain ⟨x, r, rfl, h1, h2⟩ := pz_1_spec h
    obtain ⟨c1, c2⟩ := pz_tlm hst
    simp only [pz_tok, Bool.and_eq_true, decide_eq_true_eq, List.map_cons, List.cons.injEq] at htk
    obtain ⟨⟨hdt, hts2⟩, hsz⟩ := htk
    have hti := pz_ti c1
    obtain ⟨t, e1, e2⟩ := pz_off (x := x) (d := d) (dt := dt) hdt ps.toList ts h1 h2 id hts2
    refine lv_lookup hx hb hd (off := Op.lookupswitch.offset ps.toList d x) (tgt := t) ?_ (by rw [hti]) e1 ?_
    · exact hsz
    · rcases e2 with e2 | ⟨e2, rfl⟩
      · exact hK _ _ _ _ e2 H locs ls hP hS hM hL c2
      · exact hK _ _ _ _ e2 H locs ls hP hS hM hL c2
theorem ps_getfield (Y : pz_Y p s m args c cc own nL D ad adV cy A) {K : pz_F} (hK : ∀ pc lo st M, K pc lo st M → pz_Ok p l e R s m args below meth c cells slots Q nL D ad cy A pc lo st M) {fl : Nat → Option (Nat × Nat)} {ci : Nat → Option pz_V} {ct : Bool → Nat → Option pz_C} {Rt : Option pz_V → pz_M → Prop} {rz : Bool} {pc len nx : Nat} {tg : List Nat} {lo : pz_L} {st : List pz_V} {M : pz_M} {i : Nat} (hfl : ∀ i q, fl i = some q → pz_flok own (i, q)) (hw : pz_wf cc (pc, .getfield i, len, nx, tg) = true) (h : pz_stp fl ci ct K Rt rz (.getfield i) nx tg lo st M) : pz_Ok p l e R s m args below meth c cells slots Q nL D ad cy A pc lo st M := by
  obtain ⟨hx, hb, hml, hown, hts, hX⟩ := Y
  obtain ⟨hd, hn, hsl, htk, him⟩ := pz_wf_spec hw
  subst hn
  have hl1 : len = 3 := of_decide_eq_true hsl
  subst hl1
  intro H locs ls hP hS hM hL hst
  have h : pz_getf (fl i) st M (fun st' => K (pc + 3) lo st' M) := h
  cases hf : fl i with
  | none => rw [hf] at h; exact h.elim
  | some q =>
    obtain ⟨k, j⟩ := q
    rw [hf] at h
    obtain ⟨kd, a, r, rfl, h⟩ := pz_r_spec h
    obtain ⟨hkk, h⟩ := pz_b_spec h
    have hkk := Nat.eq_of_beq_eq_true hkk
    subst hkk
    obtain ⟨c1, c2⟩ := pz_tlm hst
    obtain ⟨C, T, N, hcl, hkN, hlk⟩ := hfl i _ hf
    obtain ⟨k1, k2, ty0, k3⟩ := pz_cls hcl
    have hci : kd < 13 := (List.getElem?_eq_some_iff.mp hcl).1
    have hlt : a < 206 := pz_kd_lo c1.1 (by show kd ≠ 99; omega)
    have hN : N = pz_nf kd := (pz_pf_ok hcl hkN).1
    have hj : j < pz_nf kd := by rw [← hN]; exact hkN
    refine va_get (C := C) (T := T) (N := N) (fs := (List.range (pz_nf kd)).map (pz_fv ad M a kd)) hx hb hts k1 hown hX.1 hP a (pz_wso c1.1 hlt hci) hcl j hkN (hts _ hlk) (fun _ h => h) (pz_eo_get hj) hd ?_
    unfold pz_fv
    cases hr : pz_rk kd j with
    | some kr =>
      rw [hr] at h
      have hj28 : j < 28 := by
        have : ∀ k, k < 13 → pz_nf k ≤ 28 := by decide
        have := this kd hci
        omega
      obtain ⟨r1, r2⟩ := pz_rf_ok (a := a) (k := j) c1.1 (by show kd ≠ 99; omega) hr hj28 (fun z => absurd z (by show kd ≠ 29; omega)) (fun z => absurd z (by show kd ≠ 30; omega))
      exact hK _ _ _ _ (h _ rfl r1) H locs ls hP hS hM hL (pz_all ⟨r1, (by show pz_rf a j < 231; omega)⟩ c2)
    | none =>
      rw [hr] at h
      exact hK _ _ _ _ (h _ rfl (hM a j).1 (hM a j).2) H locs ls hP hS hM hL (pz_all (hM a j) c2)
theorem ps_putfield (Y : pz_Y p s m args c cc own nL D ad adV cy A) {K : pz_F} (hK : ∀ pc lo st M, K pc lo st M → pz_Ok p l e R s m args below meth c cells slots Q nL D ad cy A pc lo st M) {fl : Nat → Option (Nat × Nat)} {ci : Nat → Option pz_V} {ct : Bool → Nat → Option pz_C} {Rt : Option pz_V → pz_M → Prop} {rz : Bool} {pc len nx : Nat} {tg : List Nat} {lo : pz_L} {st : List pz_V} {M : pz_M} {i : Nat} (hfl : ∀ i q, fl i = some q → pz_flok own (i, q)) (hw : pz_wf cc (pc, .putfield i, len, nx, tg) = true) (h : pz_stp fl ci ct K Rt rz (.putfield i) nx tg lo st M) : pz_Ok p l e R s m args below meth c cells slots Q nL D ad cy A pc lo st M := by
  obtain ⟨hx, hb, hml, hown, hts, hX⟩ := Y
  obtain ⟨hd, hn, hsl, htk, him⟩ := pz_wf_spec hw
  subst hn
  have hl1 : len = 3 := of_decide_eq_true hsl
  subst hl1
  intro H locs ls hP hS hM hL hst
  have h : pz_putf (fl i) st M (fun st' M' => K (pc + 3) lo st' M') := h
  cases hf : fl i with
  | none => rw [hf] at h; exact h.elim
  | some q =>
    obtain ⟨k, j⟩ := q
    rw [hf] at h
    match st, h, hst with
    | [], h, _ => exact h.elim
    | .inr _ :: _, h, _ => exact h.elim
    | [.inl _], h, _ => exact h.elim
    | .inl _ :: .inl _ :: _, h, _ => exact h.elim
    | .inl _ :: .inr (.inl _) :: _, h, _ => exact h.elim
    | .inl v :: .inr (.inr (kd, a)) :: r, h, hst =>
      obtain ⟨hkk, h⟩ := pz_b_spec h
      have hkk := Nat.eq_of_beq_eq_true hkk
      subst hkk
      obtain ⟨cv, c1⟩ := pz_tlm hst
      obtain ⟨c1, c2⟩ := pz_tlm c1
      obtain ⟨C, T, N, hcl, hkN, hlk⟩ := hfl i _ hf
      obtain ⟨k1, k2, ty0, k3⟩ := pz_cls hcl
      have hci : kd < 13 := (List.getElem?_eq_some_iff.mp hcl).1
      have hlt : a < 206 := pz_kd_lo c1.1 (by show kd ≠ 99; omega)
      obtain ⟨hN, p1, p2⟩ := pz_pf_ok hcl hkN
      have hj : j < pz_nf kd := by rw [← hN]; exact hkN
      have fin : ∀ (ty : FieldType), pz_rk kd j = none → (T j).2.2.2 = false → parseFieldDescriptor (T j).2.2.1 = some ty → narrow ty (.int (Int32.ofInt v)) = .int (Int32.ofInt v) → fits ty (.int (Int32.ofInt v)) = true → K (pc + 3) lo r (pz_u M a j v) → W p l e R s m args below meth c H locs cells slots Q (F0 m pc ls ((.inl v :: .inr (.inr (kd, a)) :: r).map (pz_v ad))) := by
        intro ty e1 e2 e3 e4 e5 h
        refine va_put (C := C) (T := T) (N := N) (fs := (List.range (pz_nf kd)).map (pz_fv ad M a kd)) hx hb hts k1 ty0 k3 k2 hown hX.1 hP (hX.D M) hS a (pz_wso c1.1 hlt hci) hcl j hkN (hts _ hlk) (fun _ h => h) e2 e3 e4 e5 (by simpa using hj) hd (fun H1 locs1 hP1 hD1 hS1 => ?_)
        rw [pz_ws_set (M := M) (k := j) (v := v) rfl (by
          unfold pz_en
          rw [show pz_kd a = kd from c1.1, if_pos hci, pz_eo_set e1]
          rfl)] at hP1
        exact hK _ _ _ _ h H1 locs1 ls hP1 hS1 (pz_cu hM cv) hL c2
      have h : pz_putk (pz_pf kd j) v (pz_nM (pz_u M a j v) (K (pc + 3) lo r)) := h
      generalize hpf : pz_pf kd j = n at h p1 p2
      match n, h, p1, p2 with
      | 0, h, _, _ => exact h.elim
      | 1, h, p1, _ =>
        obtain ⟨q1, q2, q3⟩ := p1 rfl
        exact fin .int q3 q2 (by rw [q1]; rfl) rfl rfl (h _ rfl)
      | 2, h, _, p2 =>
        obtain ⟨q1, q2, q3⟩ := p2 rfl
        rcases h.1 with hv | hv
        · exact fin .boolean q3 q2 (by rw [q1]; rfl) (by rw [hv]; rfl) (by rw [hv]; rfl) (h.2 _ rfl)
        · exact fin .boolean q3 q2 (by rw [q1]; rfl) (by rw [hv]; rfl) (by rw [hv]; rfl) (h.2 _ rfl)
      | n + 3, h, _, _ => exact h.elim
theorem ps_iaload (Y : pz_Y p s m args c cc own nL D ad adV cy A) {K : pz_F} (hK : ∀ pc lo st M, K pc lo st M → pz_Ok p l e R s m args below meth c cells slots Q nL D ad cy A pc lo st M) {fl : Nat → Option (Nat × Nat)} {ci : Nat → Option pz_V} {ct : Bool → Nat → Option pz_C} {Rt : Option pz_V → pz_M → Prop} {rz : Bool} {pc len nx : Nat} {tg : List Nat} {lo : pz_L} {st : List pz_V} {M : pz_M}   (hw : pz_wf cc (pc, .iaload, len, nx, tg) = true) (h : pz_stp fl ci ct K Rt rz (.iaload) nx tg lo st M) : pz_Ok p l e R s m args below meth c cells slots Q nL D ad cy A pc lo st M := by
  obtain ⟨hx, hb, hml, hown, hts, hX⟩ := Y
  obtain ⟨hd, hn, hsl, htk, him⟩ := pz_wf_spec hw
  subst hn
  have hl1 : len = 1 := of_decide_eq_true hsl
  subst hl1
  intro H locs ls hP hS hM hL hst
  obtain ⟨kd, a, i, r, rfl, h⟩ := pz_ri_spec h
  obtain ⟨c0, c1⟩ := pz_tlm hst
  obtain ⟨c1, c2⟩ := pz_tlm c1
  obtain ⟨hak, h0, h1, h⟩ := pz_al_spec h
  obtain ⟨k1, k2, -⟩ := pz_ak_of (kd := kd) (t := (pz_ak kd).1) (n := (pz_ak kd).2) rfl (by omega)
  have hlt : a < 206 := pz_kd_lo c1.1 (by show kd ≠ 99; omega)
  have hws := pz_wse (ad := ad) (cy := cy) (M := M) c1.1 hlt (show ¬ kd < 13 by omega) (show (pz_ak kd).1 < 2 by omega)
  rw [hak] at hws
  refine va_iald hx hb hX.1 hP a 0 hws rfl (pz_in h0 h1 c0) hd ?_
  rw [pz_clamp c0]
  exact hK _ _ _ _ (h _ rfl (hM _ _).1 (hM _ _).2) H locs ls hP hS hM hL (pz_all (hM _ _) c2)
theorem ps_baload (Y : pz_Y p s m args c cc own nL D ad adV cy A) {K : pz_F} (hK : ∀ pc lo st M, K pc lo st M → pz_Ok p l e R s m args below meth c cells slots Q nL D ad cy A pc lo st M) {fl : Nat → Option (Nat × Nat)} {ci : Nat → Option pz_V} {ct : Bool → Nat → Option pz_C} {Rt : Option pz_V → pz_M → Prop} {rz : Bool} {pc len nx : Nat} {tg : List Nat} {lo : pz_L} {st : List pz_V} {M : pz_M}   (hw : pz_wf cc (pc, .baload, len, nx, tg) = true) (h : pz_stp fl ci ct K Rt rz (.baload) nx tg lo st M) : pz_Ok p l e R s m args below meth c cells slots Q nL D ad cy A pc lo st M := by
  obtain ⟨hx, hb, hml, hown, hts, hX⟩ := Y
  obtain ⟨hd, hn, hsl, htk, him⟩ := pz_wf_spec hw
  subst hn
  have hl1 : len = 1 := of_decide_eq_true hsl
  subst hl1
  intro H locs ls hP hS hM hL hst
  obtain ⟨kd, a, i, r, rfl, h⟩ := pz_ri_spec h
  obtain ⟨c0, c1⟩ := pz_tlm hst
  obtain ⟨c1, c2⟩ := pz_tlm c1
  obtain ⟨hak, h0, h1, h⟩ := pz_al_spec h
  obtain ⟨k1, k2, -⟩ := pz_ak_of (kd := kd) (t := (pz_ak kd).1) (n := (pz_ak kd).2) rfl (by omega)
  have hlt : a < 206 := pz_kd_lo c1.1 (by show kd ≠ 99; omega)
  have hws := pz_wse (ad := ad) (cy := cy) (M := M) c1.1 hlt (show ¬ kd < 13 by omega) (show (pz_ak kd).1 < 2 by omega)
  rw [hak] at hws
  refine va_bald hx hb hX.1 hP a 1 hws rfl (pz_in h0 h1 c0) hd ?_
  rw [pz_clamp c0]
  exact hK _ _ _ _ (h _ rfl (hM _ _).1 (hM _ _).2) H locs ls hP hS hM hL (pz_all (hM _ _) c2)
theorem ps_aaload (Y : pz_Y p s m args c cc own nL D ad adV cy A) {K : pz_F} (hK : ∀ pc lo st M, K pc lo st M → pz_Ok p l e R s m args below meth c cells slots Q nL D ad cy A pc lo st M) {fl : Nat → Option (Nat × Nat)} {ci : Nat → Option pz_V} {ct : Bool → Nat → Option pz_C} {Rt : Option pz_V → pz_M → Prop} {rz : Bool} {pc len nx : Nat} {tg : List Nat} {lo : pz_L} {st : List pz_V} {M : pz_M}   (hw : pz_wf cc (pc, .aaload, len, nx, tg) = true) (h : pz_stp fl ci ct K Rt rz (.aaload) nx tg lo st M) : pz_Ok p l e R s m args below meth c cells slots Q nL D ad cy A pc lo st M := by
  obtain ⟨hx, hb, hml, hown, hts, hX⟩ := Y
  obtain ⟨hd, hn, hsl, htk, him⟩ := pz_wf_spec hw
  subst hn
  have hl1 : len = 1 := of_decide_eq_true hsl
  subst hl1
  intro H locs ls hP hS hM hL hst
  obtain ⟨kd, a, i, r, rfl, h8⟩ := pz_ri_spec h
  obtain ⟨c0, c1⟩ := pz_tlm hst
  obtain ⟨c1, c2⟩ := pz_tlm c1
  rcases pz_aal_spec h8 with ⟨rfl, h0, h1, h⟩ | ⟨rfl, h0, h1, h⟩
  · have c1k : pz_kd a = 29 := c1.1
    have hlt : a < 206 := pz_kd_lo c1k (by decide)
    have hws := pz_wsq (ad := ad) (cy := cy) (M := M) c1k hlt (by decide) (by decide)
    refine va_aldq hx hb hX.1 hP a 2 hws rfl (pz_in h0 h1 c0) hd ?_
    rw [pz_clamp c0]
    obtain ⟨r1, r2⟩ := pz_rf_ok (a := a) (k := i.toNat) c1k (by decide) (show pz_rk 29 i.toNat = some 5 by rfl) (by omega) (fun _ => by omega) (fun z => absurd z (by decide))
    exact hK _ _ _ _ (h _ rfl r1) H locs ls hP hS hM hL (pz_all ⟨r1, (by show pz_rf a i.toNat < 231; omega)⟩ c2)
  · have c1k : pz_kd a = 30 := c1.1
    have hlt : a < 206 := pz_kd_lo c1k (by decide)
    have hws := pz_wsq (ad := ad) (cy := cy) (M := M) c1k hlt (by decide) (by decide)
    refine va_aldq hx hb hX.1 hP a 3 hws rfl (pz_in h0 h1 c0) hd ?_
    rw [pz_clamp c0]
    obtain ⟨r1, r2⟩ := pz_rf_ok (a := a) (k := i.toNat) c1k (by decide) (show pz_rk 30 i.toNat = some 0 by rfl) (by omega) (fun z => absurd z (by decide)) (fun _ => by omega)
    exact hK _ _ _ _ (h _ rfl r1) H locs ls hP hS hM hL (pz_all ⟨r1, (by show pz_rf a i.toNat < 231; omega)⟩ c2)
theorem ps_iastore (Y : pz_Y p s m args c cc own nL D ad adV cy A) {K : pz_F} (hK : ∀ pc lo st M, K pc lo st M → pz_Ok p l e R s m args below meth c cells slots Q nL D ad cy A pc lo st M) {fl : Nat → Option (Nat × Nat)} {ci : Nat → Option pz_V} {ct : Bool → Nat → Option pz_C} {Rt : Option pz_V → pz_M → Prop} {rz : Bool} {pc len nx : Nat} {tg : List Nat} {lo : pz_L} {st : List pz_V} {M : pz_M}   (hw : pz_wf cc (pc, .iastore, len, nx, tg) = true) (h : pz_stp fl ci ct K Rt rz (.iastore) nx tg lo st M) : pz_Ok p l e R s m args below meth c cells slots Q nL D ad cy A pc lo st M := by
  obtain ⟨hx, hb, hml, hown, hts, hX⟩ := Y
  obtain ⟨hd, hn, hsl, htk, him⟩ := pz_wf_spec hw
  subst hn
  have hl1 : len = 1 := of_decide_eq_true hsl
  subst hl1
  intro H locs ls hP hS hM hL hst
  obtain ⟨kd, a, i, v, r, rfl, h⟩ := pz_rii_spec h
  obtain ⟨cv, c0⟩ := pz_tlm hst
  obtain ⟨c0, c1⟩ := pz_tlm c0
  obtain ⟨c1, c2⟩ := pz_tlm c1
  obtain ⟨hak, h0, h1, h⟩ := pz_al_spec h
  obtain ⟨k1, k2, -⟩ := pz_ak_of (kd := kd) (t := (pz_ak kd).1) (n := (pz_ak kd).2) rfl (by omega)
  have hlt : a < 206 := pz_kd_lo c1.1 (by show kd ≠ 99; omega)
  have hws := pz_wse (ad := ad) (cy := cy) (M := M) c1.1 hlt (show ¬ kd < 13 by omega) (show (pz_ak kd).1 < 2 by omega)
  rw [hak] at hws
  refine va_iast hx hb hX.1 hP (hX.D M) hS a 0 hws rfl (pz_in h0 h1 c0) hd (fun H1 locs1 hP1 hD1 hS1 => ?_)
  · 
    rw [pz_clamp c0, pz_upd, pz_ws_set (M := M) (k := i.toNat) (v := v) rfl (by
      unfold pz_en
      rw [show pz_kd a = kd from c1.1, if_neg (show ¬ kd < 13 by omega), if_pos (show (pz_ak kd).1 < 2 by omega)]
      unfold pz_ei
      rw [hak])] at hP1
    exact hK _ _ _ _ (h _ rfl) H1 locs1 ls hP1 hS1 (pz_cu hM cv) hL c2
theorem ps_bastore (Y : pz_Y p s m args c cc own nL D ad adV cy A) {K : pz_F} (hK : ∀ pc lo st M, K pc lo st M → pz_Ok p l e R s m args below meth c cells slots Q nL D ad cy A pc lo st M) {fl : Nat → Option (Nat × Nat)} {ci : Nat → Option pz_V} {ct : Bool → Nat → Option pz_C} {Rt : Option pz_V → pz_M → Prop} {rz : Bool} {pc len nx : Nat} {tg : List Nat} {lo : pz_L} {st : List pz_V} {M : pz_M}   (hw : pz_wf cc (pc, .bastore, len, nx, tg) = true) (h : pz_stp fl ci ct K Rt rz (.bastore) nx tg lo st M) : pz_Ok p l e R s m args below meth c cells slots Q nL D ad cy A pc lo st M := by
  obtain ⟨hx, hb, hml, hown, hts, hX⟩ := Y
  obtain ⟨hd, hn, hsl, htk, him⟩ := pz_wf_spec hw
  subst hn
  have hl1 : len = 1 := of_decide_eq_true hsl
  subst hl1
  intro H locs ls hP hS hM hL hst
  obtain ⟨kd, a, i, v, r, rfl, h⟩ := pz_rii_spec h
  obtain ⟨cv, c0⟩ := pz_tlm hst
  obtain ⟨c0, c1⟩ := pz_tlm c0
  obtain ⟨c1, c2⟩ := pz_tlm c1
  obtain ⟨hak, h0, h1, hv1, hv2, h⟩ := pz_al_spec h
  obtain ⟨k1, k2, -⟩ := pz_ak_of (kd := kd) (t := (pz_ak kd).1) (n := (pz_ak kd).2) rfl (by omega)
  have hlt : a < 206 := pz_kd_lo c1.1 (by show kd ≠ 99; omega)
  have hws := pz_wse (ad := ad) (cy := cy) (M := M) c1.1 hlt (show ¬ kd < 13 by omega) (show (pz_ak kd).1 < 2 by omega)
  rw [hak] at hws
  refine va_bast hx hb hX.1 hP (hX.D M) hS a 1 hws rfl (pz_in h0 h1 c0) hd (fun H1 locs1 hP1 hD1 hS1 => ?_)
  · 
    have e8 : vp_nar .byte (Int32.ofInt v) = Int32.ofInt v := by
      rw [vp_nar_byte]
      have : (Int32.ofInt v).toInt8 = Int8.ofInt v := by simp
      rw [this, pz_bip hv1 hv2]
    rw [e8] at hP1
    rw [pz_clamp c0, pz_upd, pz_ws_set (M := M) (k := i.toNat) (v := v) rfl (by
      unfold pz_en
      rw [show pz_kd a = kd from c1.1, if_neg (show ¬ kd < 13 by omega), if_pos (show (pz_ak kd).1 < 2 by omega)]
      unfold pz_ei
      rw [hak])] at hP1
    exact hK _ _ _ _ (h _ rfl) H1 locs1 ls hP1 hS1 (pz_cu hM cv) hL c2
theorem ps_arraylength (Y : pz_Y p s m args c cc own nL D ad adV cy A) {K : pz_F} (hK : ∀ pc lo st M, K pc lo st M → pz_Ok p l e R s m args below meth c cells slots Q nL D ad cy A pc lo st M) {fl : Nat → Option (Nat × Nat)} {ci : Nat → Option pz_V} {ct : Bool → Nat → Option pz_C} {Rt : Option pz_V → pz_M → Prop} {rz : Bool} {pc len nx : Nat} {tg : List Nat} {lo : pz_L} {st : List pz_V} {M : pz_M}   (hw : pz_wf cc (pc, .arraylength, len, nx, tg) = true) (h : pz_stp fl ci ct K Rt rz (.arraylength) nx tg lo st M) : pz_Ok p l e R s m args below meth c cells slots Q nL D ad cy A pc lo st M := by
  obtain ⟨hx, hb, hml, hown, hts, hX⟩ := Y
  obtain ⟨hd, hn, hsl, htk, him⟩ := pz_wf_spec hw
  subst hn
  have hl1 : len = 1 := of_decide_eq_true hsl
  subst hl1
  intro H locs ls hP hS hM hL hst
  obtain ⟨kd, a, r, rfl, h⟩ := pz_r_spec h
  obtain ⟨c1, c2⟩ := pz_tlm hst
  obtain ⟨h9, h⟩ := pz_b_spec h
  have h9 := Nat.le_of_ble_eq_true h9
  obtain ⟨k1, k2, k3, k4, k5, k6⟩ := pz_ak_of (kd := kd) (t := (pz_ak kd).1) (n := (pz_ak kd).2) rfl (by omega)
  have hlt : a < 206 := pz_kd_lo c1.1 (by show kd ≠ 99; omega)
  have key : ∀ k, k < 31 → ((pz_ak k).1 < 4 ∨ (pz_ak k).1 = 9) ∧ (pz_ak k).2 ≤ 4096 := by decide +kernel
  obtain ⟨key1, key2⟩ := key kd k2
  have hcn : pz_c (((pz_ak kd).2 : Nat) : Int) := ⟨by omega, by omega⟩
  have hv : Int32.ofNat (pz_ak kd).2 = Int32.ofInt ((pz_ak kd).2 : Int) := (Int32.ofInt_eq_ofNat).symm
  have h := hK _ _ _ _ h H locs ls hP hS hM hL (pz_all hcn c2)
  by_cases h2 : (pz_ak kd).1 < 2
  · have hws := pz_wse (ad := ad) (cy := cy) (M := M) c1.1 hlt (show ¬ kd < 13 by omega) h2
    have h3 : (pz_ak kd).1 = 0 ∨ (pz_ak kd).1 = 1 := by omega
    rcases h3 with h3 | h3
    · exact va_alen hx hb hX.1 hP a 0 hws (ty := .int) (by rw [h3]; rfl) hv hd h
    · exact va_alen hx hb hX.1 hP a 1 hws (ty := .byte) (by rw [h3]; rfl) hv hd h
  · have hws := pz_wsq (ad := ad) (cy := cy) (M := M) c1.1 hlt (show ¬ kd < 13 by omega) h2
    have h3 : (pz_ak kd).1 = 2 ∨ (pz_ak kd).1 = 3 := by omega
    rcases h3 with h3 | h3
    · exact va_alen hx hb hX.1 hP a 2 hws (ty := .object "TwelveChain$Link") (by rw [h3]; rfl) hv hd h
    · exact va_alen hx hb hX.1 hP a 3 hws (ty := .object "TwelveChain$Chain") (by rw [h3]; rfl) hv hd h
theorem ps_invokevirtual (Y : pz_Y p s m args c cc own nL D ad adV cy A) {K : pz_F} (hK : ∀ pc lo st M, K pc lo st M → pz_Ok p l e R s m args below meth c cells slots Q nL D ad cy A pc lo st M) {fl : Nat → Option (Nat × Nat)} {ci : Nat → Option pz_V} {ct : Bool → Nat → Option pz_C} {Rt : Option pz_V → pz_M → Prop} {rz : Bool} {pc len nx : Nat} {tg : List Nat} {lo : pz_L} {st : List pz_V} {M : pz_M} {i : Nat} (hcall : ∀ i k, ct true i = some k → pz_CR p l e R s m args below meth c cells slots Q cc nL D ad cy A (.invokevirtual i) k) (hw : pz_wf cc (pc, .invokevirtual i, len, nx, tg) = true) (h : pz_stp fl ci ct K Rt rz (.invokevirtual i) nx tg lo st M) : pz_Ok p l e R s m args below meth c cells slots Q nL D ad cy A pc lo st M := by
  obtain ⟨hx, hb, hml, hown, hts, hX⟩ := Y
  obtain ⟨hd, hn, hsl, htk, him⟩ := pz_wf_spec hw
  subst hn
  have hl1 : len = 3 := of_decide_eq_true hsl
  subst hl1
  intro H locs ls hP hS hM hL hst
  have h : pz_call (ct true) i lo st M (fun st' M' => K (pc + 3) lo st' M') := h
  unfold pz_call at h
  cases hk : ct true i with
  | none => rw [hk] at h; exact h.elim
  | some k =>
    rw [hk] at h
    obtain ⟨n, rk, pre, post⟩ := k
    obtain ⟨h1, h⟩ := pz_b_spec h
    obtain ⟨h2, h⟩ := pz_b_spec h
    obtain ⟨h3, h⟩ := h
    have h1 := Nat.le_of_ble_eq_true h1
    have h2 := Nat.le_of_ble_eq_true h2
    have est : (st.take n).reverse.reverse ++ st.drop n = st := by rw [List.reverse_reverse, List.take_append_drop]
    have k := hcall i _ hk H locs ls M (st.take n).reverse (st.drop n) pc hd hP hS hM (fun v hv => hst v (List.mem_of_mem_take (List.mem_reverse.mp hv))) hL.1 (by simp; omega) h2 h3 (fun r M' H' locs' e1 e2 hP' hS' hM' => ?_)
    · rw [est] at k; exact k
    · have hdr : ∀ v ∈ st.drop n, pz_cv v := fun v hv => hst v (List.mem_of_mem_drop hv)
      match rk, h, e2 with
      | 0, h, e2 =>
        subst e2
        exact hK _ _ _ _ (h M' e1) H' locs' ls hP' hS' hM' hL hdr
      | 1, h, e2 =>
        obtain ⟨x, rfl, cx⟩ := e2
        exact hK _ _ _ _ (h x M' cx.1 cx.2 e1) H' locs' ls hP' hS' hM' hL (pz_all cx hdr)
      | 2, h, e2 =>
        obtain ⟨x, rfl, cx⟩ := e2
        exact hK _ _ _ _ (h x M' cx.1 cx.2 e1) H' locs' ls hP' hS' hM' hL (pz_all cx hdr)
      | q + 3, h, e2 =>
        obtain ⟨x, rfl, cx⟩ := e2
        exact hK _ _ _ _ (h x M' cx.1 e1) H' locs' ls hP' hS' hM' hL (pz_all cx hdr)
theorem ps_invokestatic (Y : pz_Y p s m args c cc own nL D ad adV cy A) {K : pz_F} (hK : ∀ pc lo st M, K pc lo st M → pz_Ok p l e R s m args below meth c cells slots Q nL D ad cy A pc lo st M) {fl : Nat → Option (Nat × Nat)} {ci : Nat → Option pz_V} {ct : Bool → Nat → Option pz_C} {Rt : Option pz_V → pz_M → Prop} {rz : Bool} {pc len nx : Nat} {tg : List Nat} {lo : pz_L} {st : List pz_V} {M : pz_M} {i : Nat} (hcall : ∀ i k, ct false i = some k → pz_CR p l e R s m args below meth c cells slots Q cc nL D ad cy A (.invokestatic i) k) (hw : pz_wf cc (pc, .invokestatic i, len, nx, tg) = true) (h : pz_stp fl ci ct K Rt rz (.invokestatic i) nx tg lo st M) : pz_Ok p l e R s m args below meth c cells slots Q nL D ad cy A pc lo st M := by
  obtain ⟨hx, hb, hml, hown, hts, hX⟩ := Y
  obtain ⟨hd, hn, hsl, htk, him⟩ := pz_wf_spec hw
  subst hn
  have hl1 : len = 3 := of_decide_eq_true hsl
  subst hl1
  intro H locs ls hP hS hM hL hst
  have h : pz_call (ct false) i lo st M (fun st' M' => K (pc + 3) lo st' M') := h
  unfold pz_call at h
  cases hk : ct false i with
  | none => rw [hk] at h; exact h.elim
  | some k =>
    rw [hk] at h
    obtain ⟨n, rk, pre, post⟩ := k
    obtain ⟨h1, h⟩ := pz_b_spec h
    obtain ⟨h2, h⟩ := pz_b_spec h
    obtain ⟨h3, h⟩ := h
    have h1 := Nat.le_of_ble_eq_true h1
    have h2 := Nat.le_of_ble_eq_true h2
    have est : (st.take n).reverse.reverse ++ st.drop n = st := by rw [List.reverse_reverse, List.take_append_drop]
    have k := hcall i _ hk H locs ls M (st.take n).reverse (st.drop n) pc hd hP hS hM (fun v hv => hst v (List.mem_of_mem_take (List.mem_reverse.mp hv))) hL.1 (by simp; omega) h2 h3 (fun r M' H' locs' e1 e2 hP' hS' hM' => ?_)
    · rw [est] at k; exact k
    · have hdr : ∀ v ∈ st.drop n, pz_cv v := fun v hv => hst v (List.mem_of_mem_drop hv)
      match rk, h, e2 with
      | 0, h, e2 =>
        subst e2
        exact hK _ _ _ _ (h M' e1) H' locs' ls hP' hS' hM' hL hdr
      | 1, h, e2 =>
        obtain ⟨x, rfl, cx⟩ := e2
        exact hK _ _ _ _ (h x M' cx.1 cx.2 e1) H' locs' ls hP' hS' hM' hL (pz_all cx hdr)
      | 2, h, e2 =>
        obtain ⟨x, rfl, cx⟩ := e2
        exact hK _ _ _ _ (h x M' cx.1 cx.2 e1) H' locs' ls hP' hS' hM' hL (pz_all cx hdr)
      | q + 3, h, e2 =>
        obtain ⟨x, rfl, cx⟩ := e2
        exact hK _ _ _ _ (h x M' cx.1 e1) H' locs' ls hP' hS' hM' hL (pz_all cx hdr)
theorem ps_ireturn (Y : pz_Y p s m args c cc own nL D ad adV cy A) {K : pz_F} (hK : ∀ pc lo st M, K pc lo st M → pz_Ok p l e R s m args below meth c cells slots Q nL D ad cy A pc lo st M) {fl : Nat → Option (Nat × Nat)} {ci : Nat → Option pz_V} {ct : Bool → Nat → Option pz_C} {Rt : Option pz_V → pz_M → Prop} {rz : Bool} {pc len nx : Nat} {tg : List Nat} {lo : pz_L} {st : List pz_V} {M : pz_M}  (hRT : pz_RT p l e R s m args below meth c cells slots Q cc D ad cy A Rt rz) (hw : pz_wf cc (pc, .ireturn, len, nx, tg) = true) (h : pz_stp fl ci ct K Rt rz (.ireturn) nx tg lo st M) : pz_Ok p l e R s m args below meth c cells slots Q nL D ad cy A pc lo st M := by
  obtain ⟨hx, hb, hml, hown, hts, hX⟩ := Y
  obtain ⟨hd, hn, hsl, htk, him⟩ := pz_wf_spec hw
  subst hn
  have hl1 : len = 1 := of_decide_eq_true hsl
  subst hl1
  intro H locs ls hP hS hM hL hst
  match st, h, hst with
  | [], h, _ => exact h.elim
  | .inr _ :: _, h, _ => exact h.elim
  | .inl _ :: _ :: _, h, _ => exact h.elim
  | [.inl x], h, hst =>
    have hc := (pz_tlm hst).1
    cases rz with
    | true => exact hRT .ireturn (some (.inl x)) pc H locs ls M hd (Or.inl ⟨rfl, x, rfl, fun _ => h.1⟩) (fun v hv => by cases hv; exact hc) hP hS hM h.2
    | false => exact hRT .ireturn (some (.inl x)) pc H locs ls M hd (Or.inl ⟨rfl, x, rfl, fun z => by cases z⟩) (fun v hv => by cases hv; exact hc) hP hS hM h
theorem ps_lreturn (Y : pz_Y p s m args c cc own nL D ad adV cy A) {K : pz_F} (hK : ∀ pc lo st M, K pc lo st M → pz_Ok p l e R s m args below meth c cells slots Q nL D ad cy A pc lo st M) {fl : Nat → Option (Nat × Nat)} {ci : Nat → Option pz_V} {ct : Bool → Nat → Option pz_C} {Rt : Option pz_V → pz_M → Prop} {rz : Bool} {pc len nx : Nat} {tg : List Nat} {lo : pz_L} {st : List pz_V} {M : pz_M}  (hRT : pz_RT p l e R s m args below meth c cells slots Q cc D ad cy A Rt rz) (hw : pz_wf cc (pc, .lreturn, len, nx, tg) = true) (h : pz_stp fl ci ct K Rt rz (.lreturn) nx tg lo st M) : pz_Ok p l e R s m args below meth c cells slots Q nL D ad cy A pc lo st M := by
  obtain ⟨hx, hb, hml, hown, hts, hX⟩ := Y
  obtain ⟨hd, hn, hsl, htk, him⟩ := pz_wf_spec hw
  subst hn
  have hl1 : len = 1 := of_decide_eq_true hsl
  subst hl1
  intro H locs ls hP hS hM hL hst
  match st, h, hst with
  | [], h, _ => exact h.elim
  | .inl _ :: _, h, _ => exact h.elim
  | .inr (.inr _) :: _, h, _ => exact h.elim
  | .inr (.inl _) :: _ :: _, h, _ => exact h.elim
  | [.inr (.inl x)], h, hst =>
    have hc := (pz_tlm hst).1
    exact hRT .lreturn (some (.inr (.inl x))) pc H locs ls M hd (Or.inr (Or.inl ⟨rfl, x, rfl⟩)) (fun v hv => by cases hv; exact hc) hP hS hM h
theorem ps_areturn (Y : pz_Y p s m args c cc own nL D ad adV cy A) {K : pz_F} (hK : ∀ pc lo st M, K pc lo st M → pz_Ok p l e R s m args below meth c cells slots Q nL D ad cy A pc lo st M) {fl : Nat → Option (Nat × Nat)} {ci : Nat → Option pz_V} {ct : Bool → Nat → Option pz_C} {Rt : Option pz_V → pz_M → Prop} {rz : Bool} {pc len nx : Nat} {tg : List Nat} {lo : pz_L} {st : List pz_V} {M : pz_M}  (hRT : pz_RT p l e R s m args below meth c cells slots Q cc D ad cy A Rt rz) (hw : pz_wf cc (pc, .areturn, len, nx, tg) = true) (h : pz_stp fl ci ct K Rt rz (.areturn) nx tg lo st M) : pz_Ok p l e R s m args below meth c cells slots Q nL D ad cy A pc lo st M := by
  obtain ⟨hx, hb, hml, hown, hts, hX⟩ := Y
  obtain ⟨hd, hn, hsl, htk, him⟩ := pz_wf_spec hw
  subst hn
  have hl1 : len = 1 := of_decide_eq_true hsl
  subst hl1
  intro H locs ls hP hS hM hL hst
  match st, h, hst with
  | [], h, _ => exact h.elim
  | .inl _ :: _, h, _ => exact h.elim
  | .inr (.inl _) :: _, h, _ => exact h.elim
  | .inr (.inr _) :: _ :: _, h, _ => exact h.elim
  | [.inr (.inr x)], h, hst =>
    have hc := (pz_tlm hst).1
    exact hRT .areturn (some (.inr (.inr x))) pc H locs ls M hd (Or.inr (Or.inr (Or.inl ⟨rfl, x, rfl⟩))) (fun v hv => by cases hv; exact hc) hP hS hM h
end PZU
end
section
section PZW
variable {p : Program} {l : Launch} {e : Env} {R : Room} {s : State} {m : MethodId} {args : Array Value} {below : List Frame} {meth : Method} {c : Code} {cells slots : Nat} {Q : State → Prop}
variable {cc : ByteArray} {own : String} {nL : Nat} {D : va_G} {ad adV : Nat → Nat} {cy : Nat → ClassId} {A : Nat → Prop}
theorem pz_step (Y : pz_Y p s m args c cc own nL D ad adV cy A) {K : pz_F} (hK : ∀ pc lo st M, K pc lo st M → pz_Ok p l e R s m args below meth c cells slots Q nL D ad cy A pc lo st M) {fl : Nat → Option (Nat × Nat)} {ci : Nat → Option pz_V} {ct : Bool → Nat → Option pz_C} {Rt : Option pz_V → pz_M → Prop} {rz : Bool}
    (hfl : ∀ i q, fl i = some q → pz_flok own (i, q)) (hci : ∀ i v, ci i = some v → pz_ciok own i v)
    (hcv : ∀ i k, ct true i = some k → pz_CR p l e R s m args below meth c cells slots Q cc nL D ad cy A (.invokevirtual i) k) (hcs : ∀ i k, ct false i = some k → pz_CR p l e R s m args below meth c cells slots Q cc nL D ad cy A (.invokestatic i) k)
    (hRT : pz_RT p l e R s m args below meth c cells slots Q cc D ad cy A Rt rz)
    {pc len nx : Nat} {tg : List Nat} {lo : pz_L} {st : List pz_V} {M : pz_M} (I : Instr) (hw : pz_wf cc (pc, I, len, nx, tg) = true) (h : pz_stp fl ci ct K Rt rz I nx tg lo st M) : pz_Ok p l e R s m args below meth c cells slots Q nL D ad cy A pc lo st M := by
  cases I
  case iconst v => exact ps_iconst Y hK  hw h
  case bipush v => exact ps_bipush Y hK  hw h
  case sipush v => exact ps_sipush Y hK  hw h
  case lconst v => exact ps_lconst Y hK  hw h
  case ldc i => exact ps_ldc Y hK hci hw h
  case ldc_w i => exact ps_ldc_w Y hK hci hw h
  case ldc2_w i => exact ps_ldc2_w Y hK hci hw h
  case iload k => exact ps_iload Y hK  hw h
  case iload_n k => exact ps_iload_n Y hK  hw h
  case lload k => exact ps_lload Y hK  hw h
  case lload_n k => exact ps_lload_n Y hK  hw h
  case aload k => exact ps_aload Y hK  hw h
  case aload_n k => exact ps_aload_n Y hK  hw h
  case istore k => exact ps_istore Y hK  hw h
  case istore_n k => exact ps_istore_n Y hK  hw h
  case lstore k => exact ps_lstore Y hK  hw h
  case lstore_n k => exact ps_lstore_n Y hK  hw h
  case astore k => exact ps_astore Y hK  hw h
  case astore_n k => exact ps_astore_n Y hK  hw h
  case iinc k n => exact ps_iinc Y hK  hw h
  case iadd => exact ps_iadd Y hK  hw h
  case isub => exact ps_isub Y hK  hw h
  case imul => exact ps_imul Y hK  hw h
  case idiv => exact ps_idiv Y hK  hw h
  case irem => exact ps_irem Y hK  hw h
  case iand => exact ps_iand Y hK  hw h
  case ior => exact ps_ior Y hK  hw h
  case ixor => exact ps_ixor Y hK  hw h
  case ishl => exact ps_ishl Y hK  hw h
  case ishr => exact ps_ishr Y hK  hw h
  case iushr => exact ps_iushr Y hK  hw h
  case i2b => exact ps_i2b Y hK  hw h
  case i2l => exact ps_i2l Y hK  hw h
  case l2i => exact ps_l2i Y hK  hw h
  case ladd => exact ps_ladd Y hK  hw h
  case lsub => exact ps_lsub Y hK  hw h
  case lmul => exact ps_lmul Y hK  hw h
  case ldiv => exact ps_ldiv Y hK  hw h
  case lcmp => exact ps_lcmp Y hK  hw h
  case dup => exact ps_dup Y hK  hw h
  case pop => exact ps_pop Y hK  hw h
  case dup2 => exact ps_dup2 Y hK  hw h
  case goto o => exact ps_goto Y hK  hw h
  case ifCond b o => exact ps_ifCond Y hK  hw h
  case if_icmp b o => exact ps_if_icmp Y hK  hw h
  case tableswitch d low high os => exact ps_tableswitch Y hK  hw h
  case lookupswitch d ps => exact ps_lookupswitch Y hK  hw h
  case getfield i => exact ps_getfield Y hK hfl hw h
  case putfield i => exact ps_putfield Y hK hfl hw h
  case iaload => exact ps_iaload Y hK  hw h
  case baload => exact ps_baload Y hK  hw h
  case aaload => exact ps_aaload Y hK  hw h
  case iastore => exact ps_iastore Y hK  hw h
  case bastore => exact ps_bastore Y hK  hw h
  case arraylength => exact ps_arraylength Y hK  hw h
  case invokevirtual i => exact ps_invokevirtual Y hK hcv hw h
  case invokestatic i => exact ps_invokestatic Y hK hcs hw h
  case ireturn => exact ps_ireturn Y hK hRT hw h
  case lreturn => exact ps_lreturn Y hK hRT hw h
  case areturn => exact ps_areturn Y hK hRT hw h
  case return_ =>
    obtain ⟨hd, hn, hsl, htk, him⟩ := pz_wf_spec hw
    have hl1 : len = 1 := of_decide_eq_true hsl
    subst hl1
    intro H locs ls hP hS hM hL hst
    match st, h with
    | [], h => exact hRT .return_ none pc H locs ls M hd (Or.inr (Or.inr (Or.inr ⟨rfl, rfl⟩))) (fun v hv => by cases hv) hP hS hM h
    | _ :: _, h => exact False.elim h
  all_goals exact False.elim h
/-- many instructions -/
theorem pz_many (Y : pz_Y p s m args c cc own nL D ad adV cy A) {tb : List pz_E} {fl : Nat → Option (Nat × Nat)} {ci : Nat → Option pz_V} {ct : Bool → Nat → Option pz_C} {cut : Nat → Bool} {Rt : Option pz_V → pz_M → Prop} {rz : Bool}
    (htb : tb.all (fun q => pz_wf cc q) = true)
    (hfl : ∀ i q, fl i = some q → pz_flok own (i, q)) (hci : ∀ i v, ci i = some v → pz_ciok own i v)
    (hcv : ∀ i k, ct true i = some k → pz_CR p l e R s m args below meth c cells slots Q cc nL D ad cy A (.invokevirtual i) k) (hcs : ∀ i k, ct false i = some k → pz_CR p l e R s m args below meth c cells slots Q cc nL D ad cy A (.invokestatic i) k)
    (hRT : pz_RT p l e R s m args below meth c cells slots Q cc D ad cy A Rt rz) :
    ∀ (n pc : Nat) (lo : pz_L) (st : List pz_V) (M : pz_M), pz_run tb fl ci ct cut (pz_Ok p l e R s m args below meth c cells slots Q nL D ad cy A) Rt rz n pc lo st M → pz_Ok p l e R s m args below meth c cells slots Q nL D ad cy A pc lo st M := by
  intro n
  induction n with
  | zero => intro pc lo st M h; exact h
  | succ n ih =>
    intro pc lo st M h
    unfold pz_run at h
    cases hq : pz_at tb pc with
    | none => rw [hq] at h; exact False.elim h
    | some q =>
      rw [hq] at h
      have hm := List.mem_of_find?_eq_some hq
      have hq2 : tb.find? (fun q => Nat.beq q.1 pc) = some q := hq
      have hpc0 := List.find?_some hq2
      have hpc := Nat.eq_of_beq_eq_true (n := q.1) (m := pc) hpc0
      have hw := List.all_eq_true.mp htb q hm
      obtain ⟨pc2, I, len, nx, tg⟩ := q
      have hpc : pc2 = pc := hpc
      subst hpc
      refine pz_step Y (fun pc' lo' st' M' hk => ?_) hfl hci hcv hcs hRT I hw h
      cases hc : cut pc' with
      | true => rw [hc] at hk; exact hk
      | false => rw [hc] at hk; exact ih pc' lo' st' M' hk
/-- the same, for one who doesn't see the machine -/
def pz_Go (tb : List pz_E) (fl : Nat → Option (Nat × Nat)) (ci : Nat → Option pz_V) (ct : Bool → Nat → Option pz_C) (rz : Bool) (Ok : pz_F) (Rt : Option pz_V → pz_M → Prop) : Prop :=
  ∀ (cut : Nat → Bool) (n pc : Nat) (lo : pz_L) (st : List pz_V) (M : pz_M), pz_run tb fl ci ct cut Ok Rt rz n pc lo st M → Ok pc lo st M
end PZW
end
section
theorem pz_good {ws : List Cond} (h : ∀ w ∈ ws, w ∈ pz_tbl) : GoodIn pz_tbl ws := fun w hw => ⟨h w hw, good_of_word (List.mem_filter.mp (h w hw)).2⟩
theorem pz_blind (D : va_G) (ad adV : Nat → Nat) (cy : Nat → ClassId) (A : Nat → Prop) (av : List Value) (M : pz_M) : FrameBlind (va_Pc av (pz_G D ad adV cy A M)) :=
  fun _ U g mk q => ⟨q.1, q.2.1, pz_X.same (u := U) (U := U.calling g mk _) rfl q.2.2.1, q.2.2.2⟩
/-- a receiver's class: by its number among the classes, or a String -/
def pz_rcv (rc : Nat) (C : String) : Prop := (∃ T N, vwCl[rc]? = some (C, T, N)) ∨ (rc = 99 ∧ C = "java/lang/String")
/-- what is known of a virtual call's callee -/
def pz_cV (fr lo : Nat) (own : String) (i : Nat) (k : pz_C) : Prop :=
  ∃ (y : MethodName) (cc : ByteArray) (maxL : Nat) (ret : Option FieldType) (fr' lo' n rc : Nat), pz_H y cc maxL ret k fr' lo' ∧ fr' + 1 ≤ fr ∧ 8 + (maxL + 11) + lo' ≤ lo ∧ k.1 = n + 1 ∧
    (y.cls ≠ "java/lang/invoke/MethodHandle" ∧ y.cls ≠ "java/lang/invoke/VarHandle" ∧ (parseMethodDescriptor y.desc).map (fun d => d.parameters.length) = some n) ∧
    (.code y cc maxL ret ∈ pz_tbl ∧ .methodLink own i y ∈ pz_tbl ∧ .instanceMethod y ∈ pz_tbl ∧ .selects y.cls y y ∈ pz_tbl ∧ .initialized y.cls ∈ pz_tbl) ∧
    pz_rcv rc y.cls ∧ ∀ (a : List pz_V) (M : pz_M), a.length = k.1 → k.2.2.1 a M → ∃ id t, a = .inr (.inr (rc, id)) :: t
/-- of a static call's -/
def pz_cS (fr lo : Nat) (own : String) (i : Nat) (k : pz_C) : Prop :=
  ∃ (y : MethodName) (cc : ByteArray) (maxL : Nat) (ret : Option FieldType) (fr' lo' n : Nat), pz_H y cc maxL ret k fr' lo' ∧ fr' + 1 ≤ fr ∧ 8 + (maxL + 11) + lo' ≤ lo ∧ k.1 = n ∧
    (y.cls ≠ "java/lang/invoke/MethodHandle" ∧ y.cls ≠ "java/lang/invoke/VarHandle" ∧ (parseMethodDescriptor y.desc).map (fun d => d.parameters.length) = some n) ∧
    (.code y cc maxL ret ∈ pz_tbl ∧ .static y ∈ pz_tbl ∧ .initialized y.cls ∈ pz_tbl) ∧ (.methodLink own i y ∈ pz_tbl ∨ (own = RX1 ∧ i = 35 ∧ y = yX11_within))
section PZV
variable {p : Program} {l : Launch} {e : Env} {R : Room} {s : State} {m : MethodId} {args : Array Value} {below : List Frame} {meth : Method} {c : Code} {cells slots : Nat} {Q : State → Prop}
variable {cc : ByteArray} {own : String} {nL : Nat} {D : va_G} {ad adV : Nat → Nat} {cy : Nat → ClassId} {A : Nat → Prop}
theorem pz_fromRun {H : Heap} {locs : List Loc} {ls : Array Slot} {st0 rest : List Value} {pc rk : Nat} {post : Option pz_V → pz_M → Prop} {k9 : List Value → State}
    (hr : va_Run p l e R s m args below meth c H locs cells slots 0 0 (F0 m pc ls st0) rest (fun st o t => (∃ (r : Option pz_V) (M' : pz_M), post r M' ∧ pz_rr rk r ∧ o = .returned (r.map (pz_v ad)) ∧ pz_G D ad adV cy A M' t) ∧ va_F A st t) A) (hS : va_S A s.heap H locs)
    (kk : ∀ (r : Option pz_V) (M' : pz_M) (H' : Heap) (locs' : List Loc), post r M' → pz_rr rk r → va_P D vwCl (pz_ws ad cy M') H' → va_S A s.heap H' locs' → (∀ a k : Nat, pz_c (M' a k)) → W p l e R s m args below meth c H' locs' cells slots Q (F0 m (pc + 3) ls (r.toList.map (pz_v ad) ++ rest))) : W p l e R s m args below meth c H locs cells slots Q (F0 m pc ls st0) := by
  intro T hT X
  obtain ⟨v, st₀, t, T', L, h0, X', hL, e1, e2, ⟨⟨r, M', q1, q2, q3, q4⟩, q5⟩, st⟩ := hr T hT X
  have hv : v = r.map (pz_v ad) := by cases q3; rfl
  subst hv
  have hS' : va_S A s.heap T'.heap (locs ++ L) := by
    refine ⟨?_, fun q h1 h2 => ?_, fun x hx => ?_⟩
    · have a1 := hS.1
      have a2 := q5.1
      rw [h0] at a2
      rw [e1]
      omega
    · have a1 := hS.1
      have a3 := q5.2 q (by rw [h0]; omega) h2
      rw [e1, a3, h0]
      exact hS.2.1 q h1 h2
    · rcases List.mem_append.mp hx with hx | hx
      · exact hS.2.2 x hx
      · exact hL x hx
  obtain ⟨t2, a1, b1⟩ := kk r M' T'.heap (locs ++ L) q1 q2 (by rw [e1]; exact q4.1) hS' q4.2.2 T' rfl X'
  refine ⟨t2, st t2 ?_, b1⟩
  have e3 : (r.map (pz_v ad)).toList = r.toList.map (pz_v ad) := by cases r <;> rfl
  rw [e3]
  exact a1
theorem pz_crV (Y : pz_Y p s m args c cc own nL D ad adV cy A) (hcs : cells ≤ R.cells ∧ slots ≤ R.slots) {i : Nat} {k : pz_C} (h : pz_cV R.frames R.locals own i k) : pz_CR p l e R s m args below meth c cells slots Q cc nL D ad cy A (.invokevirtual i) k := by
  obtain ⟨hx, hb, hml, hown, hts, hX⟩ := Y
  obtain ⟨y, bytes, maxL, ret, fr', lo', n, rc, hH, hfr, hlo, hn, hd, ⟨w1, w2, w3, w4, w5⟩, hrc, hre⟩ := h
  intro H locs ls M As rest pc hdg hP hS hM hAs hls hlen hrest hpre kk
  obtain ⟨id, t, rfl⟩ := hre As M hlen hpre
  have hid := hAs _ List.mem_cons_self
  have hcell : ∃ cellB : Cell, H[ad id]? = some cellB ∧ cellB.vm.isStatics = false ∧ s.vm.findClass y.cls = some cellB.cls := by
    rcases hrc with ⟨T, N, hc⟩ | ⟨rfl, hc⟩
    · have h13 : rc < 13 := (List.getElem?_eq_some_iff.mp hc).1
      have hlt : id < 206 := pz_kd_lo hid.1 (by show rc ≠ 99; omega)
      exact va_recv hX.1 hP hc (pz_wso hid.1 hlt h13)
    · have hlo : ¬ id < 206 := fun q => by
        have key : ∀ a, a < 206 → pz_kd a ≠ 99 := by decide +kernel
        exact key id q hid.1
      have h231 : id < 231 := hid.2
      have := vk_recv (i := id - 206) (adK := fun i => ad (206 + i)) hX.2.2.2.1 (by omega) hS
      rw [hc]
      rw [show 206 + (id - 206) = id by omega] at this
      exact this
  have hmet := hH l D ad adV cy A (.inr (.inr (rc, id)) :: t) M hlen hpre hAs
  have hrun := va_runV (p := p) (e := e) (R := R) (s := s) (m := m) (args := args) (below := below) (meth := meth) (c := c) (H := H) (locs := locs) (cells := cells) (slots := slots) (nL := nL) (own := own) (C := y.cls) (index := i) (n := n) (b := ad id) (As := t.map (pz_v ad)) (rest := rest.map (pz_v ad)) (g := F0 m pc ls ((( .inr (.inr (rc, id)) :: t : List pz_V).reverse ++ rest).map (pz_v ad))) (Ts := pz_tbl)
    ⟨hx, hb, hml, hown, hts⟩ hmet
    (cwV n hts (pz_good (by
      intro w hw
      rcases List.mem_append.mp hw with hw | hw
      · simp only [List.mem_cons, List.not_mem_nil, or_false] at hw
        rcases hw with rfl | rfl | rfl | rfl
        · exact w2
        · exact w3
        · exact w4
        · exact w5
      · rcases List.mem_cons.mp hw with rfl | hw
        · exact w1
        · exact hw)) rfl rfl rfl ⟨rfl, hd⟩ ⟨hfr, hlo⟩)
    ⟨pz_blind D ad adV cy A _ M, hcell, fun U hU hW => ⟨rfl, by rw [hU]; exact hP, by rw [hU]; exact (hX.kept hS.2.1).warm hW, hM⟩⟩
    rfl (by have : ( .inr (.inr (rc, id)) :: t : List pz_V).length = n + 1 := by rw [hlen, hn]
            simpa using this) hls (by simp [pz_v]) (by show 2 * 0 + _ ≤ 8; rw [pz_cs_v]; omega) hdg ⟨by simpa using hcs.1, by simpa using hcs.2⟩
  exact pz_fromRun (rk := k.2.1) (k9 := fun _ => s) hrun hS kk
theorem pz_crS (Y : pz_Y p s m args c cc own nL D ad adV cy A) (hcs : cells ≤ R.cells ∧ slots ≤ R.slots) {i : Nat} {k : pz_C} (h : pz_cS R.frames R.locals own i k) : pz_CR p l e R s m args below meth c cells slots Q cc nL D ad cy A (.invokestatic i) k := by
  obtain ⟨hx, hb, hml, hown, hts, hX⟩ := Y
  obtain ⟨y, bytes, maxL, ret, fr', lo', n, hH, hfr, hlo, hn, hd, ⟨w1, w3, w5⟩, w2⟩ := h
  intro H locs ls M As rest pc hdg hP hS hM hAs hls hlen hrest hpre kk
  have hmet := hH l D ad adV cy A As M hlen hpre hAs
  have hpS : PreS s H (va_Pc (As.map (pz_v ad)) (pz_G D ad adV cy A M)) (As.map (pz_v ad)) := ⟨pz_blind D ad adV cy A _ M, fun U hU hW => ⟨rfl, by rw [hU]; exact hP, by rw [hU]; exact (hX.kept hS.2.1).warm hW, hM⟩⟩
  have hgood : GoodIn pz_tbl (Cond.code y bytes maxL ret :: pz_tbl) := pz_good (by
    intro w hw
    rcases List.mem_cons.mp hw with rfl | hw
    · exact w1
    · exact hw)
  rcases w2 with w2 | ⟨rfl, rfl, rfl⟩
  · have hrun := va_runS (p := p) (e := e) (R := R) (s := s) (m := m) (args := args) (below := below) (meth := meth) (c := c) (H := H) (locs := locs) (cells := cells) (slots := slots) (nL := nL) (own := own) (index := i) (n := n) (As := As.map (pz_v ad)) (rest := rest.map (pz_v ad)) (g := F0 m pc ls ((As.reverse ++ rest).map (pz_v ad))) (Ts := pz_tbl)
      ⟨hx, hb, hml, hown, hts⟩ hmet
      (va_cwS n hts (pz_good (by
        intro w hw
        rcases List.mem_append.mp hw with hw | hw
        · simp only [List.mem_cons, List.not_mem_nil, or_false] at hw
          rcases hw with rfl | rfl | rfl
          · exact w2
          · exact w3
          · exact w5
        · rcases List.mem_cons.mp hw with rfl | hw
          · exact w1
          · exact hw)) rfl rfl rfl hd ⟨hfr, hlo⟩)
      hpS rfl (by simp [hlen, hn]) hls (by simp) (by show 2 * 0 + _ ≤ 8; rw [pz_cs_v]; omega) hdg ⟨by simpa using hcs.1, by simpa using hcs.2⟩
    exact pz_fromRun (rk := k.2.1) (k9 := fun _ => s) hrun hS kk
  · have hrun := va_runSN (p := p) (e := e) (R := R) (s := s) (m := m) (args := args) (below := below) (meth := meth) (c := c) (H := H) (locs := locs) (cells := cells) (slots := slots) (nL := nL) (own := RX1) (host := "TwelveChain") (index := 35) (n := n) (As := As.map (pz_v ad)) (rest := rest.map (pz_v ad)) (g := F0 m pc ls ((As.reverse ++ rest).map (pz_v ad))) (Ts := pz_tbl)
      ⟨hx, hb, hml, hown, hts⟩ hmet
      ⟨va_cnB n hts hgood rfl rfl rfl hX.2.2.2.2.2.2 (hts _ w5) hd ⟨hfr, hlo⟩, hts _ w3, trivial⟩
      hpS rfl (by simp [hlen, hn]) hls (by simp) (by show 2 * 0 + _ ≤ 8; rw [pz_cs_v]; omega) hdg ⟨by simpa using hcs.1, by simpa using hcs.2⟩
    exact pz_fromRun (rk := k.2.1) (k9 := fun _ => s) hrun hS kk
end PZV
/-- the locals at a method's start -/
def pz_es : List pz_V → pz_L
  | [] => []
  | .inr (.inl x) :: t => some (.inr (.inl x)) :: none :: pz_es t
  | v :: t => some v :: pz_es t
def pz_ent (a : List pz_V) (n : Nat) : pz_L := pz_es a ++ List.replicate (n - (pz_es a).length) none
/-- what is answered, by the descriptor and by the contract -/
def pz_ret (ret : Option FieldType) (rk : Nat) (rz : Bool) : Prop := match rk with
  | 0 => ret = none
  | 1 => ret = some .int ∧ rz = false ∨ ret = some .boolean ∧ rz = true
  | 2 => ret = some .long
  | k + 3 => ∃ C T N, vwCl[k]? = some (C, T, N) ∧ ret = some (.object C)
end
section
def pz_kk (rk : Nat) : Option pz_V → Prop
  | none => rk = 0
  | some (.inl _) => rk = 1
  | some (.inr (.inl _)) => rk = 2
  | some (.inr (.inr q)) => rk = q.1 + 3
theorem pz_es_len (ad : Nat → Nat) : ∀ a : List pz_V, (lg_sl (a.map (pz_v ad))).length = (pz_es a).length
  | [] => rfl
  | .inl x :: t => by
    have := pz_es_len ad t
    simp [lg_sl, pz_es, pz_v, Value.category] at this ⊢
    omega
  | .inr (.inl x) :: t => by
    have := pz_es_len ad t
    simp [lg_sl, pz_es, pz_v, Value.category] at this ⊢
    omega
  | .inr (.inr q) :: t => by
    have := pz_es_len ad t
    simp [lg_sl, pz_es, pz_v, Value.category] at this ⊢
    omega
theorem pz_es_mem (ad : Nat → Nat) : ∀ (a : List pz_V) (n i : Nat) (v : pz_V), (pz_es a)[i]? = some (some v) → (n + i, pz_v ad v) ∈ lv_args n (a.map (pz_v ad)) ∧ v ∈ a
  | [], n, i, v, h => by simp [pz_es] at h
  | .inl x :: t, n, 0, v, h => by
    simp [pz_es] at h
    subst h
    exact ⟨List.mem_cons_self, List.mem_cons_self⟩
  | .inl x :: t, n, i + 1, v, h => by
    obtain ⟨q1, q2⟩ := pz_es_mem ad t (n + 1) i v (by simpa [pz_es] using h)
    refine ⟨List.mem_cons_of_mem _ ?_, List.mem_cons_of_mem _ q2⟩
    rw [show n + (i + 1) = n + 1 + i by omega]
    exact q1
  | .inr (.inl x) :: t, n, 0, v, h => by
    simp [pz_es] at h
    subst h
    exact ⟨List.mem_cons_self, List.mem_cons_self⟩
  | .inr (.inl x) :: t, n, 1, v, h => by simp [pz_es] at h
  | .inr (.inl x) :: t, n, i + 2, v, h => by
    obtain ⟨q1, q2⟩ := pz_es_mem ad t (n + 2) i v (by simpa [pz_es] using h)
    refine ⟨List.mem_cons_of_mem _ ?_, List.mem_cons_of_mem _ q2⟩
    rw [show n + (i + 2) = n + 2 + i by omega]
    exact q1
  | .inr (.inr q) :: t, n, 0, v, h => by
    simp [pz_es] at h
    subst h
    exact ⟨List.mem_cons_self, List.mem_cons_self⟩
  | .inr (.inr q) :: t, n, i + 1, v, h => by
    obtain ⟨q1, q2⟩ := pz_es_mem ad t (n + 1) i v (by simpa [pz_es] using h)
    refine ⟨List.mem_cons_of_mem _ ?_, List.mem_cons_of_mem _ q2⟩
    rw [show n + (i + 1) = n + 1 + i by omega]
    exact q1
theorem pz_entLV {ad : Nat → Nat} {a : List pz_V} {n : Nat} (h : (pz_es a).length ≤ n) (hc : ∀ v ∈ a, pz_cv v) : pz_LV ad ((lg_sl (a.map (pz_v ad)) ++ List.replicate (n - (lg_sl (a.map (pz_v ad))).length) Slot.unset).toArray) n (pz_ent a n) := by
  refine pz_LV.of (lv_entry (a.map (pz_v ad)) (by rw [pz_es_len]; exact h)) (by simp [pz_ent]; omega) (fun i v e => ?_)
  unfold pz_ent at e
  by_cases hi : i < (pz_es a).length
  · rw [List.getElem?_append_left hi] at e
    obtain ⟨q1, q2⟩ := pz_es_mem ad a 0 i v e
    rw [Nat.zero_add] at q1
    exact ⟨q1, hc v q2⟩
  · rw [List.getElem?_append_right (by omega)] at e
    rw [List.getElem?_replicate] at e
    split at e <;> cases e
/-- the copying of ints from one row to another -/
def pz_cpy (M : pz_M) (a1 sp a2 dp n : Nat) : pz_M := fun b j => if b = a2 ∧ dp ≤ j ∧ j < dp + n then M a1 (sp + (j - dp)) else M b j
def pz_kac : pz_C := (5, 0, fun a _ => ∃ (k1 a1 k2 a2 : Nat) (sp dp n : Int), a = [.inr (.inr (k1, a1)), .inl sp, .inr (.inr (k2, a2)), .inl dp, .inl n] ∧ (pz_ak k1).1 = 0 ∧ (pz_ak k2).1 = 0 ∧ 0 ≤ sp ∧ 0 ≤ dp ∧ 0 ≤ n ∧ sp + n ≤ ((pz_ak k1).2 : Int) ∧ dp + n ≤ ((pz_ak k2).2 : Int),
  fun a M r M' => ∃ (k1 a1 k2 a2 : Nat) (sp dp n : Int), a = [.inr (.inr (k1, a1)), .inl sp, .inr (.inr (k2, a2)), .inl dp, .inl n] ∧ r = none ∧ M' = pz_cpy M a1 sp.toNat a2 dp.toNat n.toNat)
theorem pz_acw : (Cond.native arraycopyName) ∈ pz_tbl ∧ (Cond.static arraycopyName) ∈ pz_tbl ∧ (Cond.initialized "java/lang/System") ∈ pz_tbl := by
  refine ⟨pz_tbl_in (by decide +kernel) (by decide +kernel), pz_tbl_in (by decide +kernel) (by decide +kernel), pz_tbl_in (by decide +kernel) (by decide +kernel)⟩
section PZA
variable {p : Program} {l : Launch} {e : Env} {R : Room} {s : State} {m : MethodId} {args : Array Value} {below : List Frame} {meth : Method} {c : Code} {cells slots : Nat} {Q : State → Prop}
variable {cc : ByteArray} {own : String} {nL : Nat} {D : va_G} {ad adV : Nat → Nat} {cy : Nat → ClassId} {A : Nat → Prop}
theorem pz_crA (Y : pz_Y p s m args c cc own nL D ad adV cy A) (hfr : 1 ≤ R.frames) (hlo : 60 ≤ R.locals) {i : Nat} (h : Cond.methodLink own i arraycopyName ∈ pz_tbl) : pz_CR p l e R s m args below meth c cells slots Q cc nL D ad cy A (.invokestatic i) pz_kac := by
  obtain ⟨hx, hb, hml, hown, hts, hX⟩ := Y
  intro H locs ls M As rest pc hdg hP hS hM hAs hls hlen hrest hpre kk
  obtain ⟨k1, a1, k2, a2, sp, dp, n, rfl, e1, e2, h1, h2, h3, h4, h5⟩ := hpre
  obtain ⟨c1, hAs⟩ := pz_tlm hAs
  obtain ⟨csp, hAs⟩ := pz_tlm hAs
  obtain ⟨c2, hAs⟩ := pz_tlm hAs
  obtain ⟨cdp, hAs⟩ := pz_tlm hAs
  obtain ⟨cn, -⟩ := pz_tlm hAs
  obtain ⟨x1, x2, -⟩ := pz_ak_of (kd := k1) (t := (pz_ak k1).1) (n := (pz_ak k1).2) rfl (by omega)
  obtain ⟨y1, y2, -⟩ := pz_ak_of (kd := k2) (t := (pz_ak k2).1) (n := (pz_ak k2).2) rfl (by omega)
  have c1k : pz_kd a1 = k1 := c1.1
  have c2k : pz_kd a2 = k2 := c2.1
  have hnf : nativeFrameWords "java/lang/System" "arraycopy" 5 ≤ 40 := by decide +kernel
  have l1 : a1 < 206 := pz_kd_lo c1k (by show k1 ≠ 99; omega)
  have l2 : a2 < 206 := pz_kd_lo c2k (by show k2 ≠ 99; omega)
  have w1 := pz_wse (ad := ad) (cy := cy) (M := M) c1k l1 (show ¬ k1 < 13 by omega) (show (pz_ak k1).1 < 2 by omega)
  have w2 := pz_wse (ad := ad) (cy := cy) (M := M) c2k l2 (show ¬ k2 < 13 by omega) (show (pz_ak k2).1 < 2 by omega)
  rw [e1] at w1
  rw [e2] at w2
  have n0 : ∀ x : Int, 0 ≤ x → pz_c x → ¬ Int32.ofInt x < 0 := fun x hx hc q => by
    have := (pz_lt hc (show pz_c 0 by unfold pz_c; omega)).mp q
    omega
  refine va_copyi (ls := ls) (rest := rest.map (pz_v ad)) (sp := Int32.ofInt sp) (dp := Int32.ofInt dp) (n := Int32.ofInt n) hx hb (by rw [hml, hls]) hown (hts _ h) (hts _ pz_acw.1) (hts _ pz_acw.2.1) (hts _ pz_acw.2.2) hX.1 hP (hX.D M) hS a1 a2 0 0 w1 w2 rfl rfl rfl (n0 sp h1 csp) (n0 dp h2 cdp) (n0 n h3 cn) (by rw [pz_clamp csp, pz_clamp cn]; omega) (by rw [pz_clamp cdp, pz_clamp cn]; omega) (fun _ _ => rfl) hfr (by rw [pz_cs_v]; omega) hdg (fun H1 locs1 hP1 hD1 hS1 => ?_)
  rw [pz_clamp csp, pz_clamp cdp, pz_clamp cn] at hP1
  have hw : (pz_ws ad cy M).set a2 (ad a2, .inl (cy 0, (pz_ak k2).2, .inl (va_cpy (fun j => Int32.ofInt (M a1 j)) (fun j => Int32.ofInt (M a2 j)) sp.toNat dp.toNat n.toNat))) = pz_ws ad cy (pz_cpy M a1 sp.toNat a2 dp.toNat n.toNat) := by
    apply List.ext_getElem?
    intro b
    by_cases hb : b = a2
    · subst hb
      rw [List.getElem?_set_self (by simp [pz_ws, l2]), pz_wse (M := pz_cpy M a1 sp.toNat b dp.toNat n.toNat) c2k l2 (show ¬ k2 < 13 by omega) (show (pz_ak k2).1 < 2 by omega), e2]
      have ef : (va_cpy (fun j => Int32.ofInt (M a1 j)) (fun j => Int32.ofInt (M b j)) sp.toNat dp.toNat n.toNat) = fun j => Int32.ofInt (pz_cpy M a1 sp.toNat b dp.toNat n.toNat b j) := by
        funext j
        unfold va_cpy pz_cpy
        by_cases hj : dp.toNat ≤ j ∧ j < dp.toNat + n.toNat
        · rw [if_pos hj, if_pos ⟨rfl, hj⟩]
        · rw [if_neg hj, if_neg (fun q => hj q.2)]
      rw [ef]
    · rw [List.getElem?_set_ne (Ne.symm hb)]
      by_cases hl : b < 206
      · rw [pz_ws_get hl, pz_ws_get hl]
        have eM : ∀ j, pz_cpy M a1 sp.toNat a2 dp.toNat n.toNat b j = M b j := fun j => by
          unfold pz_cpy
          rw [if_neg (fun q => hb q.1)]
        have e2 : pz_fv ad (pz_cpy M a1 sp.toNat a2 dp.toNat n.toNat) b = pz_fv ad M b := by
          funext k2 j
          unfold pz_fv
          cases pz_rk k2 j with
          | some _ => rfl
          | none => simp only [eM]
        unfold pz_en pz_eo pz_ei
        simp only [eM, e2]
      · simp [pz_ws, hl]
  rw [hw] at hP1
  exact kk none _ H1 locs1 ⟨k1, a1, k2, a2, sp, dp, n, rfl, rfl, rfl⟩ rfl hP1 hS1 (fun a k => by
    unfold pz_cpy
    split
    · exact hM _ _
    · exact hM _ _)
end PZA
theorem pz_mk {y : MethodName} {cc : ByteArray} {maxL : Nat} {ret : Option FieldType} {k : pz_C} {fr lo : Nat} {own : String} {tb : List pz_E} {fl : Nat → Option (Nat × Nat)} {ci : Nat → Option pz_V} {ct : Bool → Nat → Option pz_C} {rz : Bool}
    (hy : plainFor y = true) (hown : y.cls = own) (htb : tb.all (fun q => pz_wf cc q) = true) (hfl : ∀ i q, fl i = some q → pz_flok own (i, q)) (hci : ∀ i v, ci i = some v → pz_ciok own i v)
    (hcv : ∀ i k', ct true i = some k' → pz_cV fr lo own i k') (hcs : ∀ i k', ct false i = some k' → pz_cS fr lo own i k' ∨ (k' = pz_kac ∧ 1 ≤ fr ∧ 60 ≤ lo ∧ Cond.methodLink own i arraycopyName ∈ pz_tbl)) (hret : pz_ret ret k.2.1 rz)
    (hsz : ∀ (a : List pz_V) (M : pz_M), a.length = k.1 → k.2.2.1 a M → (pz_es a).length ≤ maxL)
    (vc : ∀ (a : List pz_V) (M : pz_M), a.length = k.1 → (∀ v ∈ a, pz_cv v) → (∀ b j : Nat, pz_c (M b j)) → k.2.2.1 a M → ∀ Ok : pz_F, pz_Go tb fl ci ct rz Ok (fun r M' => pz_kk k.2.1 r ∧ k.2.2.2 a M r M') → Ok 0 (pz_ent a maxL) [] M) : pz_H y cc maxL ret k fr lo := by
  intro l D ad adV cy A a M hlen hpre hcan
  refine va_MetF (cc := cc) (maxL := maxL) (ret := ret) hy rfl ?_
  intro p e s m args below meth c s₁ B hml hv
  obtain ⟨rfl, hP, hX, hM⟩ := hv
  have hx := B.exec
  have hb := B.bytes
  have hr := B.returns
  have hts0 := atoms_spec (ws := .code y cc maxL ret :: pz_tbl) B.pre
  have hts : ∀ w ∈ pz_tbl, w.before (a.map (pz_v ad)).toArray s = true := fun w hw => hts0 w (List.mem_cons_of_mem _ hw)
  have hown2 : s.vm.findClass own = some m.cls := by rw [← hown]; exact findClass_of_methodNamed B.named
  have hlocks := B.notSynchronized
  have Y : pz_Y p s m (a.map (pz_v ad)).toArray c cc own maxL D ad adV cy A := ⟨hx, hb, hml, hown2, hts, hX⟩
  rw [lg_entry_eq]
  have hRT : pz_RT p l e { frames := fr, cells := 0, slots := 0, locals := lo } s m (a.map (pz_v ad)).toArray below meth c 0 0 (MQ below (fun _ st o t => (∃ (r : Option pz_V) (M' : pz_M), k.2.2.2 a M r M' ∧ pz_rr k.2.1 r ∧ o = .returned (r.map (pz_v ad)) ∧ pz_G D ad adV cy A M' t) ∧ va_F A st t) (a.map (pz_v ad)).toArray s 0 0 A) cc D ad cy A (fun r M' => pz_kk k.2.1 r ∧ k.2.2.2 a M r M') rz := by
    intro I r pc H locs ls M' hdg hok hcr hP' hS' hM' hpost
    have hfin : ∀ rr : pz_rr k.2.1 r, ∀ t : State, t.heap = H → s.WarmedH t.vm → (∃ (r' : Option pz_V) (M' : pz_M), k.2.2.2 a M r' M' ∧ pz_rr k.2.1 r' ∧ Outcome.returned (r.map (pz_v ad)) = .returned (r'.map (pz_v ad)) ∧ pz_G D ad adV cy A M' t) ∧ va_F A s t := by
      intro rr t ht hW
      refine ⟨⟨r, M', hpost.2, rr, rfl, by rw [ht]; exact hP', by rw [ht]; exact (hX.kept hS'.2.1).warm hW, hM'⟩, by rw [ht]; exact hS'.1, fun q h1 h2 => by rw [ht]; exact hS'.2.1 q h1 h2⟩
    rcases hok with ⟨rfl, x, rfl, hz⟩ | ⟨rfl, x, rfl⟩ | ⟨rfl, x, rfl⟩ | ⟨rfl, rfl⟩
    · have h1 : k.2.1 = 1 := hpost.1
      rw [h1] at hret hfin
      rcases hret with ⟨hret, hzz⟩ | ⟨hret, hzz⟩
      · exact W.zret (v := Int32.ofInt x) (ty := .int) hx hb (by rw [hr, hret]) rfl (fun t ht hW => by rw [h1]; exact hfin ⟨x, rfl, hcr _ rfl⟩ t ht hW) hS'.2.2 hdg
      · refine W.zret (v := Int32.ofInt x) (ty := .boolean) hx hb (by rw [hr, hret]) ?_ (fun t ht hW => by rw [h1]; exact hfin ⟨x, rfl, hcr _ rfl⟩ t ht hW) hS'.2.2 hdg
        rcases hz hzz with rfl | rfl <;> rfl
    · have h1 : k.2.1 = 2 := hpost.1
      rw [h1] at hret hfin
      have hret : ret = some .long := hret
      exact W.lret (v := Int64.ofInt x) hx hb (by rw [hr, hret]) (fun t ht hW => by rw [h1]; exact hfin ⟨x, rfl, hcr _ rfl⟩ t ht hW) hS'.2.2 hdg
    · have h1 : k.2.1 = x.1 + 3 := hpost.1
      rw [h1] at hret hfin
      obtain ⟨C, T, N, hc, hret⟩ := hret
      exact W.aret (v := .ref (ad x.2)) hx hb (by rw [hr, hret]) (Or.inl ⟨C, rfl⟩) (Or.inr ⟨_, rfl⟩) (fun t ht hW => by rw [h1]; exact hfin ⟨x.2, rfl, hcr _ rfl⟩ t ht hW) hS'.2.2 hdg
    · have h1 : k.2.1 = 0 := hpost.1
      rw [h1] at hret hfin
      have hret : ret = none := hret
      exact W.vret hx hb (by rw [hr, hret]) (fun t ht hW => by rw [h1]; exact hfin rfl t ht hW) hS'.2.2 hdg
  have hgo := vc a M hlen hcan hM hpre _ (fun cut n pc lo' st M' h => pz_many (R := { frames := fr, cells := 0, slots := 0, locals := lo }) (cells := 0) (slots := 0) Y htb hfl hci (fun i k' hk => pz_crV Y ⟨Nat.le_refl 0, Nat.le_refl 0⟩ (hcv i k' hk)) (fun i k' hk => by
    rcases hcs i k' hk with q | ⟨rfl, q1, q2, q3⟩
    · exact pz_crS Y ⟨Nat.le_refl 0, Nat.le_refl 0⟩ q
    · exact pz_crA Y q1 q2 q3) hRT n pc lo' st M' h)
  exact hgo s.heap [] _ hP va_S.rf hM (pz_entLV (hsz a M hlen hpre) hcan) (fun v hv => absurd hv List.not_mem_nil)
end
