section
section PZU
variable {p : Program} {l : Launch} {e : Env} {R : Room} {s : State} {m : MethodId} {args : Array Value} {below : List Frame} {meth : Method} {c : Code} {cells slots : Nat} {Q : State → Prop}
variable {cc : ByteArray} {own : String} {nL : Nat} {D : va_G} {ad adV : Nat → Nat} {cy : Nat → ClassId} {A : Nat → Prop}
theorem pz_sw_spec {x : Int} {K : Nat → Prop} : ∀ (ts : List Nat) (lo : Int), pz_sw x lo K ts → ∀ (j t : Nat), ts[j]? = some t → x = lo + j → K t
  | [], _, _, j, t, e, _ => by simp at e
  | a :: ts, lo, h, 0, t, e, hx => by
    simp at e; subst e
    exact h.1 (by omega)
  | a :: ts, lo, h, j + 1, t, e, hx => pz_sw_spec ts (lo + 1) h.2 j t (by simpa using e) (by push_cast at hx; omega)
theorem pz_off {x : Int} {K : Nat → Prop} {P : Prop} {pc : Nat} {d : Int} {dt : Nat} (hdt : (pc : Int) + d = dt) : ∀ (ps : List (Int × Int)) (ts : List Nat), pz_lk x K ps ts → pz_nk x P ps → (∀ h : P, P) → (ps.map (·.2)).map (fun o => (pc : Int) + o) = ts.map Int.ofNat → (∃ t : Nat, (pc : Int) + Op.lookupswitch.offset ps d x = t ∧ (K t ∨ (P ∧ t = dt)))
  | [], ts, _, h2, _, _ => ⟨dt, by simp [Op.lookupswitch.offset, hdt], Or.inr ⟨h2, rfl⟩⟩
  | q :: ps, [], _, _, _, e => by simp at e
  | q :: ps, t :: ts, h1, h2, hp, e => by
    simp only [List.map_cons, List.cons.injEq] at e
    by_cases hx : x = q.1
    · refine ⟨t, ?_, Or.inl (h1.1 hx)⟩
      subst hx
      simp [Op.lookupswitch.offset]
      exact e.1
    · obtain ⟨t2, e2, e3⟩ := pz_off hdt ps ts h1.2 (h2 hx) hp e.2
      refine ⟨t2, ?_, e3⟩
      have hx2 : ¬ q.1 = x := fun z => hx z.symm
      simp [Op.lookupswitch.offset, hx2] at e2 ⊢
      exact e2
theorem pz_al_spec {q : Nat × Nat} {t : Nat} {i : Int} {P : Prop} (h : pz_al q t i P) : q.1 = t ∧ 0 ≤ i ∧ i < (q.2 : Int) ∧ P := by
  unfold pz_al at h
  cases hb : Nat.beq q.1 t with
  | true => rw [hb] at h; exact ⟨Nat.eq_of_beq_eq_true hb, h⟩
  | false => rw [hb] at h; exact h.elim
theorem pz_aal_spec {kd : Nat} {i : Int} {K : Nat → Prop} (h : pz_aal kd i K) : (kd = 29 ∧ 0 ≤ i ∧ i < 12 ∧ K 5) ∨ (kd = 30 ∧ 0 ≤ i ∧ i < 6 ∧ K 0) := by
  unfold pz_aal at h
  split at h
  · exact Or.inl ⟨rfl, h⟩
  · exact Or.inr ⟨rfl, h⟩
  · exact h.elim
theorem pz_wse {ad : Nat → Nat} {cy : Nat → ClassId} {M : pz_M} {a kd : Nat} (hkd : pz_kd a = kd) (hlt : a < 206) (h13 : ¬ kd < 13) (h2 : (pz_ak kd).1 < 2) : (pz_ws ad cy M)[a]? = some (ad a, .inl (cy (pz_ak kd).1, (pz_ak kd).2, .inl (fun j => Int32.ofInt (M a j)))) := by
  rw [pz_ws_get hlt]
  unfold pz_en
  rw [hkd, if_neg h13, if_pos h2]
  rfl
theorem pz_wsq {ad : Nat → Nat} {cy : Nat → ClassId} {M : pz_M} {a kd : Nat} (hkd : pz_kd a = kd) (hlt : a < 206) (h13 : ¬ kd < 13) (h2 : ¬ (pz_ak kd).1 < 2) : (pz_ws ad cy M)[a]? = some (ad a, .inl (cy (pz_ak kd).1, (pz_ak kd).2, .inr (.inr (.inr (.inr (fun j => some (ad (pz_rf a j)))))))) := by
  rw [pz_ws_get hlt]
  unfold pz_en
  rw [hkd, if_neg h13, if_neg h2]
  rfl
theorem pz_wso {ad : Nat → Nat} {cy : Nat → ClassId} {M : pz_M} {a kd : Nat} (hkd : pz_kd a = kd) (hlt : a < 206) (h13 : kd < 13) : (pz_ws ad cy M)[a]? = some (ad a, .inr (kd, (List.range (pz_nf kd)).map (pz_fv ad M a kd))) := by
  rw [pz_ws_get hlt]
  unfold pz_en
  rw [hkd, if_pos h13]
  rfl
theorem pz_ak_of {kd t n : Nat} (h : pz_ak kd = (t, n)) (ht : t < 9) : 13 ≤ kd ∧ kd < 31 ∧ (t = 2 → kd = 29) ∧ (t = 3 → kd = 30) ∧ (kd = 29 → n = 12) ∧ (kd = 30 → n = 6) := by
  have h31 : kd < 31 ∨ 31 ≤ kd := Nat.lt_or_ge kd 31
  rcases h31 with h31 | h31
  · have key : ∀ k, k < 31 → ((pz_ak k).1 < 9 → 13 ≤ k ∧ ((pz_ak k).1 = 2 → k = 29) ∧ ((pz_ak k).1 = 3 → k = 30) ∧ (k = 29 → (pz_ak k).2 = 12) ∧ (k = 30 → (pz_ak k).2 = 6)) := by decide +kernel
    have k2 := key kd h31
    rw [h] at k2
    obtain ⟨a1, a2, a3, a4, a5⟩ := k2 ht
    exact ⟨a1, h31, a2, a3, a4, a5⟩
  · exfalso
    have e : pz_ak kd = (9, 0) := by
      unfold pz_ak
      split <;> first | omega | rfl
    rw [e] at h
    cases h
    omega

theorem ps_tableswitch (Y : pz_Y p s m args c cc own nL D ad adV cy A) {K : pz_F} (hK : ∀ pc lo st M, K pc lo st M → pz_Ok p l e R s m args below meth c cells slots Q nL D ad cy A pc lo st M) {fl : Nat → Option (Nat × Nat)} {ci : Nat → Option pz_V} {ct : Bool → Nat → Option pz_C} {Rt : Option pz_V → pz_M → Prop} {rz : Bool} {pc len nx : Nat} {tg : List Nat} {lo : pz_L} {st : List pz_V} {M : pz_M} {d low high : Int} {os : Array Int}  (hw : pz_wf cc (pc, .tableswitch d low high os, len, nx, tg) = true) (h : pz_stp fl ci ct K Rt rz (.tableswitch d low high os) nx tg lo st M) : pz_Ok p l e R s m args below meth c cells slots Q nL D ad cy A pc lo st M := by
  obtain ⟨hx, hb, hml, hown, hts, hX⟩ := Y
  obtain ⟨hd, hn, hsl, htk, him⟩ := pz_wf_spec hw
  subst hn
  intro H locs ls hP hS hM hL hst
  match tg, htk, h with
  | [], htk, h => exact h.elim
  | dt :: ts, htk, h =>
    obtain ⟨x, r, rfl, h1, h2⟩ := pz_1_spec h
    obtain ⟨c1, c2⟩ := pz_tlm hst
    simp only [pz_tok, Bool.and_eq_true, decide_eq_true_eq, List.map_cons, List.cons.injEq] at htk
    obtain ⟨⟨hdt, hts2⟩, hsz⟩ := htk
    have hti := pz_ti c1
    by_cases ho : x < low ∨ high < x
    · exact lv_tableOut hx hb hd (by rw [hti]; exact ho) hdt (hK _ _ _ _ (h2 ho) H locs ls hP hS hM hL c2)
    · have hj : (x - low).toNat < os.toList.length := by omega
      obtain ⟨off, hoff⟩ : ∃ off, os.toList[(x - low).toNat]? = some off := ⟨_, List.getElem?_eq_getElem hj⟩
      have e1 := congrArg (fun z : List Int => z[(x - low).toNat]?) hts2
      simp only [List.getElem?_map, hoff, Option.map_some] at e1
      cases ht : ts[(x - low).toNat]? with
      | none => rw [ht] at e1; cases e1
      | some t =>
        rw [ht] at e1
        simp only [Option.map_some, Option.some.injEq] at e1
        exact lv_tableIn hx hb hd (off := off) (by rw [hti]; omega) (by rw [hti]; omega) (by rw [hti, ← Array.getElem?_toList]; exact hoff) e1 (hK _ _ _ _ (pz_sw_spec ts low h1 _ t ht (by omega)) H locs ls hP hS hM hL c2)
theorem ps_lookupswitch (Y : pz_Y p s m args c cc own nL D ad adV cy A) {K : pz_F} (hK : ∀ pc lo st M, K pc lo st M → pz_Ok p l e R s m args below meth c cells slots Q nL D ad cy A pc lo st M) {fl : Nat → Option (Nat × Nat)} {ci : Nat → Option pz_V} {ct : Bool → Nat → Option pz_C} {Rt : Option pz_V → pz_M → Prop} {rz : Bool} {pc len nx : Nat} {tg : List Nat} {lo : pz_L} {st : List pz_V} {M : pz_M} {d : Int} {ps : Array (Int × Int)}  (hw : pz_wf cc (pc, .lookupswitch d ps, len, nx, tg) = true) (h : pz_stp fl ci ct K Rt rz (.lookupswitch d ps) nx tg lo st M) : pz_Ok p l e R s m args below meth c cells slots Q nL D ad cy A pc lo st M := by
  obtain ⟨hx, hb, hml, hown, hts, hX⟩ := Y
  obtain ⟨hd, hn, hsl, htk, him⟩ := pz_wf_spec hw
  subst hn
  intro H locs ls hP hS hM hL hst
  match tg, htk, h with
  | [], htk, h => exact h.elim
  | dt :: ts, htk, h =>
    obtain ⟨x, r, rfl, h1, h2⟩ := pz_1_spec h
    obtain ⟨c1, c2⟩ := pz_tlm hst
    simp only [pz_tok, Bool.and_eq_true, decide_eq_true_eq, List.map_cons, List.cons.injEq] at htk
    obtain ⟨⟨hdt, hts2⟩, hsz⟩ := htk
    have hti := pz_ti c1
    obtain ⟨t, e1, e2⟩ := pz_off (x := x) (d := d) (dt := dt) hdt ps.toList ts h1 h2 id hts2
    refine lv_lookup hx hb hd (off := Op.lookupswitch.offset ps.toList d x) (tgt := t) ?_ (by rw [hti]) e1 ?_
    · exact hsz
    · rcases e2 with e2 | ⟨e2, rfl⟩
      · exact hK _ _ _ _ e2 H locs ls hP hS hM hL c2
      · exact hK _ _ _ _ e2 H locs ls hP hS hM hL c2
theorem ps_getfield (Y : pz_Y p s m args c cc own nL D ad adV cy A) {K : pz_F} (hK : ∀ pc lo st M, K pc lo st M → pz_Ok p l e R s m args below meth c cells slots Q nL D ad cy A pc lo st M) {fl : Nat → Option (Nat × Nat)} {ci : Nat → Option pz_V} {ct : Bool → Nat → Option pz_C} {Rt : Option pz_V → pz_M → Prop} {rz : Bool} {pc len nx : Nat} {tg : List Nat} {lo : pz_L} {st : List pz_V} {M : pz_M} {i : Nat} (hfl : ∀ i q, fl i = some q → pz_flok own (i, q)) (hw : pz_wf cc (pc, .getfield i, len, nx, tg) = true) (h : pz_stp fl ci ct K Rt rz (.getfield i) nx tg lo st M) : pz_Ok p l e R s m args below meth c cells slots Q nL D ad cy A pc lo st M := by
  obtain ⟨hx, hb, hml, hown, hts, hX⟩ := Y
  obtain ⟨hd, hn, hsl, htk, him⟩ := pz_wf_spec hw
  subst hn
  have hl1 : len = 3 := of_decide_eq_true hsl
  subst hl1
  intro H locs ls hP hS hM hL hst
  have h : pz_getf (fl i) st M (fun st' => K (pc + 3) lo st' M) := h
  cases hf : fl i with
  | none => rw [hf] at h; exact h.elim
  | some q =>
    obtain ⟨k, j⟩ := q
    rw [hf] at h
    obtain ⟨kd, a, r, rfl, h⟩ := pz_r_spec h
    obtain ⟨hkk, h⟩ := pz_b_spec h
    have hkk := Nat.eq_of_beq_eq_true hkk
    subst hkk
    obtain ⟨c1, c2⟩ := pz_tlm hst
    obtain ⟨C, T, N, hcl, hkN, hlk⟩ := hfl i _ hf
    obtain ⟨k1, k2, ty0, k3⟩ := pz_cls hcl
    have hci : kd < 13 := (List.getElem?_eq_some_iff.mp hcl).1
    have hlt : a < 206 := pz_kd_lo c1.1 (by show kd ≠ 99; omega)
    have hN : N = pz_nf kd := (pz_pf_ok hcl hkN).1
    have hj : j < pz_nf kd := by rw [← hN]; exact hkN
    refine va_get (C := C) (T := T) (N := N) (fs := (List.range (pz_nf kd)).map (pz_fv ad M a kd)) hx hb hts k1 hown hX.1 hP a (pz_wso c1.1 hlt hci) hcl j hkN (hts _ hlk) (fun _ h => h) (pz_eo_get hj) hd ?_
    unfold pz_fv
    cases hr : pz_rk kd j with
    | some kr =>
      rw [hr] at h
      have hj28 : j < 28 := by
        have : ∀ k, k < 13 → pz_nf k ≤ 28 := by decide
        have := this kd hci
        omega
      obtain ⟨r1, r2⟩ := pz_rf_ok (a := a) (k := j) c1.1 (by show kd ≠ 99; omega) hr hj28 (fun z => absurd z (by show kd ≠ 29; omega)) (fun z => absurd z (by show kd ≠ 30; omega))
      exact hK _ _ _ _ (h _ rfl r1) H locs ls hP hS hM hL (pz_all ⟨r1, (by show pz_rf a j < 231; omega)⟩ c2)
    | none =>
      rw [hr] at h
      exact hK _ _ _ _ (h _ rfl (hM a j).1 (hM a j).2) H locs ls hP hS hM hL (pz_all (hM a j) c2)
theorem ps_putfield (Y : pz_Y p s m args c cc own nL D ad adV cy A) {K : pz_F} (hK : ∀ pc lo st M, K pc lo st M → pz_Ok p l e R s m args below meth c cells slots Q nL D ad cy A pc lo st M) {fl : Nat → Option (Nat × Nat)} {ci : Nat → Option pz_V} {ct : Bool → Nat → Option pz_C} {Rt : Option pz_V → pz_M → Prop} {rz : Bool} {pc len nx : Nat} {tg : List Nat} {lo : pz_L} {st : List pz_V} {M : pz_M} {i : Nat} (hfl : ∀ i q, fl i = some q → pz_flok own (i, q)) (hw : pz_wf cc (pc, .putfield i, len, nx, tg) = true) (h : pz_stp fl ci ct K Rt rz (.putfield i) nx tg lo st M) : pz_Ok p l e R s m args below meth c cells slots Q nL D ad cy A pc lo st M := by
  obtain ⟨hx, hb, hml, hown, hts, hX⟩ := Y
  obtain ⟨hd, hn, hsl, htk, him⟩ := pz_wf_spec hw
  subst hn
  have hl1 : len = 3 := of_decide_eq_true hsl
  subst hl1
  intro H locs ls hP hS hM hL hst
  have h : pz_putf (fl i) st M (fun st' M' => K (pc + 3) lo st' M') := h
  cases hf : fl i with
  | none => rw [hf] at h; exact h.elim
  | some q =>
    obtain ⟨k, j⟩ := q
    rw [hf] at h
    match st, h, hst with
    | [], h, _ => exact h.elim
    | .inr _ :: _, h, _ => exact h.elim
    | [.inl _], h, _ => exact h.elim
    | .inl _ :: .inl _ :: _, h, _ => exact h.elim
    | .inl _ :: .inr (.inl _) :: _, h, _ => exact h.elim
    | .inl v :: .inr (.inr (kd, a)) :: r, h, hst =>
      obtain ⟨hkk, h⟩ := pz_b_spec h
      have hkk := Nat.eq_of_beq_eq_true hkk
      subst hkk
      obtain ⟨cv, c1⟩ := pz_tlm hst
      obtain ⟨c1, c2⟩ := pz_tlm c1
      obtain ⟨C, T, N, hcl, hkN, hlk⟩ := hfl i _ hf
      obtain ⟨k1, k2, ty0, k3⟩ := pz_cls hcl
      have hci : kd < 13 := (List.getElem?_eq_some_iff.mp hcl).1
      have hlt : a < 206 := pz_kd_lo c1.1 (by show kd ≠ 99; omega)
      obtain ⟨hN, p1, p2⟩ := pz_pf_ok hcl hkN
      have hj : j < pz_nf kd := by rw [← hN]; exact hkN
      have fin : ∀ (ty : FieldType), pz_rk kd j = none → (T j).2.2.2 = false → parseFieldDescriptor (T j).2.2.1 = some ty → narrow ty (.int (Int32.ofInt v)) = .int (Int32.ofInt v) → fits ty (.int (Int32.ofInt v)) = true → K (pc + 3) lo r (pz_u M a j v) → W p l e R s m args below meth c H locs cells slots Q (F0 m pc ls ((.inl v :: .inr (.inr (kd, a)) :: r).map (pz_v ad))) := by
        intro ty e1 e2 e3 e4 e5 h
        refine va_put (C := C) (T := T) (N := N) (fs := (List.range (pz_nf kd)).map (pz_fv ad M a kd)) hx hb hts k1 ty0 k3 k2 hown hX.1 hP (hX.D M) hS a (pz_wso c1.1 hlt hci) hcl j hkN (hts _ hlk) (fun _ h => h) e2 e3 e4 e5 (by simpa using hj) hd (fun H1 locs1 hP1 hD1 hS1 => ?_)
        rw [pz_ws_set (M := M) (k := j) (v := v) rfl (by
          unfold pz_en
          rw [show pz_kd a = kd from c1.1, if_pos hci, pz_eo_set e1]
          rfl)] at hP1
        exact hK _ _ _ _ h H1 locs1 ls hP1 hS1 (pz_cu hM cv) hL c2
      have h : pz_putk (pz_pf kd j) v (pz_nM (pz_u M a j v) (K (pc + 3) lo r)) := h
      generalize hpf : pz_pf kd j = n at h p1 p2
      match n, h, p1, p2 with
      | 0, h, _, _ => exact h.elim
      | 1, h, p1, _ =>
        obtain ⟨q1, q2, q3⟩ := p1 rfl
        exact fin .int q3 q2 (by rw [q1]; rfl) rfl rfl (h _ rfl)
      | 2, h, _, p2 =>
        obtain ⟨q1, q2, q3⟩ := p2 rfl
        rcases h.1 with hv | hv
        · exact fin .boolean q3 q2 (by rw [q1]; rfl) (by rw [hv]; rfl) (by rw [hv]; rfl) (h.2 _ rfl)
        · exact fin .boolean q3 q2 (by rw [q1]; rfl) (by rw [hv]; rfl) (by rw [hv]; rfl) (h.2 _ rfl)
      | n + 3, h, _, _ => exact h.elim
theorem ps_iaload (Y : pz_Y p s m args c cc own nL D ad adV cy A) {K : pz_F} (hK : ∀ pc lo st M, K pc lo st M → pz_Ok p l e R s m args below meth c cells slots Q nL D ad cy A pc lo st M) {fl : Nat → Option (Nat × Nat)} {ci : Nat → Option pz_V} {ct : Bool → Nat → Option pz_C} {Rt : Option pz_V → pz_M → Prop} {rz : Bool} {pc len nx : Nat} {tg : List Nat} {lo : pz_L} {st : List pz_V} {M : pz_M}   (hw : pz_wf cc (pc, .iaload, len, nx, tg) = true) (h : pz_stp fl ci ct K Rt rz (.iaload) nx tg lo st M) : pz_Ok p l e R s m args below meth c cells slots Q nL D ad cy A pc lo st M := by
  obtain ⟨hx, hb, hml, hown, hts, hX⟩ := Y
  obtain ⟨hd, hn, hsl, htk, him⟩ := pz_wf_spec hw
  subst hn
  have hl1 : len = 1 := of_decide_eq_true hsl
  subst hl1
  intro H locs ls hP hS hM hL hst
  obtain ⟨kd, a, i, r, rfl, h⟩ := pz_ri_spec h
  obtain ⟨c0, c1⟩ := pz_tlm hst
  obtain ⟨c1, c2⟩ := pz_tlm c1
  obtain ⟨hak, h0, h1, h⟩ := pz_al_spec h
  obtain ⟨k1, k2, -⟩ := pz_ak_of (kd := kd) (t := (pz_ak kd).1) (n := (pz_ak kd).2) rfl (by omega)
  have hlt : a < 206 := pz_kd_lo c1.1 (by show kd ≠ 99; omega)
  have hws := pz_wse (ad := ad) (cy := cy) (M := M) c1.1 hlt (show ¬ kd < 13 by omega) (show (pz_ak kd).1 < 2 by omega)
  rw [hak] at hws
  refine va_iald hx hb hX.1 hP a 0 hws rfl (pz_in h0 h1 c0) hd ?_
  rw [pz_clamp c0]
  exact hK _ _ _ _ (h _ rfl (hM _ _).1 (hM _ _).2) H locs ls hP hS hM hL (pz_all (hM _ _) c2)
theorem ps_baload (Y : pz_Y p s m args c cc own nL D ad adV cy A) {K : pz_F} (hK : ∀ pc lo st M, K pc lo st M → pz_Ok p l e R s m args below meth c cells slots Q nL D ad cy A pc lo st M) {fl : Nat → Option (Nat × Nat)} {ci : Nat → Option pz_V} {ct : Bool → Nat → Option pz_C} {Rt : Option pz_V → pz_M → Prop} {rz : Bool} {pc len nx : Nat} {tg : List Nat} {lo : pz_L} {st : List pz_V} {M : pz_M}   (hw : pz_wf cc (pc, .baload, len, nx, tg) = true) (h : pz_stp fl ci ct K Rt rz (.baload) nx tg lo st M) : pz_Ok p l e R s m args below meth c cells slots Q nL D ad cy A pc lo st M := by
  obtain ⟨hx, hb, hml, hown, hts, hX⟩ := Y
  obtain ⟨hd, hn, hsl, htk, him⟩ := pz_wf_spec hw
  subst hn
  have hl1 : len = 1 := of_decide_eq_true hsl
  subst hl1
  intro H locs ls hP hS hM hL hst
  obtain ⟨kd, a, i, r, rfl, h⟩ := pz_ri_spec h
  obtain ⟨c0, c1⟩ := pz_tlm hst
  obtain ⟨c1, c2⟩ := pz_tlm c1
  obtain ⟨hak, h0, h1, h⟩ := pz_al_spec h
  obtain ⟨k1, k2, -⟩ := pz_ak_of (kd := kd) (t := (pz_ak kd).1) (n := (pz_ak kd).2) rfl (by omega)
  have hlt : a < 206 := pz_kd_lo c1.1 (by show kd ≠ 99; omega)
  have hws := pz_wse (ad := ad) (cy := cy) (M := M) c1.1 hlt (show ¬ kd < 13 by omega) (show (pz_ak kd).1 < 2 by omega)
  rw [hak] at hws
  refine va_bald hx hb hX.1 hP a 1 hws rfl (pz_in h0 h1 c0) hd ?_
  rw [pz_clamp c0]
  exact hK _ _ _ _ (h _ rfl (hM _ _).1 (hM _ _).2) H locs ls hP hS hM hL (pz_all (hM _ _) c2)
theorem ps_aaload (Y : pz_Y p s m args c cc own nL D ad adV cy A) {K : pz_F} (hK : ∀ pc lo st M, K pc lo st M → pz_Ok p l e R s m args below meth c cells slots Q nL D ad cy A pc lo st M) {fl : Nat → Option (Nat × Nat)} {ci : Nat → Option pz_V} {ct : Bool → Nat → Option pz_C} {Rt : Option pz_V → pz_M → Prop} {rz : Bool} {pc len nx : Nat} {tg : List Nat} {lo : pz_L} {st : List pz_V} {M : pz_M}   (hw : pz_wf cc (pc, .aaload, len, nx, tg) = true) (h : pz_stp fl ci ct K Rt rz (.aaload) nx tg lo st M) : pz_Ok p l e R s m args below meth c cells slots Q nL D ad cy A pc lo st M := by
  obtain ⟨hx, hb, hml, hown, hts, hX⟩ := Y
  obtain ⟨hd, hn, hsl, htk, him⟩ := pz_wf_spec hw
  subst hn
  have hl1 : len = 1 := of_decide_eq_true hsl
  subst hl1
  intro H locs ls hP hS hM hL hst
  obtain ⟨kd, a, i, r, rfl, h8⟩ := pz_ri_spec h
  obtain ⟨c0, c1⟩ := pz_tlm hst
  obtain ⟨c1, c2⟩ := pz_tlm c1
  rcases pz_aal_spec h8 with ⟨rfl, h0, h1, h⟩ | ⟨rfl, h0, h1, h⟩
  · have c1k : pz_kd a = 29 := c1.1
    have hlt : a < 206 := pz_kd_lo c1k (by decide)
    have hws := pz_wsq (ad := ad) (cy := cy) (M := M) c1k hlt (by decide) (by decide)
    refine va_aldq hx hb hX.1 hP a 2 hws rfl (pz_in h0 h1 c0) hd ?_
    rw [pz_clamp c0]
    obtain ⟨r1, r2⟩ := pz_rf_ok (a := a) (k := i.toNat) c1k (by decide) (show pz_rk 29 i.toNat = some 5 by rfl) (by omega) (fun _ => by omega) (fun z => absurd z (by decide))
    exact hK _ _ _ _ (h _ rfl r1) H locs ls hP hS hM hL (pz_all ⟨r1, (by show pz_rf a i.toNat < 231; omega)⟩ c2)
  · have c1k : pz_kd a = 30 := c1.1
    have hlt : a < 206 := pz_kd_lo c1k (by decide)
    have hws := pz_wsq (ad := ad) (cy := cy) (M := M) c1k hlt (by decide) (by decide)
    refine va_aldq hx hb hX.1 hP a 3 hws rfl (pz_in h0 h1 c0) hd ?_
    rw [pz_clamp c0]
    obtain ⟨r1, r2⟩ := pz_rf_ok (a := a) (k := i.toNat) c1k (by decide) (show pz_rk 30 i.toNat = some 0 by rfl) (by omega) (fun z => absurd z (by decide)) (fun _ => by omega)
    exact hK _ _ _ _ (h _ rfl r1) H locs ls hP hS hM hL (pz_all ⟨r1, (by show pz_rf a i.toNat < 231; omega)⟩ c2)
theorem ps_iastore (Y : pz_Y p s m args c cc own nL D ad adV cy A) {K : pz_F} (hK : ∀ pc lo st M, K pc lo st M → pz_Ok p l e R s m args below meth c cells slots Q nL D ad cy A pc lo st M) {fl : Nat → Option (Nat × Nat)} {ci : Nat → Option pz_V} {ct : Bool → Nat → Option pz_C} {Rt : Option pz_V → pz_M → Prop} {rz : Bool} {pc len nx : Nat} {tg : List Nat} {lo : pz_L} {st : List pz_V} {M : pz_M}   (hw : pz_wf cc (pc, .iastore, len, nx, tg) = true) (h : pz_stp fl ci ct K Rt rz (.iastore) nx tg lo st M) : pz_Ok p l e R s m args below meth c cells slots Q nL D ad cy A pc lo st M := by
  obtain ⟨hx, hb, hml, hown, hts, hX⟩ := Y
  obtain ⟨hd, hn, hsl, htk, him⟩ := pz_wf_spec hw
  subst hn
  have hl1 : len = 1 := of_decide_eq_true hsl
  subst hl1
  intro H locs ls hP hS hM hL hst
  obtain ⟨kd, a, i, v, r, rfl, h⟩ := pz_rii_spec h
  obtain ⟨cv, c0⟩ := pz_tlm hst
  obtain ⟨c0, c1⟩ := pz_tlm c0
  obtain ⟨c1, c2⟩ := pz_tlm c1
  obtain ⟨hak, h0, h1, h⟩ := pz_al_spec h
  obtain ⟨k1, k2, -⟩ := pz_ak_of (kd := kd) (t := (pz_ak kd).1) (n := (pz_ak kd).2) rfl (by omega)
  have hlt : a < 206 := pz_kd_lo c1.1 (by show kd ≠ 99; omega)
  have hws := pz_wse (ad := ad) (cy := cy) (M := M) c1.1 hlt (show ¬ kd < 13 by omega) (show (pz_ak kd).1 < 2 by omega)
  rw [hak] at hws
  refine va_iast hx hb hX.1 hP (hX.D M) hS a 0 hws rfl (pz_in h0 h1 c0) hd (fun H1 locs1 hP1 hD1 hS1 => ?_)
  · 
    rw [pz_clamp c0, pz_upd, pz_ws_set (M := M) (k := i.toNat) (v := v) rfl (by
      unfold pz_en
      rw [show pz_kd a = kd from c1.1, if_neg (show ¬ kd < 13 by omega), if_pos (show (pz_ak kd).1 < 2 by omega)]
      unfold pz_ei
      rw [hak])] at hP1
    exact hK _ _ _ _ (h _ rfl) H1 locs1 ls hP1 hS1 (pz_cu hM cv) hL c2
theorem ps_bastore (Y : pz_Y p s m args c cc own nL D ad adV cy A) {K : pz_F} (hK : ∀ pc lo st M, K pc lo st M → pz_Ok p l e R s m args below meth c cells slots Q nL D ad cy A pc lo st M) {fl : Nat → Option (Nat × Nat)} {ci : Nat → Option pz_V} {ct : Bool → Nat → Option pz_C} {Rt : Option pz_V → pz_M → Prop} {rz : Bool} {pc len nx : Nat} {tg : List Nat} {lo : pz_L} {st : List pz_V} {M : pz_M}   (hw : pz_wf cc (pc, .bastore, len, nx, tg) = true) (h : pz_stp fl ci ct K Rt rz (.bastore) nx tg lo st M) : pz_Ok p l e R s m args below meth c cells slots Q nL D ad cy A pc lo st M := by
  obtain ⟨hx, hb, hml, hown, hts, hX⟩ := Y
  obtain ⟨hd, hn, hsl, htk, him⟩ := pz_wf_spec hw
  subst hn
  have hl1 : len = 1 := of_decide_eq_true hsl
  subst hl1
  intro H locs ls hP hS hM hL hst
  obtain ⟨kd, a, i, v, r, rfl, h⟩ := pz_rii_spec h
  obtain ⟨cv, c0⟩ := pz_tlm hst
  obtain ⟨c0, c1⟩ := pz_tlm c0
  obtain ⟨c1, c2⟩ := pz_tlm c1
  obtain ⟨hak, h0, h1, hv1, hv2, h⟩ := pz_al_spec h
  obtain ⟨k1, k2, -⟩ := pz_ak_of (kd := kd) (t := (pz_ak kd).1) (n := (pz_ak kd).2) rfl (by omega)
  have hlt : a < 206 := pz_kd_lo c1.1 (by show kd ≠ 99; omega)
  have hws := pz_wse (ad := ad) (cy := cy) (M := M) c1.1 hlt (show ¬ kd < 13 by omega) (show (pz_ak kd).1 < 2 by omega)
  rw [hak] at hws
  refine va_bast hx hb hX.1 hP (hX.D M) hS a 1 hws rfl (pz_in h0 h1 c0) hd (fun H1 locs1 hP1 hD1 hS1 => ?_)
  · 
    have e8 : vp_nar .byte (Int32.ofInt v) = Int32.ofInt v := by
      rw [vp_nar_byte]
      have : (Int32.ofInt v).toInt8 = Int8.ofInt v := by simp
      rw [this, pz_bip hv1 hv2]
    rw [e8] at hP1
    rw [pz_clamp c0, pz_upd, pz_ws_set (M := M) (k := i.toNat) (v := v) rfl (by
      unfold pz_en
      rw [show pz_kd a = kd from c1.1, if_neg (show ¬ kd < 13 by omega), if_pos (show (pz_ak kd).1 < 2 by omega)]
      unfold pz_ei
      rw [hak])] at hP1
    exact hK _ _ _ _ (h _ rfl) H1 locs1 ls hP1 hS1 (pz_cu hM cv) hL c2
theorem ps_arraylength (Y : pz_Y p s m args c cc own nL D ad adV cy A) {K : pz_F} (hK : ∀ pc lo st M, K pc lo st M → pz_Ok p l e R s m args below meth c cells slots Q nL D ad cy A pc lo st M) {fl : Nat → Option (Nat × Nat)} {ci : Nat → Option pz_V} {ct : Bool → Nat → Option pz_C} {Rt : Option pz_V → pz_M → Prop} {rz : Bool} {pc len nx : Nat} {tg : List Nat} {lo : pz_L} {st : List pz_V} {M : pz_M}   (hw : pz_wf cc (pc, .arraylength, len, nx, tg) = true) (h : pz_stp fl ci ct K Rt rz (.arraylength) nx tg lo st M) : pz_Ok p l e R s m args below meth c cells slots Q nL D ad cy A pc lo st M := by
  obtain ⟨hx, hb, hml, hown, hts, hX⟩ := Y
  obtain ⟨hd, hn, hsl, htk, him⟩ := pz_wf_spec hw
  subst hn
  have hl1 : len = 1 := of_decide_eq_true hsl
  subst hl1
  intro H locs ls hP hS hM hL hst
  obtain ⟨kd, a, r, rfl, h⟩ := pz_r_spec h
  obtain ⟨c1, c2⟩ := pz_tlm hst
  obtain ⟨h9, h⟩ := pz_b_spec h
  have h9 := Nat.le_of_ble_eq_true h9
  obtain ⟨k1, k2, k3, k4, k5, k6⟩ := pz_ak_of (kd := kd) (t := (pz_ak kd).1) (n := (pz_ak kd).2) rfl (by omega)
  have hlt : a < 206 := pz_kd_lo c1.1 (by show kd ≠ 99; omega)
  have key : ∀ k, k < 31 → ((pz_ak k).1 < 4 ∨ (pz_ak k).1 = 9) ∧ (pz_ak k).2 ≤ 4096 := by decide +kernel
  obtain ⟨key1, key2⟩ := key kd k2
  have hcn : pz_c (((pz_ak kd).2 : Nat) : Int) := ⟨by omega, by omega⟩
  have hv : Int32.ofNat (pz_ak kd).2 = Int32.ofInt ((pz_ak kd).2 : Int) := (Int32.ofInt_eq_ofNat).symm
  have h := hK _ _ _ _ h H locs ls hP hS hM hL (pz_all hcn c2)
  by_cases h2 : (pz_ak kd).1 < 2
  · have hws := pz_wse (ad := ad) (cy := cy) (M := M) c1.1 hlt (show ¬ kd < 13 by omega) h2
    have h3 : (pz_ak kd).1 = 0 ∨ (pz_ak kd).1 = 1 := by omega
    rcases h3 with h3 | h3
    · exact va_alen hx hb hX.1 hP a 0 hws (ty := .int) (by rw [h3]; rfl) hv hd h
    · exact va_alen hx hb hX.1 hP a 1 hws (ty := .byte) (by rw [h3]; rfl) hv hd h
  · have hws := pz_wsq (ad := ad) (cy := cy) (M := M) c1.1 hlt (show ¬ kd < 13 by omega) h2
    have h3 : (pz_ak kd).1 = 2 ∨ (pz_ak kd).1 = 3 := by omega
    rcases h3 with h3 | h3
    · exact va_alen hx hb hX.1 hP a 2 hws (ty := .object "TwelveChain$Link") (by rw [h3]; rfl) hv hd h
    · exact va_alen hx hb hX.1 hP a 3 hws (ty := .object "TwelveChain$Chain") (by rw [h3]; rfl) hv hd h
theorem ps_invokevirtual (Y : pz_Y p s m args c cc own nL D ad adV cy A) {K : pz_F} (hK : ∀ pc lo st M, K pc lo st M → pz_Ok p l e R s m args below meth c cells slots Q nL D ad cy A pc lo st M) {fl : Nat → Option (Nat × Nat)} {ci : Nat → Option pz_V} {ct : Bool → Nat → Option pz_C} {Rt : Option pz_V → pz_M → Prop} {rz : Bool} {pc len nx : Nat} {tg : List Nat} {lo : pz_L} {st : List pz_V} {M : pz_M} {i : Nat} (hcall : ∀ i k, ct true i = some k → pz_CR p l e R s m args below meth c cells slots Q cc nL D ad cy A (.invokevirtual i) k) (hw : pz_wf cc (pc, .invokevirtual i, len, nx, tg) = true) (h : pz_stp fl ci ct K Rt rz (.invokevirtual i) nx tg lo st M) : pz_Ok p l e R s m args below meth c cells slots Q nL D ad cy A pc lo st M := by
  obtain ⟨hx, hb, hml, hown, hts, hX⟩ := Y
  obtain ⟨hd, hn, hsl, htk, him⟩ := pz_wf_spec hw
  subst hn
  have hl1 : len = 3 := of_decide_eq_true hsl
  subst hl1
  intro H locs ls hP hS hM hL hst
  have h : pz_call (ct true) i lo st M (fun st' M' => K (pc + 3) lo st' M') := h
  unfold pz_call at h
  cases hk : ct true i with
  | none => rw [hk] at h; exact h.elim
  | some k =>
    rw [hk] at h
    obtain ⟨n, rk, pre, post⟩ := k
    obtain ⟨h1, h⟩ := pz_b_spec h
    obtain ⟨h2, h⟩ := pz_b_spec h
    obtain ⟨h3, h⟩ := h
    have h1 := Nat.le_of_ble_eq_true h1
    have h2 := Nat.le_of_ble_eq_true h2
    have est : (st.take n).reverse.reverse ++ st.drop n = st := by rw [List.reverse_reverse, List.take_append_drop]
    have k := hcall i _ hk H locs ls M (st.take n).reverse (st.drop n) pc hd hP hS hM (fun v hv => hst v (List.mem_of_mem_take (List.mem_reverse.mp hv))) hL.1 (by simp; omega) h2 h3 (fun r M' H' locs' e1 e2 hP' hS' hM' => ?_)
    · rw [est] at k; exact k
    · have hdr : ∀ v ∈ st.drop n, pz_cv v := fun v hv => hst v (List.mem_of_mem_drop hv)
      match rk, h, e2 with
      | 0, h, e2 =>
        subst e2
        exact hK _ _ _ _ (h M' e1) H' locs' ls hP' hS' hM' hL hdr
      | 1, h, e2 =>
        obtain ⟨x, rfl, cx⟩ := e2
        exact hK _ _ _ _ (h x M' cx.1 cx.2 e1) H' locs' ls hP' hS' hM' hL (pz_all cx hdr)
      | 2, h, e2 =>
        obtain ⟨x, rfl, cx⟩ := e2
        exact hK _ _ _ _ (h x M' cx.1 cx.2 e1) H' locs' ls hP' hS' hM' hL (pz_all cx hdr)
      | q + 3, h, e2 =>
        obtain ⟨x, rfl, cx⟩ := e2
        exact hK _ _ _ _ (h x M' cx.1 e1) H' locs' ls hP' hS' hM' hL (pz_all cx hdr)
theorem ps_invokestatic (Y : pz_Y p s m args c cc own nL D ad adV cy A) {K : pz_F} (hK : ∀ pc lo st M, K pc lo st M → pz_Ok p l e R s m args below meth c cells slots Q nL D ad cy A pc lo st M) {fl : Nat → Option (Nat × Nat)} {ci : Nat → Option pz_V} {ct : Bool → Nat → Option pz_C} {Rt : Option pz_V → pz_M → Prop} {rz : Bool} {pc len nx : Nat} {tg : List Nat} {lo : pz_L} {st : List pz_V} {M : pz_M} {i : Nat} (hcall : ∀ i k, ct false i = some k → pz_CR p l e R s m args below meth c cells slots Q cc nL D ad cy A (.invokestatic i) k) (hw : pz_wf cc (pc, .invokestatic i, len, nx, tg) = true) (h : pz_stp fl ci ct K Rt rz (.invokestatic i) nx tg lo st M) : pz_Ok p l e R s m args below meth c cells slots Q nL D ad cy A pc lo st M := by
  obtain ⟨hx, hb, hml, hown, hts, hX⟩ := Y
  obtain ⟨hd, hn, hsl, htk, him⟩ := pz_wf_spec hw
  subst hn
  have hl1 : len = 3 := of_decide_eq_true hsl
  subst hl1
  intro H locs ls hP hS hM hL hst
  have h : pz_call (ct false) i lo st M (fun st' M' => K (pc + 3) lo st' M') := h
  unfold pz_call at h
  cases hk : ct false i with
  | none => rw [hk] at h; exact h.elim
  | some k =>
    rw [hk] at h
    obtain ⟨n, rk, pre, post⟩ := k
    obtain ⟨h1, h⟩ := pz_b_spec h
    obtain ⟨h2, h⟩ := pz_b_spec h
    obtain ⟨h3, h⟩ := h
    have h1 := Nat.le_of_ble_eq_true h1
    have h2 := Nat.le_of_ble_eq_true h2
    have est : (st.take n).reverse.reverse ++ st.drop n = st := by rw [List.reverse_reverse, List.take_append_drop]
    have k := hcall i _ hk H locs ls M (st.take n).reverse (st.drop n) pc hd hP hS hM (fun v hv => hst v (List.mem_of_mem_take (List.mem_reverse.mp hv))) hL.1 (by simp; omega) h2 h3 (fun r M' H' locs' e1 e2 hP' hS' hM' => ?_)
    · rw [est] at k; exact k
    · have hdr : ∀ v ∈ st.drop n, pz_cv v := fun v hv => hst v (List.mem_of_mem_drop hv)
      match rk, h, e2 with
      | 0, h, e2 =>
        subst e2
        exact hK _ _ _ _ (h M' e1) H' locs' ls hP' hS' hM' hL hdr
      | 1, h, e2 =>
        obtain ⟨x, rfl, cx⟩ := e2
        exact hK _ _ _ _ (h x M' cx.1 cx.2 e1) H' locs' ls hP' hS' hM' hL (pz_all cx hdr)
      | 2, h, e2 =>
        obtain ⟨x, rfl, cx⟩ := e2
        exact hK _ _ _ _ (h x M' cx.1 cx.2 e1) H' locs' ls hP' hS' hM' hL (pz_all cx hdr)
      | q + 3, h, e2 =>
        obtain ⟨x, rfl, cx⟩ := e2
        exact hK _ _ _ _ (h x M' cx.1 e1) H' locs' ls hP' hS' hM' hL (pz_all cx hdr)
theorem ps_ireturn (Y : pz_Y p s m args c cc own nL D ad adV cy A) {K : pz_F} (hK : ∀ pc lo st M, K pc lo st M → pz_Ok p l e R s m args below meth c cells slots Q nL D ad cy A pc lo st M) {fl : Nat → Option (Nat × Nat)} {ci : Nat → Option pz_V} {ct : Bool → Nat → Option pz_C} {Rt : Option pz_V → pz_M → Prop} {rz : Bool} {pc len nx : Nat} {tg : List Nat} {lo : pz_L} {st : List pz_V} {M : pz_M}  (hRT : pz_RT p l e R s m args below meth c cells slots Q cc D ad cy A Rt rz) (hw : pz_wf cc (pc, .ireturn, len, nx, tg) = true) (h : pz_stp fl ci ct K Rt rz (.ireturn) nx tg lo st M) : pz_Ok p l e R s m args below meth c cells slots Q nL D ad cy A pc lo st M := by
  obtain ⟨hx, hb, hml, hown, hts, hX⟩ := Y
  obtain ⟨hd, hn, hsl, htk, him⟩ := pz_wf_spec hw
  subst hn
  have hl1 : len = 1 := of_decide_eq_true hsl
  subst hl1
  intro H locs ls hP hS hM hL hst
  match st, h, hst with
  | [], h, _ => exact h.elim
  | .inr _ :: _, h, _ => exact h.elim
  | .inl _ :: _ :: _, h, _ => exact h.elim
  | [.inl x], h, hst =>
    have hc := (pz_tlm hst).1
    cases rz with
    | true => exact hRT .ireturn (some (.inl x)) pc H locs ls M hd (Or.inl ⟨rfl, x, rfl, fun _ => h.1⟩) (fun v hv => by cases hv; exact hc) hP hS hM h.2
    | false => exact hRT .ireturn (some (.inl x)) pc H locs ls M hd (Or.inl ⟨rfl, x, rfl, fun z => by cases z⟩) (fun v hv => by cases hv; exact hc) hP hS hM h
theorem ps_lreturn (Y : pz_Y p s m args c cc own nL D ad adV cy A) {K : pz_F} (hK : ∀ pc lo st M, K pc lo st M → pz_Ok p l e R s m args below meth c cells slots Q nL D ad cy A pc lo st M) {fl : Nat → Option (Nat × Nat)} {ci : Nat → Option pz_V} {ct : Bool → Nat → Option pz_C} {Rt : Option pz_V → pz_M → Prop} {rz : Bool} {pc len nx : Nat} {tg : List Nat} {lo : pz_L} {st : List pz_V} {M : pz_M}  (hRT : pz_RT p l e R s m args below meth c cells slots Q cc D ad cy A Rt rz) (hw : pz_wf cc (pc, .lreturn, len, nx, tg) = true) (h : pz_stp fl ci ct K Rt rz (.lreturn) nx tg lo st M) : pz_Ok p l e R s m args below meth c cells slots Q nL D ad cy A pc lo st M := by
  obtain ⟨hx, hb, hml, hown, hts, hX⟩ := Y
  obtain ⟨hd, hn, hsl, htk, him⟩ := pz_wf_spec hw
  subst hn
  have hl1 : len = 1 := of_decide_eq_true hsl
  subst hl1
  intro H locs ls hP hS hM hL hst
  match st, h, hst with
  | [], h, _ => exact h.elim
  | .inl _ :: _, h, _ => exact h.elim
  | .inr (.inr _) :: _, h, _ => exact h.elim
  | .inr (.inl _) :: _ :: _, h, _ => exact h.elim
  | [.inr (.inl x)], h, hst =>
    have hc := (pz_tlm hst).1
    exact hRT .lreturn (some (.inr (.inl x))) pc H locs ls M hd (Or.inr (Or.inl ⟨rfl, x, rfl⟩)) (fun v hv => by cases hv; exact hc) hP hS hM h
theorem ps_areturn (Y : pz_Y p s m args c cc own nL D ad adV cy A) {K : pz_F} (hK : ∀ pc lo st M, K pc lo st M → pz_Ok p l e R s m args below meth c cells slots Q nL D ad cy A pc lo st M) {fl : Nat → Option (Nat × Nat)} {ci : Nat → Option pz_V} {ct : Bool → Nat → Option pz_C} {Rt : Option pz_V → pz_M → Prop} {rz : Bool} {pc len nx : Nat} {tg : List Nat} {lo : pz_L} {st : List pz_V} {M : pz_M}  (hRT : pz_RT p l e R s m args below meth c cells slots Q cc D ad cy A Rt rz) (hw : pz_wf cc (pc, .areturn, len, nx, tg) = true) (h : pz_stp fl ci ct K Rt rz (.areturn) nx tg lo st M) : pz_Ok p l e R s m args below meth c cells slots Q nL D ad cy A pc lo st M := by
  obtain ⟨hx, hb, hml, hown, hts, hX⟩ := Y
  obtain ⟨hd, hn, hsl, htk, him⟩ := pz_wf_spec hw
  subst hn
  have hl1 : len = 1 := of_decide_eq_true hsl
  subst hl1
  intro H locs ls hP hS hM hL hst
  match st, h, hst with
  | [], h, _ => exact h.elim
  | .inl _ :: _, h, _ => exact h.elim
  | .inr (.inl _) :: _, h, _ => exact h.elim
  | .inr (.inr _) :: _ :: _, h, _ => exact h.elim
  | [.inr (.inr x)], h, hst =>
    have hc := (pz_tlm hst).1
    exact hRT .areturn (some (.inr (.inr x))) pc H locs ls M hd (Or.inr (Or.inr (Or.inl ⟨rfl, x, rfl⟩))) (fun v hv => by cases hv; exact hc) hP hS hM h
end PZU
end
