section
def pz_kk (rk : Nat) : Option pz_V → Prop
  | none => rk = 0
  | some (.inl _) => rk = 1
  | some (.inr (.inl _)) => rk = 2
  | some (.inr (.inr q)) => rk = q.1 + 3
theorem pz_es_len (ad : Nat → Nat) : ∀ a : List pz_V, (lg_sl (a.map (pz_v ad))).length = (pz_es a).length
  | [] => rfl
  | .inl x :: t => by
    have := pz_es_len ad t
    simp [lg_sl, pz_es, pz_v, Value.category] at this ⊢
    omega
  | .inr (.inl x) :: t => by
    have := pz_es_len ad t
    simp [lg_sl, pz_es, pz_v, Value.category] at this ⊢
    omega
  | .inr (.inr q) :: t => by
    have := pz_es_len ad t
    simp [lg_sl, pz_es, pz_v, Value.category] at this ⊢
    omega
theorem pz_es_mem (ad : Nat → Nat) : ∀ (a : List pz_V) (n i : Nat) (v : pz_V), (pz_es a)[i]? = some (some v) → (n + i, pz_v ad v) ∈ lv_args n (a.map (pz_v ad)) ∧ v ∈ a
  | [], n, i, v, h => by simp [pz_es] at h
  | .inl x :: t, n, 0, v, h => by
    simp [pz_es] at h
    subst h
    exact ⟨List.mem_cons_self, List.mem_cons_self⟩
  | .inl x :: t, n, i + 1, v, h => by
    obtain ⟨q1, q2⟩ := pz_es_mem ad t (n + 1) i v (by simpa [pz_es] using h)
    refine ⟨List.mem_cons_of_mem _ ?_, List.mem_cons_of_mem _ q2⟩
    rw [show n + (i + 1) = n + 1 + i by omega]
    exact q1
  | .inr (.inl x) :: t, n, 0, v, h => by
    simp [pz_es] at h
    subst h
    exact ⟨List.mem_cons_self, List.mem_cons_self⟩
  | .inr (.inl x) :: t, n, 1, v, h => by simp [pz_es] at h
  | .inr (.inl x) :: t, n, i + 2, v, h => by
    obtain ⟨q1, q2⟩ := pz_es_mem ad t (n + 2) i v (by simpa [pz_es] using h)
    refine ⟨List.mem_cons_of_mem _ ?_, List.mem_cons_of_mem _ q2⟩
    rw [show n + (i + 2) = n + 2 + i by omega]
    exact q1
  | .inr (.inr q) :: t, n, 0, v, h => by
    simp [pz_es] at h
    subst h
    exact ⟨List.mem_cons_self, List.mem_cons_self⟩
  | .inr (.inr q) :: t, n, i + 1, v, h => by
    obtain ⟨q1, q2⟩ := pz_es_mem ad t (n + 1) i v (by simpa [pz_es] using h)
    refine ⟨List.mem_cons_of_mem _ ?_, List.mem_cons_of_mem _ q2⟩
    rw [show n + (i + 1) = n + 1 + i by omega]
    exact q1
theorem pz_entLV {ad : Nat → Nat} {a : List pz_V} {n : Nat} (h : (pz_es a).length ≤ n) (hc : ∀ v ∈ a, pz_cv v) : pz_LV ad ((lg_sl (a.map (pz_v ad)) ++ List.replicate (n - (lg_sl (a.map (pz_v ad))).length) Slot.unset).toArray) n (pz_ent a n) := by
  refine pz_LV.of (lv_entry (a.map (pz_v ad)) (by rw [pz_es_len]; exact h)) (by simp [pz_ent]; omega) (fun i v e => ?_)
  unfold pz_ent at e
  by_cases hi : i < (pz_es a).length
  · rw [List.getElem?_append_left hi] at e
    obtain ⟨q1, q2⟩ := pz_es_mem ad a 0 i v e
    rw [Nat.zero_add] at q1
    exact ⟨q1, hc v q2⟩
  · rw [List.getElem?_append_right (by omega)] at e
    rw [List.getElem?_replicate] at e
    split at e <;> cases e
/-- the copying of ints from one row to another -/
def pz_cpy (M : pz_M) (a1 sp a2 dp n : Nat) : pz_M := fun b j => if b = a2 ∧ dp ≤ j ∧ j < dp + n then M a1 (sp + (j - dp)) else M b j
def pz_kac : pz_C := (5, 0, fun a _ => ∃ (k1 a1 k2 a2 : Nat) (sp dp n : Int), a = [.inr (.inr (k1, a1)), .inl sp, .inr (.inr (k2, a2)), .inl dp, .inl n] ∧ (pz_ak k1).1 = 0 ∧ (pz_ak k2).1 = 0 ∧ 0 ≤ sp ∧ 0 ≤ dp ∧ 0 ≤ n ∧ sp + n ≤ ((pz_ak k1).2 : Int) ∧ dp + n ≤ ((pz_ak k2).2 : Int),
  fun a M r M' => ∃ (k1 a1 k2 a2 : Nat) (sp dp n : Int), a = [.inr (.inr (k1, a1)), .inl sp, .inr (.inr (k2, a2)), .inl dp, .inl n] ∧ r = none ∧ M' = pz_cpy M a1 sp.toNat a2 dp.toNat n.toNat)
theorem pz_acw : (Cond.native arraycopyName) ∈ pz_tbl ∧ (Cond.static arraycopyName) ∈ pz_tbl ∧ (Cond.initialized "java/lang/System") ∈ pz_tbl := by
  refine ⟨pz_tbl_in (by decide +kernel) (by decide +kernel), pz_tbl_in (by decide +kernel) (by decide +kernel), pz_tbl_in (by decide +kernel) (by decide +kernel)⟩
section PZA
variable {p : Program} {l : Launch} {e : Env} {R : Room} {s : State} {m : MethodId} {args : Array Value} {below : List Frame} {meth : Method} {c : Code} {cells slots : Nat} {Q : State → Prop}
variable {cc : ByteArray} {own : String} {nL : Nat} {D : va_G} {ad adV : Nat → Nat} {cy : Nat → ClassId} {A : Nat → Prop}
theorem pz_crA (Y : pz_Y p s m args c cc own nL D ad adV cy A) (hfr : 1 ≤ R.frames) (hlo : 60 ≤ R.locals) {i : Nat} (h : Cond.methodLink own i arraycopyName ∈ pz_tbl) : pz_CR p l e R s m args below meth c cells slots Q cc nL D ad cy A (.invokestatic i) pz_kac := by
  obtain ⟨hx, hb, hml, hown, hts, hX⟩ := Y
  intro H locs ls M As rest pc hdg hP hS hM hAs hls hlen hrest hpre kk
  obtain ⟨k1, a1, k2, a2, sp, dp, n, rfl, e1, e2, h1, h2, h3, h4, h5⟩ := hpre
  obtain ⟨c1, hAs⟩ := pz_tlm hAs
  obtain ⟨csp, hAs⟩ := pz_tlm hAs
  obtain ⟨c2, hAs⟩ := pz_tlm hAs
  obtain ⟨cdp, hAs⟩ := pz_tlm hAs
  obtain ⟨cn, -⟩ := pz_tlm hAs
  obtain ⟨x1, x2, -⟩ := pz_ak_of (kd := k1) (t := (pz_ak k1).1) (n := (pz_ak k1).2) rfl (by omega)
  obtain ⟨y1, y2, -⟩ := pz_ak_of (kd := k2) (t := (pz_ak k2).1) (n := (pz_ak k2).2) rfl (by omega)
  have c1k : pz_kd a1 = k1 := c1.1
  have c2k : pz_kd a2 = k2 := c2.1
  have hnf : nativeFrameWords "java/lang/System" "arraycopy" 5 ≤ 40 := by decide +kernel
  have l1 : a1 < 206 := pz_kd_lo c1k (by show k1 ≠ 99; omega)
  have l2 : a2 < 206 := pz_kd_lo c2k (by show k2 ≠ 99; omega)
  have w1 := pz_wse (ad := ad) (cy := cy) (M := M) c1k l1 (show ¬ k1 < 13 by omega) (show (pz_ak k1).1 < 2 by omega)
  have w2 := pz_wse (ad := ad) (cy := cy) (M := M) c2k l2 (show ¬ k2 < 13 by omega) (show (pz_ak k2).1 < 2 by omega)
  rw [e1] at w1
  rw [e2] at w2
  have n0 : ∀ x : Int, 0 ≤ x → pz_c x → ¬ Int32.ofInt x < 0 := fun x hx hc q => by
    have := (pz_lt hc (show pz_c 0 by unfold pz_c; omega)).mp q
    omega
  refine va_copyi (ls := ls) (rest := rest.map (pz_v ad)) (sp := Int32.ofInt sp) (dp := Int32.ofInt dp) (n := Int32.ofInt n) hx hb (by rw [hml, hls]) hown (hts _ h) (hts _ pz_acw.1) (hts _ pz_acw.2.1) (hts _ pz_acw.2.2) hX.1 hP (hX.D M) hS a1 a2 0 0 w1 w2 rfl rfl rfl (n0 sp h1 csp) (n0 dp h2 cdp) (n0 n h3 cn) (by rw [pz_clamp csp, pz_clamp cn]; omega) (by rw [pz_clamp cdp, pz_clamp cn]; omega) (fun _ _ => rfl) hfr (by rw [pz_cs_v]; omega) hdg (fun H1 locs1 hP1 hD1 hS1 => ?_)
  rw [pz_clamp csp, pz_clamp cdp, pz_clamp cn] at hP1
  have hw : (pz_ws ad cy M).set a2 (ad a2, .inl (cy 0, (pz_ak k2).2, .inl (va_cpy (fun j => Int32.ofInt (M a1 j)) (fun j => Int32.ofInt (M a2 j)) sp.toNat dp.toNat n.toNat))) = pz_ws ad cy (pz_cpy M a1 sp.toNat a2 dp.toNat n.toNat) := by
    apply List.ext_getElem?
    intro b
    by_cases hb : b = a2
    · subst hb
      rw [List.getElem?_set_self (by simp [pz_ws, l2]), pz_wse (M := pz_cpy M a1 sp.toNat b dp.toNat n.toNat) c2k l2 (show ¬ k2 < 13 by omega) (show (pz_ak k2).1 < 2 by omega), e2]
      have ef : (va_cpy (fun j => Int32.ofInt (M a1 j)) (fun j => Int32.ofInt (M b j)) sp.toNat dp.toNat n.toNat) = fun j => Int32.ofInt (pz_cpy M a1 sp.toNat b dp.toNat n.toNat b j) := by
        funext j
        unfold va_cpy pz_cpy
        by_cases hj : dp.toNat ≤ j ∧ j < dp.toNat + n.toNat
        · rw [if_pos hj, if_pos ⟨rfl, hj⟩]
        · rw [if_neg hj, if_neg (fun q => hj q.2)]
      rw [ef]
    · rw [List.getElem?_set_ne (Ne.symm hb)]
      by_cases hl : b < 206
      · rw [pz_ws_get hl, pz_ws_get hl]
        have eM : ∀ j, pz_cpy M a1 sp.toNat a2 dp.toNat n.toNat b j = M b j := fun j => by
          unfold pz_cpy
          rw [if_neg (fun q => hb q.1)]
        have e2 : pz_fv ad (pz_cpy M a1 sp.toNat a2 dp.toNat n.toNat) b = pz_fv ad M b := by
          funext k2 j
          unfold pz_fv
          cases pz_rk k2 j with
          | some _ => rfl
          | none => simp only [eM]
        unfold pz_en pz_eo pz_ei
        simp only [eM, e2]
      · simp [pz_ws, hl]
  rw [hw] at hP1
  exact kk none _ H1 locs1 ⟨k1, a1, k2, a2, sp, dp, n, rfl, rfl, rfl⟩ rfl hP1 hS1 (fun a k => by
    unfold pz_cpy
    split
    · exact hM _ _
    · exact hM _ _)
end PZA
theorem pz_mk {y : MethodName} {cc : ByteArray} {maxL : Nat} {ret : Option FieldType} {k : pz_C} {fr lo : Nat} {own : String} {tb : List pz_E} {fl : Nat → Option (Nat × Nat)} {ci : Nat → Option pz_V} {ct : Bool → Nat → Option pz_C} {rz : Bool}
    (hy : plainFor y = true) (hown : y.cls = own) (htb : tb.all (fun q => pz_wf cc q) = true) (hfl : ∀ i q, fl i = some q → pz_flok own (i, q)) (hci : ∀ i v, ci i = some v → pz_ciok own i v)
    (hcv : ∀ i k', ct true i = some k' → pz_cV fr lo own i k') (hcs : ∀ i k', ct false i = some k' → pz_cS fr lo own i k' ∨ (k' = pz_kac ∧ 1 ≤ fr ∧ 60 ≤ lo ∧ Cond.methodLink own i arraycopyName ∈ pz_tbl)) (hret : pz_ret ret k.2.1 rz)
    (hsz : ∀ (a : List pz_V) (M : pz_M), a.length = k.1 → k.2.2.1 a M → (pz_es a).length ≤ maxL)
    (vc : ∀ (a : List pz_V) (M : pz_M), a.length = k.1 → (∀ v ∈ a, pz_cv v) → (∀ b j : Nat, pz_c (M b j)) → k.2.2.1 a M → ∀ Ok : pz_F, pz_Go tb fl ci ct rz Ok (fun r M' => pz_kk k.2.1 r ∧ k.2.2.2 a M r M') → Ok 0 (pz_ent a maxL) [] M) : pz_H y cc maxL ret k fr lo := by
  intro l D ad adV cy A a M hlen hpre hcan
  refine va_MetF (cc := cc) (maxL := maxL) (ret := ret) hy rfl ?_
  intro p e s m args below meth c s₁ B hml hv
  obtain ⟨rfl, hP, hX, hM⟩ := hv
  have hx := B.exec
  have hb := B.bytes
  have hr := B.returns
  have hts0 := atoms_spec (ws := .code y cc maxL ret :: pz_tbl) B.pre
  have hts : ∀ w ∈ pz_tbl, w.before (a.map (pz_v ad)).toArray s = true := fun w hw => hts0 w (List.mem_cons_of_mem _ hw)
  have hown2 : s.vm.findClass own = some m.cls := by rw [← hown]; exact findClass_of_methodNamed B.named
  have hlocks := B.notSynchronized
  have Y : pz_Y p s m (a.map (pz_v ad)).toArray c cc own maxL D ad adV cy A := ⟨hx, hb, hml, hown2, hts, hX⟩
  rw [lg_entry_eq]
  have hRT : pz_RT p l e { frames := fr, cells := 0, slots := 0, locals := lo } s m (a.map (pz_v ad)).toArray below meth c 0 0 (MQ below (fun _ st o t => (∃ (r : Option pz_V) (M' : pz_M), k.2.2.2 a M r M' ∧ pz_rr k.2.1 r ∧ o = .returned (r.map (pz_v ad)) ∧ pz_G D ad adV cy A M' t) ∧ va_F A st t) (a.map (pz_v ad)).toArray s 0 0 A) cc D ad cy A (fun r M' => pz_kk k.2.1 r ∧ k.2.2.2 a M r M') rz := by
    intro I r pc H locs ls M' hdg hok hcr hP' hS' hM' hpost
    have hfin : ∀ rr : pz_rr k.2.1 r, ∀ t : State, t.heap = H → s.WarmedH t.vm → (∃ (r' : Option pz_V) (M' : pz_M), k.2.2.2 a M r' M' ∧ pz_rr k.2.1 r' ∧ Outcome.returned (r.map (pz_v ad)) = .returned (r'.map (pz_v ad)) ∧ pz_G D ad adV cy A M' t) ∧ va_F A s t := by
      intro rr t ht hW
      refine ⟨⟨r, M', hpost.2, rr, rfl, by rw [ht]; exact hP', by rw [ht]; exact (hX.kept hS'.2.1).warm hW, hM'⟩, by rw [ht]; exact hS'.1, fun q h1 h2 => by rw [ht]; exact hS'.2.1 q h1 h2⟩
    rcases hok with ⟨rfl, x, rfl, hz⟩ | ⟨rfl, x, rfl⟩ | ⟨rfl, x, rfl⟩ | ⟨rfl, rfl⟩
    · have h1 : k.2.1 = 1 := hpost.1
      rw [h1] at hret hfin
      rcases hret with ⟨hret, hzz⟩ | ⟨hret, hzz⟩
      · exact W.zret (v := Int32.ofInt x) (ty := .int) hx hb (by rw [hr, hret]) rfl (fun t ht hW => by rw [h1]; exact hfin ⟨x, rfl, hcr _ rfl⟩ t ht hW) hS'.2.2 hdg
      · refine W.zret (v := Int32.ofInt x) (ty := .boolean) hx hb (by rw [hr, hret]) ?_ (fun t ht hW => by rw [h1]; exact hfin ⟨x, rfl, hcr _ rfl⟩ t ht hW) hS'.2.2 hdg
        rcases hz hzz with rfl | rfl <;> rfl
    · have h1 : k.2.1 = 2 := hpost.1
      rw [h1] at hret hfin
      have hret : ret = some .long := hret
      exact W.lret (v := Int64.ofInt x) hx hb (by rw [hr, hret]) (fun t ht hW => by rw [h1]; exact hfin ⟨x, rfl, hcr _ rfl⟩ t ht hW) hS'.2.2 hdg
    · have h1 : k.2.1 = x.1 + 3 := hpost.1
      rw [h1] at hret hfin
      obtain ⟨C, T, N, hc, hret⟩ := hret
      exact W.aret (v := .ref (ad x.2)) hx hb (by rw [hr, hret]) (Or.inl ⟨C, rfl⟩) (Or.inr ⟨_, rfl⟩) (fun t ht hW => by rw [h1]; exact hfin ⟨x.2, rfl, hcr _ rfl⟩ t ht hW) hS'.2.2 hdg
    · have h1 : k.2.1 = 0 := hpost.1
      rw [h1] at hret hfin
      have hret : ret = none := hret
      exact W.vret hx hb (by rw [hr, hret]) (fun t ht hW => by rw [h1]; exact hfin rfl t ht hW) hS'.2.2 hdg
  have hgo := vc a M hlen hcan hM hpre _ (fun cut n pc lo' st M' h => pz_many (R := { frames := fr, cells := 0, slots := 0, locals := lo }) (cells := 0) (slots := 0) Y htb hfl hci (fun i k' hk => pz_crV Y ⟨Nat.le_refl 0, Nat.le_refl 0⟩ (hcv i k' hk)) (fun i k' hk => by
    rcases hcs i k' hk with q | ⟨rfl, q1, q2, q3⟩
    · exact pz_crS Y ⟨Nat.le_refl 0, Nat.le_refl 0⟩ q
    · exact pz_crA Y q1 q2 q3) hRT n pc lo' st M' h)
  exact hgo s.heap [] _ hP va_S.rf hM (pz_entLV (hsz a M hlen hpre) hcan) (fun v hv => absurd hv List.not_mem_nil)
end
