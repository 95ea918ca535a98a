section
section PZW
variable {p : Program} {l : Launch} {e : Env} {R : Room} {s : State} {m : MethodId} {args : Array Value} {below : List Frame} {meth : Method} {c : Code} {cells slots : Nat} {Q : State → Prop}
variable {cc : ByteArray} {own : String} {nL : Nat} {D : va_G} {ad adV : Nat → Nat} {cy : Nat → ClassId} {A : Nat → Prop}
theorem pz_step (Y : pz_Y p s m args c cc own nL D ad adV cy A) {K : pz_F} (hK : ∀ pc lo st M, K pc lo st M → pz_Ok p l e R s m args below meth c cells slots Q nL D ad cy A pc lo st M) {fl : Nat → Option (Nat × Nat)} {ci : Nat → Option pz_V} {ct : Bool → Nat → Option pz_C} {Rt : Option pz_V → pz_M → Prop} {rz : Bool}
    (hfl : ∀ i q, fl i = some q → pz_flok own (i, q)) (hci : ∀ i v, ci i = some v → pz_ciok own i v)
    (hcv : ∀ i k, ct true i = some k → pz_CR p l e R s m args below meth c cells slots Q cc nL D ad cy A (.invokevirtual i) k) (hcs : ∀ i k, ct false i = some k → pz_CR p l e R s m args below meth c cells slots Q cc nL D ad cy A (.invokestatic i) k)
    (hRT : pz_RT p l e R s m args below meth c cells slots Q cc D ad cy A Rt rz)
    {pc len nx : Nat} {tg : List Nat} {lo : pz_L} {st : List pz_V} {M : pz_M} (I : Instr) (hw : pz_wf cc (pc, I, len, nx, tg) = true) (h : pz_stp fl ci ct K Rt rz I nx tg lo st M) : pz_Ok p l e R s m args below meth c cells slots Q nL D ad cy A pc lo st M := by
  cases I
  case iconst v => exact ps_iconst Y hK  hw h
  case bipush v => exact ps_bipush Y hK  hw h
  case sipush v => exact ps_sipush Y hK  hw h
  case lconst v => exact ps_lconst Y hK  hw h
  case ldc i => exact ps_ldc Y hK hci hw h
  case ldc_w i => exact ps_ldc_w Y hK hci hw h
  case ldc2_w i => exact ps_ldc2_w Y hK hci hw h
  case iload k => exact ps_iload Y hK  hw h
  case iload_n k => exact ps_iload_n Y hK  hw h
  case lload k => exact ps_lload Y hK  hw h
  case lload_n k => exact ps_lload_n Y hK  hw h
  case aload k => exact ps_aload Y hK  hw h
  case aload_n k => exact ps_aload_n Y hK  hw h
  case istore k => exact ps_istore Y hK  hw h
  case istore_n k => exact ps_istore_n Y hK  hw h
  case lstore k => exact ps_lstore Y hK  hw h
  case lstore_n k => exact ps_lstore_n Y hK  hw h
  case astore k => exact ps_astore Y hK  hw h
  case astore_n k => exact ps_astore_n Y hK  hw h
  case iinc k n => exact ps_iinc Y hK  hw h
  case iadd => exact ps_iadd Y hK  hw h
  case isub => exact ps_isub Y hK  hw h
  case imul => exact ps_imul Y hK  hw h
  case idiv => exact ps_idiv Y hK  hw h
  case irem => exact ps_irem Y hK  hw h
  case iand => exact ps_iand Y hK  hw h
  case ior => exact ps_ior Y hK  hw h
  case ixor => exact ps_ixor Y hK  hw h
  case ishl => exact ps_ishl Y hK  hw h
  case ishr => exact ps_ishr Y hK  hw h
  case iushr => exact ps_iushr Y hK  hw h
  case i2b => exact ps_i2b Y hK  hw h
  case i2l => exact ps_i2l Y hK  hw h
  case l2i => exact ps_l2i Y hK  hw h
  case ladd => exact ps_ladd Y hK  hw h
  case lsub => exact ps_lsub Y hK  hw h
  case lmul => exact ps_lmul Y hK  hw h
  case ldiv => exact ps_ldiv Y hK  hw h
  case lcmp => exact ps_lcmp Y hK  hw h
  case dup => exact ps_dup Y hK  hw h
  case pop => exact ps_pop Y hK  hw h
  case dup2 => exact ps_dup2 Y hK  hw h
  case goto o => exact ps_goto Y hK  hw h
  case ifCond b o => exact ps_ifCond Y hK  hw h
  case if_icmp b o => exact ps_if_icmp Y hK  hw h
  case tableswitch d low high os => exact ps_tableswitch Y hK  hw h
  case lookupswitch d ps => exact ps_lookupswitch Y hK  hw h
  case getfield i => exact ps_getfield Y hK hfl hw h
  case putfield i => exact ps_putfield Y hK hfl hw h
  case iaload => exact ps_iaload Y hK  hw h
  case baload => exact ps_baload Y hK  hw h
  case aaload => exact ps_aaload Y hK  hw h
  case iastore => exact ps_iastore Y hK  hw h
  case bastore => exact ps_bastore Y hK  hw h
  case arraylength => exact ps_arraylength Y hK  hw h
  case invokevirtual i => exact ps_invokevirtual Y hK hcv hw h
  case invokestatic i => exact ps_invokestatic Y hK hcs hw h
  case ireturn => exact ps_ireturn Y hK hRT hw h
  case lreturn => exact ps_lreturn Y hK hRT hw h
  case areturn => exact ps_areturn Y hK hRT hw h
  case return_ =>
    obtain ⟨hd, hn, hsl, htk, him⟩ := pz_wf_spec hw
    have hl1 : len = 1 := of_decide_eq_true hsl
    subst hl1
    intro H locs ls hP hS hM hL hst
    match st, h with
    | [], h => exact hRT .return_ none pc H locs ls M hd (Or.inr (Or.inr (Or.inr ⟨rfl, rfl⟩))) (fun v hv => by cases hv) hP hS hM h
    | _ :: _, h => exact False.elim h
  all_goals exact False.elim h
/-- many instructions -/
theorem pz_many (Y : pz_Y p s m args c cc own nL D ad adV cy A) {tb : List pz_E} {fl : Nat → Option (Nat × Nat)} {ci : Nat → Option pz_V} {ct : Bool → Nat → Option pz_C} {cut : Nat → Bool} {Rt : Option pz_V → pz_M → Prop} {rz : Bool}
    (htb : tb.all (fun q => pz_wf cc q) = true)
    (hfl : ∀ i q, fl i = some q → pz_flok own (i, q)) (hci : ∀ i v, ci i = some v → pz_ciok own i v)
    (hcv : ∀ i k, ct true i = some k → pz_CR p l e R s m args below meth c cells slots Q cc nL D ad cy A (.invokevirtual i) k) (hcs : ∀ i k, ct false i = some k → pz_CR p l e R s m args below meth c cells slots Q cc nL D ad cy A (.invokestatic i) k)
    (hRT : pz_RT p l e R s m args below meth c cells slots Q cc D ad cy A Rt rz) :
    ∀ (n pc : Nat) (lo : pz_L) (st : List pz_V) (M : pz_M), pz_run tb fl ci ct cut (pz_Ok p l e R s m args below meth c cells slots Q nL D ad cy A) Rt rz n pc lo st M → pz_Ok p l e R s m args below meth c cells slots Q nL D ad cy A pc lo st M := by
  intro n
  induction n with
  | zero => intro pc lo st M h; exact h
  | succ n ih =>
    intro pc lo st M h
    unfold pz_run at h
    cases hq : pz_at tb pc with
    | none => rw [hq] at h; exact False.elim h
    | some q =>
      rw [hq] at h
      have hm := List.mem_of_find?_eq_some hq
      have hq2 : tb.find? (fun q => Nat.beq q.1 pc) = some q := hq
      have hpc0 := List.find?_some hq2
      have hpc := Nat.eq_of_beq_eq_true (n := q.1) (m := pc) hpc0
      have hw := List.all_eq_true.mp htb q hm
      obtain ⟨pc2, I, len, nx, tg⟩ := q
      have hpc : pc2 = pc := hpc
      subst hpc
      refine pz_step Y (fun pc' lo' st' M' hk => ?_) hfl hci hcv hcs hRT I hw h
      cases hc : cut pc' with
      | true => rw [hc] at hk; exact hk
      | false => rw [hc] at hk; exact ih pc' lo' st' M' hk
/-- the same, for one who doesn't see the machine -/
def pz_Go (tb : List pz_E) (fl : Nat → Option (Nat × Nat)) (ci : Nat → Option pz_V) (ct : Bool → Nat → Option pz_C) (rz : Bool) (Ok : pz_F) (Rt : Option pz_V → pz_M → Prop) : Prop :=
  ∀ (cut : Nat → Bool) (n pc : Nat) (lo : pz_L) (st : List pz_V) (M : pz_M), pz_run tb fl ci ct cut Ok Rt rz n pc lo st M → Ok pc lo st M
end PZW
end
