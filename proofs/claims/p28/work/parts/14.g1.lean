theorem pz_u64 {M M1 : pz_M} {a k : Nat} {v : Int} (e : M1 = pz_u M a k v) (j : Nat) : M1 a j = if j = k then v else M a j := by
  subst e
  unfold pz_u
  by_cases h : j = k
  · rw [if_pos ⟨rfl, h⟩, if_pos h]
  · rw [if_neg (fun z => h z.2), if_neg h]
theorem pz_fin (f0 f1 f2 f3 f4 : Nat → Int) {n : Int} {k3 k0 k1 k2 : Nat} {v3 v0 v1 v2 : Int} (hn : 0 ≤ n) (h3 : (k3 : Int) = 4 * n + 3) (h0 : (k0 : Int) = 4 * n) (h1 : (k1 : Int) = 4 * n + 1) (h2 : (k2 : Int) = 4 * n + 2)
    (g3 : ∀ j, f1 j = if j = k3 then v3 else f0 j) (g0 : ∀ j, f2 j = if j = k0 then v0 else f1 j) (g1 : ∀ j, f3 j = if j = k1 then v1 else f2 j) (g2 : ∀ j, f4 j = if j = k2 then v2 else f3 j) :
    ∀ j : Nat, ((j : Int) < 4 * n → f4 j = f0 j) ∧ ((j : Int) = 4 * n → f4 j = v0) ∧ ((j : Int) = 4 * n + 1 → f4 j = v1) ∧ ((j : Int) = 4 * n + 2 → f4 j = v2) := by
  intro j
  rw [g2, g1, g0, g3]
  refine ⟨fun q => ?_, fun q => ?_, fun q => ?_, fun q => ?_⟩
  · rw [if_neg (by omega), if_neg (by omega), if_neg (by omega), if_neg (by omega)]
  · rw [if_neg (by omega), if_neg (by omega), if_pos (by omega)]
  · rw [if_neg (by omega), if_pos (by omega)]
  · rw [if_pos (by omega)]
/-! the model's reading: a law's lines, the rows; how they come into w -/
def pz_Q6 (b j : Nat) : Prop := (b = 1 ∧ (j = 14 ∨ (17 ≤ j ∧ j ≤ 22) ∨ j = 24)) ∨ b = 64 ∨ b = 65
def pz_Q7 (b j : Nat) : Prop := b = 60 ∧ (j = 91 ∨ (105 ≤ j ∧ j ≤ 128))
def pz_Q8 (b j : Nat) : Prop := (b = 1 ∧ 17 ≤ j ∧ j ≤ 22) ∨ b = 66
/-- one line that has been read -/
def pz_ln (f g : Nat → Int) (t i : Int) : Prop := 0 ≤ f (4 * i).toNat ∧ f (4 * i + 2).toNat ≤ t ∧ pz_sg g (f (4 * i).toNat) (f (4 * i + 1).toNat) ∧ (f (4 * i + 1).toNat = f (4 * i + 2).toNat ∨ pz_sg g (f (4 * i + 1).toNat) (f (4 * i + 2).toNat))
def pz_wfl (M : pz_M) : Prop := ∀ i : Int, 0 ≤ i → i < M 1 13 → pz_ln (M 64) (M 65) (M 1 14) i
def pz_alf (M M' : pz_M) : Prop := M 1 13 < 16 ∧ (M' 1 19 ≤ M' 1 17 ∧ (M' 1 18 ≠ 0 → M' 1 19 + 1 ≤ M' 1 17)) ∧ M' 1 14 ≤ M' 1 19 ∧ M 1 14 ≤ M' 1 14 ∧ (∀ j : Nat, (j : Int) < 4 * M 1 13 → M' 64 j = M 64 j) ∧ (∀ j : Nat, (j : Int) < 2 * M 1 14 → M' 65 j = M 65 j) ∧ pz_ln (M' 64) (M' 65) (M' 1 14) (M 1 13)
theorem pz_ln_cg {f f' g g' : Nat → Int} {t t' i : Int} (h : pz_ln f g t i) (h0 : 0 ≤ i) (hf : ∀ j : Nat, (j : Int) < 4 * i + 4 → f' j = f j) (hg : ∀ j : Nat, (j : Int) < 2 * t → g' j = g j) (ht : t ≤ t') : pz_ln f' g' t' i := by
  obtain ⟨h1, h2, h3, h4⟩ := h
  unfold pz_ln
  rw [hf _ (by omega), hf (4 * i + 1).toNat (by omega), hf (4 * i + 2).toNat (by omega)]
  have l3 := h3.1
  have l4 : f (4 * i + 1).toNat ≤ f (4 * i + 2).toNat := by
    rcases h4 with h4 | h4
    · omega
    · have := h4.1
      omega
  refine ⟨h1, by omega, pz_sg_cg h3 h1 (fun j _ q => hg j (by omega)), ?_⟩
  rcases h4 with h4 | h4
  · exact Or.inl h4
  · exact Or.inr (pz_sg_cg h4 (by omega) (fun j _ q => hg j (by omega)))

def k_X12_number : pz_C := (4, 1, fun a M => (match a with | [.inr (.inr (12, th)), .inl x, .inl y, .inl z] => pz_im M ∧ 0 ≤ x ∧ x < 80 | _ => False), fun a M r M' => (match a, r with | [.inr (.inr (12, th)), .inl x, .inl y, .inl z], some (.inl v) => ((∀ j : Nat, j ≠ x.toNat → M' 66 j = M 66 j) ∧ (v = 0 ∨ (v = 1 ∧ y ≤ M' 66 x.toNat ∧ M' 66 x.toNat ≤ z))) ∧ pz_rl pz_Q8 M M' | _, _ => False))
abbrev ct_X12_number : List (Bool × Nat × pz_C) := [(true, 188, k_X12_bad), (false, 54, k_X12_isIn), (true, 191, k_X12_next0)]
set_option maxRecDepth 100000 in
set_option maxHeartbeats 4000000 in
theorem h_X12_number : pz_H yX12_number cX12_number 4 (some .boolean) k_X12_number 9 190 := by
  refine pz_mk (own := RX12) (tb := t_X12_number) (fl := pz_flf fl_RX12) (ci := pz_cif ci_RX12) (ct := pz_ctf ct_X12_number) (rz := true) (by decide +kernel) rfl t_X12_number_ok (pz_flk fl_RX12_ok) (pz_cik ci_RX12_ok) ?_ ?_ (Or.inr ⟨rfl, rfl⟩) ?_ ?_
  · exact fun i k' h => pz_ctk (l := ct_X12_number) (P := fun b i k => b = true → pz_cV 9 190 RX12 i k) (List.forall_mem_cons.mpr ⟨(fun _ => v_X12_bad (by decide) (by decide) (pz_mt 1311 (by decide +kernel))), List.forall_mem_cons.mpr ⟨((fun z => by cases z)), List.forall_mem_cons.mpr ⟨(fun _ => v_X12_next0 (by decide) (by decide) (pz_mt 1243 (by decide +kernel))), fun _ h => absurd h List.not_mem_nil⟩⟩⟩) true i k' h rfl
  · exact fun i k' h => pz_ctk (l := ct_X12_number) (P := fun b i k => b = false → (pz_cS 9 190 RX12 i k ∨ (k = pz_kac ∧ 1 ≤ 9 ∧ 60 ≤ 190 ∧ Cond.methodLink RX12 i arraycopyName ∈ pz_tbl))) (List.forall_mem_cons.mpr ⟨((fun z => by cases z)), List.forall_mem_cons.mpr ⟨(fun _ => Or.inl (s_X12_isIn (by decide) (by decide) (Or.inl (pz_mt 1217 (by decide +kernel))))), List.forall_mem_cons.mpr ⟨((fun z => by cases z)), fun _ h => absurd h List.not_mem_nil⟩⟩⟩) false i k' h rfl
  · intro a M hlen hpre
    obtain ⟨th, x, y, z, rfl, hpre⟩ : ∃ th x y z, a = [.inr (.inr (12, th)), .inl x, .inl y, .inl z] ∧ (pz_im M ∧ 0 ≤ x ∧ x < 80) := by
      have hpre : (match (generalizing := false) a with | [.inr (.inr (12, th)), .inl x, .inl y, .inl z] => pz_im M ∧ 0 ≤ x ∧ x < 80 | _ => False) := hpre
      split at hpre
      · exact ⟨_, _, _, _, rfl, hpre⟩
      · exact hpre.elim
    exact Nat.le_of_ble_eq_true rfl
  · intro a M hlen hcan hM hpre Ok hgo
    obtain ⟨th, x, y, z, rfl, hpre⟩ : ∃ th x y z, a = [.inr (.inr (12, th)), .inl x, .inl y, .inl z] ∧ (pz_im M ∧ 0 ≤ x ∧ x < 80) := by
      have hpre : (match (generalizing := false) a with | [.inr (.inr (12, th)), .inl x, .inl y, .inl z] => pz_im M ∧ 0 ≤ x ∧ x < 80 | _ => False) := hpre
      split at hpre
      · exact ⟨_, _, _, _, rfl, hpre⟩
      · exact hpre.elim
    obtain ⟨k_th, hc_th⟩ := pz_tlm hcan
    have k_th : pz_kd th = 12 ∧ th < 231 := k_th
    have R_th := pz_kd12 k_th.1
    subst R_th
    clear k_th
    obtain ⟨k_x, hc_x⟩ := pz_tlm hc_th
    have l_x : -2147483648 ≤ x := k_x.1
    have u_x : x ≤ 2147483647 := k_x.2
    obtain ⟨k_y, hc_y⟩ := pz_tlm hc_x
    have l_y : -2147483648 ≤ y := k_y.1
    have u_y : y ≤ 2147483647 := k_y.2
    obtain ⟨k_z, hc_z⟩ := pz_tlm hc_y
    have l_z : -2147483648 ≤ z := k_z.1
    have u_z : z ≤ 2147483647 := k_z.2
    have hI : pz_im M := hpre.1
    have hI0 := hI
    have hS : pz_rl pz_Q8 M M := pz_rl.rf
    refine hgo (fun _ => false) 30 0 _ [] M ?_
    intro v1 e1 a1 b1
    refine And.intro (fun h5 => ?_) (fun h5 => ?_)
    · skip
      intro v15 e15 a15 b15
      refine And.intro (True.intro) ?_
      intro v20 M20 a20 b20 q20
      obtain ⟨q20, z20⟩ := q20
      subst z20
      clear a20 b20
      refine And.intro (fun h23 => ?_) (fun h23 => ?_)
      · skip
        replace q20 := q20.resolve_right (fun z => h23 z.1)
        clear h23
        refine pz_nrc (c := 66) rfl ?_
        intro v38 e38 a38 b38
        refine And.intro (by omega) (And.intro (show _ < (80 : Int) from by omega) ?_)
        intro M41 e41
        have hS : pz_rl pz_Q8 M M41 := by
          rw [e41]
          exact pz_rl_u hS (by unfold pz_Q8; omega) (pz_iom_a (by decide))
        have hI : pz_im M41 := hS.1 hI0
        refine And.intro (hI) ?_
        intro M43 q43
        obtain ⟨q43, z43⟩ := q43
        have hS : pz_rl pz_Q8 M M43 := hS.tr (pz_rl.wk (by intro b j q; unfold pz_Q0 at q; unfold pz_Q8; omega) z43)
        have hI : pz_im M43 := hS.1 hI0
        have f43 := pz_q0f z43
        obtain ⟨f43a, f43b, f43c⟩ := f43
        refine And.intro (by omega) ?_
        refine And.intro rfl ?_
        have A9 := z43.2 66 x.toNat (by unfold pz_Q0; omega)
        have B9 := pz_uve e41 66 x.toNat
        exact ⟨⟨fun j hj => (z43.2 66 j (by unfold pz_Q0; omega)).trans (by have := pz_uve e41 66 j; omega), Or.inr ⟨rfl, by omega, by omega⟩⟩, hS⟩
      · skip
        replace q20 := q20.resolve_left (fun z => absurd (z.1.symm.trans h23) (by decide))
        clear h23
        refine And.intro (hI) ?_
        intro v28 M28 a28 b28 q28
        obtain ⟨q28, z28⟩ := q28
        have hS : pz_rl pz_Q8 M M28 := hS.tr (pz_rl.wk (by intro b j q; unfold pz_Q0 at q; unfold pz_Q8; omega) z28)
        have hI : pz_im M28 := hS.1 hI0
        clear a28 b28
        refine And.intro (by omega) ?_
        refine And.intro rfl ?_
        exact ⟨⟨fun j _ => z28.2 66 j (by unfold pz_Q0; omega), Or.inl (by omega)⟩, hS⟩
    · skip
      refine And.intro (hI) ?_
      intro v10 M10 a10 b10 q10
      obtain ⟨q10, z10⟩ := q10
      have hS : pz_rl pz_Q8 M M10 := hS.tr (pz_rl.wk (by intro b j q; unfold pz_Q0 at q; unfold pz_Q8; omega) z10)
      have hI : pz_im M10 := hS.1 hI0
      clear a10 b10
      refine And.intro (by omega) ?_
      refine And.intro rfl ?_
      exact ⟨⟨fun j _ => z10.2 66 j (by unfold pz_Q0; omega), Or.inl (by omega)⟩, hS⟩
theorem v_X12_number {fr lo i : Nat} {own : String} (h1 : 9 + 1 ≤ fr) (h2 : 8 + (4 + 11) + 190 ≤ lo) (h3 : .methodLink own i yX12_number ∈ lw_tbl) : pz_cV fr lo own i k_X12_number :=
  pz_cVk (maxL := 4) (fr' := 9) (lo' := 190) 3 12 h_X12_number rfl ⟨by decide +kernel, by decide +kernel, by decide +kernel⟩ ⟨(pz_mt 1370 (by decide +kernel)), (pz_mt 1369 (by decide +kernel)), (pz_ms 29 (by decide +kernel)), (pz_mt 13 (by decide +kernel))⟩ (Or.inl ⟨TX12, 28, rfl⟩) (fun a M _ h => by
    have h : (match (generalizing := false) a with | [.inr (.inr (12, th)), .inl x, .inl y, .inl z] => pz_im M ∧ 0 ≤ x ∧ x < 80 | _ => False) := h
    split at h
    · exact ⟨_, _, rfl⟩
    · exact h.elim) h1 h2 h3
def k_X12_told : pz_C := (5, 1, fun a M => (match a with | [.inr (.inr (12, th)), .inl x, .inl t, .inl y, .inl z] => pz_im M ∧ 0 ≤ x ∧ x < 80 | _ => False), fun a M r M' => (match a, r with | [.inr (.inr (12, th)), .inl x, .inl t, .inl y, .inl z], some (.inl v) => ((∀ j : Nat, j ≠ x.toNat → M' 66 j = M 66 j) ∧ (v = 0 ∨ (v = 1 ∧ y ≤ M' 66 x.toNat ∧ M' 66 x.toNat ≤ z))) ∧ pz_rl pz_Q8 M M' | _, _ => False))
abbrev ct_X12_told : List (Bool × Nat × pz_C) := [(true, 223, k_X12_need), (true, 235, k_X12_number)]
set_option maxRecDepth 100000 in
set_option maxHeartbeats 4000000 in
theorem h_X12_told : pz_H yX12_told cX12_told 5 (some .boolean) k_X12_told 10 213 := by
  refine pz_mk (own := RX12) (tb := t_X12_told) (fl := pz_flf fl_RX12) (ci := pz_cif ci_RX12) (ct := pz_ctf ct_X12_told) (rz := true) (by decide +kernel) rfl t_X12_told_ok (pz_flk fl_RX12_ok) (pz_cik ci_RX12_ok) ?_ ?_ (Or.inr ⟨rfl, rfl⟩) ?_ ?_
  · exact fun i k' h => pz_ctk (l := ct_X12_told) (P := fun b i k => b = true → pz_cV 10 213 RX12 i k) (List.forall_mem_cons.mpr ⟨(fun _ => v_X12_need (by decide) (by decide) (pz_mt 1347 (by decide +kernel))), List.forall_mem_cons.mpr ⟨(fun _ => v_X12_number (by decide) (by decide) (pz_mt 1367 (by decide +kernel))), fun _ h => absurd h List.not_mem_nil⟩⟩) true i k' h rfl
  · exact fun i k' h => pz_ctk (l := ct_X12_told) (P := fun b i k => b = false → (pz_cS 10 213 RX12 i k ∨ (k = pz_kac ∧ 1 ≤ 10 ∧ 60 ≤ 213 ∧ Cond.methodLink RX12 i arraycopyName ∈ pz_tbl))) (List.forall_mem_cons.mpr ⟨((fun z => by cases z)), List.forall_mem_cons.mpr ⟨((fun z => by cases z)), fun _ h => absurd h List.not_mem_nil⟩⟩) false i k' h rfl
  · intro a M hlen hpre
    obtain ⟨th, x, t, y, z, rfl, hpre⟩ : ∃ th x t y z, a = [.inr (.inr (12, th)), .inl x, .inl t, .inl y, .inl z] ∧ (pz_im M ∧ 0 ≤ x ∧ x < 80) := by
      have hpre : (match (generalizing := false) a with | [.inr (.inr (12, th)), .inl x, .inl t, .inl y, .inl z] => pz_im M ∧ 0 ≤ x ∧ x < 80 | _ => False) := hpre
      split at hpre
      · exact ⟨_, _, _, _, _, rfl, hpre⟩
      · exact hpre.elim
    exact Nat.le_of_ble_eq_true rfl
  · intro a M hlen hcan hM hpre Ok hgo
    obtain ⟨th, x, t, y, z, rfl, hpre⟩ : ∃ th x t y z, a = [.inr (.inr (12, th)), .inl x, .inl t, .inl y, .inl z] ∧ (pz_im M ∧ 0 ≤ x ∧ x < 80) := by
      have hpre : (match (generalizing := false) a with | [.inr (.inr (12, th)), .inl x, .inl t, .inl y, .inl z] => pz_im M ∧ 0 ≤ x ∧ x < 80 | _ => False) := hpre
      split at hpre
      · exact ⟨_, _, _, _, _, rfl, hpre⟩
      · exact hpre.elim
    obtain ⟨k_th, hc_th⟩ := pz_tlm hcan
    have k_th : pz_kd th = 12 ∧ th < 231 := k_th
    have R_th := pz_kd12 k_th.1
    subst R_th
    clear k_th
    obtain ⟨k_x, hc_x⟩ := pz_tlm hc_th
    have l_x : -2147483648 ≤ x := k_x.1
    have u_x : x ≤ 2147483647 := k_x.2
    obtain ⟨k_t, hc_t⟩ := pz_tlm hc_x
    have l_t : -2147483648 ≤ t := k_t.1
    have u_t : t ≤ 2147483647 := k_t.2
    obtain ⟨k_y, hc_y⟩ := pz_tlm hc_t
    have l_y : -2147483648 ≤ y := k_y.1
    have u_y : y ≤ 2147483647 := k_y.2
    obtain ⟨k_z, hc_z⟩ := pz_tlm hc_y
    have l_z : -2147483648 ≤ z := k_z.1
    have u_z : z ≤ 2147483647 := k_z.2
    have hI : pz_im M := hpre.1
    have hI0 := hI
    have hS : pz_rl pz_Q8 M M := pz_rl.rf
    refine hgo (fun _ => false) 16 0 _ [] M ?_
    refine And.intro (hI) ?_
    intro v2 M2 a2 b2 q2
    obtain ⟨q2, z2⟩ := q2
    have hS : pz_rl pz_Q8 M M2 := hS.tr (pz_rl.wk (by intro b j q; unfold pz_Q0 at q; unfold pz_Q8; omega) z2)
    have hI : pz_im M2 := hS.1 hI0
    have f2 := pz_q0f z2
    obtain ⟨f2a, f2b, f2c⟩ := f2
    refine And.intro (fun h5 => ?_) (fun h5 => ?_)
    · skip
      refine And.intro (by omega) ?_
      refine And.intro rfl ?_
      first
        | exact ⟨⟨fun j hj => (q13.1 j hj).trans (z2.2 66 j (by unfold pz_Q0; omega)), Or.inr ⟨rfl, (q13.2.resolve_left h16).2⟩⟩, hS⟩
        | exact ⟨⟨fun j hj => (q13.1 j hj).trans (z2.2 66 j (by unfold pz_Q0; omega)), Or.inl rfl⟩, hS⟩
        | exact ⟨⟨fun j _ => z2.2 66 j (by unfold pz_Q0; omega), Or.inl rfl⟩, hS⟩
    · skip
      refine And.intro (And.intro hI (And.intro (by omega) (by omega))) ?_
      intro v13 M13 a13 b13 q13
      obtain ⟨q13, z13⟩ := q13
      have hS : pz_rl pz_Q8 M M13 := hS.tr z13
      have hI : pz_im M13 := hS.1 hI0
      refine And.intro (fun h16 => ?_) (fun h16 => ?_)
      · skip
        refine And.intro (by omega) ?_
        refine And.intro rfl ?_
        first
          | exact ⟨⟨fun j hj => (q13.1 j hj).trans (z2.2 66 j (by unfold pz_Q0; omega)), Or.inr ⟨rfl, (q13.2.resolve_left h16).2⟩⟩, hS⟩
          | exact ⟨⟨fun j hj => (q13.1 j hj).trans (z2.2 66 j (by unfold pz_Q0; omega)), Or.inl rfl⟩, hS⟩
          | exact ⟨⟨fun j _ => z2.2 66 j (by unfold pz_Q0; omega), Or.inl rfl⟩, hS⟩
      · skip
        refine And.intro (by omega) ?_
        refine And.intro rfl ?_
        first
          | exact ⟨⟨fun j hj => (q13.1 j hj).trans (z2.2 66 j (by unfold pz_Q0; omega)), Or.inr ⟨rfl, (q13.2.resolve_left h16).2⟩⟩, hS⟩
          | exact ⟨⟨fun j hj => (q13.1 j hj).trans (z2.2 66 j (by unfold pz_Q0; omega)), Or.inl rfl⟩, hS⟩
          | exact ⟨⟨fun j _ => z2.2 66 j (by unfold pz_Q0; omega), Or.inl rfl⟩, hS⟩
theorem v_X12_told {fr lo i : Nat} {own : String} (h1 : 10 + 1 ≤ fr) (h2 : 8 + (5 + 11) + 213 ≤ lo) (h3 : .methodLink own i yX12_told ∈ lw_tbl) : pz_cV fr lo own i k_X12_told :=
  pz_cVk (maxL := 5) (fr' := 10) (lo' := 213) 4 12 h_X12_told rfl ⟨by decide +kernel, by decide +kernel, by decide +kernel⟩ ⟨(pz_mt 1366 (by decide +kernel)), (pz_mt 1365 (by decide +kernel)), (pz_ms 28 (by decide +kernel)), (pz_mt 13 (by decide +kernel))⟩ (Or.inl ⟨TX12, 28, rfl⟩) (fun a M _ h => by
    have h : (match (generalizing := false) a with | [.inr (.inr (12, th)), .inl x, .inl t, .inl y, .inl z] => pz_im M ∧ 0 ≤ x ∧ x < 80 | _ => False) := h
    split at h
    · exact ⟨_, _, rfl⟩
    · exact h.elim) h1 h2 h3
def k_X12_aLink : pz_C := (2, 1, fun a M => (match a with | [.inr (.inr (12, th)), .inl x] => pz_im M ∧ 0 ≤ x ∧ x < 80 | _ => False), fun a M r M' => (match a, r with | [.inr (.inr (12, th)), .inl x], some (.inl v) => ((∀ j : Nat, j ≠ x.toNat → M' 66 j = M 66 j) ∧ (v = 0 ∨ (v = 1 ∧ 0 ≤ M' 66 x.toNat ∧ M' 66 x.toNat ≤ 11))) ∧ pz_rl pz_Q8 M M' | _, _ => False))
abbrev ct_X12_aLink : List (Bool × Nat × pz_C) := [(true, 235, k_X12_number)]
set_option maxRecDepth 100000 in
set_option maxHeartbeats 4000000 in
theorem h_X12_aLink : pz_H yX12_aLink cX12_aLink 2 (some .boolean) k_X12_aLink 10 213 := by
  refine pz_mk (own := RX12) (tb := t_X12_aLink) (fl := pz_flf fl_RX12) (ci := pz_cif ci_RX12) (ct := pz_ctf ct_X12_aLink) (rz := true) (by decide +kernel) rfl t_X12_aLink_ok (pz_flk fl_RX12_ok) (pz_cik ci_RX12_ok) ?_ ?_ (Or.inr ⟨rfl, rfl⟩) ?_ ?_
  · exact fun i k' h => pz_ctk (l := ct_X12_aLink) (P := fun b i k => b = true → pz_cV 10 213 RX12 i k) (List.forall_mem_cons.mpr ⟨(fun _ => v_X12_number (by decide) (by decide) (pz_mt 1367 (by decide +kernel))), fun _ h => absurd h List.not_mem_nil⟩) true i k' h rfl
  · exact fun i k' h => pz_ctk (l := ct_X12_aLink) (P := fun b i k => b = false → (pz_cS 10 213 RX12 i k ∨ (k = pz_kac ∧ 1 ≤ 10 ∧ 60 ≤ 213 ∧ Cond.methodLink RX12 i arraycopyName ∈ pz_tbl))) (List.forall_mem_cons.mpr ⟨((fun z => by cases z)), fun _ h => absurd h List.not_mem_nil⟩) false i k' h rfl
  · intro a M hlen hpre
    obtain ⟨th, x, rfl, hpre⟩ : ∃ th x, a = [.inr (.inr (12, th)), .inl x] ∧ (pz_im M ∧ 0 ≤ x ∧ x < 80) := by
      have hpre : (match (generalizing := false) a with | [.inr (.inr (12, th)), .inl x] => pz_im M ∧ 0 ≤ x ∧ x < 80 | _ => False) := hpre
      split at hpre
      · exact ⟨_, _, rfl, hpre⟩
      · exact hpre.elim
    exact Nat.le_of_ble_eq_true rfl
  · intro a M hlen hcan hM hpre Ok hgo
    obtain ⟨th, x, rfl, hpre⟩ : ∃ th x, a = [.inr (.inr (12, th)), .inl x] ∧ (pz_im M ∧ 0 ≤ x ∧ x < 80) := by
      have hpre : (match (generalizing := false) a with | [.inr (.inr (12, th)), .inl x] => pz_im M ∧ 0 ≤ x ∧ x < 80 | _ => False) := hpre
      split at hpre
      · exact ⟨_, _, rfl, hpre⟩
      · exact hpre.elim
    obtain ⟨k_th, hc_th⟩ := pz_tlm hcan
    have k_th : pz_kd th = 12 ∧ th < 231 := k_th
    have R_th := pz_kd12 k_th.1
    subst R_th
    clear k_th
    obtain ⟨k_x, hc_x⟩ := pz_tlm hc_th
    have l_x : -2147483648 ≤ x := k_x.1
    have u_x : x ≤ 2147483647 := k_x.2
    have hI : pz_im M := hpre.1
    have hI0 := hI
    have hS : pz_rl pz_Q8 M M := pz_rl.rf
    refine hgo (fun _ => false) 13 0 _ [] M ?_
    refine pz_nrc (c := 60) rfl ?_
    refine And.intro (by omega) (And.intro (show _ < (1725 : Int) from by omega) ?_)
    intro v9 e9 a9 b9
    replace e9 : v9 = M 60 88 := e9
    have I9 : 0 ≤ v9 ∧ v9 ≤ 12 := by
      rw [e9]
      exact hI.1.1
    clear a9 b9
    intro v11 e11 a11 b11
    rw [pz_wi (by omega) (by omega)] at e11
    clear a11 b11
    refine And.intro (And.intro hI (And.intro (by omega) (by omega))) ?_
    intro v12 M12 a12 b12 q12
    obtain ⟨q12, z12⟩ := q12
    have hS : pz_rl pz_Q8 M M12 := hS.tr z12
    have hI : pz_im M12 := hS.1 hI0
    refine And.intro (by omega) ?_
    refine And.intro rfl ?_
    refine ⟨⟨q12.1, ?_⟩, hS⟩
    rcases q12.2 with h | h
    · exact Or.inl h
    · exact Or.inr ⟨h.1, by omega, by omega⟩
theorem v_X12_aLink {fr lo i : Nat} {own : String} (h1 : 10 + 1 ≤ fr) (h2 : 8 + (2 + 11) + 213 ≤ lo) (h3 : .methodLink own i yX12_aLink ∈ lw_tbl) : pz_cV fr lo own i k_X12_aLink :=
  pz_cVk (maxL := 2) (fr' := 10) (lo' := 213) 1 12 h_X12_aLink rfl ⟨by decide +kernel, by decide +kernel, by decide +kernel⟩ ⟨(pz_mt 1374 (by decide +kernel)), (pz_mt 1373 (by decide +kernel)), (pz_ms 30 (by decide +kernel)), (pz_mt 13 (by decide +kernel))⟩ (Or.inl ⟨TX12, 28, rfl⟩) (fun a M _ h => by
    have h : (match (generalizing := false) a with | [.inr (.inr (12, th)), .inl x] => pz_im M ∧ 0 ≤ x ∧ x < 80 | _ => False) := h
    split at h
    · exact ⟨_, _, rfl⟩
    · exact h.elim) h1 h2 h3
def k_X12_aPlan : pz_C := (1, 1, fun a M => (match a with | [.inr (.inr (12, th))] => pz_im M ∧ M 1 15 < 16 | _ => False), fun a M r M' => (match a, r with | [.inr (.inr (12, th))], some (.inl v) => (v = 0 ∨ v = 1) ∧ pz_rl pz_Q8 M M' | _, _ => False))
abbrev ct_X12_aPlan : List (Bool × Nat × pz_C) := [(true, 241, k_X12_told), (false, 54, k_X12_isIn), (true, 188, k_X12_bad), (true, 191, k_X12_next0), (true, 245, k_X12_aLink), (true, 235, k_X12_number)]
set_option maxRecDepth 100000 in
set_option maxHeartbeats 4000000 in
theorem h_X12_aPlan : pz_H yX12_aPlan cX12_aPlan 3 (some .boolean) k_X12_aPlan 11 237 := by
  refine pz_mk (own := RX12) (tb := t_X12_aPlan) (fl := pz_flf fl_RX12) (ci := pz_cif ci_RX12) (ct := pz_ctf ct_X12_aPlan) (rz := true) (by decide +kernel) rfl t_X12_aPlan_ok (pz_flk fl_RX12_ok) (pz_cik ci_RX12_ok) ?_ ?_ (Or.inr ⟨rfl, rfl⟩) ?_ ?_
  · exact fun i k' h => pz_ctk (l := ct_X12_aPlan) (P := fun b i k => b = true → pz_cV 11 237 RX12 i k) (List.forall_mem_cons.mpr ⟨(fun _ => v_X12_told (by decide) (by decide) (pz_mt 1363 (by decide +kernel))), List.forall_mem_cons.mpr ⟨((fun z => by cases z)), List.forall_mem_cons.mpr ⟨(fun _ => v_X12_bad (by decide) (by decide) (pz_mt 1311 (by decide +kernel))), List.forall_mem_cons.mpr ⟨(fun _ => v_X12_next0 (by decide) (by decide) (pz_mt 1243 (by decide +kernel))), List.forall_mem_cons.mpr ⟨(fun _ => v_X12_aLink (by decide) (by decide) (pz_mt 1371 (by decide +kernel))), List.forall_mem_cons.mpr ⟨(fun _ => v_X12_number (by decide) (by decide) (pz_mt 1367 (by decide +kernel))), fun _ h => absurd h List.not_mem_nil⟩⟩⟩⟩⟩⟩) true i k' h rfl
  · exact fun i k' h => pz_ctk (l := ct_X12_aPlan) (P := fun b i k => b = false → (pz_cS 11 237 RX12 i k ∨ (k = pz_kac ∧ 1 ≤ 11 ∧ 60 ≤ 237 ∧ Cond.methodLink RX12 i arraycopyName ∈ pz_tbl))) (List.forall_mem_cons.mpr ⟨((fun z => by cases z)), List.forall_mem_cons.mpr ⟨(fun _ => Or.inl (s_X12_isIn (by decide) (by decide) (Or.inl (pz_mt 1217 (by decide +kernel))))), List.forall_mem_cons.mpr ⟨((fun z => by cases z)), List.forall_mem_cons.mpr ⟨((fun z => by cases z)), List.forall_mem_cons.mpr ⟨((fun z => by cases z)), List.forall_mem_cons.mpr ⟨((fun z => by cases z)), fun _ h => absurd h List.not_mem_nil⟩⟩⟩⟩⟩⟩) false i k' h rfl
  · intro a M hlen hpre
    obtain ⟨th, rfl, hpre⟩ : ∃ th, a = [.inr (.inr (12, th))] ∧ (pz_im M ∧ M 1 15 < 16) := by
      have hpre : (match (generalizing := false) a with | [.inr (.inr (12, th))] => pz_im M ∧ M 1 15 < 16 | _ => False) := hpre
      split at hpre
      · exact ⟨_, rfl, hpre⟩
      · exact hpre.elim
    exact Nat.le_of_ble_eq_true rfl
  · intro a M hlen hcan hM hpre Ok hgo
    obtain ⟨th, rfl, hpre⟩ : ∃ th, a = [.inr (.inr (12, th))] ∧ (pz_im M ∧ M 1 15 < 16) := by
      have hpre : (match (generalizing := false) a with | [.inr (.inr (12, th))] => pz_im M ∧ M 1 15 < 16 | _ => False) := hpre
      split at hpre
      · exact ⟨_, rfl, hpre⟩
      · exact hpre.elim
    obtain ⟨k_th, hc_th⟩ := pz_tlm hcan
    have k_th : pz_kd th = 12 ∧ th < 231 := k_th
    have R_th := pz_kd12 k_th.1
    subst R_th
    clear k_th
    have hI : pz_im M := hpre.1
    have hI0 := hI
    have hS : pz_rl pz_Q8 M M := pz_rl.rf
    have I15 := hI.2.1.2.2.2.2.2.2.2.1
    refine hgo (fun _ => false) 109 0 _ [] M ?_
    intro v2 e2 a2 b2
    have I2 : 0 ≤ v2 ∧ v2 ≤ 16 := by
      rw [e2]
      exact hI.2.1.2.2.2.2.2.2.2.1
    clear a2 b2
    have N2 := hI.2.1.2.2.2.2.2.2.2.1
    intro v5 e5 a5 b5
    rw [pz_wi (by omega) (by omega)] at e5
    clear a5 b5
    refine And.intro (And.intro hI (And.intro (by omega) (by omega))) ?_
    intro v15 M15 a15 b15 q15
    obtain ⟨q15, z15⟩ := q15
    have hS : pz_rl pz_Q8 M M15 := hS.tr z15
    have hI : pz_im M15 := hS.1 hI0
    refine And.intro (fun h18 => ?_) (fun h18 => ?_)
    · skip
      intro v24 e24 a24 b24
      refine And.intro (True.intro) ?_
      intro v31 M31 a31 b31 q31
      obtain ⟨q31, z31⟩ := q31
      subst z31
      clear a31 b31
      refine And.intro (fun h34 => ?_) (fun h34 => ?_)
      · skip
        replace q31 := q31.resolve_right (fun z => h34 z.1)
        clear h34
        intro v44 e44 a44 b44
        refine pz_nrc (c := 66) rfl ?_
        intro v54 e54 a54 b54
        rw [pz_wi (by omega) (by omega)] at e54
        clear a54 b54
        refine And.intro (by omega) (And.intro (show _ < (80 : Int) from by omega) ?_)
        intro M56 e56
        have hS : pz_rl pz_Q8 M M56 := by
          rw [e56]
          exact pz_rl_u hS (by unfold pz_Q8; omega) (pz_iom_a (by decide))
        have hI : pz_im M56 := hS.1 hI0
        clear e54
        refine pz_nrc (c := 66) rfl ?_
        intro v63 e63 a63 b63
        rw [pz_wi (by omega) (by omega)] at e63
        clear a63 b63
        refine And.intro (by omega) (And.intro (show _ < (80 : Int) from by omega) ?_)
        intro M65 e65
        have hS : pz_rl pz_Q8 M M65 := by
          rw [e65]
          exact pz_rl_u hS (by unfold pz_Q8; omega) (pz_iom_a (by decide))
        have hI : pz_im M65 := hS.1 hI0
        clear e63
        refine pz_nrc (c := 66) rfl ?_
        intro v72 e72 a72 b72
        rw [pz_wi (by omega) (by omega)] at e72
        clear a72 b72
        refine And.intro (by omega) (And.intro (show _ < (80 : Int) from by omega) ?_)
        intro M74 e74
        have hS : pz_rl pz_Q8 M M74 := by
          rw [e74]
          exact pz_rl_u hS (by unfold pz_Q8; omega) (pz_iom_a (by decide))
        have hI : pz_im M74 := hS.1 hI0
        clear e72
        refine And.intro (hI) ?_
        intro M76 q76
        obtain ⟨q76, z76⟩ := q76
        have hS : pz_rl pz_Q8 M M76 := hS.tr (pz_rl.wk (by intro b j q; unfold pz_Q0 at q; unfold pz_Q8; omega) z76)
        have hI : pz_im M76 := hS.1 hI0
        have f76 := pz_q0f z76
        obtain ⟨f76a, f76b, f76c⟩ := f76
        intro v82 e82 a82 b82
        rw [pz_wi (by omega) (by omega)] at e82
        clear a82 b82
        refine And.intro (And.intro hI (And.intro (by omega) (by omega))) ?_
        intro v83 M83 a83 b83 q83
        obtain ⟨q83, z83⟩ := q83
        have hS : pz_rl pz_Q8 M M83 := hS.tr z83
        have hI : pz_im M83 := hS.1 hI0
        refine And.intro (fun h86 => ?_) (fun h86 => ?_)
        · skip
          refine And.intro (fun h94 => ?_) (fun h94 => ?_)
          · skip
            refine And.intro (fun h129 => ?_) (fun h129 => ?_)
            · skip
              refine And.intro (fun h147 => ?_) (fun h147 => ?_)
              · skip
                refine And.intro (by omega) ?_
                refine And.intro rfl ?_
                exact ⟨by omega, hS⟩
              · skip
                refine And.intro (fun h153 => ?_) (fun h153 => ?_)
                · skip
                  refine And.intro (by omega) ?_
                  refine And.intro rfl ?_
                  exact ⟨by omega, hS⟩
                · skip
                  intro v159 e159 a159 b159
                  rw [pz_wi (by omega) (by omega)] at e159
                  clear a159 b159
                  refine And.intro (And.intro hI (And.intro (by omega) (by omega))) ?_
                  intro v163 M163 a163 b163 q163
                  obtain ⟨q163, z163⟩ := q163
                  have hS : pz_rl pz_Q8 M M163 := hS.tr z163
                  have hI : pz_im M163 := hS.1 hI0
                  refine And.intro (fun h166 => ?_) (fun h166 => ?_)
                  · skip
                    refine And.intro (by omega) ?_
                    refine And.intro rfl ?_
                    exact ⟨by omega, hS⟩
                  · skip
                    refine And.intro (by omega) ?_
                    refine And.intro rfl ?_
                    exact ⟨by omega, hS⟩
            · skip
              intro v135 e135 a135 b135
              rw [pz_wi (by omega) (by omega)] at e135
              clear a135 b135
              refine And.intro (And.intro hI (And.intro (by omega) (by omega))) ?_
              intro v136 M136 a136 b136 q136
              obtain ⟨q136, z136⟩ := q136
              have hS : pz_rl pz_Q8 M M136 := hS.tr z136
              have hI : pz_im M136 := hS.1 hI0
              refine And.intro (fun h139 => ?_) (fun h139 => ?_)
              · skip
                refine And.intro (fun h147 => ?_) (fun h147 => ?_)
                · skip
                  refine And.intro (by omega) ?_
                  refine And.intro rfl ?_
                  exact ⟨by omega, hS⟩
                · skip
                  refine And.intro (fun h153 => ?_) (fun h153 => ?_)
                  · skip
                    refine And.intro (by omega) ?_
                    refine And.intro rfl ?_
                    exact ⟨by omega, hS⟩
                  · skip
                    intro v159 e159 a159 b159
                    rw [pz_wi (by omega) (by omega)] at e159
                    clear a159 b159
                    refine And.intro (And.intro hI (And.intro (by omega) (by omega))) ?_
                    intro v163 M163 a163 b163 q163
                    obtain ⟨q163, z163⟩ := q163
                    have hS : pz_rl pz_Q8 M M163 := hS.tr z163
                    have hI : pz_im M163 := hS.1 hI0
                    refine And.intro (fun h166 => ?_) (fun h166 => ?_)
                    · skip
                      refine And.intro (by omega) ?_
                      refine And.intro rfl ?_
                      exact ⟨by omega, hS⟩
                    · skip
                      refine And.intro (by omega) ?_
                      refine And.intro rfl ?_
                      exact ⟨by omega, hS⟩
              · skip
                refine And.intro (by omega) ?_
                refine And.intro rfl ?_
                exact ⟨by omega, hS⟩
          · skip
            intro v98 e98 a98 b98
            refine And.intro (fun h102 => ?_) (fun h102 => ?_)
            · skip
              refine And.intro (fun h129 => ?_) (fun h129 => ?_)
              · skip
                replace h129 : 11 ≤ v44 := by omega
                refine And.intro (fun h147 => ?_) (fun h147 => ?_)
                · skip
                  refine And.intro (by omega) ?_
                  refine And.intro rfl ?_
                  exact ⟨by omega, hS⟩
                · skip
                  replace h147 : v44 ≤ 8 := by omega
                  refine And.intro (fun h153 => ?_) (fun h153 => ?_)
                  · skip
                    refine And.intro (by omega) ?_
                    refine And.intro rfl ?_
                    exact ⟨by omega, hS⟩
                  · skip
                    replace h153 : 12 ≤ v44 := by omega
                    intro v159 e159 a159 b159
                    rw [pz_wi (by omega) (by omega)] at e159
                    clear a159 b159
                    refine And.intro (And.intro hI (And.intro (by omega) (by omega))) ?_
                    intro v163 M163 a163 b163 q163
                    obtain ⟨q163, z163⟩ := q163
                    have hS : pz_rl pz_Q8 M M163 := hS.tr z163
                    have hI : pz_im M163 := hS.1 hI0
                    refine And.intro (fun h166 => ?_) (fun h166 => ?_)
                    · skip
                      refine And.intro (by omega) ?_
                      refine And.intro rfl ?_
                      exact ⟨by omega, hS⟩
                    · skip
                      refine And.intro (by omega) ?_
                      refine And.intro rfl ?_
                      exact ⟨by omega, hS⟩
              · skip
                intro v135 e135 a135 b135
                rw [pz_wi (by omega) (by omega)] at e135
                clear a135 b135
                refine And.intro (And.intro hI (And.intro (by omega) (by omega))) ?_
                intro v136 M136 a136 b136 q136
                obtain ⟨q136, z136⟩ := q136
                have hS : pz_rl pz_Q8 M M136 := hS.tr z136
                have hI : pz_im M136 := hS.1 hI0
                refine And.intro (fun h139 => ?_) (fun h139 => ?_)
                · skip
                  refine And.intro (fun h147 => ?_) (fun h147 => ?_)
                  · skip
                    refine And.intro (by omega) ?_
                    refine And.intro rfl ?_
                    exact ⟨by omega, hS⟩
                  · skip
                    refine And.intro (fun h153 => ?_) (fun h153 => ?_)
                    · skip
                      refine And.intro (by omega) ?_
                      refine And.intro rfl ?_
                      exact ⟨by omega, hS⟩
                    · skip
                      intro v159 e159 a159 b159
                      rw [pz_wi (by omega) (by omega)] at e159
                      clear a159 b159
                      refine And.intro (And.intro hI (And.intro (by omega) (by omega))) ?_
                      intro v163 M163 a163 b163 q163
                      obtain ⟨q163, z163⟩ := q163
                      have hS : pz_rl pz_Q8 M M163 := hS.tr z163
                      have hI : pz_im M163 := hS.1 hI0
                      refine And.intro (fun h166 => ?_) (fun h166 => ?_)
                      · skip
                        refine And.intro (by omega) ?_
                        refine And.intro rfl ?_
                        exact ⟨by omega, hS⟩
                      · skip
                        refine And.intro (by omega) ?_
                        refine And.intro rfl ?_
                        exact ⟨by omega, hS⟩
                · skip
                  refine And.intro (by omega) ?_
                  refine And.intro rfl ?_
                  exact ⟨by omega, hS⟩
            · skip
              intro v106 e106 a106 b106
              refine pz_nrc (c := 66) rfl ?_
              intro v115 e115 a115 b115
              rw [pz_wi (by omega) (by omega)] at e115
              clear a115 b115
              refine And.intro (by omega) (And.intro (show _ < (80 : Int) from by omega) ?_)
              intro v116 e116 a116 b116
              refine And.intro (fun h117 => ?_) (fun h117 => ?_)
              · skip
                refine And.intro (fun h129 => ?_) (fun h129 => ?_)
                · skip
                  replace h129 : 11 ≤ v44 := by omega
                  refine And.intro (fun h147 => ?_) (fun h147 => ?_)
                  · skip
                    refine And.intro (by omega) ?_
                    refine And.intro rfl ?_
                    exact ⟨by omega, hS⟩
                  · skip
                    replace h147 : v44 ≤ 8 := by omega
                    refine And.intro (fun h153 => ?_) (fun h153 => ?_)
                    · skip
                      refine And.intro (by omega) ?_
                      refine And.intro rfl ?_
                      exact ⟨by omega, hS⟩
                    · skip
                      replace h153 : 12 ≤ v44 := by omega
                      intro v159 e159 a159 b159
                      rw [pz_wi (by omega) (by omega)] at e159
                      clear a159 b159
                      refine And.intro (And.intro hI (And.intro (by omega) (by omega))) ?_
                      intro v163 M163 a163 b163 q163
                      obtain ⟨q163, z163⟩ := q163
                      have hS : pz_rl pz_Q8 M M163 := hS.tr z163
                      have hI : pz_im M163 := hS.1 hI0
                      refine And.intro (fun h166 => ?_) (fun h166 => ?_)
                      · skip
                        refine And.intro (by omega) ?_
                        refine And.intro rfl ?_
                        exact ⟨by omega, hS⟩
                      · skip
                        refine And.intro (by omega) ?_
                        refine And.intro rfl ?_
                        exact ⟨by omega, hS⟩
                · skip
                  intro v135 e135 a135 b135
                  rw [pz_wi (by omega) (by omega)] at e135
                  clear a135 b135
                  refine And.intro (And.intro hI (And.intro (by omega) (by omega))) ?_
                  intro v136 M136 a136 b136 q136
                  obtain ⟨q136, z136⟩ := q136
                  have hS : pz_rl pz_Q8 M M136 := hS.tr z136
                  have hI : pz_im M136 := hS.1 hI0
                  refine And.intro (fun h139 => ?_) (fun h139 => ?_)
                  · skip
                    refine And.intro (fun h147 => ?_) (fun h147 => ?_)
                    · skip
                      refine And.intro (by omega) ?_
                      refine And.intro rfl ?_
                      exact ⟨by omega, hS⟩
                    · skip
                      refine And.intro (fun h153 => ?_) (fun h153 => ?_)
                      · skip
                        refine And.intro (by omega) ?_
                        refine And.intro rfl ?_
                        exact ⟨by omega, hS⟩
                      · skip
                        intro v159 e159 a159 b159
                        rw [pz_wi (by omega) (by omega)] at e159
                        clear a159 b159
                        refine And.intro (And.intro hI (And.intro (by omega) (by omega))) ?_
                        intro v163 M163 a163 b163 q163
                        obtain ⟨q163, z163⟩ := q163
                        have hS : pz_rl pz_Q8 M M163 := hS.tr z163
                        have hI : pz_im M163 := hS.1 hI0
                        refine And.intro (fun h166 => ?_) (fun h166 => ?_)
                        · skip
                          refine And.intro (by omega) ?_
                          refine And.intro rfl ?_
                          exact ⟨by omega, hS⟩
                        · skip
                          refine And.intro (by omega) ?_
                          refine And.intro rfl ?_
                          exact ⟨by omega, hS⟩
                  · skip
                    refine And.intro (by omega) ?_
                    refine And.intro rfl ?_
                    exact ⟨by omega, hS⟩
              · skip
                refine And.intro (hI) ?_
                intro v122 M122 a122 b122 q122
                obtain ⟨q122, z122⟩ := q122
                have hS : pz_rl pz_Q8 M M122 := hS.tr (pz_rl.wk (by intro b j q; unfold pz_Q0 at q; unfold pz_Q8; omega) z122)
                have hI : pz_im M122 := hS.1 hI0
                clear a122 b122
                refine And.intro (by omega) ?_
                refine And.intro rfl ?_
                exact ⟨by omega, hS⟩
        · skip
          refine And.intro (by omega) ?_
          refine And.intro rfl ?_
          exact ⟨by omega, hS⟩
      · skip
        replace q31 := q31.resolve_left (fun z => absurd (z.1.symm.trans h34) (by decide))
        clear h34
        refine And.intro (hI) ?_
        intro v39 M39 a39 b39 q39
        obtain ⟨q39, z39⟩ := q39
        have hS : pz_rl pz_Q8 M M39 := hS.tr (pz_rl.wk (by intro b j q; unfold pz_Q0 at q; unfold pz_Q8; omega) z39)
        have hI : pz_im M39 := hS.1 hI0
        clear a39 b39
        refine And.intro (by omega) ?_
        refine And.intro rfl ?_
        exact ⟨by omega, hS⟩
    · skip
      refine And.intro (by omega) ?_
      refine And.intro rfl ?_
      exact ⟨by omega, hS⟩
theorem v_X12_aPlan {fr lo i : Nat} {own : String} (h1 : 11 + 1 ≤ fr) (h2 : 8 + (3 + 11) + 237 ≤ lo) (h3 : .methodLink own i yX12_aPlan ∈ lw_tbl) : pz_cV fr lo own i k_X12_aPlan :=
  pz_cVk (maxL := 3) (fr' := 11) (lo' := 237) 0 12 h_X12_aPlan rfl ⟨by decide +kernel, by decide +kernel, by decide +kernel⟩ ⟨(pz_mt 1362 (by decide +kernel)), (pz_mt 1361 (by decide +kernel)), (pz_ms 27 (by decide +kernel)), (pz_mt 13 (by decide +kernel))⟩ (Or.inl ⟨TX12, 28, rfl⟩) (fun a M _ h => by
    have h : (match (generalizing := false) a with | [.inr (.inr (12, th))] => pz_im M ∧ M 1 15 < 16 | _ => False) := h
    split at h
    · exact ⟨_, _, rfl⟩
    · exact h.elim) h1 h2 h3
def k_X12_aPhone : pz_C := (1, 1, fun a M => (match a with | [.inr (.inr (12, th))] => pz_im M ∧ M 1 15 < 16 | _ => False), fun a M r M' => (match a, r with | [.inr (.inr (12, th))], some (.inl v) => ((∀ j : Nat, (j : Int) < 3 * M 1 15 → M' 66 j = M 66 j) ∧ (v = 0 ∨ (v = 1 ∧ 0 ≤ M' 66 (3 * M 1 15).toNat ∧ M' 66 (3 * M 1 15).toNat ≤ 11))) ∧ pz_rl pz_Q8 M M' | _, _ => False))
abbrev ct_X12_aPhone : List (Bool × Nat × pz_C) := [(true, 223, k_X12_need), (true, 245, k_X12_aLink), (true, 241, k_X12_told)]
set_option maxRecDepth 100000 in
set_option maxHeartbeats 4000000 in
theorem h_X12_aPhone : pz_H yX12_aPhone cX12_aPhone 2 (some .boolean) k_X12_aPhone 11 237 := by
  refine pz_mk (own := RX12) (tb := t_X12_aPhone) (fl := pz_flf fl_RX12) (ci := pz_cif ci_RX12) (ct := pz_ctf ct_X12_aPhone) (rz := true) (by decide +kernel) rfl t_X12_aPhone_ok (pz_flk fl_RX12_ok) (pz_cik ci_RX12_ok) ?_ ?_ (Or.inr ⟨rfl, rfl⟩) ?_ ?_
  · exact fun i k' h => pz_ctk (l := ct_X12_aPhone) (P := fun b i k => b = true → pz_cV 11 237 RX12 i k) (List.forall_mem_cons.mpr ⟨(fun _ => v_X12_need (by decide) (by decide) (pz_mt 1347 (by decide +kernel))), List.forall_mem_cons.mpr ⟨(fun _ => v_X12_aLink (by decide) (by decide) (pz_mt 1371 (by decide +kernel))), List.forall_mem_cons.mpr ⟨(fun _ => v_X12_told (by decide) (by decide) (pz_mt 1363 (by decide +kernel))), fun _ h => absurd h List.not_mem_nil⟩⟩⟩) true i k' h rfl
  · exact fun i k' h => pz_ctk (l := ct_X12_aPhone) (P := fun b i k => b = false → (pz_cS 11 237 RX12 i k ∨ (k = pz_kac ∧ 1 ≤ 11 ∧ 60 ≤ 237 ∧ Cond.methodLink RX12 i arraycopyName ∈ pz_tbl))) (List.forall_mem_cons.mpr ⟨((fun z => by cases z)), List.forall_mem_cons.mpr ⟨((fun z => by cases z)), List.forall_mem_cons.mpr ⟨((fun z => by cases z)), fun _ h => absurd h List.not_mem_nil⟩⟩⟩) false i k' h rfl
  · intro a M hlen hpre
    obtain ⟨th, rfl, hpre⟩ : ∃ th, a = [.inr (.inr (12, th))] ∧ (pz_im M ∧ M 1 15 < 16) := by
      have hpre : (match (generalizing := false) a with | [.inr (.inr (12, th))] => pz_im M ∧ M 1 15 < 16 | _ => False) := hpre
      split at hpre
      · exact ⟨_, rfl, hpre⟩
      · exact hpre.elim
    exact Nat.le_of_ble_eq_true rfl
  · intro a M hlen hcan hM hpre Ok hgo
    obtain ⟨th, rfl, hpre⟩ : ∃ th, a = [.inr (.inr (12, th))] ∧ (pz_im M ∧ M 1 15 < 16) := by
      have hpre : (match (generalizing := false) a with | [.inr (.inr (12, th))] => pz_im M ∧ M 1 15 < 16 | _ => False) := hpre
      split at hpre
      · exact ⟨_, rfl, hpre⟩
      · exact hpre.elim
    obtain ⟨k_th, hc_th⟩ := pz_tlm hcan
    have k_th : pz_kd th = 12 ∧ th < 231 := k_th
    have R_th := pz_kd12 k_th.1
    subst R_th
    clear k_th
    have hI : pz_im M := hpre.1
    have hI0 := hI
    have hS : pz_rl pz_Q8 M M := pz_rl.rf
    have I15 := hI.2.1.2.2.2.2.2.2.2.1
    refine hgo (fun _ => false) 44 0 _ [] M ?_
    intro v2 e2 a2 b2
    have I2 : 0 ≤ v2 ∧ v2 ≤ 16 := by
      rw [e2]
      exact hI.2.1.2.2.2.2.2.2.2.1
    clear a2 b2
    have N2 := hI.2.1.2.2.2.2.2.2.2.1
    intro v5 e5 a5 b5
    rw [pz_wi (by omega) (by omega)] at e5
    clear a5 b5
    refine And.intro (hI) ?_
    intro v10 M10 a10 b10 q10
    obtain ⟨q10, z10⟩ := q10
    have hS : pz_rl pz_Q8 M M10 := hS.tr (pz_rl.wk (by intro b j q; unfold pz_Q0 at q; unfold pz_Q8; omega) z10)
    have hI : pz_im M10 := hS.1 hI0
    have W10 : ∀ j : Nat, (j : Int) < 3 * M 1 15 → M10 66 j = M 66 j := fun j _ => z10.2 66 j (by unfold pz_Q0; omega)
    refine And.intro (fun h13 => ?_) (fun h13 => ?_)
    · skip
      refine And.intro (by omega) ?_
      refine And.intro rfl ?_
      have E9 : (3 * M 1 15).toNat = v5.toNat := by omega
      first
        | exact ⟨⟨W59, Or.inr ⟨rfl, by rw [E9, V59, V34]; exact (q18.2.resolve_left h21).2⟩⟩, hS⟩
        | exact ⟨⟨W59, Or.inl rfl⟩, hS⟩
        | exact ⟨⟨W34, Or.inl rfl⟩, hS⟩
        | exact ⟨⟨W18, Or.inl rfl⟩, hS⟩
        | exact ⟨⟨W10, Or.inl rfl⟩, hS⟩
    · skip
      refine And.intro (And.intro hI (And.intro (by omega) (by omega))) ?_
      intro v18 M18 a18 b18 q18
      obtain ⟨q18, z18⟩ := q18
      have hS : pz_rl pz_Q8 M M18 := hS.tr z18
      have hI : pz_im M18 := hS.1 hI0
      have W18 : ∀ j : Nat, (j : Int) < 3 * M 1 15 → M18 66 j = M 66 j := fun j hj => (q18.1 j (by omega)).trans (W10 j hj)
      refine And.intro (fun h21 => ?_) (fun h21 => ?_)
      · skip
        refine And.intro (by omega) ?_
        refine And.intro rfl ?_
        have E9 : (3 * M 1 15).toNat = v5.toNat := by omega
        first
          | exact ⟨⟨W59, Or.inr ⟨rfl, by rw [E9, V59, V34]; exact (q18.2.resolve_left h21).2⟩⟩, hS⟩
          | exact ⟨⟨W59, Or.inl rfl⟩, hS⟩
          | exact ⟨⟨W34, Or.inl rfl⟩, hS⟩
          | exact ⟨⟨W18, Or.inl rfl⟩, hS⟩
          | exact ⟨⟨W10, Or.inl rfl⟩, hS⟩
      · skip
        intro v27 e27 a27 b27
        rw [pz_wi (by omega) (by omega)] at e27
        clear a27 b27
        refine And.intro (And.intro hI (And.intro (by omega) (by omega))) ?_
        intro v34 M34 a34 b34 q34
        obtain ⟨q34, z34⟩ := q34
        have hS : pz_rl pz_Q8 M M34 := hS.tr z34
        have hI : pz_im M34 := hS.1 hI0
        have W34 : ∀ j : Nat, (j : Int) < 3 * M 1 15 → M34 66 j = M 66 j := fun j hj => (q34.1 j (by omega)).trans (W18 j hj)
        have V34 : M34 66 v5.toNat = M18 66 v5.toNat := q34.1 _ (by omega)
        refine And.intro (fun h37 => ?_) (fun h37 => ?_)
        · skip
          refine And.intro (by omega) ?_
          refine And.intro rfl ?_
          have E9 : (3 * M 1 15).toNat = v5.toNat := by omega
          first
            | exact ⟨⟨W59, Or.inr ⟨rfl, by rw [E9, V59, V34]; exact (q18.2.resolve_left h21).2⟩⟩, hS⟩
            | exact ⟨⟨W59, Or.inl rfl⟩, hS⟩
            | exact ⟨⟨W34, Or.inl rfl⟩, hS⟩
            | exact ⟨⟨W18, Or.inl rfl⟩, hS⟩
            | exact ⟨⟨W10, Or.inl rfl⟩, hS⟩
        · skip
          intro v43 e43 a43 b43
          rw [pz_wi (by omega) (by omega)] at e43
          clear a43 b43
          refine pz_nrc (c := 66) rfl ?_
          intro v52 e52 a52 b52
          rw [pz_wi (by omega) (by omega)] at e52
          clear a52 b52
          refine And.intro (by omega) (And.intro (show _ < (80 : Int) from by omega) ?_)
          intro v53 e53 a53 b53
          intro v55 e55 a55 b55
          refine And.intro (And.intro hI (And.intro (by omega) (by omega))) ?_
          intro v59 M59 a59 b59 q59
          obtain ⟨q59, z59⟩ := q59
          have hS : pz_rl pz_Q8 M M59 := hS.tr z59
          have hI : pz_im M59 := hS.1 hI0
          have W59 : ∀ j : Nat, (j : Int) < 3 * M 1 15 → M59 66 j = M 66 j := fun j hj => (q59.1 j (by omega)).trans (W34 j hj)
          have V59 : M59 66 v5.toNat = M34 66 v5.toNat := q59.1 _ (by omega)
          refine And.intro (fun h62 => ?_) (fun h62 => ?_)
          · skip
            refine And.intro (by omega) ?_
            refine And.intro rfl ?_
            have E9 : (3 * M 1 15).toNat = v5.toNat := by omega
            first
              | exact ⟨⟨W59, Or.inr ⟨rfl, by rw [E9, V59, V34]; exact (q18.2.resolve_left h21).2⟩⟩, hS⟩
              | exact ⟨⟨W59, Or.inl rfl⟩, hS⟩
              | exact ⟨⟨W34, Or.inl rfl⟩, hS⟩
              | exact ⟨⟨W18, Or.inl rfl⟩, hS⟩
              | exact ⟨⟨W10, Or.inl rfl⟩, hS⟩
          · skip
            refine And.intro (by omega) ?_
            refine And.intro rfl ?_
            have E9 : (3 * M 1 15).toNat = v5.toNat := by omega
            first
              | exact ⟨⟨W59, Or.inr ⟨rfl, by rw [E9, V59, V34]; exact (q18.2.resolve_left h21).2⟩⟩, hS⟩
              | exact ⟨⟨W59, Or.inl rfl⟩, hS⟩
              | exact ⟨⟨W34, Or.inl rfl⟩, hS⟩
              | exact ⟨⟨W18, Or.inl rfl⟩, hS⟩
              | exact ⟨⟨W10, Or.inl rfl⟩, hS⟩
theorem v_X12_aPhone {fr lo i : Nat} {own : String} (h1 : 11 + 1 ≤ fr) (h2 : 8 + (2 + 11) + 237 ≤ lo) (h3 : .methodLink own i yX12_aPhone ∈ lw_tbl) : pz_cV fr lo own i k_X12_aPhone :=
  pz_cVk (maxL := 2) (fr' := 11) (lo' := 237) 0 12 h_X12_aPhone rfl ⟨by decide +kernel, by decide +kernel, by decide +kernel⟩ ⟨(pz_mt 1378 (by decide +kernel)), (pz_mt 1377 (by decide +kernel)), (pz_ms 31 (by decide +kernel)), (pz_mt 13 (by decide +kernel))⟩ (Or.inl ⟨TX12, 28, rfl⟩) (fun a M _ h => by
    have h : (match (generalizing := false) a with | [.inr (.inr (12, th))] => pz_im M ∧ M 1 15 < 16 | _ => False) := h
    split at h
    · exact ⟨_, _, rfl⟩
    · exact h.elim) h1 h2 h3
def k_X12_aRecord : pz_C := (1, 1, fun a M => (match a with | [.inr (.inr (12, th))] => pz_im M ∧ M 1 15 < 16 | _ => False), fun a M r M' => (match a, r with | [.inr (.inr (12, th))], some (.inl v) => (v = 0 ∨ v = 1) ∧ pz_rl pz_Q8 M M' | _, _ => False))
abbrev ct_X12_aRecord : List (Bool × Nat × pz_C) := [(true, 241, k_X12_told), (true, 223, k_X12_need), (true, 245, k_X12_aLink)]
set_option maxRecDepth 100000 in
set_option maxHeartbeats 4000000 in
theorem h_X12_aRecord : pz_H yX12_aRecord cX12_aRecord 1 (some .boolean) k_X12_aRecord 11 237 := by
  refine pz_mk (own := RX12) (tb := t_X12_aRecord) (fl := pz_flf fl_RX12) (ci := pz_cif ci_RX12) (ct := pz_ctf ct_X12_aRecord) (rz := true) (by decide +kernel) rfl t_X12_aRecord_ok (pz_flk fl_RX12_ok) (pz_cik ci_RX12_ok) ?_ ?_ (Or.inr ⟨rfl, rfl⟩) ?_ ?_
  · exact fun i k' h => pz_ctk (l := ct_X12_aRecord) (P := fun b i k => b = true → pz_cV 11 237 RX12 i k) (List.forall_mem_cons.mpr ⟨(fun _ => v_X12_told (by decide) (by decide) (pz_mt 1363 (by decide +kernel))), List.forall_mem_cons.mpr ⟨(fun _ => v_X12_need (by decide) (by decide) (pz_mt 1347 (by decide +kernel))), List.forall_mem_cons.mpr ⟨(fun _ => v_X12_aLink (by decide) (by decide) (pz_mt 1371 (by decide +kernel))), fun _ h => absurd h List.not_mem_nil⟩⟩⟩) true i k' h rfl
  · exact fun i k' h => pz_ctk (l := ct_X12_aRecord) (P := fun b i k => b = false → (pz_cS 11 237 RX12 i k ∨ (k = pz_kac ∧ 1 ≤ 11 ∧ 60 ≤ 237 ∧ Cond.methodLink RX12 i arraycopyName ∈ pz_tbl))) (List.forall_mem_cons.mpr ⟨((fun z => by cases z)), List.forall_mem_cons.mpr ⟨((fun z => by cases z)), List.forall_mem_cons.mpr ⟨((fun z => by cases z)), fun _ h => absurd h List.not_mem_nil⟩⟩⟩) false i k' h rfl
  · intro a M hlen hpre
    obtain ⟨th, rfl, hpre⟩ : ∃ th, a = [.inr (.inr (12, th))] ∧ (pz_im M ∧ M 1 15 < 16) := by
      have hpre : (match (generalizing := false) a with | [.inr (.inr (12, th))] => pz_im M ∧ M 1 15 < 16 | _ => False) := hpre
      split at hpre
      · exact ⟨_, rfl, hpre⟩
      · exact hpre.elim
    exact Nat.le_of_ble_eq_true rfl
  · intro a M hlen hcan hM hpre Ok hgo
    obtain ⟨th, rfl, hpre⟩ : ∃ th, a = [.inr (.inr (12, th))] ∧ (pz_im M ∧ M 1 15 < 16) := by
      have hpre : (match (generalizing := false) a with | [.inr (.inr (12, th))] => pz_im M ∧ M 1 15 < 16 | _ => False) := hpre
      split at hpre
      · exact ⟨_, rfl, hpre⟩
      · exact hpre.elim
    obtain ⟨k_th, hc_th⟩ := pz_tlm hcan
    have k_th : pz_kd th = 12 ∧ th < 231 := k_th
    have R_th := pz_kd12 k_th.1
    subst R_th
    clear k_th
    have hI : pz_im M := hpre.1
    have hI0 := hI
    have hS : pz_rl pz_Q8 M M := pz_rl.rf
    have I15 := hI.2.1.2.2.2.2.2.2.2.1
    refine hgo (fun _ => false) 29 0 _ [] M ?_
    intro v3 e3 a3 b3
    have I3 : 0 ≤ v3 ∧ v3 ≤ 16 := by
      rw [e3]
      exact hI.2.1.2.2.2.2.2.2.2.1
    clear a3 b3
    have N3 := hI.2.1.2.2.2.2.2.2.2.1
    intro v6 e6 a6 b6
    rw [pz_wi (by omega) (by omega)] at e6
    clear a6 b6
    refine And.intro (And.intro hI (And.intro (by omega) (by omega))) ?_
    intro v13 M13 a13 b13 q13
    obtain ⟨q13, z13⟩ := q13
    have hS : pz_rl pz_Q8 M M13 := hS.tr z13
    have hI : pz_im M13 := hS.1 hI0
    refine And.intro (fun h16 => ?_) (fun h16 => ?_)
    · skip
      refine And.intro (by omega) ?_
      refine And.intro rfl ?_
      exact ⟨by omega, hS⟩
    · skip
      refine And.intro (hI) ?_
      intro v22 M22 a22 b22 q22
      obtain ⟨q22, z22⟩ := q22
      have hS : pz_rl pz_Q8 M M22 := hS.tr (pz_rl.wk (by intro b j q; unfold pz_Q0 at q; unfold pz_Q8; omega) z22)
      have hI : pz_im M22 := hS.1 hI0
      have f22 := pz_q0f z22
      obtain ⟨f22a, f22b, f22c⟩ := f22
      refine And.intro (fun h25 => ?_) (fun h25 => ?_)
      · skip
        refine And.intro (by omega) ?_
        refine And.intro rfl ?_
        exact ⟨by omega, hS⟩
      · skip
        intro v31 e31 a31 b31
        have I31 : 0 ≤ v31 ∧ v31 ≤ 16 := by
          rw [e31]
          exact hI.2.1.2.2.2.2.2.2.2.1
        clear a31 b31
        have N31 := hI.2.1.2.2.2.2.2.2.2.1
        intro v34 e34 a34 b34
        rw [pz_wi (by omega) (by omega)] at e34
        clear a34 b34
        intro v36 e36 a36 b36
        rw [pz_wi (by omega) (by omega)] at e36
        clear a36 b36
        refine And.intro (And.intro hI (And.intro (by omega) (by omega))) ?_
        intro v37 M37 a37 b37 q37
        obtain ⟨q37, z37⟩ := q37
        have hS : pz_rl pz_Q8 M M37 := hS.tr z37
        have hI : pz_im M37 := hS.1 hI0
        refine And.intro (fun h40 => ?_) (fun h40 => ?_)
        · skip
          refine And.intro (by omega) ?_
          refine And.intro rfl ?_
          exact ⟨by omega, hS⟩
        · skip
          refine And.intro (by omega) ?_
          refine And.intro rfl ?_
          exact ⟨by omega, hS⟩
theorem v_X12_aRecord {fr lo i : Nat} {own : String} (h1 : 11 + 1 ≤ fr) (h2 : 8 + (1 + 11) + 237 ≤ lo) (h3 : .methodLink own i yX12_aRecord ∈ lw_tbl) : pz_cV fr lo own i k_X12_aRecord :=
  pz_cVk (maxL := 1) (fr' := 11) (lo' := 237) 0 12 h_X12_aRecord rfl ⟨by decide +kernel, by decide +kernel, by decide +kernel⟩ ⟨(pz_mt 1382 (by decide +kernel)), (pz_mt 1381 (by decide +kernel)), (pz_ms 32 (by decide +kernel)), (pz_mt 13 (by decide +kernel))⟩ (Or.inl ⟨TX12, 28, rfl⟩) (fun a M _ h => by
    have h : (match (generalizing := false) a with | [.inr (.inr (12, th))] => pz_im M ∧ M 1 15 < 16 | _ => False) := h
    split at h
    · exact ⟨_, _, rfl⟩
    · exact h.elim) h1 h2 h3
def k_X12_aRow : pz_C := (1, 1, fun a M => (match a with | [.inr (.inr (12, th))] => pz_im M ∧ M 1 15 < 16 | _ => False), fun a M r M' => (match a, r with | [.inr (.inr (12, th))], some (.inl v) => ((v = 0 ∨ v = 1) ∧ (M 1 12 = 2 → (∀ j : Nat, (j : Int) < 3 * M 1 15 → M' 66 j = M 66 j) ∧ (v = 0 ∨ (v = 1 ∧ 0 ≤ M' 66 (3 * M 1 15).toNat ∧ M' 66 (3 * M 1 15).toNat ≤ 11)))) ∧ pz_rl pz_Q8 M M' | _, _ => False))
abbrev ct_X12_aRow : List (Bool × Nat × pz_C) := [(true, 248, k_X12_aPlan), (true, 251, k_X12_aPhone), (true, 254, k_X12_aRecord), (true, 223, k_X12_need)]
set_option maxRecDepth 100000 in
set_option maxHeartbeats 4000000 in
theorem h_X12_aRow : pz_H yX12_aRow cX12_aRow 1 (some .boolean) k_X12_aRow 12 259 := by
  refine pz_mk (own := RX12) (tb := t_X12_aRow) (fl := pz_flf fl_RX12) (ci := pz_cif ci_RX12) (ct := pz_ctf ct_X12_aRow) (rz := true) (by decide +kernel) rfl t_X12_aRow_ok (pz_flk fl_RX12_ok) (pz_cik ci_RX12_ok) ?_ ?_ (Or.inr ⟨rfl, rfl⟩) ?_ ?_
  · exact fun i k' h => pz_ctk (l := ct_X12_aRow) (P := fun b i k => b = true → pz_cV 12 259 RX12 i k) (List.forall_mem_cons.mpr ⟨(fun _ => v_X12_aPlan (by decide) (by decide) (pz_mt 1359 (by decide +kernel))), List.forall_mem_cons.mpr ⟨(fun _ => v_X12_aPhone (by decide) (by decide) (pz_mt 1375 (by decide +kernel))), List.forall_mem_cons.mpr ⟨(fun _ => v_X12_aRecord (by decide) (by decide) (pz_mt 1379 (by decide +kernel))), List.forall_mem_cons.mpr ⟨(fun _ => v_X12_need (by decide) (by decide) (pz_mt 1347 (by decide +kernel))), fun _ h => absurd h List.not_mem_nil⟩⟩⟩⟩) true i k' h rfl
  · exact fun i k' h => pz_ctk (l := ct_X12_aRow) (P := fun b i k => b = false → (pz_cS 12 259 RX12 i k ∨ (k = pz_kac ∧ 1 ≤ 12 ∧ 60 ≤ 259 ∧ Cond.methodLink RX12 i arraycopyName ∈ pz_tbl))) (List.forall_mem_cons.mpr ⟨((fun z => by cases z)), List.forall_mem_cons.mpr ⟨((fun z => by cases z)), List.forall_mem_cons.mpr ⟨((fun z => by cases z)), List.forall_mem_cons.mpr ⟨((fun z => by cases z)), fun _ h => absurd h List.not_mem_nil⟩⟩⟩⟩) false i k' h rfl
  · intro a M hlen hpre
    obtain ⟨th, rfl, hpre⟩ : ∃ th, a = [.inr (.inr (12, th))] ∧ (pz_im M ∧ M 1 15 < 16) := by
      have hpre : (match (generalizing := false) a with | [.inr (.inr (12, th))] => pz_im M ∧ M 1 15 < 16 | _ => False) := hpre
      split at hpre
      · exact ⟨_, rfl, hpre⟩
      · exact hpre.elim
    exact Nat.le_of_ble_eq_true rfl
  · intro a M hlen hcan hM hpre Ok hgo
    obtain ⟨th, rfl, hpre⟩ : ∃ th, a = [.inr (.inr (12, th))] ∧ (pz_im M ∧ M 1 15 < 16) := by
      have hpre : (match (generalizing := false) a with | [.inr (.inr (12, th))] => pz_im M ∧ M 1 15 < 16 | _ => False) := hpre
      split at hpre
      · exact ⟨_, rfl, hpre⟩
      · exact hpre.elim
    obtain ⟨k_th, hc_th⟩ := pz_tlm hcan
    have k_th : pz_kd th = 12 ∧ th < 231 := k_th
    have R_th := pz_kd12 k_th.1
    subst R_th
    clear k_th
    have hI : pz_im M := hpre.1
    have hI0 := hI
    have hS : pz_rl pz_Q8 M M := pz_rl.rf
    have I15 := hI.2.1.2.2.2.2.2.2.2.1
    refine hgo (fun _ => false) 29 0 _ [] M ?_
    intro v1 e1 a1 b1
    refine And.intro (fun h5 => ?_) (fun h5 => ?_)
    · skip
      intro v19 e19 a19 b19
      refine And.intro (fun h23 => ?_) (fun h23 => ?_)
      · skip
        refine And.intro (And.intro hI (by omega)) ?_
        intro v37 M37 a37 b37 q37
        obtain ⟨q37, z37⟩ := q37
        have hS : pz_rl pz_Q8 M M37 := hS.tr z37
        have hI : pz_im M37 := hS.1 hI0
        clear a37 b37
        refine And.intro (fun h40 => ?_) (fun h40 => ?_)
        · skip
          clear h40 q37
          refine And.intro (by omega) ?_
          refine And.intro rfl ?_
          first
            | exact ⟨⟨Or.inr rfl, fun q => absurd q (by omega)⟩, hS⟩
            | exact ⟨⟨Or.inl rfl, fun q => absurd q (by omega)⟩, hS⟩
            | exact ⟨⟨Or.inr rfl, fun _ => ⟨fun j hj => (z47.2 66 j (by unfold pz_Q0; omega)).trans (q27.1 j hj), Or.inr ⟨rfl, by rw [z47.2 66 _ (by unfold pz_Q0; omega)]; exact (q27.2.resolve_left h30).2⟩⟩⟩, hS⟩
            | exact ⟨⟨Or.inl rfl, fun _ => ⟨fun j hj => (z47.2 66 j (by unfold pz_Q0; omega)).trans (q27.1 j hj), Or.inl rfl⟩⟩, hS⟩
            | exact ⟨⟨Or.inl rfl, fun _ => ⟨q27.1, Or.inl rfl⟩⟩, hS⟩
        · skip
          clear h40 q37
          refine And.intro (hI) ?_
          intro v47 M47 a47 b47 q47
          obtain ⟨q47, z47⟩ := q47
          have hS : pz_rl pz_Q8 M M47 := hS.tr (pz_rl.wk (by intro b j q; unfold pz_Q0 at q; unfold pz_Q8; omega) z47)
          have hI : pz_im M47 := hS.1 hI0
          have f47 := pz_q0f z47
          obtain ⟨f47a, f47b, f47c⟩ := f47
          refine And.intro (fun h50 => ?_) (fun h50 => ?_)
          · skip
            refine And.intro (by omega) ?_
            refine And.intro rfl ?_
            first
              | exact ⟨⟨Or.inr rfl, fun q => absurd q (by omega)⟩, hS⟩
              | exact ⟨⟨Or.inl rfl, fun q => absurd q (by omega)⟩, hS⟩
              | exact ⟨⟨Or.inr rfl, fun _ => ⟨fun j hj => (z47.2 66 j (by unfold pz_Q0; omega)).trans (q27.1 j hj), Or.inr ⟨rfl, by rw [z47.2 66 _ (by unfold pz_Q0; omega)]; exact (q27.2.resolve_left h30).2⟩⟩⟩, hS⟩
              | exact ⟨⟨Or.inl rfl, fun _ => ⟨fun j hj => (z47.2 66 j (by unfold pz_Q0; omega)).trans (q27.1 j hj), Or.inl rfl⟩⟩, hS⟩
              | exact ⟨⟨Or.inl rfl, fun _ => ⟨q27.1, Or.inl rfl⟩⟩, hS⟩
          · skip
            refine And.intro (by omega) ?_
            refine And.intro rfl ?_
            first
              | exact ⟨⟨Or.inr rfl, fun q => absurd q (by omega)⟩, hS⟩
              | exact ⟨⟨Or.inl rfl, fun q => absurd q (by omega)⟩, hS⟩
              | exact ⟨⟨Or.inr rfl, fun _ => ⟨fun j hj => (z47.2 66 j (by unfold pz_Q0; omega)).trans (q27.1 j hj), Or.inr ⟨rfl, by rw [z47.2 66 _ (by unfold pz_Q0; omega)]; exact (q27.2.resolve_left h30).2⟩⟩⟩, hS⟩
              | exact ⟨⟨Or.inl rfl, fun _ => ⟨fun j hj => (z47.2 66 j (by unfold pz_Q0; omega)).trans (q27.1 j hj), Or.inl rfl⟩⟩, hS⟩
              | exact ⟨⟨Or.inl rfl, fun _ => ⟨q27.1, Or.inl rfl⟩⟩, hS⟩
      · skip
        refine And.intro (And.intro hI (by omega)) ?_
        intro v27 M27 a27 b27 q27
        obtain ⟨q27, z27⟩ := q27
        have hS : pz_rl pz_Q8 M M27 := hS.tr z27
        have hI : pz_im M27 := hS.1 hI0
        refine And.intro (fun h30 => ?_) (fun h30 => ?_)
        · skip
          refine And.intro (by omega) ?_
          refine And.intro rfl ?_
          first
            | exact ⟨⟨Or.inr rfl, fun q => absurd q (by omega)⟩, hS⟩
            | exact ⟨⟨Or.inl rfl, fun q => absurd q (by omega)⟩, hS⟩
            | exact ⟨⟨Or.inr rfl, fun _ => ⟨fun j hj => (z47.2 66 j (by unfold pz_Q0; omega)).trans (q27.1 j hj), Or.inr ⟨rfl, by rw [z47.2 66 _ (by unfold pz_Q0; omega)]; exact (q27.2.resolve_left h30).2⟩⟩⟩, hS⟩
            | exact ⟨⟨Or.inl rfl, fun _ => ⟨fun j hj => (z47.2 66 j (by unfold pz_Q0; omega)).trans (q27.1 j hj), Or.inl rfl⟩⟩, hS⟩
            | exact ⟨⟨Or.inl rfl, fun _ => ⟨q27.1, Or.inl rfl⟩⟩, hS⟩
        · skip
          refine And.intro (hI) ?_
          intro v47 M47 a47 b47 q47
          obtain ⟨q47, z47⟩ := q47
          have hS : pz_rl pz_Q8 M M47 := hS.tr (pz_rl.wk (by intro b j q; unfold pz_Q0 at q; unfold pz_Q8; omega) z47)
          have hI : pz_im M47 := hS.1 hI0
          have f47 := pz_q0f z47
          obtain ⟨f47a, f47b, f47c⟩ := f47
          refine And.intro (fun h50 => ?_) (fun h50 => ?_)
          · skip
            refine And.intro (by omega) ?_
            refine And.intro rfl ?_
            first
              | exact ⟨⟨Or.inr rfl, fun q => absurd q (by omega)⟩, hS⟩
              | exact ⟨⟨Or.inl rfl, fun q => absurd q (by omega)⟩, hS⟩
              | exact ⟨⟨Or.inr rfl, fun _ => ⟨fun j hj => (z47.2 66 j (by unfold pz_Q0; omega)).trans (q27.1 j hj), Or.inr ⟨rfl, by rw [z47.2 66 _ (by unfold pz_Q0; omega)]; exact (q27.2.resolve_left h30).2⟩⟩⟩, hS⟩
              | exact ⟨⟨Or.inl rfl, fun _ => ⟨fun j hj => (z47.2 66 j (by unfold pz_Q0; omega)).trans (q27.1 j hj), Or.inl rfl⟩⟩, hS⟩
              | exact ⟨⟨Or.inl rfl, fun _ => ⟨q27.1, Or.inl rfl⟩⟩, hS⟩
          · skip
            refine And.intro (by omega) ?_
            refine And.intro rfl ?_
            first
              | exact ⟨⟨Or.inr rfl, fun q => absurd q (by omega)⟩, hS⟩
              | exact ⟨⟨Or.inl rfl, fun q => absurd q (by omega)⟩, hS⟩
              | exact ⟨⟨Or.inr rfl, fun _ => ⟨fun j hj => (z47.2 66 j (by unfold pz_Q0; omega)).trans (q27.1 j hj), Or.inr ⟨rfl, by rw [z47.2 66 _ (by unfold pz_Q0; omega)]; exact (q27.2.resolve_left h30).2⟩⟩⟩, hS⟩
              | exact ⟨⟨Or.inl rfl, fun _ => ⟨fun j hj => (z47.2 66 j (by unfold pz_Q0; omega)).trans (q27.1 j hj), Or.inl rfl⟩⟩, hS⟩
              | exact ⟨⟨Or.inl rfl, fun _ => ⟨q27.1, Or.inl rfl⟩⟩, hS⟩
    · skip
      refine And.intro (And.intro hI (by omega)) ?_
      intro v9 M9 a9 b9 q9
      obtain ⟨q9, z9⟩ := q9
      have hS : pz_rl pz_Q8 M M9 := hS.tr z9
      have hI : pz_im M9 := hS.1 hI0
      clear a9 b9
      refine And.intro (fun h12 => ?_) (fun h12 => ?_)
      · skip
        clear h12 q9
        refine And.intro (by omega) ?_
        refine And.intro rfl ?_
        first
          | exact ⟨⟨Or.inr rfl, fun q => absurd q (by omega)⟩, hS⟩
          | exact ⟨⟨Or.inl rfl, fun q => absurd q (by omega)⟩, hS⟩
          | exact ⟨⟨Or.inr rfl, fun _ => ⟨fun j hj => (z47.2 66 j (by unfold pz_Q0; omega)).trans (q27.1 j hj), Or.inr ⟨rfl, by rw [z47.2 66 _ (by unfold pz_Q0; omega)]; exact (q27.2.resolve_left h30).2⟩⟩⟩, hS⟩
          | exact ⟨⟨Or.inl rfl, fun _ => ⟨fun j hj => (z47.2 66 j (by unfold pz_Q0; omega)).trans (q27.1 j hj), Or.inl rfl⟩⟩, hS⟩
          | exact ⟨⟨Or.inl rfl, fun _ => ⟨q27.1, Or.inl rfl⟩⟩, hS⟩
      · skip
        clear h12 q9
        refine And.intro (hI) ?_
        intro v47 M47 a47 b47 q47
        obtain ⟨q47, z47⟩ := q47
        have hS : pz_rl pz_Q8 M M47 := hS.tr (pz_rl.wk (by intro b j q; unfold pz_Q0 at q; unfold pz_Q8; omega) z47)
        have hI : pz_im M47 := hS.1 hI0
        have f47 := pz_q0f z47
        obtain ⟨f47a, f47b, f47c⟩ := f47
        refine And.intro (fun h50 => ?_) (fun h50 => ?_)
        · skip
          refine And.intro (by omega) ?_
          refine And.intro rfl ?_
          first
            | exact ⟨⟨Or.inr rfl, fun q => absurd q (by omega)⟩, hS⟩
            | exact ⟨⟨Or.inl rfl, fun q => absurd q (by omega)⟩, hS⟩
            | exact ⟨⟨Or.inr rfl, fun _ => ⟨fun j hj => (z47.2 66 j (by unfold pz_Q0; omega)).trans (q27.1 j hj), Or.inr ⟨rfl, by rw [z47.2 66 _ (by unfold pz_Q0; omega)]; exact (q27.2.resolve_left h30).2⟩⟩⟩, hS⟩
            | exact ⟨⟨Or.inl rfl, fun _ => ⟨fun j hj => (z47.2 66 j (by unfold pz_Q0; omega)).trans (q27.1 j hj), Or.inl rfl⟩⟩, hS⟩
            | exact ⟨⟨Or.inl rfl, fun _ => ⟨q27.1, Or.inl rfl⟩⟩, hS⟩
        · skip
          refine And.intro (by omega) ?_
          refine And.intro rfl ?_
          first
            | exact ⟨⟨Or.inr rfl, fun q => absurd q (by omega)⟩, hS⟩
            | exact ⟨⟨Or.inl rfl, fun q => absurd q (by omega)⟩, hS⟩
            | exact ⟨⟨Or.inr rfl, fun _ => ⟨fun j hj => (z47.2 66 j (by unfold pz_Q0; omega)).trans (q27.1 j hj), Or.inr ⟨rfl, by rw [z47.2 66 _ (by unfold pz_Q0; omega)]; exact (q27.2.resolve_left h30).2⟩⟩⟩, hS⟩
            | exact ⟨⟨Or.inl rfl, fun _ => ⟨fun j hj => (z47.2 66 j (by unfold pz_Q0; omega)).trans (q27.1 j hj), Or.inl rfl⟩⟩, hS⟩
            | exact ⟨⟨Or.inl rfl, fun _ => ⟨q27.1, Or.inl rfl⟩⟩, hS⟩
theorem v_X12_aRow {fr lo i : Nat} {own : String} (h1 : 12 + 1 ≤ fr) (h2 : 8 + (1 + 11) + 259 ≤ lo) (h3 : .methodLink own i yX12_aRow ∈ lw_tbl) : pz_cV fr lo own i k_X12_aRow :=
  pz_cVk (maxL := 1) (fr' := 12) (lo' := 259) 0 12 h_X12_aRow rfl ⟨by decide +kernel, by decide +kernel, by decide +kernel⟩ ⟨(pz_mt 1358 (by decide +kernel)), (pz_mt 1357 (by decide +kernel)), (pz_ms 26 (by decide +kernel)), (pz_mt 13 (by decide +kernel))⟩ (Or.inl ⟨TX12, 28, rfl⟩) (fun a M _ h => by
    have h : (match (generalizing := false) a with | [.inr (.inr (12, th))] => pz_im M ∧ M 1 15 < 16 | _ => False) := h
    split at h
    · exact ⟨_, _, rfl⟩
    · exact h.elim) h1 h2 h3
def k_X12_readsRows : pz_C := (1, 1, fun a M => (match a with | [.inr (.inr (12, th))] => pz_im M | _ => False), fun a M r M' => (match a, r with | [.inr (.inr (12, th))], some (.inl v) => (v = 0 ∨ (v = 1 ∧ (M 1 12 = 2 → ∀ r : Int, 0 ≤ r → r < M' 1 15 → 0 ≤ M' 66 (3 * r).toNat ∧ M' 66 (3 * r).toNat ≤ 11))) ∧ pz_rl pz_Q2 M M' | _, _ => False))
abbrev ct_X12_readsRows : List (Bool × Nat × pz_C) := [(true, 188, k_X12_bad), (true, 257, k_X12_aRow)]
set_option maxRecDepth 100000 in
set_option maxHeartbeats 4000000 in
theorem h_X12_readsRows : pz_H yX12_readsRows cX12_readsRows 3 (some .boolean) k_X12_readsRows 13 279 := by
  refine pz_mk (own := RX12) (tb := t_X12_readsRows) (fl := pz_flf fl_RX12) (ci := pz_cif ci_RX12) (ct := pz_ctf ct_X12_readsRows) (rz := true) (by decide +kernel) rfl t_X12_readsRows_ok (pz_flk fl_RX12_ok) (pz_cik ci_RX12_ok) ?_ ?_ (Or.inr ⟨rfl, rfl⟩) ?_ ?_
  · exact fun i k' h => pz_ctk (l := ct_X12_readsRows) (P := fun b i k => b = true → pz_cV 13 279 RX12 i k) (List.forall_mem_cons.mpr ⟨(fun _ => v_X12_bad (by decide) (by decide) (pz_mt 1311 (by decide +kernel))), List.forall_mem_cons.mpr ⟨(fun _ => v_X12_aRow (by decide) (by decide) (pz_mt 1355 (by decide +kernel))), fun _ h => absurd h List.not_mem_nil⟩⟩) true i k' h rfl
  · exact fun i k' h => pz_ctk (l := ct_X12_readsRows) (P := fun b i k => b = false → (pz_cS 13 279 RX12 i k ∨ (k = pz_kac ∧ 1 ≤ 13 ∧ 60 ≤ 279 ∧ Cond.methodLink RX12 i arraycopyName ∈ pz_tbl))) (List.forall_mem_cons.mpr ⟨((fun z => by cases z)), List.forall_mem_cons.mpr ⟨((fun z => by cases z)), fun _ h => absurd h List.not_mem_nil⟩⟩) false i k' h rfl
  · intro a M hlen hpre
    obtain ⟨th, rfl, hpre⟩ : ∃ th, a = [.inr (.inr (12, th))] ∧ (pz_im M) := by
      have hpre : (match (generalizing := false) a with | [.inr (.inr (12, th))] => pz_im M | _ => False) := hpre
      split at hpre
      · exact ⟨_, rfl, hpre⟩
      · exact hpre.elim
    exact Nat.le_of_ble_eq_true rfl
  · intro a M hlen hcan hM hpre Ok hgo
    obtain ⟨th, rfl, hpre⟩ : ∃ th, a = [.inr (.inr (12, th))] ∧ (pz_im M) := by
      have hpre : (match (generalizing := false) a with | [.inr (.inr (12, th))] => pz_im M | _ => False) := hpre
      split at hpre
      · exact ⟨_, rfl, hpre⟩
      · exact hpre.elim
    obtain ⟨k_th, hc_th⟩ := pz_tlm hcan
    have k_th : pz_kd th = 12 ∧ th < 231 := k_th
    have R_th := pz_kd12 k_th.1
    subst R_th
    clear k_th
    have hI : pz_im M := hpre
    have hI0 := hI
    have hS : pz_rl pz_Q2 M M := pz_rl.rf
    have L36 : ∀ (fu : Nat) (x1 : Int) (x2 : Int) (N36 : pz_M), (17 - N36 1 15 + x2).toNat < fu → (pz_rl pz_Q2 M N36) → (x2 = 0 ∨ x2 = 1) → (x2 = 1 → M 1 12 = 2 → ∀ r : Int, 0 ≤ r → r < N36 1 15 → 0 ≤ N36 66 (3 * r).toNat ∧ N36 66 (3 * r).toNat ≤ 11) → Ok 36 [some (.inr (.inr (12, 1))), some (.inl x1), some (.inl x2)] [] N36 := by
      intro fu
      induction fu with
      | zero => exact fun _ _ _ hn => absurd hn (Nat.not_lt_zero _)
      | succ fu ih36 =>
        intro x1 x2 N36 hn36 hS g36_1 g36_2
        have hI : pz_im N36 := hS.1 hI0
        have I15 := hI.2.1.2.2.2.2.2.2.2.1
        have F12 := hS.2 1 12 (by unfold pz_Q2; omega)
        refine hgo (fun p => Nat.beq p 36) 58 36 _ _ _ ?_
        refine And.intro (fun h37 => ?_) (fun h37 => ?_)
        · skip
          refine And.intro (by omega) ?_
          refine And.intro rfl ?_
          refine ⟨?_, hS⟩
          rcases g36_1 with h | h
          · exact Or.inl h
          · exact Or.inr ⟨h, g36_2 h⟩
        · skip
          intro v41 e41 a41 b41
          refine And.intro (fun h44 => ?_) (fun h44 => ?_)
          · skip
            refine And.intro (by omega) ?_
            refine And.intro rfl ?_
            refine ⟨?_, hS⟩
            rcases g36_1 with h | h
            · exact Or.inl h
            · exact Or.inr ⟨h, g36_2 h⟩
          · skip
            intro v48 e48 a48 b48
            refine And.intro (fun h52 => ?_) (fun h52 => ?_)
            · skip
              intro v62 e62 a62 b62
              have I62 : 0 ≤ v62 ∧ v62 ≤ 16 := by
                rw [e62]
                exact hI.2.1.2.2.2.2.2.2.2.1
              clear a62 b62
              have N62 := hI.2.1.2.2.2.2.2.2.2.1
              refine And.intro (fun h67 => ?_) (fun h67 => ?_)
              · skip
                replace h67 : v62 ≤ 15 := by omega
                refine And.intro (And.intro hI (by omega)) ?_
                intro v77 M77 a77 b77 q77
                obtain ⟨q77, z77⟩ := q77
                have hS : pz_rl pz_Q2 M M77 := hS.tr (pz_rl.wk (by intro b j q; unfold pz_Q8 at q; unfold pz_Q2; omega) z77)
                have hI : pz_im M77 := hS.1 hI0
                have A77 := z77.2 1 15 (by unfold pz_Q8; omega)
                intro v83 e83 a83 b83
                have I83 : 0 ≤ v83 ∧ v83 ≤ 16 := by
                  rw [e83]
                  exact hI.2.1.2.2.2.2.2.2.2.1
                clear a83 b83
                have N83 := hI.2.1.2.2.2.2.2.2.2.1
                refine And.intro (fun h87 => ?_) (fun h87 => ?_)
                · skip
                  intro v95 e95 a95 b95
                  rw [pz_wi (by omega) (by omega)] at e95
                  clear a95 b95
                  intro M96 e96
                  have hS : pz_rl pz_Q2 M M96 := by
                    rw [e96]
                    exact pz_rl_u hS (by unfold pz_Q2; decide) (pz_iom_15 (by omega))
                  have hI : pz_im M96 := hS.1 hI0
                  have T96_0 : M96 1 15 = v95 := by rw [e96]; exact pz_uu
                  have G96 : v77 = 1 → M 1 12 = 2 → ∀ r : Int, 0 ≤ r → r < M96 1 15 → 0 ≤ M96 66 (3 * r).toNat ∧ M96 66 (3 * r).toNat ≤ 11 := by
                    intro a b r r0 r1
                    have E9 : ∀ j, M96 66 j = M77 66 j := fun j => by rw [e96]; exact pz_una (by decide)
                    rw [E9]
                    have q9 := q77.2 (by omega)
                    rcases Int.lt_or_le r (N36 1 15) with h9 | h9
                    · rw [q9.1 _ (by omega)]
                      exact g36_2 (by omega) b r r0 h9
                    · rw [show r = N36 1 15 by omega]
                      exact (q9.2.resolve_left (by omega)).2
                  exact ih36 _ _ _ (by omega) hS (by first | omega | assumption) (by first | omega | assumption)
                · skip
                  intro v95 e95 a95 b95
                  rw [pz_wi (by omega) (by omega)] at e95
                  clear a95 b95
                  intro M96 e96
                  have hS : pz_rl pz_Q2 M M96 := by
                    rw [e96]
                    exact pz_rl_u hS (by unfold pz_Q2; decide) (pz_iom_15 (by omega))
                  have hI : pz_im M96 := hS.1 hI0
                  have T96_0 : M96 1 15 = v95 := by rw [e96]; exact pz_uu
                  have G96 : v77 = 1 → M 1 12 = 2 → ∀ r : Int, 0 ≤ r → r < M96 1 15 → 0 ≤ M96 66 (3 * r).toNat ∧ M96 66 (3 * r).toNat ≤ 11 := by
                    intro a b r r0 r1
                    have E9 : ∀ j, M96 66 j = M77 66 j := fun j => by rw [e96]; exact pz_una (by decide)
                    rw [E9]
                    have q9 := q77.2 (by omega)
                    rcases Int.lt_or_le r (N36 1 15) with h9 | h9
                    · rw [q9.1 _ (by omega)]
                      exact g36_2 (by omega) b r r0 h9
                    · rw [show r = N36 1 15 by omega]
                      exact (q9.2.resolve_left (by omega)).2
                  exact ih36 _ _ _ (by omega) hS (by first | omega | assumption) (by first | omega | assumption)
              · skip
                refine And.intro (hI) ?_
                intro v72 M72 a72 b72 q72
                obtain ⟨q72, z72⟩ := q72
                have hS : pz_rl pz_Q2 M M72 := hS.tr (pz_rl.wk (by intro b j q; unfold pz_Q0 at q; unfold pz_Q2; omega) z72)
                have hI : pz_im M72 := hS.1 hI0
                clear a72 b72
                refine And.intro (by omega) ?_
                refine And.intro rfl ?_
                exact ⟨Or.inl (by omega), hS⟩
            · skip
              refine And.intro (hI) ?_
              intro v57 M57 a57 b57 q57
              obtain ⟨q57, z57⟩ := q57
              have hS : pz_rl pz_Q2 M M57 := hS.tr (pz_rl.wk (by intro b j q; unfold pz_Q0 at q; unfold pz_Q2; omega) z57)
              have hI : pz_im M57 := hS.1 hI0
              clear a57 b57
              refine And.intro (by omega) ?_
              refine And.intro rfl ?_
              exact ⟨Or.inl (by omega), hS⟩
    refine hgo (fun p => Nat.beq p 36) 58 0 _ [] M ?_
    intro M2 e2
    have hS : pz_rl pz_Q2 M M2 := by
      rw [e2]
      exact pz_rl_u hS (by unfold pz_Q2; decide) (pz_iom_15 (by omega))
    have hI : pz_im M2 := hS.1 hI0
    have T2_0 : M2 1 15 = (0) := by rw [e2]; exact pz_uu
    have G2 : (1 : Int) = 1 → M 1 12 = 2 → ∀ r : Int, 0 ≤ r → r < M2 1 15 → 0 ≤ M2 66 (3 * r).toNat ∧ M2 66 (3 * r).toNat ≤ 11 := fun _ _ r r0 r1 => absurd r1 (by omega)
    intro v6 e6 a6 b6
    refine And.intro (fun h10 => ?_) (fun h10 => ?_)
    · skip
      intro v19 e19 a19 b19
      refine And.intro (fun h23 => ?_) (fun h23 => ?_)
      · skip
        exact L36 _ _ _ _ (Nat.lt_succ_self _) hS (by first | omega | assumption) (by first | omega | assumption)
      · skip
        exact L36 _ _ _ _ (Nat.lt_succ_self _) hS (by first | omega | assumption) (by first | omega | assumption)
    · skip
      exact L36 _ _ _ _ (Nat.lt_succ_self _) hS (by first | omega | assumption) (by first | omega | assumption)
theorem v_X12_readsRows {fr lo i : Nat} {own : String} (h1 : 13 + 1 ≤ fr) (h2 : 8 + (3 + 11) + 279 ≤ lo) (h3 : .methodLink own i yX12_readsRows ∈ lw_tbl) : pz_cV fr lo own i k_X12_readsRows :=
  pz_cVk (maxL := 3) (fr' := 13) (lo' := 279) 0 12 h_X12_readsRows rfl ⟨by decide +kernel, by decide +kernel, by decide +kernel⟩ ⟨(pz_mt 1354 (by decide +kernel)), (pz_mt 1353 (by decide +kernel)), (pz_ms 25 (by decide +kernel)), (pz_mt 13 (by decide +kernel))⟩ (Or.inl ⟨TX12, 28, rfl⟩) (fun a M _ h => by
    have h : (match (generalizing := false) a with | [.inr (.inr (12, th))] => pz_im M | _ => False) := h
    split at h
    · exact ⟨_, _, rfl⟩
    · exact h.elim) h1 h2 h3
