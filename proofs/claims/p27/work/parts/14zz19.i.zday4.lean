/-! what the deeds keep -/
def sd_okv (F : Nat → Int) (f i : Nat) (v : Int) : Prop := (f = 0 → 1 ≤ v ∧ v ≤ 999) ∧ (f = 1 → -9999 ≤ v ∧ v ≤ 9999) ∧ (f = 2 → -999 ≤ v ∧ v ≤ 999) ∧ (f = 3 → 0 ≤ v ∧ v ≤ 9) ∧ (f = 4 → v = 0 ∨ v = 1) ∧ (f = 5 → v = 0 ∨ v = 1) ∧ (f = 6 → v = 0 ∨ (v = 1 ∧ 1 ≤ i ∧ (i : Int) + 1 < F 88))
theorem sd_key {F : Nat → Int} {f i g j : Nat} {v : Int} (hf : f < 8) (hg : g < 8) (hi : i < 12) (hj : j < 12) : sd_u F (sd_fo f + i) v (sd_fo g + j) = if f = g ∧ i = j then v else F (sd_fo g + j) := by
  by_cases q : f = g ∧ i = j
  · rw [if_pos q]
    obtain ⟨rfl, rfl⟩ := q
    exact sd_uu
  · rw [if_neg q]
    exact sd_un (Ne.symm (sd_fo_ne hf hg hi hj (by omega)))
theorem sd_wf_1 {F : Nat → Int} {f i : Nat} {v : Int} (h : sd_wf F) (hf : f < 8) (hi : (i : Int) < F 88) (hv : sd_okv F f i v) : sd_wf (sd_u F (sd_fo f + i) v) := by
  obtain ⟨w1, w2, w3⟩ := h
  have b := sd_fo_b hf (show i < 12 by omega)
  have e88 : sd_u F (sd_fo f + i) v 88 = F 88 := sd_un (by omega)
  have e3 : sd_u F (sd_fo f + i) v 3 = F 3 := sd_un (by omega)
  refine ⟨by rw [e88]; exact w1, by rw [e3]; exact w2, fun j hj => ?_⟩
  rw [e88] at hj
  obtain ⟨a0, a1, a2, a3, a4, a5, a6⟩ := w3 j hj
  obtain ⟨v0, v1, v2, v3, v4, v5, v6⟩ := hv
  have k0 : sd_u F (sd_fo f + i) v (4 + j) = _ := sd_key (g := 0) hf (by decide) (by omega) (by omega)
  have k1 : sd_u F (sd_fo f + i) v (16 + j) = _ := sd_key (g := 1) hf (by decide) (by omega) (by omega)
  have k2 : sd_u F (sd_fo f + i) v (28 + j) = _ := sd_key (g := 2) hf (by decide) (by omega) (by omega)
  have k3 : sd_u F (sd_fo f + i) v (93 + j) = _ := sd_key (g := 3) hf (by decide) (by omega) (by omega)
  have k4 : sd_u F (sd_fo f + i) v (40 + j) = _ := sd_key (g := 4) hf (by decide) (by omega) (by omega)
  have k5 : sd_u F (sd_fo f + i) v (52 + j) = _ := sd_key (g := 5) hf (by decide) (by omega) (by omega)
  have k6 : sd_u F (sd_fo f + i) v (64 + j) = _ := sd_key (g := 6) hf (by decide) (by omega) (by omega)
  unfold sd_lw
  rw [k0, k1, k2, k3, k4, k5, k6, e88]
  refine ⟨?_, ?_, ?_, ?_, ?_, ?_, ?_⟩
  · by_cases q : f = 0 ∧ i = j
    · rw [if_pos q]; exact v0 q.1
    · rw [if_neg q]; exact a0
  · by_cases q : f = 1 ∧ i = j
    · rw [if_pos q]; exact v1 q.1
    · rw [if_neg q]; exact a1
  · by_cases q : f = 2 ∧ i = j
    · rw [if_pos q]; exact v2 q.1
    · rw [if_neg q]; exact a2
  · by_cases q : f = 3 ∧ i = j
    · rw [if_pos q]; exact v3 q.1
    · rw [if_neg q]; exact a3
  · by_cases q : f = 4 ∧ i = j
    · rw [if_pos q]; exact v4 q.1
    · rw [if_neg q]; exact a4
  · by_cases q : f = 5 ∧ i = j
    · rw [if_pos q]; exact v5 q.1
    · rw [if_neg q]; exact a5
  · by_cases q : f = 6 ∧ i = j
    · rw [if_pos q, ← q.2]; exact v6 q.1
    · rw [if_neg q]; exact a6
/-- only cells that the shape doesn't ask for -/
theorem sd_wf_cg {F G : Nat → Int} (h : sd_wf F) (e : ∀ k : Nat, (4 ≤ k ∧ k < 76) ∨ k = 88 ∨ (93 ≤ k ∧ k < 105) → G k = F k) (h3 : 0 ≤ G 3 ∧ G 3 ≤ 150) : sd_wf G := by
  obtain ⟨w1, w2, w3⟩ := h
  have e88 := e 88 (by omega)
  refine ⟨by rw [e88]; exact w1, h3, fun j hj => ?_⟩
  rw [e88] at hj
  have a := w3 j hj
  unfold sd_lw at a ⊢
  rw [e88, e (4 + j) (by omega), e (16 + j) (by omega), e (28 + j) (by omega), e (93 + j) (by omega), e (40 + j) (by omega), e (52 + j) (by omega), e (64 + j) (by omega)]
  exact a
theorem sd_note_o {tr : Bool} {F : Nat → Int} {w i m : Int} {k : Nat} (hk : k < 241) (h3 : k ≠ 3) : sd_note tr F w i m k = F k := by
  unfold sd_note
  split
  · rw [sd_un h3, sd_un (by omega), sd_un (by omega), sd_un (by omega), sd_un (by omega)]
  · rfl
theorem sd_note_3 {tr : Bool} {F : Nat → Int} {w i m : Int} (h : 0 ≤ F 3 ∧ F 3 ≤ 150) : 0 ≤ sd_note tr F w i m 3 ∧ sd_note tr F w i m 3 ≤ 150 := by
  unfold sd_note
  split
  · rename_i q
    rw [sd_uu]
    omega
  · exact h
theorem sd_note_wf {tr : Bool} {F : Nat → Int} {w i m : Int} (h : sd_wf F) : sd_wf (sd_note tr F w i m) := sd_wf_cg h (fun k hk => sd_note_o (by omega) (by omega)) (sd_note_3 h.2.1)
theorem sd_fF_o {tr : Bool} {F : Nat → Int} {k : Nat} (hk : k ≠ 2) : sd_fF tr F k = F k := by
  unfold sd_fF
  split
  · exact sd_un hk
  · rfl
theorem sd_fF_wf {tr : Bool} {F : Nat → Int} (h : sd_wf F) : sd_wf (sd_fF tr F) := sd_wf_cg h (fun k hk => sd_fF_o (by omega)) (by rw [sd_fF_o (by decide)]; exact h.2.1)
theorem sd_get_wf {tr : Bool} {F : Nat → Int} {i : Nat} (h : sd_wf F) (hi : (i : Int) < F 88) : sd_wf (sd_get tr F i) := sd_note_wf (sd_wf_1 (f := 4) h (by decide) hi ⟨fun q => absurd q (by decide), fun q => absurd q (by decide), fun q => absurd q (by decide), fun q => absurd q (by decide), fun _ => Or.inr rfl, fun q => absurd q (by decide), fun q => absurd q (by decide)⟩)
theorem sd_bri_wf {tr : Bool} {F : Nat → Int} {i : Nat} (h : sd_wf F) (hc : sd_cb F i) : sd_wf (sd_bri tr F i) := sd_note_wf (sd_wf_1 (f := 6) h (by decide) (by have := hc.1; omega) ⟨fun q => absurd q (by decide), fun q => absurd q (by decide), fun q => absurd q (by decide), fun q => absurd q (by decide), fun q => absurd q (by decide), fun q => absurd q (by decide), fun _ => Or.inr ⟨rfl, hc.2.2.1, hc.1⟩⟩)
theorem sd_joi_wf {tr : Bool} {F : Nat → Int} {i : Nat} (h : sd_wf F) (hi : (i : Int) < F 88) : sd_wf (sd_joi tr F i) := by
  have a := sd_wf_1 (f := 5) (v := 0) h (by decide) hi ⟨fun q => absurd q (by decide), fun q => absurd q (by decide), fun q => absurd q (by decide), fun q => absurd q (by decide), fun q => absurd q (by decide), fun _ => Or.inl rfl, fun q => absurd q (by decide)⟩
  exact sd_note_wf (sd_wf_1 (f := 4) (v := 0) a (by decide) (by rw [sd_un (by have := h.1; show (88 : Nat) ≠ 52 + i; omega)]; exact hi) ⟨fun q => absurd q (by decide), fun q => absurd q (by decide), fun q => absurd q (by decide), fun q => absurd q (by decide), fun _ => Or.inl rfl, fun q => absurd q (by decide), fun q => absurd q (by decide)⟩)
