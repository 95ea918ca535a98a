/-! the shape stays -/
theorem sd_lvk_wf2 {G : Nat → Int} {k : Int} (h : sd_wf G) : sd_wf (sd_lvk G k) := sd_lvk_wf h
theorem sd_lev_wf {tr : Bool} {F : Nat → Int} {i : Nat} (h : sd_wf F) (hi : (i : Int) < F 88) : sd_wf (sd_lev tr F i) := by
  have hm := h.1
  rw [sd_lev_k]
  refine sd_note_wf (sd_lvk_wf (sd_lvk_wf ?_))
  unfold sd_lv1
  have a := sd_wf_1 (f := 5) (v := 1) h (by decide) hi (sd_okv_5 (Or.inr rfl))
  have b : sd_wf (sd_u (sd_u F (52 + i) 1) 1 (pz_w (F 1 + 1))) := sd_wf_cg a (fun k hk => sd_un (by omega)) (by rw [sd_un (by decide)]; exact a.2.1)
  exact sd_wf_1 (f := 4) (v := 0) b (by decide) (by rw [sd_un (by decide), sd_un (by omega)]; exact hi) (sd_okv_4 (Or.inl rfl))
theorem sd_gi_b {ls : List pz_lne} {F : Nat → Int} {o : Nat} {n : Int} (h : sd_wf F) (ho : (o : Int) < F 88) (hn : 1 ≤ n) : 0 ≤ sd_gi ls F o n ∧ sd_gi ls F o n ≤ F (4 + o) - 1 := by
  have p := (h.2.2 o ho).1
  have g := sd_gv_b (ls := ls) (F := F) (i := o)
  unfold sd_gi
  omega
theorem sd_ask_wf {tr : Bool} {ls : List pz_lne} {F : Nat → Int} {i : Nat} {n : Int} (h : sd_wf F) (hc : sd_ca F i) (hn : 1 ≤ n) : sd_wf (sd_ask tr ls F i n) := by
  have hm := h.1
  have c1 := hc.1
  have g := sd_gi_b (ls := ls) (n := n) h (o := i + 1) (by omega) hn
  obtain ⟨p0, -, p2, -⟩ := h.2.2 (i + 1) (by omega)
  rw [show 4 + (i + 1) = 5 + i by omega] at g p0
  rw [show 28 + (i + 1) = 29 + i by omega] at p2
  have a := sd_wf_1 (f := 0) (i := i + 1) (v := F (5 + i) - sd_gi ls F (i + 1) n) h (by decide) (by omega) (sd_okv_0 (by omega))
  rw [show sd_fo 0 + (i + 1) = 5 + i by show 4 + (i + 1) = 5 + i; omega] at a
  have b := sd_wf_1 (f := 2) (i := i + 1) (v := max (-999) (F (29 + i) - sd_gi ls F (i + 1) n)) a (by decide) (by rw [sd_un (by omega)]; omega) (sd_okv_2 (by omega))
  rw [show sd_fo 2 + (i + 1) = 29 + i by show 28 + (i + 1) = 29 + i; omega] at b
  exact sd_note_wf b
theorem sd_pys_wf {tr : Bool} {F : Nat → Int} {a b : Nat} {n : Int} (h : sd_wf F) (hc : sd_c0 F a b n) (hn : 1 ≤ n ∧ n ≤ 99) : sd_wf (sd_pys tr F a b n) := by
  have hm := h.1
  have pc := sd_pys_c h hc hn
  obtain ⟨c1, c2, c3, -⟩ := hc
  have x := sd_wf_1 (f := 1) (v := F (16 + a) - n) h (by decide) c1 (sd_okv_1 pc.1)
  exact sd_note_wf (sd_wf_1 (f := 1) (i := b) (v := F (16 + b) + n) x (by decide) (by rw [sd_un (by show (88 : Nat) ≠ 16 + a; omega)]; exact c2) (sd_okv_1 pc.2))
def sd_tm (f : Nat → Int) (ls : List pz_lne) (l1 : List (List Int)) : Prop := pq_wlw ls f ∧ (∀ q ∈ ls, pv_ln q) ∧ pq_wp l1 f ∧ ∃ n : Int, pq_ok n 1 l1
theorem sd_tm_cg {f g : Nat → Int} {ls : List pz_lne} {l1 : List (List Int)} (h : sd_tm f ls l1) (e : ∀ j : Nat, j = 89 ∨ j = 90 ∨ (129 ≤ j ∧ j < 209) ∨ 841 ≤ j → g j = f j) : sd_tm g ls l1 := by
  obtain ⟨⟨a1, a2, a3⟩, h2, ⟨b1, b2⟩, n, h4⟩ := h
  refine ⟨⟨(e 89 (by omega)).trans a1, fun k hk => ?_, fun k hk => ?_⟩, h2, ⟨(e 90 (by omega)).trans b1, fun r c hr hc => ?_⟩, n, h4⟩
  · rw [e _ (by omega), e _ (by omega), e _ (by omega), e _ (by omega)]
    exact a2 k hk
  · show g (905 + 2 * k) = _ ∧ (_ → g (905 + (2 * k + 1)) = _)
    rw [e _ (by omega), e _ (by omega)]
    exact a3 k hk
  · have l := h4.1
    rw [e _ (by omega)]
    exact b2 r c hr hc
theorem sd_rowm {f : Nat → Int} {ls : List pz_lne} {l1 : List (List Int)} {r : Nat} (hT : sd_tm f ls l1) (hr : r < l1.length) : ((0 ≤ (l1.getD r []).getD 0 0 ∧ (l1.getD r []).getD 0 0 ≤ 999) ∧ (18 ≤ (l1.getD r []).getD 1 0 ∧ (l1.getD r []).getD 1 0 ≤ 21) ∧ 0 ≤ (l1.getD r []).getD 2 0 ∧ 0 ≤ (l1.getD r []).getD 3 0 ∧ (0 ≤ (l1.getD r []).getD 4 0 ∧ (l1.getD r []).getD 4 0 ≤ 99) ∧ ((l1.getD r []).getD 1 0 = 18 ∨ (l1.getD r []).getD 1 0 = 20 → 1 ≤ (l1.getD r []).getD 4 0)) := by
  obtain ⟨-, -, -, n, h4⟩ := hT
  obtain ⟨a, b, c, d, e, f⟩ := (h4.2 r hr).1 rfl
  exact ⟨a, b, c.1, d.1, e, f⟩
theorem sd_wpc {f : Nat → Int} {ls : List pz_lne} {l1 : List (List Int)} {r c k : Nat} (hT : sd_tm f ls l1) (hr : r < l1.length) (hc : c < 5) (hk : k = 129 + (5 * r + c)) : f k = (l1.getD r []).getD c 0 - (if c = 1 then 10 else 0) := by
  subst hk
  exact hT.2.2.1.2 r c hr hc
theorem sd_doe_wf {tr : Bool} {ls : List pz_lne} {F f : Nat → Int} {l1 : List (List Int)} {r : Nat} (hT : sd_tm f ls l1) (hr : r < l1.length) (h : sd_wf F) : sd_wf (sd_doe tr ls F (l1.getD r [])) := by
  obtain ⟨R0, R1, R2, R3, R4, R5⟩ := sd_rowm hT hr
  unfold sd_doe
  split
  · split
    · exact sd_ask_wf h (by assumption) (R5 (Or.inl (by assumption)))
    · exact h
  · split
    · split
      · exact sd_bri_wf h (by assumption)
      · exact h
    · split
      · split
        · exact sd_pys_wf h (by assumption) ⟨R5 (Or.inr (by assumption)), R4.2⟩
        · exact h
      · split
        · rename_i q
          exact sd_get_wf h q.1
        · exact h
theorem sd_s2_wf {tr : Bool} {ls : List pz_lne} {i : Nat} {F : Nat → Int} (h : sd_wf F) : sd_wf (sd_s2 tr ls i F) := by
  unfold sd_s2
  split
  · rename_i q
    split
    · exact sd_get_wf (sd_fF_wf h) (by rw [sd_fF_o (by decide)]; exact q.1)
    · exact sd_fF_wf h
  · exact h
theorem sd_s3_wf {tr : Bool} {ls : List pz_lne} {i : Nat} {F : Nat → Int} (h : sd_wf F) (hi : (i : Int) < F 88) : sd_wf (sd_s3 tr ls i F) := by
  unfold sd_s3
  split
  · split
    · exact sd_lev_wf (sd_fF_wf h) (by rw [sd_fF_o (by decide)]; exact hi)
    · exact sd_fF_wf h
  · exact h
theorem sd_s3_88 {tr : Bool} {ls : List pz_lne} {i : Nat} {F : Nat → Int} (hi : i < 12) : sd_s3 tr ls i F 88 = F 88 := by
  unfold sd_s3
  split
  · split
    · rw [sd_lev_88 hi, sd_fF_o (by decide)]
    · exact sd_fF_o (by decide)
  · rfl
theorem sd_s5_wf {ls : List pz_lne} {i : Nat} {F : Nat → Int} (h : sd_wf F) (hi : (i : Int) < F 88) : sd_wf (sd_s5 ls i F) := by
  have c := sd_co_b (ls := ls) (F := F) (i := i)
  have p := (h.2.2 i hi).2.1
  unfold sd_s5
  split
  · exact sd_wf_1 (f := 1) (v := max (-9999) (F (16 + i) - sd_co ls F i)) h (by decide) hi (sd_okv_1 (by omega))
  · exact h
