/-! PARTS that move keep the shape -/
theorem sd_mi_wf {tr e : Bool} {to : Nat} : ∀ (m i : Nat) (F : Nat → Int) (c : Int), sd_wf F → ((i + m : Nat) : Int) ≤ F 88 → sd_wf (sd_mi tr to e m i F c).1 := by
  intro m
  induction m with
  | zero => intro i F c h _; exact h
  | succ m ih =>
    intro i F c h hi
    have hm := h.1
    have e0 : sd_mi tr to e (m + 1) i F c = if sd_mk F to e i then sd_mi tr to e m (i + 1) (sd_note tr (sd_u F (76 + i) (F 0)) 5 i 0) (pz_w (c + 1)) else sd_mi tr to e m (i + 1) F c := rfl
    rw [e0]
    split
    · refine ih _ _ _ (sd_note_wf (sd_wf_1 (f := 7) (i := i) (v := F 0) h (by decide) (by omega) sd_okv_7)) ?_
      rw [sd_note_o (by decide) (by decide), sd_un (by omega)]
      omega
    · exact ih _ _ _ h (by omega)
theorem sd_mv_wf {tr : Bool} {b : Nat → Bool} {n : Nat} : ∀ (f a : Nat) (F : Nat → Int) (c : Int), sd_wf F → (n : Int) = F 88 → sd_wf (sd_mv tr b n f a F c).1 ∧ (sd_mv tr b n f a F c).1 88 = F 88 := by
  intro f
  induction f with
  | zero => intro a F c h _; exact ⟨h, rfl⟩
  | succ f ih =>
    intro a F c h hn
    have hm := h.1
    have e0 : sd_mv tr b n (f + 1) a F c = if a < n then sd_mv tr b n f (if sd_end b n a = n - 1 then n else sd_end b n a) (if sd_cm F (sd_end b n a) (sd_end b n a + 1 - a) a = true then sd_mi tr (sd_end b n a) (decide (sd_end b n a = n - 1)) (sd_end b n a + 1 - a) a F c else (F, c)).1 (if sd_cm F (sd_end b n a) (sd_end b n a + 1 - a) a = true then sd_mi tr (sd_end b n a) (decide (sd_end b n a = n - 1)) (sd_end b n a + 1 - a) a F c else (F, c)).2 else (F, c) := rfl
    rw [e0]
    by_cases q : a < n
    · rw [if_pos q]
      obtain ⟨s1, s2, -⟩ := sd_end_s (b := b) q
      by_cases y : sd_cm F (sd_end b n a) (sd_end b n a + 1 - a) a = true
      · rw [if_pos y]
        have o : (sd_mi tr (sd_end b n a) (decide (sd_end b n a = n - 1)) (sd_end b n a + 1 - a) a F c).1 88 = F 88 := sd_mi_o (by omega) _ _ _ _ (by omega)
        have z := ih (if sd_end b n a = n - 1 then n else sd_end b n a) (sd_mi tr (sd_end b n a) (decide (sd_end b n a = n - 1)) (sd_end b n a + 1 - a) a F c).1 (sd_mi tr (sd_end b n a) (decide (sd_end b n a = n - 1)) (sd_end b n a + 1 - a) a F c).2 (sd_mi_wf _ _ _ _ h (by omega)) (by rw [o]; exact hn)
        rw [o] at z
        exact z
      · rw [if_neg y]
        exact ih _ _ _ h hn
    · rw [if_neg q]
      exact ⟨h, rfl⟩
