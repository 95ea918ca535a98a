section
theorem pz_gr.atb {T X : Nat → Int} {d i : Nat} {j : Nat} {k : Int} : T i = 5 → pz_gr T X 6 d (i + 1) (.bad k j) → pz_gr T X 7 d i (.bad k j) := fun p0 p1 => pz_gr_roll (Or.inr (Or.inr (Or.inr (Or.inr (Or.inr (Or.inr (Or.inr (Or.inl (⟨rfl, Or.inr (Or.inl (⟨j, k, p0, p1, rfl⟩))⟩)))))))))
theorem pz_gr.ats {T X : Nat → Int} {d i : Nat} {j : Nat} {o : List (Int × Int)} {r : pz_res} : T i = 5 → pz_gr T X 6 d (i + 1) (.ok j o) → pz_gr T X 7 d j r → pz_gr T X 7 d i (r.app (o ++ [(32, 0)])) := fun p0 p1 p2 => pz_gr_roll (Or.inr (Or.inr (Or.inr (Or.inr (Or.inr (Or.inr (Or.inr (Or.inl (⟨rfl, Or.inr (Or.inr (⟨j, o, r, p0, p1, p2, rfl⟩))⟩)))))))))
theorem pz_gr.anb {T X : Nat → Int} {d i : Nat} {j : Nat} {k : Int} : pz_gr T X 6 d i (.bad k j) → pz_gr T X 8 d i (.bad k j) := fun p0 => pz_gr_roll (Or.inr (Or.inr (Or.inr (Or.inr (Or.inr (Or.inr (Or.inr (Or.inr (⟨rfl, Or.inl (⟨j, k, p0, rfl⟩)⟩)))))))))
theorem pz_gr.ans {T X : Nat → Int} {d i : Nat} {j : Nat} {o : List (Int × Int)} {r : pz_res} : pz_gr T X 6 d i (.ok j o) → pz_gr T X 7 d j r → pz_gr T X 8 d i (r.app o) := fun p0 p1 => pz_gr_roll (Or.inr (Or.inr (Or.inr (Or.inr (Or.inr (Or.inr (Or.inr (Or.inr (⟨rfl, Or.inr (⟨j, o, r, p0, p1, rfl⟩)⟩)))))))))
/-- two streams that are one up to the end c -/
def pz_agr (c : Nat) (T X T' X' : Nat → Int) : Prop := T c = 101 ∧ ∀ k, k ≤ c → T' k = T k ∧ (T k = 100 → X' k = X k)
theorem pz_agr_lt {c i : Nat} {T X T' X' : Nat → Int} (h : pz_agr c T X T' X') (hi : i ≤ c) (ht : T i ≠ 101) : i + 1 ≤ c := by
  rcases Nat.lt_or_ge i c with q | q
  · exact q
  · have e : i = c := by omega
    rw [e] at ht
    exact absurd h.1 ht
theorem pz_uf_ag {c i : Nat} {T X T' X' : Nat → Int} (h : pz_agr c T X T' X') (hi : i ≤ c) : pz_uf T' X' i = pz_uf T X i ∧ (∀ j o, pz_uf T X i = .ok j o → j ≤ c) := by
  obtain ⟨a, b⟩ := h.2 i hi
  unfold pz_uf
  rw [a]
  refine ⟨?_, fun j o z => ?_⟩
  · by_cases q : T i = 100
    · rw [if_pos q, if_pos q, b q]
    · rw [if_neg q, if_neg q]
  · by_cases q : T i = 100
    · rw [if_pos q] at z
      cases z
      exact pz_agr_lt h hi (by first | decide | omega)
    · rw [if_neg q] at z
      by_cases q2 : 8 ≤ T i ∧ T i ≤ 16
      · rw [if_pos q2] at z
        cases z
        exact pz_agr_lt h hi (by first | decide | omega)
      · rw [if_neg q2] at z
        cases z
theorem pz_agr_t {c i : Nat} {T X T' X' : Nat → Int} (h : pz_agr c T X T' X') (hi : i ≤ c) : T' i = T i := (h.2 i hi).1
theorem pz_agr_x {c i : Nat} {T X T' X' : Nat → Int} (h : pz_agr c T X T' X') (hi : i ≤ c) (ht : T i = 100) : X' i = X i := (h.2 i hi).2 ht
theorem pz_gr_det {c : Nat} {T X T' X' : Nat → Int} (hA : pz_agr c T X T' X') {K d i : Nat} {r : pz_res} (h : pz_gr T X K d i r) : i ≤ c → ∀ r', pz_gr T' X' K d i r' → r' = r ∧ ∀ j o, r = .ok j o → j ≤ c := by
  refine h (fun K d i r => i ≤ c → ∀ r', pz_gr T' X' K d i r' → r' = r ∧ ∀ j o, r = .ok j o → j ≤ c) (fun K d i r hF => ?_)
  intro hi r' h'
  have t := pz_agr_t hA hi
  have x := fun y => pz_agr_x hA hi y
  have l := fun y => pz_agr_lt hA hi y
  have u := pz_uf_ag hA hi
  unfold pz_grF at hF
  rcases hF with ⟨rfl, q⟩ | ⟨rfl, q⟩ | ⟨rfl, q⟩ | ⟨rfl, q⟩ | ⟨rfl, q⟩ | ⟨rfl, q⟩ | ⟨rfl, q⟩ | ⟨rfl, q⟩ | ⟨rfl, q⟩
  · have h' := pz_gr_i0 h'
    unfold pz_g0 at q h'
    rcases q with ⟨p0, p1, pe⟩ | ⟨j, o, r, p0, p1, p2, pe⟩ | ⟨j, k, p0, p1, pe⟩ | ⟨p0, p1, pe⟩ | ⟨p0, p1, p2, pe⟩ | ⟨r, p0, p1, p2, p3, pe⟩ <;> rcases h' with ⟨s0, s1, se⟩ | ⟨js, os, rs, s0, s1, s2, se⟩ | ⟨js, ks, s0, s1, se⟩ | ⟨s0, s1, se⟩ | ⟨s0, s1, s2, se⟩ | ⟨rs, s0, s1, s2, s3, se⟩ <;> first | omega | grind [pz_agr_t, pz_agr_x, pz_agr_lt, pz_uf_ag, pz_app_ok]
  · have h' := pz_gr_i1 h'
    unfold pz_g1 at q h'
    rcases q with ⟨j, k, p0, pe⟩ | ⟨j, o, r, p0, p1, pe⟩ <;> rcases h' with ⟨js, ks, s0, se⟩ | ⟨js, os, rs, s0, s1, se⟩ <;> first | omega | grind [pz_agr_t, pz_agr_x, pz_agr_lt, pz_uf_ag, pz_app_ok]
  · have h' := pz_gr_i2 h'
    unfold pz_g2 at q h'
    rcases q with ⟨p0, p1, pe⟩ | ⟨j, k, p0, p1, pe⟩ | ⟨j, o, r, p0, p1, p2, pe⟩ <;> rcases h' with ⟨s0, s1, se⟩ | ⟨js, ks, s0, s1, se⟩ | ⟨js, os, rs, s0, s1, s2, se⟩ <;> first | omega | grind [pz_agr_t, pz_agr_x, pz_agr_lt, pz_uf_ag, pz_app_ok]
  · have h' := pz_gr_i3 h'
    unfold pz_g3 at q h'
    rcases q with ⟨j, k, p0, pe⟩ | ⟨j, o, r, p0, p1, pe⟩ <;> rcases h' with ⟨js, ks, s0, se⟩ | ⟨js, os, rs, s0, s1, se⟩ <;> first | omega | grind [pz_agr_t, pz_agr_x, pz_agr_lt, pz_uf_ag, pz_app_ok]
  · have h' := pz_gr_i4 h'
    unfold pz_g4 at q h'
    rcases q with ⟨p0, p1, pe⟩ | ⟨j, k, p0, p1, p2, pe⟩ | ⟨j, o, p0, p1, p2, pe⟩ | ⟨j, k, p0, p1, p2, pe⟩ | ⟨j, o, p0, p1, p2, p3, pe⟩ | ⟨j, o, p0, p1, p2, p3, pe⟩ | ⟨j, k, p0, p1, p2, pe⟩ | ⟨j, o, p0, p1, p2, p3, pe⟩ | ⟨j, l, o, k, p0, p1, p2, p3, p4, pe⟩ | ⟨j, l, o, o', p0, p1, p2, p3, p4, pe⟩ <;> rcases h' with ⟨s0, s1, se⟩ | ⟨js, ks, s0, s1, s2, se⟩ | ⟨js, os, s0, s1, s2, se⟩ | ⟨js, ks, s0, s1, s2, se⟩ | ⟨js, os, s0, s1, s2, s3, se⟩ | ⟨js, os, s0, s1, s2, s3, se⟩ | ⟨js, ks, s0, s1, s2, se⟩ | ⟨js, os, s0, s1, s2, s3, se⟩ | ⟨js, ls, os, ks, s0, s1, s2, s3, s4, se⟩ | ⟨js, ls, os, o's, s0, s1, s2, s3, s4, se⟩ <;> first | omega | grind [pz_agr_t, pz_agr_x, pz_agr_lt, pz_uf_ag, pz_app_ok]
  · have h' := pz_gr_i5 h'
    unfold pz_g5 at q h'
    rcases q with ⟨p0, pe⟩ | ⟨j, k, p0, p1, pe⟩ | ⟨j, o, r, p0, p1, p2, pe⟩ <;> rcases h' with ⟨s0, se⟩ | ⟨js, ks, s0, s1, se⟩ | ⟨js, os, rs, s0, s1, s2, se⟩ <;> first | omega | grind [pz_agr_t, pz_agr_x, pz_agr_lt, pz_uf_ag, pz_app_ok]
  · have h' := pz_gr_i6 h'
    unfold pz_g6 at q h'
    rcases q with ⟨j, k, p0, pe⟩ | ⟨j, o, r, p0, p1, pe⟩ <;> rcases h' with ⟨js, ks, s0, se⟩ | ⟨js, os, rs, s0, s1, se⟩ <;> first | omega | grind [pz_agr_t, pz_agr_x, pz_agr_lt, pz_uf_ag, pz_app_ok]
  · have h' := pz_gr_i7 h'
    unfold pz_g7 at q h'
    rcases q with ⟨p0, pe⟩ | ⟨j, k, p0, p1, pe⟩ | ⟨j, o, r, p0, p1, p2, pe⟩ <;> rcases h' with ⟨s0, se⟩ | ⟨js, ks, s0, s1, se⟩ | ⟨js, os, rs, s0, s1, s2, se⟩ <;> first | omega | grind [pz_agr_t, pz_agr_x, pz_agr_lt, pz_uf_ag, pz_app_ok]
  · have h' := pz_gr_i8 h'
    unfold pz_g8 at q h'
    rcases q with ⟨j, k, p0, pe⟩ | ⟨j, o, r, p0, p1, pe⟩ <;> rcases h' with ⟨js, ks, s0, se⟩ | ⟨js, os, rs, s0, s1, se⟩ <;> first | omega | grind [pz_agr_t, pz_agr_x, pz_agr_lt, pz_uf_ag, pz_app_ok]
/-- the class' code of a law's steps -/
def pz_fl1 (q : Int × Int) : List Int := if q.1 = 0 then [q.2] else if q.1 < 10 then [-(q.1 + 8)] else if q.1 = 26 then [q.2, -48] else [if q.1 = 23 then -44 else if q.1 = 24 then -46 else if q.1 = 25 then -43 else if q.1 = 27 then -61 else if q.1 = 28 then -62 else if q.1 = 29 then -63 else if q.1 = 30 then -8 else if q.1 = 31 then -7 else -6]
end
