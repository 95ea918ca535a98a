section
theorem pz_gl_det {c : Nat} {T X T' X' : Nat → Int} (hA : pz_agr c T X T' X') {n i : Nat} {r : pz_lres} (h : pz_gl T X n i r) : i ≤ c → ∀ r', pz_gl T' X' n i r' → r' = r := by
  have D : ∀ {K d i : Nat} {r : pz_res}, pz_gr T X K d i r → i ≤ c → ∀ r', pz_gr T' X' K d i r' → r' = r ∧ ∀ j o, r = .ok j o → j ≤ c := fun h => pz_gr_det hA h
  refine h (fun n i r => i ≤ c → ∀ r', pz_gl T' X' n i r' → r' = r) (fun n i r hF => ?_)
  intro hi r' h'
  have h' := pz_gl_inv h'
  unfold pz_glF at hF h'
  have t := pz_agr_t hA hi
  rcases hF with ⟨p0, pe⟩ | ⟨p0, p1, pe⟩ | ⟨p0, p1, pe⟩ | ⟨j, k, p0, p1, p2, pe⟩ | ⟨j, o, p0, p1, p2, p3, p4, pe⟩ | ⟨j, o, r, p0, p1, p2, p3, p4, pe⟩ | ⟨j, l, o, k, p0, p1, p2, p3, p4, pe⟩ | ⟨j, l, o, p, p0, p1, p2, p3, p4, p5, pe⟩ | ⟨j, l, o, p, r, p0, p1, p2, p3, p4, p5, p6, pe⟩ <;> rcases h' with ⟨s0, se⟩ | ⟨s0, s1, se⟩ | ⟨s0, s1, se⟩ | ⟨js, ks, s0, s1, s2, se⟩ | ⟨js, os, s0, s1, s2, s3, s4, se⟩ | ⟨js, os, rs, s0, s1, s2, s3, s4, se⟩ | ⟨js, ls, os, ks, s0, s1, s2, s3, s4, se⟩ | ⟨js, ls, os, ps, s0, s1, s2, s3, s4, s5, se⟩ | ⟨js, ls, os, ps, rs, s0, s1, s2, s3, s4, s5, s6, se⟩ <;> first | omega | grind [pz_agr_t, pz_agr_lt]
theorem pz_lpre_bad {r : pz_lres} {ls : List pz_lne} {k : Int} {j : Nat} (h : r.pre ls = .bad k j) : r = .bad k j := by
  rcases r with l | ⟨k2, j2⟩
  · exact absurd h (by intro z; cases z)
  · exact h
theorem pz_gl_le {c : Nat} {T X : Nat → Int} (hc : T c = 101) {n i : Nat} {r : pz_lres} (h : pz_gl T X n i r) : i ≤ c → ∀ k j, r = .bad k j → j ≤ c := by
  have L : ∀ i, i ≤ c → T i ≠ 101 → i + 1 ≤ c := fun i hi ht => by
    rcases Nat.lt_or_ge i c with q | q
    · exact q
    · rw [show i = c by omega] at ht
      exact absurd hc ht
  have D : ∀ {K d i : Nat} {r : pz_res}, pz_gr T X K d i r → i ≤ c → (∀ j o, r = .ok j o → j ≤ c) ∧ (∀ k j, r = .bad k j → j ≤ c) := fun h => pz_gr_le hc h
  refine h (fun n i r => i ≤ c → ∀ k j, r = .bad k j → j ≤ c) (fun n i r hF => ?_)
  intro hi k9 j9 h9
  have l := L i hi
  unfold pz_glF at hF
  rcases hF with ⟨p0, pe⟩ | ⟨p0, p1, pe⟩ | ⟨p0, p1, pe⟩ | ⟨j, k, p0, p1, p2, pe⟩ | ⟨j, o, p0, p1, p2, p3, p4, pe⟩ | ⟨j, o, r, p0, p1, p2, p3, p4, pe⟩ | ⟨j, l, o, k, p0, p1, p2, p3, p4, pe⟩ | ⟨j, l, o, p, p0, p1, p2, p3, p4, p5, pe⟩ | ⟨j, l, o, p, r, p0, p1, p2, p3, p4, p5, p6, pe⟩ <;> grind [pz_lpre_bad]
/-- all steps of some lines -/
def pz_catl : List pz_lne → List (Int × Int)
  | [] => []
  | q :: t => (q.2.1 ++ q.2.2) ++ pz_catl t
theorem pz_catl_app {a b : List pz_lne} : pz_catl (a ++ b) = pz_catl a ++ pz_catl b := by
  induction a with
  | nil => rfl
  | cons q a ih =>
    show (q.2.1 ++ q.2.2) ++ pz_catl (a ++ b) = ((q.2.1 ++ q.2.2) ++ pz_catl a) ++ pz_catl b
    rw [ih]
    simp only [List.append_assoc]
theorem pz_catl_one {q : pz_lne} : pz_catl [q] = q.2.1 ++ q.2.2 := List.append_nil _
end
