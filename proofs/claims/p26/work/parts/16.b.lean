/-! the texts and statics at the start -/
def pz_tm (i : Nat) : Term := Term.string (pz_ss.getD i ("", 0, "")).1 (pz_ss.getD i ("", 0, "")).2.1
theorem pz_g1 : ∀ i, i < 25 → Cond.exactly (pz_tm i) "java/lang/String" ∈ flatC (Jvm.Cond.and given_1 narrow_1) := by decide +kernel
theorem pz_g2 : ∀ i, i < 25 → Cond.eq (.field (pz_tm i) "java/lang/String" "coder" "B") (.int 0) ∈ flatC (Jvm.Cond.and given_1 narrow_1) := by decide +kernel
theorem pz_g3 : ∀ i, i < 25 → Cond.arrayOf (.field (pz_tm i) "java/lang/String" "value" "[B") .byte ∈ flatC (Jvm.Cond.and given_1 narrow_1) := by decide +kernel
theorem pz_g4 : ∀ i, i < 25 → Cond.eq (.length (.field (pz_tm i) "java/lang/String" "value" "[B")) (.int (Int32.ofNat (pz_stl.getD i 0))) ∈ flatC (Jvm.Cond.and given_1 narrow_1) := by decide +kernel
theorem pz_g5 : ∀ i, i < 25 → ∀ j, j < pz_stl.getD i 0 → Cond.eq (.elem (.field (pz_tm i) "java/lang/String" "value" "[B") (.int (Int32.ofNat j))) (.int ((pz_sb.getD i []).getD j 0)) ∈ flatC (Jvm.Cond.and given_1 narrow_1) := by decide +kernel
theorem pz_g6 : ∀ i, i < 25 → ∀ j, j < 25 → i = j ∨ Cond.not (Cond.eq (pz_tm i) (pz_tm j)) ∈ flatC (Jvm.Cond.and given_1 narrow_1) ∨ Cond.not (Cond.eq (pz_tm j) (pz_tm i)) ∈ flatC (Jvm.Cond.and given_1 narrow_1) := by decide +kernel
theorem pz_g7 : ∀ i, i < 25 → Cond.stringRef (pz_ss.getD i ("", 0, "")).1 (pz_ss.getD i ("", 0, "")).2.1 (pz_ss.getD i ("", 0, "")).2.2 ∈ lw_tbl := by decide +kernel
theorem pz_len25 : ∀ i, i < 25 → pz_stl.getD i 0 < 2 ^ 31 := by decide +kernel
theorem pz_start {s : State} {b : Nat} {A : Nat → Prop} (hts : ∀ w ∈ lw_tbl, w.before #[Value.ref b] s = true) (hgv : (Jvm.Cond.and given_1 narrow_1).before #[Value.ref b] s = true) (hA : ∀ a : Nat, a < s.heap.size → ¬ A a) :
    ∃ adK adV : Nat → Nat, ∀ ad : Nat → Nat, (∀ i, i < 25 → ad (206 + i) = adK i) → pz_S ad adV A s s.heap := by
  have hs := flat_of_before _ hgv
  obtain ⟨adK, adV, h1, h2⟩ := vk_Sof (args := #[Value.ref b]) (s := s) (N := 25) (tm := pz_tm) (len := pz_stl) (byt := pz_sb) (A := A) pz_len25 (fun i hi => hs _ (pz_g1 i hi)) (fun i hi => hs _ (pz_g2 i hi)) (fun i hi => hs _ (pz_g3 i hi)) (fun i hi => hs _ (pz_g4 i hi)) (fun i hi j hj => hs _ (pz_g5 i hi j hj))
    (fun i j hi hj hij => by
      rcases pz_g6 i hi j hj with h | h | h
      · exact absurd h hij
      · exact Or.inl (hs _ h)
      · exact Or.inr (hs _ h)) hA
  refine ⟨adK, adV, fun ad had => ⟨⟨fun i hi => ?_, fun i j hi hj he => ?_⟩, fun i q hq => ?_, ⟨va_Zof (hts _ (by decide +kernel)) (hts _ (by decide +kernel)) (va_eqt (hs (.eq (.static "java/lang/String" "COMPACT_STRINGS" "Z") (.int 1)) (by decide +kernel))) hA, va_Zqof (hts _ (by decide +kernel)) (hts _ (by decide +kernel)) (hs _ (by decide +kernel)) hA⟩, va_Nw.of rfl (hts (.methodLinkNest RX1 35 yX11_within "TwelveChain") (by decide +kernel))⟩⟩
  · show va_O _ (ad (206 + i)) _ _ _ ∧ va_OF _ _ _ _ (ad (206 + i)) _ _ _ ∧ va_OF _ _ _ _ (ad (206 + i)) _ _ _ ∧ _
    rw [had i hi]
    exact h1.1 i hi
  · have he : ad (206 + i) = ad (206 + j) := he
    rw [had i hi, had j hj] at he
    exact h1.2 i j hi hj he
  · have hi : i < 25 := (List.getElem?_eq_some_iff.mp hq).1
    rw [had i hi]
    have e : q = pz_ss.getD i ("", 0, "") := by rw [List.getD_eq_getElem?_getD, hq]; rfl
    subst e
    have w := hts _ (pz_g7 i hi)
    refine ⟨va_tabs rfl rfl w, ?_⟩
    have e2 := h2 i hi
    rw [Term.string_eval_of_vm (args := #[Value.ref b]) (args' := #[]) (U := s) (V := s) rfl]
    exact e2
