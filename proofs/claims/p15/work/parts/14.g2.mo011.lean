section
theorem v_X12_putsPhones {fr lo i : Nat} {own : String} (h1 : 0 + 1 ≤ fr) (h2 : 8 + (2 + 11) + 0 ≤ lo) (h3 : .methodLink own i yX12_putsPhones ∈ lw_tbl) : pz_cV fr lo own i k_X12_putsPhones :=
  pz_cVk (maxL := 2) (fr' := 0) (lo' := 0) 0 12 h_X12_putsPhones rfl ⟨(pz_nhc_RX12 yX12_putsPhones rfl).1, (pz_nhc_RX12 yX12_putsPhones rfl).2, pz_ds1⟩ ⟨pz_wq1398, pz_wq1397, pz_ws36, pz_wq13⟩ (Or.inl ⟨TX12, 28, rfl⟩) (fun a M _ h => by
    have h : (match (generalizing := false) a with | [.inr (.inr (12, th))] => pz_im M ∧ (∀ r : Int, 0 ≤ r → r < M 1 15 → 0 ≤ M 66 (3 * r).toNat ∧ M 66 (3 * r).toNat ≤ 11) | _ => False) := h
    split at h
    · exact ⟨_, _, rfl⟩
    · exact h.elim) h1 h2 h3
end
section
/-! what the rows of a TEXT are -/
def pq_rok (k n a b c d e : Int) : Prop := (k = 1 → (0 ≤ a ∧ a ≤ 999) ∧ (18 ≤ b ∧ b ≤ 21) ∧ (0 ≤ c ∧ c < n) ∧ (0 ≤ d ∧ d < n) ∧ (0 ≤ e ∧ e ≤ 99) ∧ (b = 18 ∨ b = 20 → 1 ≤ e)) ∧ (k = 2 → (0 ≤ a ∧ a < n) ∧ (0 ≤ b ∧ b < c ∧ c ≤ 240)) ∧ (k = 3 → (0 ≤ a ∧ a ≤ 999) ∧ (0 ≤ b ∧ b < n))
def pq_rol (k n : Int) (l : List Int) : Prop := pq_rok k n (l.getD 0 0) (l.getD 1 0) (l.getD 2 0) (l.getD 3 0) (l.getD 4 0)
def pq_ok (n k : Int) (ls : List (List Int)) : Prop := ls.length ≤ 16 ∧ ∀ r, r < ls.length → pq_rol k n (ls.getD r [])
theorem pz_nu_i {T X : Nat → Int} {lo hi : Int} {i : Nat} {f : Int → pz_rw} {r : Nat × List Int} (h : pz_nu T X lo hi i f = .inl r) : T i = 100 ∧ lo ≤ X i ∧ X i ≤ hi ∧ f (X i) = .inl r := by
  unfold pz_nu at h
  by_cases a : T i = 100
  · rw [if_pos a] at h
    by_cases b : lo ≤ X i ∧ X i ≤ hi
    · rw [if_pos b] at h
      exact ⟨a, b.1, b.2, h⟩
    · rw [if_neg b] at h
      cases h
  · rw [if_neg a] at h
    cases h
theorem pz_nd_i {T : Nat → Int} {t : Int} {i : Nat} {f : pz_rw} {r : Nat × List Int} (h : pz_nd T t i f = .inl r) : T i = t ∧ f = .inl r := by
  unfold pz_nd at h
  by_cases a : T i = t
  · rw [if_pos a] at h
    exact ⟨a, h⟩
  · rw [if_neg a] at h
    cases h
theorem pz_rq_ok {T X : Nat → Int} {i j : Nat} {n d w l m : Int} {r : List Int} (hd : 0 ≤ d ∧ d ≤ 999) (hw : 18 ≤ w ∧ w ≤ 21) (hl : 0 ≤ l ∧ l < n) (hm : 0 ≤ m ∧ m < n) (h : pz_rq T X i d w l m = .inl (j, r)) : pq_rol 1 n r := by
  unfold pz_rq at h
  by_cases c : w = 18 ∨ w = 20
  · rw [if_pos c] at h
    obtain ⟨-, h1, h2, h3⟩ := pz_nu_i h
    have e := (Prod.mk.inj (Sum.inl.inj h3)).2
    subst e
    exact ⟨fun _ => ⟨hd, hw, hl, hm, ⟨by show (0 : Int) ≤ X i; omega, by show X i ≤ 99; omega⟩, fun _ => h1⟩, fun y => absurd y (by decide), fun y => absurd y (by decide)⟩
  · rw [if_neg c] at h
    have e := (Prod.mk.inj (Sum.inl.inj h)).2
    subst e
    exact ⟨fun _ => ⟨hd, hw, hl, hm, ⟨by show (0 : Int) ≤ 0; omega, by show (0 : Int) ≤ 99; omega⟩, fun y => absurd y c⟩, fun y => absurd y (by decide), fun y => absurd y (by decide)⟩
theorem pz_row_ok {k n : Int} {T X : Nat → Int} {i j : Nat} {r : List Int} (hk : k = 1 ∨ k = 2 ∨ k = 3) (h : pz_row k n T X i = .inl (j, r)) : pq_rol k n r := by
  unfold pz_row at h
  rcases hk with rfl | rfl | rfl
  · rw [if_pos rfl] at h
    unfold pz_rp at h
    obtain ⟨-, a1, a2, h⟩ := pz_nu_i h
    by_cases c : 18 ≤ T (i + 1) ∧ T (i + 1) ≤ 21
    · have h := (if_pos c).symm.trans h
      obtain ⟨-, b1, b2, h⟩ := pz_nu_i h
      by_cases e : T (i + 1) = 20
      · have h := (if_pos e).symm.trans h
        by_cases g : T (i + 3) = 100 ∧ X (i + 3) = X (i + 2)
        · have h := (if_pos g).symm.trans h
          cases h
        · have h := (if_neg g).symm.trans h
          obtain ⟨-, d1, d2, h⟩ := pz_nu_i h
          exact pz_rq_ok ⟨a1, a2⟩ c ⟨b1, by omega⟩ ⟨d1, by omega⟩ h
      · have h := (if_neg e).symm.trans h
        exact pz_rq_ok ⟨a1, a2⟩ c ⟨b1, by omega⟩ ⟨by omega, by omega⟩ h
    · have h := (if_neg c).symm.trans h
      cases h
  · rw [if_neg (by decide), if_pos rfl] at h
    unfold pz_rh at h
    obtain ⟨-, a1, a2, h⟩ := pz_nu_i h
    obtain ⟨-, h⟩ := pz_nd_i h
    obtain ⟨-, b1, b2, h⟩ := pz_nu_i h
    obtain ⟨-, h⟩ := pz_nd_i h
    obtain ⟨-, c1, c2, h⟩ := pz_nu_i h
    have e := (Prod.mk.inj (Sum.inl.inj h)).2
    subst e
    exact ⟨fun y => absurd y (by decide), fun _ => ⟨⟨a1, by show X (i + 0) < n; omega⟩, b1, by show X (i + 2) < X (i + 4); omega, c2⟩, fun y => absurd y (by decide)⟩
  · rw [if_neg (by decide), if_neg (by decide)] at h
    unfold pz_rd at h
    obtain ⟨-, a1, a2, h⟩ := pz_nu_i h
    obtain ⟨-, h⟩ := pz_nd_i h
    obtain ⟨-, b1, b2, h⟩ := pz_nu_i h
    have e := (Prod.mk.inj (Sum.inl.inj h)).2
    subst e
    exact ⟨fun y => absurd y (by decide), fun y => absurd y (by decide), fun _ => ⟨⟨a1, a2⟩, b1, by show X (i + 2) < n; omega⟩⟩
end
