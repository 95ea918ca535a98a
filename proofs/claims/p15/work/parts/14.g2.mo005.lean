section
def pq_wh (ls : List (List Int)) (n : Int) (f : Nat → Int) : Prop := f 91 = (ls.length : Int) ∧ ∀ i : Nat, i < 12 → (i : Int) < n → f (105 + 2 * i) = pz_ph (pq_gl ls) i 0 1 ls.length ∧ f (106 + 2 * i) = pz_ph (pq_gl ls) i 240 2 ls.length
def pq_wd (ls : List (List Int)) (f : Nat → Int) : Prop := f 92 = (ls.length : Int) ∧ ∀ r c : Nat, r < ls.length → c < 2 → f (209 + (2 * r + c)) = pq_gl ls r c
def pq_w3 (k : Int) (ls : List (List Int)) (f : Nat → Int) : Prop := (k = 1 → pq_wp ls f) ∧ (k = 2 → ∀ n : Int, pq_wh ls n f) ∧ (k = 3 → pq_wd ls f)
/-- the cells of a TEXT -/
def pq_wf (k : Int) (j : Nat) : Prop := (k = 0 ∧ (j = 89 ∨ 841 ≤ j)) ∨ (k = 1 ∧ (j = 90 ∨ (129 ≤ j ∧ j < 209))) ∨ (k = 2 ∧ (j = 91 ∨ (105 ≤ j ∧ j < 129))) ∨ (k = 3 ∧ (j = 92 ∨ (209 ≤ j ∧ j ≤ 240)))
def pz_lwc (M N : pz_M) : Prop := N 60 89 = M 1 13 ∧ (∀ k : Nat, (k : Int) < M 1 13 → N 60 (841 + k) = M 64 (4 * k) ∧ N 60 (857 + k) = M 64 (4 * k + 1) ∧ N 60 (873 + k) = M 64 (4 * k + 2) ∧ N 60 (889 + k) = M 64 (4 * k + 3)) ∧ ∀ k : Nat, (k : Int) < 2 * M 1 14 → N 60 (905 + k) = M 65 k
def pz_pcc (i j k : Int) (M N : pz_M) : Prop := N 60 i.toNat = M 1 15 ∧ ∀ n : Nat, (n : Int) < k * M 1 15 → N 60 (j.toNat + n) = M 66 n
def pz_mph (M : pz_M) (r c : Nat) : Int := M 66 (3 * r + c)
def pz_phc (M N : pz_M) : Prop := N 60 91 = M 1 15 ∧ ∀ i : Nat, i < 12 → N 60 (105 + 2 * i) = pz_ph (pz_mph M) i 0 1 (M 1 15).toNat ∧ N 60 (106 + 2 * i) = pz_ph (pz_mph M) i 240 2 (M 1 15).toNat
def pq_pt (k : Int) (M N : pz_M) (v : Int) : Prop := (k = 0 → v = M 1 13 ∧ pz_lwc M N) ∧ (k = 1 → v = M 1 15 ∧ pz_pcc 90 129 5 M N) ∧ (k = 2 → v = M 1 15 ∧ pz_phc M N) ∧ (k = 3 → v = M 1 15 ∧ pz_pcc 92 209 2 M N) ∧ ∀ j : Nat, ¬ pq_wf k j → N 60 j = M 60 j
theorem pz_pcc_cg {i j k : Int} {M M' N : pz_M} (h : pz_pcc i j k M' N) (e : M' 1 15 = M 1 15) (e2 : ∀ n, M' 66 n = M 66 n) : pz_pcc i j k M N := by
  obtain ⟨a, b⟩ := h
  rw [e] at a b
  exact ⟨a, fun n hn => (b n hn).trans (e2 n)⟩
theorem pq_wl_of {ls : List pz_lne} {M N : pz_M} (l : pq_ls ls (M 1 13) (M 1 14) (M 64) (M 65)) (w : pz_lwc M N) : pq_wlw ls (N 60) := by
  obtain ⟨l1, l2, l3, l4⟩ := l
  obtain ⟨w1, w2, w3⟩ := w
  refine ⟨w1.trans l1, fun k hk => ?_, fun k hk => ?_⟩
  · obtain ⟨a, b, c, d⟩ := w2 k (by first | decide | omega)
    rw [a, b, c, d]
    exact l4 k hk
  · show N 60 (905 + 2 * k) = _ ∧ (_ → N 60 (905 + (2 * k + 1)) = _)
    rw [w3 _ (by first | decide | omega), w3 _ (by first | decide | omega)]
    exact l3 k hk
theorem pq_wp_of {ls : List (List Int)} {M N : pz_M} (h1 : M 1 15 = (ls.length : Int)) (hl : pq_lys 1 (M 66) ls) (w : pz_pcc 90 129 5 M N) : pq_wp ls (N 60) := by
  refine ⟨w.1.trans h1, fun r c hr hc => ?_⟩
  obtain ⟨x0, x1, x2, x3, x4⟩ := (hl r hr).1 rfl
  have e : N 60 (129 + (5 * r + c)) = M 66 (5 * r + c) := w.2 (5 * r + c) (by first | decide | omega)
  rw [e]
  have hc9 : c = 0 ∨ c = 1 ∨ c = 2 ∨ c = 3 ∨ c = 4 := by omega
  rcases hc9 with rfl | rfl | rfl | rfl | rfl
  · rw [if_neg (by decide), Int.sub_zero]; exact x0
  · rw [if_pos rfl]; exact x1
  · rw [if_neg (by decide), Int.sub_zero]; exact x2
  · rw [if_neg (by decide), Int.sub_zero]; exact x3
  · rw [if_neg (by decide), Int.sub_zero]; exact x4
end
