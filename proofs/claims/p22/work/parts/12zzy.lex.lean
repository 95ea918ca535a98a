section
/-! the tokens on a TAPE -/
def pz_let (x : Int) : Bool := decide ((97 ≤ x ∧ x ≤ 122) ∨ (65 ≤ x ∧ x ≤ 90))
def pz_dig (x : Int) : Bool := decide (48 ≤ x ∧ x ≤ 57)
def pz_bla (x : Int) : Bool := decide (x = 32 ∨ x = 10)
def pz_sgn (x : Int) : Bool := decide ((40 ≤ x ∧ x ≤ 43) ∨ x = 45 ∨ x = 47 ∨ (59 ≤ x ∧ x ≤ 62))
def pz_wh (p : Int → Bool) (B : Nat → Int) (n : Nat) : Nat → Nat → Nat
  | 0, i => i
  | f + 1, i => if i < n ∧ p (B i) = true then pz_wh p B n f (i + 1) else i
/-- from i on, as long as p holds -/
def pz_whl (p : Int → Bool) (B : Nat → Int) (n i : Nat) : Nat := pz_wh p B n (n - i) i
theorem pz_wh_u {p : Int → Bool} {B : Nat → Int} {n e : Nat} (he : ¬ (e < n ∧ p (B e) = true)) : ∀ f i, i ≤ e → e - i ≤ f → (∀ k, i ≤ k → k < e → k < n ∧ p (B k) = true) → pz_wh p B n f i = e := by
  intro f
  induction f with
  | zero => intro i h1 h2 _; show i = e; omega
  | succ f ih =>
    intro i h1 h2 h
    show (if i < n ∧ p (B i) = true then pz_wh p B n f (i + 1) else i) = e
    by_cases q : i = e
    · subst q
      rw [if_neg he]
    · rw [if_pos (h i (Nat.le_refl _) (by first | decide | omega))]
      exact ih (i + 1) (by first | decide | omega) (by first | decide | omega) (fun k a b => h k (by first | decide | omega) b)
theorem pz_whl_u {p : Int → Bool} {B : Nat → Int} {n i e : Nat} (h1 : i ≤ e) (h : ∀ k, i ≤ k → k < e → k < n ∧ p (B k) = true) (he : ¬ (e < n ∧ p (B e) = true)) : pz_whl p B n i = e := by
  refine pz_wh_u he _ _ h1 ?_ h
  by_cases q : i = e
  · omega
  · have := (h (e - 1) (by first | decide | omega) (by first | decide | omega)).1
    omega
theorem pz_wh_s {p : Int → Bool} {B : Nat → Int} {n : Nat} : ∀ f i, i ≤ pz_wh p B n f i ∧ (i ≤ n → pz_wh p B n f i ≤ n) ∧ (∀ k, i ≤ k → k < pz_wh p B n f i → k < n ∧ p (B k) = true) ∧ (n - i ≤ f → ¬ (pz_wh p B n f i < n ∧ p (B (pz_wh p B n f i)) = true)) := by
  intro f
  induction f with
  | zero => intro i; exact ⟨Nat.le_refl _, fun h => h, fun k a b => absurd b (by show ¬ k < i; omega), fun h z => absurd z.1 (by show ¬ i < n; omega)⟩
  | succ f ih =>
    intro i
    have e : pz_wh p B n (f + 1) i = if i < n ∧ p (B i) = true then pz_wh p B n f (i + 1) else i := rfl
    rw [e]
    by_cases q : i < n ∧ p (B i) = true
    · rw [if_pos q]
      obtain ⟨a, b, c, d⟩ := ih (i + 1)
      refine ⟨by omega, fun _ => b (by first | decide | omega), fun k k1 k2 => ?_, fun h => d (by first | decide | omega)⟩
      by_cases z : k = i
      · rw [z]; exact q
      · exact c k (by first | decide | omega) k2
    · rw [if_neg q]
      exact ⟨Nat.le_refl _, fun h => h, fun k a b => absurd b (by first | decide | omega), fun _ => q⟩
theorem pz_whl_s {p : Int → Bool} {B : Nat → Int} {n i : Nat} : i ≤ pz_whl p B n i ∧ (i ≤ n → pz_whl p B n i ≤ n) ∧ (∀ k, i ≤ k → k < pz_whl p B n i → k < n ∧ p (B k) = true) ∧ ¬ (pz_whl p B n i < n ∧ p (B (pz_whl p B n i)) = true) := by
  obtain ⟨a, b, c, d⟩ := pz_wh_s (p := p) (B := B) (n := n) (n - i) i
  exact ⟨a, b, c, d (Nat.le_refl _)⟩
/-- the keywords -/
def pz_kw : List (List Int) := [[114, 101, 97, 100, 121], [108, 101, 97, 118, 101], [103, 105, 118, 101], [99, 111, 115, 116], [119, 104, 101, 110], [111, 114], [97, 110, 100], [110, 111, 116], [108, 105, 110, 107], [112, 114, 105, 99, 101], [112, 117, 114, 115, 101], [119, 111, 114, 116, 104], [115, 108, 111, 119], [100, 97, 121], [108, 105, 110, 107, 115], [98, 114, 105, 100, 103, 101, 100], [108, 97, 99, 107, 115], [111, 110], [97, 115, 107], [98, 114, 105, 100, 103, 101], [112, 97, 121], [112, 97, 112, 101, 114], [102, 114, 111, 109], [116, 111]]
def pz_kwd (c : Nat) : List Int := pz_kw.getD c []
/-- the bytes from p to e are that word -/
abbrev pz_eqw (B : Nat → Int) (p e : Nat) (w : List Int) : Prop := e = p + w.length ∧ ∀ k : Nat, k < w.length → B (p + k) = w.getD k 0
def pz_fd (B : Nat → Int) (p e : Nat) : Nat → Nat → Int
  | 0, _ => 102
  | f + 1, c => if pz_eqw B p e (pz_kwd c) then (c : Int) else pz_fd B p e f (c + 1)
/-- which keyword it is -/
def pz_wd (B : Nat → Int) (p e : Nat) : Int := pz_fd B p e 24 0
theorem pz_kw_ne : ∀ c, c < 24 → ∀ d, d < 24 → c ≠ d → pz_kwd c ≠ pz_kwd d := by decide +kernel
theorem pz_kw_lt : ∀ c, c < 24 → ∀ k, k < (pz_kwd c).length → 97 ≤ (pz_kwd c).getD k 0 ∧ (pz_kwd c).getD k 0 ≤ 122 := by decide +kernel
theorem pz_kw_l : ∀ c, c < 24 → 0 < (pz_kwd c).length ∧ (pz_kwd c).length ≤ 7 := by decide +kernel
theorem pz_eqw_u {B : Nat → Int} {p e c d : Nat} (hc : c < 24) (hd : d < 24) (h : pz_eqw B p e (pz_kwd c)) (h' : pz_eqw B p e (pz_kwd d)) : c = d := by
  by_cases q : c = d
  · exact q
  · refine absurd ?_ (pz_kw_ne c hc d hd q)
    have hl : (pz_kwd c).length = (pz_kwd d).length := by
      have := h.1
      have := h'.1
      omega
    refine List.ext_getElem hl (fun k k1 k2 => ?_)
    have a := h.2 k k1
    have b := h'.2 k k2
    rw [List.getD_eq_getElem?_getD, List.getElem?_eq_getElem k1] at a
    rw [List.getD_eq_getElem?_getD, List.getElem?_eq_getElem k2] at b
    exact a.symm.trans b
theorem pz_fd_s {B : Nat → Int} {p e : Nat} : ∀ f c, c + f = 24 → (∀ d : Nat, d < c → ¬ pz_eqw B p e (pz_kwd d)) → (∀ d : Nat, d < 24 → (pz_fd B p e f c = (d : Int) ↔ pz_eqw B p e (pz_kwd d))) ∧ (pz_fd B p e f c = 102 ∨ ∃ d : Nat, d < 24 ∧ pz_fd B p e f c = (d : Int)) := by
  intro f
  induction f with
  | zero =>
    intro c h1 h2
    refine ⟨fun d hd => ⟨fun z => ?_, fun z => absurd z (h2 d (by first | decide | omega))⟩, Or.inl rfl⟩
    have z : (102 : Int) = (d : Int) := z
    omega
  | succ f ih =>
    intro c h1 h2
    have e9 : pz_fd B p e (f + 1) c = if pz_eqw B p e (pz_kwd c) then (c : Int) else pz_fd B p e f (c + 1) := rfl
    rw [e9]
    by_cases q : pz_eqw B p e (pz_kwd c)
    · rw [if_pos q]
      refine ⟨fun d hd => ⟨fun z => ?_, fun z => ?_⟩, Or.inr ⟨c, by omega, rfl⟩⟩
      · have : c = d := by omega
        rw [← this]; exact q
      · rw [pz_eqw_u (by first | decide | omega) hd q z]
    · rw [if_neg q]
      refine ih (c + 1) (by first | decide | omega) (fun d hd => ?_)
      by_cases z : d = c
      · rw [z]; exact q
      · exact h2 d (by first | decide | omega)
theorem pz_wd_iff {B : Nat → Int} {p e d : Nat} (hd : d < 24) : pz_wd B p e = (d : Int) ↔ pz_eqw B p e (pz_kwd d) := (pz_fd_s 24 0 rfl (fun d h => absurd h (by first | decide | omega))).1 d hd
theorem pz_wd_r {B : Nat → Int} {p e : Nat} : pz_wd B p e = 102 ∨ (0 ≤ pz_wd B p e ∧ pz_wd B p e < 24) := by
  rcases (pz_fd_s (B := B) (p := p) (e := e) 24 0 rfl (fun d h => absurd h (by first | decide | omega))).2 with h | ⟨d, h1, h2⟩
  · exact Or.inl h
  · have h2 : pz_wd B p e = (d : Int) := h2
    exact Or.inr (by first | decide | omega)
theorem pz_wd_n {B : Nat → Int} {p e : Nat} (h : ∀ d : Nat, d < 24 → ¬ pz_eqw B p e (pz_kwd d)) : pz_wd B p e = 102 := by
  rcases pz_wd_r (B := B) (p := p) (e := e) with q | ⟨q1, q2⟩
  · exact q
  · exact absurd ((pz_wd_iff (d := (pz_wd B p e).toNat) (by first | decide | omega)).mp (by first | decide | omega)) (h _ (by first | decide | omega))
/-- a number's digits -/
def pz_dv (B : Nat → Int) (p : Nat) : Nat → Int
  | 0 => 0
  | k + 1 => 10 * pz_dv B p k + (B (p + k) - 48)
/-- where the token at p ends, which it is, its number -/
def pz_te (B : Nat → Int) (n p : Nat) : Nat := if n ≤ p then p else if pz_let (B p) = true then pz_whl pz_let B n p else if pz_dig (B p) = true then pz_whl pz_dig B n p else p + 1
def pz_tt (B : Nat → Int) (n p : Nat) : Int := if n ≤ p then 101 else if pz_let (B p) = true then pz_wd B p (pz_te B n p) else if pz_dig (B p) = true then (if pz_te B n p ≤ p + 4 then 100 else 102) else if pz_sgn (B p) = true then B p else 102
def pz_tx (B : Nat → Int) (n p : Nat) : Int := pz_dv B p (pz_te B n p - p)
/-- where the i-th token begins -/
def pz_tp (B : Nat → Int) (n : Nat) : Nat → Nat
  | 0 => pz_whl pz_bla B n 0
  | i + 1 => pz_whl pz_bla B n (pz_te B n (pz_tp B n i))
theorem pz_te_lt {B : Nat → Int} {n p : Nat} (h : p < n) : p < pz_te B n p ∧ pz_te B n p ≤ n := by
  unfold pz_te
  rw [if_neg (by first | decide | omega)]
  split
  · rename_i q
    obtain ⟨a, b, c, d⟩ := pz_whl_s (p := pz_let) (B := B) (n := n) (i := p)
    refine ⟨?_, b (by first | decide | omega)⟩
    rcases Nat.lt_or_ge p (pz_whl pz_let B n p) with z | z
    · exact z
    · have e : pz_whl pz_let B n p = p := by omega
      rw [e] at d
      exact absurd ⟨h, q⟩ d
  · split
    · rename_i q
      obtain ⟨a, b, c, d⟩ := pz_whl_s (p := pz_dig) (B := B) (n := n) (i := p)
      refine ⟨?_, b (by first | decide | omega)⟩
      rcases Nat.lt_or_ge p (pz_whl pz_dig B n p) with z | z
      · exact z
      · have e : pz_whl pz_dig B n p = p := by omega
        rw [e] at d
        exact absurd ⟨h, q⟩ d
    · omega
theorem pz_tp_le {B : Nat → Int} {n : Nat} : ∀ i, pz_tp B n i ≤ n := by
  intro i
  induction i with
  | zero => exact (pz_whl_s (p := pz_bla) (B := B) (n := n) (i := 0)).2.1 (Nat.zero_le _)
  | succ i ih =>
    refine (pz_whl_s (p := pz_bla) (B := B) (n := n) (i := pz_te B n (pz_tp B n i))).2.1 ?_
    by_cases q : pz_tp B n i < n
    · exact (pz_te_lt q).2
    · unfold pz_te
      rw [if_pos (by first | decide | omega)]
      exact ih
theorem pz_tp_lt {B : Nat → Int} {n i : Nat} (h : pz_tp B n i < n) : pz_tp B n i < pz_tp B n (i + 1) := by
  have a := (pz_te_lt (B := B) h).1
  have b := (pz_whl_s (p := pz_bla) (B := B) (n := n) (i := pz_te B n (pz_tp B n i))).1
  show _ < pz_whl pz_bla B n (pz_te B n (pz_tp B n i))
  omega
theorem pz_tp_ge {B : Nat → Int} {n : Nat} : ∀ i, i ≤ pz_tp B n i ∨ pz_tp B n i = n := by
  intro i
  induction i with
  | zero => exact Or.inl (Nat.zero_le _)
  | succ i ih =>
    have l := pz_tp_le (B := B) (n := n) i
    have l2 := pz_tp_le (B := B) (n := n) (i + 1)
    by_cases q : pz_tp B n i < n
    · have := pz_tp_lt q
      omega
    · have e : pz_te B n (pz_tp B n i) = n := by
        unfold pz_te
        rw [if_pos (by first | decide | omega)]
        omega
      have b := (pz_whl_s (p := pz_bla) (B := B) (n := n) (i := pz_te B n (pz_tp B n i))).1
      have : pz_tp B n (i + 1) = pz_whl pz_bla B n (pz_te B n (pz_tp B n i)) := rfl
      omega
/-- the i-th token, its number -/
def pz_T (B : Nat → Int) (n i : Nat) : Int := pz_tt B n (pz_tp B n i)
def pz_XV (B : Nat → Int) (n i : Nat) : Int := pz_tx B n (pz_tp B n i)
theorem pz_T_end {B : Nat → Int} {n i : Nat} (h : pz_T B n i ≠ 101) : pz_tp B n i < n := by
  have l := pz_tp_le (B := B) (n := n) i
  rcases Nat.lt_or_ge (pz_tp B n i) n with q | q
  · exact q
  · refine absurd ?_ h
    unfold pz_T pz_tt
    rw [if_pos q]
theorem pz_T_r {B : Nat → Int} {n i : Nat} : (0 ≤ pz_T B n i ∧ pz_T B n i < 24) ∨ (40 ≤ pz_T B n i ∧ pz_T B n i ≤ 62) ∨ pz_T B n i = 100 ∨ pz_T B n i = 101 ∨ pz_T B n i = 102 := by
  unfold pz_T pz_tt
  split
  · omega
  · split
    · rcases pz_wd_r (B := B) (p := pz_tp B n i) (e := pz_te B n (pz_tp B n i)) with q | q <;> omega
    · split
      · split <;> omega
      · split
        · rename_i q
          have q := of_decide_eq_true q
          omega
        · omega
/-! signed and unsigned bytes: the same tokens -/
theorem pz_wh_cg {p : Int → Bool} {B C : Nat → Int} {n : Nat} (h : ∀ k, k < n → p (B k) = p (C k)) : ∀ f i, pz_wh p B n f i = pz_wh p C n f i := by
  intro f
  induction f with
  | zero => intro i; rfl
  | succ f ih =>
    intro i
    show (if i < n ∧ p (B i) = true then pz_wh p B n f (i + 1) else i) = (if i < n ∧ p (C i) = true then pz_wh p C n f (i + 1) else i)
    by_cases q : i < n
    · rw [h i q, ih]
    · rw [if_neg (fun z => q z.1), if_neg (fun z => q z.1)]
def pz_byt (B C : Nat → Int) (n : Nat) : Prop := ∀ k, k < n → -128 ≤ B k ∧ B k ≤ 127 ∧ C k = B k % 256
theorem pz_byt_e {B C : Nat → Int} {n k : Nat} (h : pz_byt B C n) (hk : k < n) (q : (0 ≤ B k) ∨ (0 ≤ C k ∧ C k ≤ 127)) : C k = B k := by
  have := h k hk
  omega
theorem pz_byt_p {B C : Nat → Int} {n k : Nat} (h : pz_byt B C n) (hk : k < n) : pz_let (B k) = pz_let (C k) ∧ pz_dig (B k) = pz_dig (C k) ∧ pz_bla (B k) = pz_bla (C k) ∧ pz_sgn (B k) = pz_sgn (C k) := by
  have := h k hk
  refine ⟨?_, ?_, ?_, ?_⟩
  · exact decide_eq_decide.mpr (by first | decide | omega)
  · exact decide_eq_decide.mpr (by first | decide | omega)
  · exact decide_eq_decide.mpr (by first | decide | omega)
  · exact decide_eq_decide.mpr (by first | decide | omega)
theorem pz_te_cg {B C : Nat → Int} {n : Nat} (h : pz_byt B C n) (p : Nat) : pz_te B n p = pz_te C n p := by
  unfold pz_te
  by_cases q : n ≤ p
  · rw [if_pos q, if_pos q]
  · obtain ⟨a, b, -, -⟩ := pz_byt_p h (show p < n by omega)
    rw [if_neg q, if_neg q, a, b]
    unfold pz_whl
    rw [pz_wh_cg (fun k hk => (pz_byt_p h hk).1), pz_wh_cg (fun k hk => (pz_byt_p h hk).2.1)]
theorem pz_eqw_cg {B C : Nat → Int} {n p e c : Nat} (hc : c < 24) (h : pz_byt B C n) (he : e ≤ n) : pz_eqw B p e (pz_kwd c) ↔ pz_eqw C p e (pz_kwd c) := by
  refine ⟨fun q => ⟨q.1, fun k hk => ?_⟩, fun q => ⟨q.1, fun k hk => ?_⟩⟩
  · have a := q.2 k hk
    have b := pz_kw_lt c hc k hk
    have l := q.1
    rw [← a]
    exact pz_byt_e h (by first | decide | omega) (Or.inl (by first | decide | omega))
  · have a := q.2 k hk
    have b := pz_kw_lt c hc k hk
    have l := q.1
    rw [← a]
    exact (pz_byt_e h (by first | decide | omega) (Or.inr (by first | decide | omega))).symm
theorem pz_wd_cg {B C : Nat → Int} {n p e : Nat} (h : pz_byt B C n) (he : e ≤ n) : pz_wd B p e = pz_wd C p e := by
  rcases pz_wd_r (B := B) (p := p) (e := e) with q | q
  · rw [q]
    refine (pz_wd_n (fun d hd z => ?_)).symm
    have := (pz_wd_iff hd).mpr ((pz_eqw_cg hd h he).mpr z)
    omega
  · have z := (pz_eqw_cg (c := (pz_wd B p e).toNat) (by first | decide | omega) h he).mp ((pz_wd_iff (B := B) (p := p) (e := e) (d := (pz_wd B p e).toNat) (by first | decide | omega)).mp (by first | decide | omega))
    have := (pz_wd_iff (d := (pz_wd B p e).toNat) (by first | decide | omega)).mpr z
    omega
theorem pz_tt_cg {B C : Nat → Int} {n : Nat} (h : pz_byt B C n) (p : Nat) : pz_tt B n p = pz_tt C n p := by
  unfold pz_tt
  by_cases q : n ≤ p
  · rw [if_pos q, if_pos q]
  · have hp : p < n := by omega
    obtain ⟨a, b, -, d⟩ := pz_byt_p h hp
    rw [if_neg q, if_neg q, a, b, d, ← pz_te_cg h p, pz_wd_cg h (pz_te_lt hp).2]
    split
    · rfl
    · split
      · rfl
      · split
        · rename_i z
          have z := of_decide_eq_true z
          exact (pz_byt_e h hp (Or.inr (by first | decide | omega))).symm
        · rfl
theorem pz_tp_cg {B C : Nat → Int} {n : Nat} (h : pz_byt B C n) : ∀ i, pz_tp B n i = pz_tp C n i := by
  intro i
  induction i with
  | zero => exact pz_wh_cg (fun k hk => (pz_byt_p h hk).2.2.1) _ _
  | succ i ih =>
    show pz_whl pz_bla B n (pz_te B n (pz_tp B n i)) = pz_whl pz_bla C n (pz_te C n (pz_tp C n i))
    rw [ih, pz_te_cg h]
    exact pz_wh_cg (fun k hk => (pz_byt_p h hk).2.2.1) _ _
theorem pz_T_cg {B C : Nat → Int} {n : Nat} (h : pz_byt B C n) (i : Nat) : pz_T B n i = pz_T C n i := by
  unfold pz_T
  rw [pz_tp_cg h i, pz_tt_cg h]
theorem pz_dv_cg {B C : Nat → Int} {p : Nat} : ∀ k, (∀ j, j < k → B (p + j) = C (p + j)) → pz_dv B p k = pz_dv C p k := by
  intro k
  induction k with
  | zero => intro _; rfl
  | succ k ih =>
    intro h
    show 10 * pz_dv B p k + (B (p + k) - 48) = 10 * pz_dv C p k + (C (p + k) - 48)
    rw [ih (fun j hj => h j (by first | decide | omega)), h k (by first | decide | omega)]
theorem pz_X_cg {B C : Nat → Int} {n i : Nat} (h : pz_byt B C n) (hT : pz_T B n i = 100) : pz_XV B n i = pz_XV C n i := by
  have hp := pz_T_end (B := B) (n := n) (i := i) (by first | decide | omega)
  unfold pz_XV
  rw [← pz_tp_cg h i]
  unfold pz_tx
  rw [← pz_te_cg h]
  refine pz_dv_cg _ (fun j hj => ?_)
  unfold pz_T pz_tt at hT
  rw [if_neg (by first | decide | omega)] at hT
  by_cases ql : pz_let (B (pz_tp B n i)) = true
  · rw [if_pos ql] at hT
    rcases pz_wd_r (B := B) (p := pz_tp B n i) (e := pz_te B n (pz_tp B n i)) with q | q <;> omega
  · rw [if_neg ql] at hT
    by_cases qd : pz_dig (B (pz_tp B n i)) = true
    · have e : pz_te B n (pz_tp B n i) = pz_whl pz_dig B n (pz_tp B n i) := by
        unfold pz_te
        rw [if_neg (by first | decide | omega), if_neg ql, if_pos qd]
      rw [e] at hj
      obtain ⟨a, b⟩ := (pz_whl_s (p := pz_dig) (B := B) (n := n) (i := pz_tp B n i)).2.2.1 (pz_tp B n i + j) (by first | decide | omega) (by first | decide | omega)
      have b := of_decide_eq_true b
      exact (pz_byt_e h a (Or.inl (by first | decide | omega))).symm
    · rw [if_neg qd] at hT
      by_cases qs : pz_sgn (B (pz_tp B n i)) = true
      · rw [if_pos qs] at hT
        have qs := of_decide_eq_true qs
        omega
      · rw [if_neg qs] at hT
        omega
theorem pz_let_i {x : Int} : pz_let x = true ↔ ((97 ≤ x ∧ x ≤ 122) ∨ (65 ≤ x ∧ x ≤ 90)) := decide_eq_true_iff
theorem pz_dig_i {x : Int} : pz_dig x = true ↔ (48 ≤ x ∧ x ≤ 57) := decide_eq_true_iff
theorem pz_bla_i {x : Int} : pz_bla x = true ↔ (x = 32 ∨ x = 10) := decide_eq_true_iff
theorem pz_sgn_i {x : Int} : pz_sgn x = true ↔ ((40 ≤ x ∧ x ≤ 43) ∨ x = 45 ∨ x = 47 ∨ (59 ≤ x ∧ x ≤ 62)) := decide_eq_true_iff
theorem pz_whl_y {p : Int → Bool} {B : Nat → Int} {n i : Nat} (h : i < n) (h2 : p (B i) = true) : pz_whl p B n i = pz_whl p B n (i + 1) := by
  unfold pz_whl
  rw [show n - i = (n - (i + 1)) + 1 by omega]
  show (if i < n ∧ p (B i) = true then pz_wh p B n (n - (i + 1)) (i + 1) else i) = _
  rw [if_pos ⟨h, h2⟩]
theorem pz_whl_n {p : Int → Bool} {B : Nat → Int} {n i : Nat} (h : ¬ (i < n ∧ p (B i) = true)) : pz_whl p B n i = i := pz_whl_u (Nat.le_refl _) (fun k a b => absurd b (by first | decide | omega)) h
theorem pz_te_l {B : Nat → Int} {n p : Nat} (h : p < n) (q : pz_let (B p) = true) : pz_te B n p = pz_whl pz_let B n p := by
  unfold pz_te
  rw [if_neg (by first | decide | omega), if_pos q]
theorem pz_te_d {B : Nat → Int} {n p : Nat} (h : p < n) (q : pz_let (B p) ≠ true) (q2 : pz_dig (B p) = true) : pz_te B n p = pz_whl pz_dig B n p := by
  unfold pz_te
  rw [if_neg (by first | decide | omega), if_neg q, if_pos q2]
theorem pz_te_s {B : Nat → Int} {n p : Nat} (h : p < n) (q : pz_let (B p) ≠ true) (q2 : pz_dig (B p) ≠ true) : pz_te B n p = p + 1 := by
  unfold pz_te
  rw [if_neg (by first | decide | omega), if_neg q, if_neg q2]
theorem pz_tt_l {B : Nat → Int} {n p : Nat} (h : p < n) (q : pz_let (B p) = true) : pz_tt B n p = pz_wd B p (pz_te B n p) := by
  unfold pz_tt
  rw [if_neg (by first | decide | omega), if_pos q]
theorem pz_tt_d {B : Nat → Int} {n p : Nat} (h : p < n) (q : pz_let (B p) ≠ true) (q2 : pz_dig (B p) = true) : pz_tt B n p = if pz_te B n p ≤ p + 4 then 100 else 102 := by
  unfold pz_tt
  rw [if_neg (by first | decide | omega), if_neg q, if_pos q2]
theorem pz_tt_s {B : Nat → Int} {n p : Nat} (h : p < n) (q : pz_let (B p) ≠ true) (q2 : pz_dig (B p) ≠ true) : pz_tt B n p = if pz_sgn (B p) = true then B p else 102 := by
  unfold pz_tt
  rw [if_neg (by first | decide | omega), if_neg q, if_neg q2]
theorem pz_dv_b {B : Nat → Int} {p : Nat} : ∀ k, k ≤ 4 → (∀ j, j < k → 48 ≤ B (p + j) ∧ B (p + j) ≤ 57) → 0 ≤ pz_dv B p k ∧ (k = 0 → pz_dv B p k ≤ 0) ∧ (k = 1 → pz_dv B p k ≤ 9) ∧ (k = 2 → pz_dv B p k ≤ 99) ∧ (k = 3 → pz_dv B p k ≤ 999) ∧ (k = 4 → pz_dv B p k ≤ 9999) := by
  intro k
  induction k with
  | zero => intro _ _; exact ⟨Int.le_refl _, fun _ => Int.le_refl _, fun h => absurd h (by decide), fun h => absurd h (by decide), fun h => absurd h (by decide), fun h => absurd h (by decide)⟩
  | succ k ih =>
    intro h1 h2
    have a := ih (by first | decide | omega) (fun j hj => h2 j (by first | decide | omega))
    have b := h2 k (by first | decide | omega)
    have e : pz_dv B p (k + 1) = 10 * pz_dv B p k + (B (p + k) - 48) := rfl
    rw [e]
    omega
/-- the class' tokens, as far as they are told: c of them -/
def pz_tks (B : Nat → Int) (n : Nat) (c : Int) (N : pz_M) : Prop := ∀ i : Nat, (i : Int) < c → N 51 i = (pz_tp B n i : Int) ∧ N 49 i = pz_T B n i ∧ (pz_T B n i = 100 → N 50 i = pz_XV B n i)
def pz_fr (M N : pz_M) : Prop := ∀ b j : Nat, (b < 49 ∨ 51 < b) → N b j = M b j
theorem pz_tks_0 {B : Nat → Int} {n : Nat} {N : pz_M} : pz_tks B n 0 N := fun i hi => absurd hi (by first | decide | omega)
theorem pz_tks_cg {B : Nat → Int} {n : Nat} {c : Int} {N N' : pz_M} (h : pz_tks B n c N) (he : ∀ b j : Nat, (j : Int) < c → N' b j = N b j) : pz_tks B n c N' := by
  intro i hi
  rw [he _ _ hi, he _ _ hi, he _ _ hi]
  exact h i hi
/-- one more of them -/
theorem pz_tks_s {B : Nat → Int} {n : Nat} {c c' : Int} {N N' : pz_M} (h0 : 0 ≤ c) (h : pz_tks B n c N) (he : ∀ b j : Nat, (j : Int) < c → N' b j = N b j) (hc : c' = c + 1) (h1 : N' 51 c.toNat = (pz_tp B n c.toNat : Int)) (h2 : N' 49 c.toNat = pz_T B n c.toNat) (h3 : pz_T B n c.toNat = 100 → N' 50 c.toNat = pz_XV B n c.toNat) : pz_tks B n c' N' := by
  intro i hi
  by_cases q : (i : Int) < c
  · exact pz_tks_cg h he i q
  · have e : i = c.toNat := by omega
    rw [e]
    exact ⟨h1, h2, h3⟩
/-- which keyword the model's word is, out of what it is asked -/
def pz_cst (s : Nat) : Int := if s ≤ 210 then (s : Int) - 203 else if s ≤ 214 then (s : Int) - 211 else (s : Int) - 207
def pz_W (M : pz_M) : Int := pz_wd (M 67) (M 1 19).toNat (M 1 17).toNat
def pz_ma (t : Int) : Int := if 8 ≤ t ∧ t ≤ 16 then t + 33 else 1
def pz_ml (t : Int) : Int := if 0 ≤ t ∧ t ≤ 3 then t + 20 else if 4 ≤ t ∧ t ≤ 7 then t - 1 else pz_ma t
def pz_mp (t : Int) : Int := if 17 ≤ t ∧ t ≤ 21 then t - 10 else 1
def pz_mw (r t : Int) : Int := if r = 0 then pz_ml t else if r = 1 then pz_mp t else if r = 2 then (if t = 8 then 12 else if t = 22 then 13 else if t = 23 then 14 else 1) else (if t = 13 then 15 else if t = 8 then 12 else 1)
def pz_mtk (r t : Int) : Int := if t = 100 then 2 else if t = 101 then 0 else if t = 102 then 1 else if 40 ≤ t then 100 + t else pz_mw r t
theorem pz_cst_ok : ∀ i, i < 24 → (pz_kwd (pz_cst (207 + i)).toNat).length = pz_stl.getD (1 + i) 0 ∧ (∀ k, k < 7 → (pz_kwd (pz_cst (207 + i)).toNat).getD k 0 = ((pz_sb.getD (1 + i) []).getD k 0).toInt) ∧ 0 ≤ pz_cst (207 + i) ∧ (pz_cst (207 + i)).toNat < 24 := by decide +kernel
def pz_eqs (M : pz_M) (s : Nat) : Prop := M 1 17 - M 1 19 = ((pz_stl.getD (s - 206) 0 : Nat) : Int) ∧ ∀ k : Nat, k < pz_stl.getD (s - 206) 0 → M 67 (M 1 19 + k).toNat = ((pz_sb.getD (s - 206) []).getD k 0).toInt
theorem pz_eqs_i {M : pz_M} {s : Nat} (h1 : 207 ≤ s) (h2 : s < 231) (h3 : 0 ≤ M 1 19) (h4 : M 1 19 ≤ M 1 17) : pz_W M = pz_cst s ↔ pz_eqs M s := by
  obtain ⟨a, b, c, d⟩ := pz_cst_ok (s - 207) (by first | decide | omega)
  rw [show 207 + (s - 207) = s by omega, show 1 + (s - 207) = s - 206 by omega] at a b
  rw [show 207 + (s - 207) = s by omega] at c d
  have l := pz_kw_l (pz_cst s).toNat d
  have e : pz_W M = pz_cst s ↔ pz_eqw (M 67) (M 1 19).toNat (M 1 17).toNat (pz_kwd (pz_cst s).toNat) := by
    rw [← pz_wd_iff d]
    unfold pz_W
    omega
  rw [e]
  refine ⟨fun z => ⟨by have := z.1; omega, fun k hk => ?_⟩, fun z => ⟨by have := z.1; omega, fun k hk => ?_⟩⟩
  · rw [← b k (by first | decide | omega), ← z.2 k (by first | decide | omega)]
    congr 1
    omega
  · rw [b k (by first | decide | omega), ← z.2 k (by first | decide | omega)]
    congr 1
    omega
/-! the class' way to find a keyword: along one string -/
def pz_wst : List Nat := [0, 6, 12, 17, 22, 27, 30, 34, 38, 43, 49, 55, 61, 66, 70, 76, 84, 90, 93, 97, 104, 108, 114, 119, 122]
theorem pz_wst_ok : ∀ w, w < 24 → pz_wst.getD (w + 1) 0 = pz_wst.getD w 0 + (pz_kwd w).length + 1 ∧ (∀ o, o < 8 → o ≤ (pz_kwd w).length → ((pz_sb.getD 0 []).getD (pz_wst.getD w 0 + o) 0).toInt = if o < (pz_kwd w).length then (pz_kwd w).getD o 0 else 32) ∧ pz_wst.getD (w + 1) 0 ≤ 122 := by decide +kernel
def pz_wmt (M : pz_M) (p q : Int) (w : Nat) (o : Int) : Prop := ∀ k : Nat, (k : Int) < o → p + k < q ∧ M 48 (p.toNat + k) = (pz_kwd w).getD k 0
def pz_wkw (M : pz_M) (p q w s f i : Int) : Prop := 0 ≤ w ∧ ((w < 24 ∧ i = pz_wst.getD w.toNat 0 + (s - p) ∧ p ≤ s ∧ s - p ≤ (pz_kwd w.toNat).length ∧ ((f = 1 ∧ pz_wmt M p q w.toNat (s - p)) ∨ (f = 0 ∧ ¬ pz_wmt M p q w.toNat (s - p)))) ∨ (w = 24 ∧ i = 122)) ∧ ∀ d : Nat, (d : Int) < w → ¬ pz_eqw (M 48) p.toNat q.toNat (pz_kwd d)
theorem pz_wkw_0 {M : pz_M} {p q : Int} : pz_wkw M p q 0 p 1 0 := by
  refine ⟨Int.le_refl _, Or.inl ⟨by omega, ?_, Int.le_refl _, by omega, Or.inl ⟨rfl, fun k hk => absurd hk (by first | decide | omega)⟩⟩, fun d hd => absurd hd (by first | decide | omega)⟩
  rw [show pz_wst.getD (0 : Int).toNat 0 = 0 from rfl]
  omega
theorem pz_wkw_c {M : pz_M} {p q w s f i c : Int} (h : pz_wkw M p q w s f i) (hi : i < 122) (hc : c = ((pz_sb.getD 0 []).getD i.toNat 0).toInt) : w < 24 ∧ ((c = 32 ∧ s - p = (pz_kwd w.toNat).length) ∨ (c ≠ 32 ∧ s - p < (pz_kwd w.toNat).length ∧ c = (pz_kwd w.toNat).getD (s - p).toNat 0)) := by
  obtain ⟨h0, h1, h2⟩ := h
  rcases h1 with ⟨a1, a2, a3, a4, -⟩ | ⟨-, a2⟩
  · refine ⟨a1, ?_⟩
    have t := (pz_wst_ok w.toNat (by first | decide | omega)).2.1 (s - p).toNat (by have := (pz_kw_l w.toNat (by first | decide | omega)).2; omega) (by first | decide | omega)
    rw [show pz_wst.getD w.toNat 0 + (s - p).toNat = i.toNat by omega, ← hc] at t
    by_cases z : (s - p).toNat < (pz_kwd w.toNat).length
    · rw [if_pos z] at t
      have := pz_kw_lt w.toNat (by first | decide | omega) _ z
      exact Or.inr ⟨by omega, by omega, t⟩
    · rw [if_neg z] at t
      exact Or.inl ⟨t, by omega⟩
  · omega
theorem pz_wkw_f {M : pz_M} {p q w s f i : Int} (hp : 0 ≤ p) (h : pz_wkw M p q w s f i) (h1 : w < 24) (h2 : s - p = (pz_kwd w.toNat).length) : (f ≠ 0 ∧ s = q) ↔ pz_eqw (M 48) p.toNat q.toNat (pz_kwd w.toNat) := by
  obtain ⟨h0, h3, -⟩ := h
  rcases h3 with ⟨a1, a2, a3, a4, a5⟩ | ⟨a1, -⟩
  · refine ⟨fun z => ?_, fun z => ?_⟩
    · have z2 : s = q := z.2
      rcases a5 with ⟨-, a5⟩ | ⟨a5, -⟩
      · exact ⟨by omega, fun k hk => (a5 k (by first | decide | omega)).2⟩
      · exact absurd a5 z.1
    · have z1 := z.1
      have zl := (pz_kw_l w.toNat (by first | decide | omega)).1
      refine ⟨fun y => ?_, by omega⟩
      rcases a5 with ⟨a5, -⟩ | ⟨-, a5⟩
      · omega
      · exact a5 (fun k hk => ⟨by omega, z.2 k (by first | decide | omega)⟩)
  · omega
theorem pz_wkw_n {M : pz_M} {p q w s f i w' i' : Int} (hp : 0 ≤ p) (h : pz_wkw M p q w s f i) (h1 : w < 24) (h2 : s - p = (pz_kwd w.toNat).length) (hn : ¬ (f ≠ 0 ∧ s = q)) (hw : w' = w + 1) (hi : i' = i + 1) : pz_wkw M p q w' p 1 i' := by
  have hn := (not_congr (pz_wkw_f hp h h1 h2)).mp hn
  obtain ⟨h0, h3, h4⟩ := h
  obtain ⟨t1, -, t2⟩ := pz_wst_ok w.toNat (by first | decide | omega)
  rcases h3 with ⟨a1, a2, a3, a4, a5⟩ | ⟨a1, -⟩
  · refine ⟨by omega, ?_, fun d hd => ?_⟩
    · by_cases z : w' < 24
      · refine Or.inl ⟨z, ?_, Int.le_refl _, by omega, Or.inl ⟨rfl, fun k hk => absurd hk (by first | decide | omega)⟩⟩
        rw [show w'.toNat = w.toNat + 1 by omega, t1]
        omega
      · refine Or.inr ⟨by omega, ?_⟩
        have e : w.toNat + 1 = 24 := by omega
        rw [e] at t1
        have : pz_wst.getD 24 0 = 122 := rfl
        omega
    · by_cases z : (d : Int) = w
      · rw [show d = w.toNat by omega]
        exact hn
      · exact h4 d (by first | decide | omega)
  · omega
theorem pz_wkw_s {M : pz_M} {p q w s f i c s' f' i' : Int} (hp : 0 ≤ p) (h : pz_wkw M p q w s f i) (h1 : w < 24) (h2 : s - p < (pz_kwd w.toNat).length) (hc : c = (pz_kwd w.toNat).getD (s - p).toNat 0) (hf : (f' = 1 ∧ f ≠ 0 ∧ s < q ∧ M 48 s.toNat = c) ∨ (f' = 0 ∧ (f = 0 ∨ ¬ s < q ∨ M 48 s.toNat ≠ c))) (hs : s' = s + 1) (hi : i' = i + 1) : pz_wkw M p q w s' f' i' := by
  obtain ⟨h0, h3, h4⟩ := h
  rcases h3 with ⟨a1, a2, a3, a4, a5⟩ | ⟨a1, -⟩
  · refine ⟨h0, Or.inl ⟨h1, by omega, by omega, by omega, ?_⟩, h4⟩
    rcases hf with ⟨b1, b2, b3, b4⟩ | ⟨b1, b2⟩
    · refine Or.inl ⟨b1, fun k hk => ?_⟩
      rcases a5 with ⟨-, a5⟩ | ⟨a5, -⟩
      · by_cases z : (k : Int) < s - p
        · exact a5 k z
        · have e : k = (s - p).toNat := by omega
          rw [e, ← hc, ← b4]
          exact ⟨by omega, by congr 1; omega⟩
      · exact absurd a5 b2
    · refine Or.inr ⟨b1, fun z => ?_⟩
      have z1 := z (s - p).toNat (by first | decide | omega)
      rw [← hc, show p.toNat + (s - p).toNat = s.toNat by omega] at z1
      rcases b2 with b2 | b2 | b2
      · rcases a5 with ⟨a5, -⟩ | ⟨-, a5⟩
        · omega
        · exact a5 (fun k hk => z k (by first | decide | omega))
      · omega
      · exact b2 z1.2
  · omega
theorem pz_wkw_e {M : pz_M} {p q w s f i : Int} (h : pz_wkw M p q w s f i) (hi : ¬ i < 122) : pz_wd (M 48) p.toNat q.toNat = 102 := by
  obtain ⟨h0, h3, h4⟩ := h
  rcases h3 with ⟨a1, a2, a3, a4, a5⟩ | ⟨a1, -⟩
  · obtain ⟨t1, -, t2⟩ := pz_wst_ok w.toNat (by first | decide | omega)
    omega
  · exact pz_wd_n (fun d hd => h4 d (by first | decide | omega))
/-- the number so far -/
def pz_dvx (M : pz_M) (y a x : Int) : Prop := a ≤ y + 4 → x = pz_dv (M 48) y.toNat (a - y).toNat
theorem pz_dvx_0 {M : pz_M} {y : Int} : pz_dvx M y y 0 := fun _ => by
  rw [show (y - y).toNat = 0 by omega]
  rfl
theorem pz_dvx_s {M : pz_M} {n : Nat} {y a x c v1 v2 v3 a' : Int} (hy : 0 ≤ y) (h : pz_dvx M y a x) (ha : y ≤ a) (hw : pz_whl pz_dig (M 48) n a.toNat = pz_whl pz_dig (M 48) n y.toNat) (hc : c = M 48 a.toNat) (hc2 : 48 ≤ c ∧ c ≤ 57) (e1 : v1 = pz_w (x * 10)) (e2 : v2 = pz_w (v1 + c)) (e3 : v3 = pz_w (v2 - 48)) (ea : a' = a + 1) : pz_dvx M y a' v3 := by
  intro q
  have hx := h (by first | decide | omega)
  have l := (pz_whl_s (p := pz_dig) (B := M 48) (n := n) (i := a.toNat)).1
  have hd : ∀ j, j < (a - y).toNat → 48 ≤ M 48 (y.toNat + j) ∧ M 48 (y.toNat + j) ≤ 57 := fun j hj =>
    of_decide_eq_true ((pz_whl_s (p := pz_dig) (B := M 48) (n := n) (i := y.toNat)).2.2.1 (y.toNat + j) (by first | decide | omega) (by first | decide | omega)).2
  have b := pz_dv_b (a - y).toNat (by first | decide | omega) hd
  have b0 : 0 ≤ x ∧ x ≤ 999 := by omega
  rw [pz_wi (by first | decide | omega) (by first | decide | omega)] at e1
  rw [pz_wi (by first | decide | omega) (by first | decide | omega)] at e2
  rw [pz_wi (by first | decide | omega) (by first | decide | omega)] at e3
  rw [show (a' - y).toNat = (a - y).toNat + 1 by omega]
  have e : pz_dv (M 48) y.toNat ((a - y).toNat + 1) = 10 * pz_dv (M 48) y.toNat (a - y).toNat + (M 48 (y.toNat + (a - y).toNat) - 48) := rfl
  rw [e, ← hx, show y.toNat + (a - y).toNat = a.toNat by omega, ← hc]
  omega
/-! the model's way to ask for a keyword, its next token -/
def pz_isx (M : pz_M) (s : Nat) (f j : Int) : Prop := (f = 1 ∧ M 1 17 - M 1 19 = ((pz_stl.getD (s - 206) 0 : Nat) : Int) ∧ ∀ k : Nat, (k : Int) < j → M 67 (M 1 19 + k).toNat = ((pz_sb.getD (s - 206) []).getD k 0).toInt) ∨ (f = 0 ∧ ¬ pz_eqs M s)
theorem pz_isx_0 {M : pz_M} {s : Nat} (h : M 1 17 - M 1 19 = ((pz_stl.getD (s - 206) 0 : Nat) : Int)) : pz_isx M s 1 0 := Or.inl ⟨rfl, h, fun k hk => absurd hk (by first | decide | omega)⟩
theorem pz_isx_n {M : pz_M} {s : Nat} (h : ¬ M 1 17 - M 1 19 = ((pz_stl.getD (s - 206) 0 : Nat) : Int)) : pz_isx M s 0 0 := Or.inr ⟨rfl, fun z => h z.1⟩
theorem pz_isx_y {M : pz_M} {s : Nat} {f j c d : Int} (h : pz_isx M s f j) (hf : ¬ f = 0) (hj : 0 ≤ j) (hc : c = M 67 (M 1 19 + j).toNat) (hd : d = ((pz_sb.getD (s - 206) []).getD j.toNat 0).toInt) (e : c = d) : pz_isx M s 1 (j + 1) := by
  rcases h with ⟨h1, h2, h3⟩ | ⟨h1, -⟩
  · refine Or.inl ⟨rfl, h2, fun k hk => ?_⟩
    by_cases z : (k : Int) < j
    · exact h3 k z
    · have z2 : (k : Int) = j := by omega
      rw [z2, ← hc, e, hd, ← z2]
      rfl
  · exact absurd h1 hf
theorem pz_isx_z {M : pz_M} {s : Nat} {j c d : Int} (hl : j < ((pz_stl.getD (s - 206) 0 : Nat) : Int)) (hj : 0 ≤ j) (hc : c = M 67 (M 1 19 + j).toNat) (hd : d = ((pz_sb.getD (s - 206) []).getD j.toNat 0).toInt) (e : ¬ c = d) : pz_isx M s 0 (j + 1) := by
  refine Or.inr ⟨rfl, fun z => e ?_⟩
  have := z.2 j.toNat (by first | decide | omega)
  rw [hc, hd, ← this]
  congr 2
  omega
theorem pz_isx_e {M : pz_M} {s : Nat} {f j : Int} (h1 : 207 ≤ s) (h2 : s < 231) (h3 : 0 ≤ M 1 19) (h4 : M 1 19 ≤ M 1 17) (h : pz_isx M s f j) (hj : f = 0 ∨ ¬ j < ((pz_stl.getD (s - 206) 0 : Nat) : Int)) : (f = 1 ∧ pz_W M = pz_cst s) ∨ (f = 0 ∧ pz_W M ≠ pz_cst s) := by
  rw [Ne, pz_eqs_i h1 h2 h3 h4]
  rcases h with ⟨a, b, c⟩ | ⟨a, b⟩
  · exact Or.inl ⟨a, b, fun k hk => c k (by first | decide | omega)⟩
  · exact Or.inr ⟨a, b⟩
/-- M's next token lies in M' -/
def pz_nxp (M : pz_M) : Nat := pz_whl pz_bla (M 67) (M 1 16).toNat (M 1 17).toNat
def pz_nxt (M M' : pz_M) : Prop := M' 1 19 = (pz_nxp M : Int) ∧ M' 1 17 = (pz_te (M 67) (M 1 16).toNat (pz_nxp M) : Int) ∧ M' 1 18 = pz_mtk (M 1 12) (pz_tt (M 67) (M 1 16).toNat (pz_nxp M)) ∧ (pz_tt (M 67) (M 1 16).toNat (pz_nxp M) = 100 → M' 1 20 = pz_tx (M 67) (M 1 16).toNat (pz_nxp M))
def pz_mdv (M N : pz_M) : Prop := N 1 17 ≤ N 1 19 + 4 → N 1 20 = pz_dv (M 67) (N 1 19).toNat (N 1 17 - N 1 19).toNat
def pz_mdw (M N : pz_M) : Prop := N 1 17 + 1 ≤ N 1 19 + 4 → N 1 20 = pz_dv (M 67) (N 1 19).toNat ((N 1 17 - N 1 19).toNat + 1)
theorem pz_mdw_v {M N N' : pz_M} (h : pz_mdw M N) (h1 : N' 1 17 = N 1 17 + 1) (h2 : N' 1 19 = N 1 19) (h3 : N' 1 20 = N 1 20) (h4 : N 1 19 ≤ N 1 17) : pz_mdv M N' := by
  intro q
  rw [h3, h (by first | decide | omega), h2]
  congr 1
  omega
theorem pz_mdw_n {M N : pz_M} (h : ¬ N 1 17 < N 1 19 + 4) : pz_mdw M N := fun q => absurd q (by first | decide | omega)
theorem pz_mdw_s {M N N' : pz_M} {n : Nat} {c v1 v2 v3 : Int} (hp : 0 ≤ N 1 19) (h : pz_mdv M N) (ha : N 1 19 ≤ N 1 17) (hw : pz_whl pz_dig (M 67) n (N 1 17).toNat = pz_whl pz_dig (M 67) n (N 1 19).toNat) (hlt : N 1 17 < N 1 19 + 4) (hc : c = M 67 (N 1 17).toNat) (hc2 : 48 ≤ c ∧ c ≤ 57) (e1 : v1 = pz_w (10 * N 1 20)) (e2 : v2 = pz_w (v1 + c)) (e3 : v3 = pz_w (v2 - 48)) (h17 : N' 1 17 = N 1 17) (h19 : N' 1 19 = N 1 19) (h20 : N' 1 20 = v3) : pz_mdw M N' := by
  intro q
  have hx := h (by first | decide | omega)
  have l := (pz_whl_s (p := pz_dig) (B := M 67) (n := n) (i := (N 1 17).toNat)).1
  have hd : ∀ j, j < (N 1 17 - N 1 19).toNat → 48 ≤ M 67 ((N 1 19).toNat + j) ∧ M 67 ((N 1 19).toNat + j) ≤ 57 := fun j hj =>
    of_decide_eq_true ((pz_whl_s (p := pz_dig) (B := M 67) (n := n) (i := (N 1 19).toNat)).2.2.1 ((N 1 19).toNat + j) (by first | decide | omega) (by first | decide | omega)).2
  have b := pz_dv_b (N 1 17 - N 1 19).toNat (by first | decide | omega) hd
  have b0 : 0 ≤ N 1 20 ∧ N 1 20 ≤ 999 := by omega
  rw [pz_wi (by first | decide | omega) (by first | decide | omega)] at e1
  rw [pz_wi (by first | decide | omega) (by first | decide | omega)] at e2
  rw [pz_wi (by first | decide | omega) (by first | decide | omega)] at e3
  rw [h20, h17, h19]
  have e : pz_dv (M 67) (N 1 19).toNat ((N 1 17 - N 1 19).toNat + 1) = 10 * pz_dv (M 67) (N 1 19).toNat (N 1 17 - N 1 19).toNat + (M 67 ((N 1 19).toNat + (N 1 17 - N 1 19).toNat) - 48) := rfl
  rw [e, ← hx, show (N 1 19).toNat + (N 1 17 - N 1 19).toNat = (N 1 17).toNat by omega, ← hc]
  omega
theorem pz_mtk_wd {r : Int} {B : Nat → Int} {p e : Nat} : pz_mtk r (pz_wd B p e) = pz_mw r (pz_wd B p e) := by
  unfold pz_mtk
  rcases pz_wd_r (B := B) (p := p) (e := e) with q | q
  · rw [q, if_neg (by decide), if_neg (by decide), if_pos rfl]
    unfold pz_mw pz_ml pz_ma pz_mp
    repeat' split
    all_goals omega
  · rw [if_neg (by first | decide | omega), if_neg (by first | decide | omega), if_neg (by first | decide | omega), if_neg (by first | decide | omega)]
/-- no byte of the tape is less than nought -/
def pz_tb (M : pz_M) : Prop := ∀ k : Nat, (k : Int) < M 1 16 → 0 ≤ M 67 k
theorem pz_Q0z {M N : pz_M} (h : pz_rl pz_Q0 M N) : N 67 = M 67 ∧ N 1 16 = M 1 16 ∧ N 1 12 = M 1 12 := ⟨funext fun j => h.2 67 j (by unfold pz_Q0; first | decide | omega), h.2 1 16 (by unfold pz_Q0; first | decide | omega), h.2 1 12 (by unfold pz_Q0; first | decide | omega)⟩
theorem pz_nxt_end {M M' : pz_M} (hn : (M 1 16).toNat ≤ pz_nxp M) (h1 : M' 1 19 = (pz_nxp M : Int)) (h2 : M' 1 17 = (pz_nxp M : Int)) (h3 : M' 1 18 = 0) : pz_nxt M M' := by
  have e : pz_tt (M 67) (M 1 16).toNat (pz_nxp M) = 101 := if_pos hn
  refine ⟨h1, ?_, ?_, fun z => ?_⟩
  · rw [h2]
    unfold pz_te
    rw [if_pos hn]
  · rw [h3, e]
    rfl
  · rw [e] at z
    omega
theorem pz_nxt_let {M N M' : pz_M} (hA : pz_nxp M = (N 1 19).toNat) (h0 : 0 ≤ N 1 19) (h1 : 0 ≤ N 1 17) (hC : N 1 19 < M 1 16) (hD : pz_let (M 67 (N 1 19).toNat) = true) (hG : pz_whl pz_let (M 67) (M 1 16).toNat (N 1 19).toNat = (N 1 17).toNat) (h19 : M' 1 19 = N 1 19) (h17 : M' 1 17 = N 1 17) (h18 : M' 1 18 = pz_mw (N 1 12) (pz_W N)) (hz : N 67 = M 67 ∧ N 1 16 = M 1 16 ∧ N 1 12 = M 1 12) : pz_nxt M M' := by
  have e : pz_te (M 67) (M 1 16).toNat (pz_nxp M) = (N 1 17).toNat := by
    rw [hA, pz_te_l (by first | decide | omega) hD, hG]
  have e2 : pz_tt (M 67) (M 1 16).toNat (pz_nxp M) = pz_W N := by
    rw [hA, pz_tt_l (by first | decide | omega) hD, pz_te_l (by first | decide | omega) hD, hG]
    unfold pz_W
    rw [hz.1]
  refine ⟨by omega, by rw [e]; omega, ?_, fun z => ?_⟩
  · rw [h18, e2, hz.2.2]
    exact pz_mtk_wd.symm
  · rw [e2] at z
    unfold pz_W at z
    rcases pz_wd_r (B := N 67) (p := (N 1 19).toNat) (e := (N 1 17).toNat) with q | q <;> omega
theorem pz_mdv_0 {M N : pz_M} (h : N 1 17 = N 1 19) (h0 : N 1 20 = 0) : pz_mdv M N := fun _ => by
  rw [h0, h, show (N 1 19 - N 1 19).toNat = 0 by omega]
  rfl
theorem pz_nxt_dig {M N M' : pz_M} (hA : pz_nxp M = (N 1 19).toNat) (h0 : 0 ≤ N 1 19) (h1 : 0 ≤ N 1 17) (h9 : N 1 19 ≤ N 1 17) (hC : N 1 19 < M 1 16) (hD : ¬ pz_let (M 67 (N 1 19).toNat) = true ∧ pz_dig (M 67 (N 1 19).toNat) = true) (hG : pz_whl pz_dig (M 67) (M 1 16).toNat (N 1 19).toNat = (N 1 17).toNat) (hv : pz_mdv M N) (h19 : M' 1 19 = N 1 19) (h17 : M' 1 17 = N 1 17) (h18 : (N 1 17 - N 1 19 < 5 ∧ M' 1 18 = 2) ∨ (¬ N 1 17 - N 1 19 < 5 ∧ M' 1 18 = 1)) (h20 : M' 1 20 = N 1 20) : pz_nxt M M' := by
  have e : pz_te (M 67) (M 1 16).toNat (pz_nxp M) = (N 1 17).toNat := by
    rw [hA, pz_te_d (by first | decide | omega) hD.1 hD.2, hG]
  have e2 : pz_tt (M 67) (M 1 16).toNat (pz_nxp M) = if (N 1 17).toNat ≤ (N 1 19).toNat + 4 then 100 else 102 := by
    rw [pz_tt_d (by first | decide | omega) (by rw [hA]; exact hD.1) (by rw [hA]; exact hD.2), e, hA]
  refine ⟨by omega, by rw [e]; omega, ?_, fun z => ?_⟩
  · rw [e2]
    rcases h18 with ⟨a, b⟩ | ⟨a, b⟩
    · rw [if_pos (by first | decide | omega), b]
      rfl
    · rw [if_neg (by first | decide | omega), b]
      rfl
  · rw [e2] at z
    have z1 : (N 1 17).toNat ≤ (N 1 19).toNat + 4 := by
      split at z
      · assumption
      · omega
    unfold pz_tx
    rw [h20, hv (by first | decide | omega), e, hA]
    congr 1
    omega
theorem pz_nxt_sgn {M M' : pz_M} {p : Nat} (hA : pz_nxp M = p) (hC : p < (M 1 16).toNat) (hD : ¬ pz_let (M 67 p) = true ∧ ¬ pz_dig (M 67 p) = true) (h19 : M' 1 19 = (p : Int)) (h17 : M' 1 17 = (p : Int) + 1) (h18 : (pz_sgn (M 67 p) = true ∧ M' 1 18 = 100 + M 67 p) ∨ (¬ pz_sgn (M 67 p) = true ∧ M' 1 18 = 1)) : pz_nxt M M' := by
  have e : pz_te (M 67) (M 1 16).toNat (pz_nxp M) = p + 1 := by
    rw [hA, pz_te_s hC hD.1 hD.2]
  have e2 : pz_tt (M 67) (M 1 16).toNat (pz_nxp M) = if pz_sgn (M 67 p) = true then M 67 p else 102 := by
    rw [hA, pz_tt_s hC hD.1 hD.2]
  refine ⟨by omega, by rw [e]; omega, ?_, fun z => ?_⟩
  · rw [e2]
    rcases h18 with ⟨a, b⟩ | ⟨a, b⟩
    · rw [if_pos a, b]
      have := pz_sgn_i.mp a
      unfold pz_mtk
      rw [if_neg (by first | decide | omega), if_neg (by first | decide | omega), if_neg (by first | decide | omega), if_pos (by first | decide | omega)]
    · rw [if_neg a, b]
      rfl
  · rw [e2] at z
    split at z
    · rename_i a
      have := pz_sgn_i.mp a
      omega
    · omega
end
section
/-! the rules of the TEXTS, over tokens T with numbers X: what is read up to where, or which fault where -/
abbrev pz_res : Type := (Nat × List (Int × Int)) ⊕ (Int × Nat)
abbrev pz_res.ok (j : Nat) (o : List (Int × Int)) : pz_res := Sum.inl (j, o)
abbrev pz_res.bad (k : Int) (j : Nat) : pz_res := Sum.inr (k, j)
def pz_res.app (o : List (Int × Int)) (r : pz_res) : pz_res := match r with
  | .inl (j, p) => .inl (j, o ++ p)
  | .inr (k, j) => .inr (k, j)
theorem pz_app_nil {r : pz_res} : r.app [] = r := by
  rcases r with ⟨j, o⟩ | ⟨k, j⟩ <;> rfl
theorem pz_app_app {r : pz_res} {o o' : List (Int × Int)} : (r.app o').app o = r.app (o ++ o') := by
  rcases r with ⟨j, p⟩ | ⟨k, j⟩
  · show pz_res.ok j (o ++ (o' ++ p)) = .ok j ((o ++ o') ++ p)
    rw [List.append_assoc]
  · rfl
theorem pz_app_bad {r : pz_res} {o : List (Int × Int)} {k : Int} {j : Nat} (h : r.app o = .bad k j) : r = .bad k j := by
  rcases r with ⟨l, p⟩ | ⟨l, m⟩
  · exact absurd h (by intro z; cases z)
  · exact h
theorem pz_app_ok {r : pz_res} {o p : List (Int × Int)} {j : Nat} (h : r.app o = .ok j p) : ∃ p', r = .ok j p' ∧ p = o ++ p' := by
  rcases r with ⟨l, q⟩ | ⟨l, m⟩
  · cases h
    exact ⟨q, rfl, rfl⟩
  · exact absurd h (by intro z; cases z)
/-- a number or a name -/
def pz_uf (T X : Nat → Int) (i : Nat) : pz_res := if T i = 100 then .ok (i + 1) [(0, X i)] else if 8 ≤ T i ∧ T i ≤ 16 then .ok (i + 1) [(T i - 7, 0)] else .bad 1 i
/-- what a sign does -/
def pz_op (t : Int) : Int := if t = 43 then 23 else if t = 45 then 24 else if t = 60 then 27 else if t = 61 then 28 else 29
def pz_g0 (T X : Nat → Int) (P : Nat → Nat → Nat → pz_res → Prop) (d i : Nat) (r : pz_res) : Prop :=
  (T i ≠ 42 ∧ T i ≠ 47 ∧ r = .ok i []) ∨
  (∃ j : Nat, ∃ o : List (Int × Int), ∃ r9 : pz_res, T i = 42 ∧ pz_uf T X (i + 1) = .ok j o ∧ P 0 d j r9 ∧ r = r9.app (o ++ [(25, 0)])) ∨
  (∃ j : Nat, ∃ k : Int, T i = 42 ∧ pz_uf T X (i + 1) = .bad k j ∧ r = .bad k j) ∨
  (T i = 47 ∧ T (i + 1) ≠ 100 ∧ r = .bad 1 (i + 1)) ∨
  (T i = 47 ∧ T (i + 1) = 100 ∧ X (i + 1) = 0 ∧ r = .bad 2 (i + 1)) ∨
  (∃ r9 : pz_res, T i = 47 ∧ T (i + 1) = 100 ∧ X (i + 1) ≠ 0 ∧ P 0 d (i + 2) r9 ∧ r = r9.app [(26, X (i + 1))])
def pz_g1 (T X : Nat → Int) (P : Nat → Nat → Nat → pz_res → Prop) (d i : Nat) (r : pz_res) : Prop :=
  (∃ j : Nat, ∃ k : Int, pz_uf T X i = .bad k j ∧ r = .bad k j) ∨
  (∃ j : Nat, ∃ o : List (Int × Int), ∃ r9 : pz_res, pz_uf T X i = .ok j o ∧ P 0 d j r9 ∧ r = r9.app o)
def pz_g2 (T X : Nat → Int) (P : Nat → Nat → Nat → pz_res → Prop) (d i : Nat) (r : pz_res) : Prop :=
  (T i ≠ 43 ∧ T i ≠ 45 ∧ r = .ok i []) ∨
  (∃ j : Nat, ∃ k : Int, (T i = 43 ∨ T i = 45) ∧ P 1 d (i + 1) (.bad k j) ∧ r = .bad k j) ∨
  (∃ j : Nat, ∃ o : List (Int × Int), ∃ r9 : pz_res, (T i = 43 ∨ T i = 45) ∧ P 1 d (i + 1) (.ok j o) ∧ P 2 d j r9 ∧ r = r9.app (o ++ [(pz_op (T i), 0)]))
def pz_g3 (T X : Nat → Int) (P : Nat → Nat → Nat → pz_res → Prop) (d i : Nat) (r : pz_res) : Prop :=
  (∃ j : Nat, ∃ k : Int, P 1 d i (.bad k j) ∧ r = .bad k j) ∨
  (∃ j : Nat, ∃ o : List (Int × Int), ∃ r9 : pz_res, P 1 d i (.ok j o) ∧ P 2 d j r9 ∧ r = r9.app o)
def pz_g4 (T X : Nat → Int) (P : Nat → Nat → Nat → pz_res → Prop) (d i : Nat) (r : pz_res) : Prop :=
  ((T i = 7 ∨ T i = 40) ∧ 8 ≤ d ∧ r = .bad 3 i) ∨
  (∃ j : Nat, ∃ k : Int, T i = 7 ∧ d < 8 ∧ P 4 (d + 1) (i + 1) (.bad k j) ∧ r = .bad k j) ∨
  (∃ j : Nat, ∃ o : List (Int × Int), T i = 7 ∧ d < 8 ∧ P 4 (d + 1) (i + 1) (.ok j o) ∧ r = .ok j (o ++ [(30, 0)])) ∨
  (∃ j : Nat, ∃ k : Int, T i = 40 ∧ d < 8 ∧ P 8 (d + 1) (i + 1) (.bad k j) ∧ r = .bad k j) ∨
  (∃ j : Nat, ∃ o : List (Int × Int), T i = 40 ∧ d < 8 ∧ P 8 (d + 1) (i + 1) (.ok j o) ∧ T j ≠ 41 ∧ r = .bad 1 j) ∨
  (∃ j : Nat, ∃ o : List (Int × Int), T i = 40 ∧ d < 8 ∧ P 8 (d + 1) (i + 1) (.ok j o) ∧ T j = 41 ∧ r = .ok (j + 1) o) ∨
  (∃ j : Nat, ∃ k : Int, T i ≠ 7 ∧ T i ≠ 40 ∧ P 3 0 i (.bad k j) ∧ r = .bad k j) ∨
  (∃ j : Nat, ∃ o : List (Int × Int), T i ≠ 7 ∧ T i ≠ 40 ∧ P 3 0 i (.ok j o) ∧ ¬ (60 ≤ T j ∧ T j ≤ 62) ∧ r = .bad 1 j) ∨
  (∃ j : Nat, ∃ l : Nat, ∃ o : List (Int × Int), ∃ k : Int, T i ≠ 7 ∧ T i ≠ 40 ∧ P 3 0 i (.ok j o) ∧ (60 ≤ T j ∧ T j ≤ 62) ∧ P 3 0 (j + 1) (.bad k l) ∧ r = .bad k l) ∨
  (∃ j : Nat, ∃ l : Nat, ∃ o : List (Int × Int), ∃ o' : List (Int × Int), T i ≠ 7 ∧ T i ≠ 40 ∧ P 3 0 i (.ok j o) ∧ (60 ≤ T j ∧ T j ≤ 62) ∧ P 3 0 (j + 1) (.ok l o') ∧ r = .ok l (o ++ o' ++ [(pz_op (T j), 0)]))
def pz_g5 (T X : Nat → Int) (P : Nat → Nat → Nat → pz_res → Prop) (d i : Nat) (r : pz_res) : Prop :=
  (T i ≠ 6 ∧ r = .ok i []) ∨
  (∃ j : Nat, ∃ k : Int, T i = 6 ∧ P 4 d (i + 1) (.bad k j) ∧ r = .bad k j) ∨
  (∃ j : Nat, ∃ o : List (Int × Int), ∃ r9 : pz_res, T i = 6 ∧ P 4 d (i + 1) (.ok j o) ∧ P 5 d j r9 ∧ r = r9.app (o ++ [(31, 0)]))
def pz_g6 (T X : Nat → Int) (P : Nat → Nat → Nat → pz_res → Prop) (d i : Nat) (r : pz_res) : Prop :=
  (∃ j : Nat, ∃ k : Int, P 4 d i (.bad k j) ∧ r = .bad k j) ∨
  (∃ j : Nat, ∃ o : List (Int × Int), ∃ r9 : pz_res, P 4 d i (.ok j o) ∧ P 5 d j r9 ∧ r = r9.app o)
def pz_g7 (T X : Nat → Int) (P : Nat → Nat → Nat → pz_res → Prop) (d i : Nat) (r : pz_res) : Prop :=
  (T i ≠ 5 ∧ r = .ok i []) ∨
  (∃ j : Nat, ∃ k : Int, T i = 5 ∧ P 6 d (i + 1) (.bad k j) ∧ r = .bad k j) ∨
  (∃ j : Nat, ∃ o : List (Int × Int), ∃ r9 : pz_res, T i = 5 ∧ P 6 d (i + 1) (.ok j o) ∧ P 7 d j r9 ∧ r = r9.app (o ++ [(32, 0)]))
def pz_g8 (T X : Nat → Int) (P : Nat → Nat → Nat → pz_res → Prop) (d i : Nat) (r : pz_res) : Prop :=
  (∃ j : Nat, ∃ k : Int, P 6 d i (.bad k j) ∧ r = .bad k j) ∨
  (∃ j : Nat, ∃ o : List (Int × Int), ∃ r9 : pz_res, P 6 d i (.ok j o) ∧ P 7 d j r9 ∧ r = r9.app o)
theorem pz_g0_mono {T X : Nat → Int} {P Q : Nat → Nat → Nat → pz_res → Prop} (h : ∀ K d i r, P K d i r → Q K d i r) {d i : Nat} {r : pz_res} (q : pz_g0 T X P d i r) : pz_g0 T X Q d i r := by
  unfold pz_g0 at q ⊢
  rcases q with ⟨p0, p1, p⟩ | ⟨j, o, r, p0, p1, p2, p⟩ | ⟨j, k, p0, p1, p⟩ | ⟨p0, p1, p⟩ | ⟨p0, p1, p2, p⟩ | ⟨r, p0, p1, p2, p3, p⟩
  · exact Or.inl (⟨p0, p1, p⟩)
  · exact Or.inr (Or.inl (⟨j, o, r, p0, p1, h _ _ _ _ p2, p⟩))
  · exact Or.inr (Or.inr (Or.inl (⟨j, k, p0, p1, p⟩)))
  · exact Or.inr (Or.inr (Or.inr (Or.inl (⟨p0, p1, p⟩))))
  · exact Or.inr (Or.inr (Or.inr (Or.inr (Or.inl (⟨p0, p1, p2, p⟩)))))
  · exact Or.inr (Or.inr (Or.inr (Or.inr (Or.inr (⟨r, p0, p1, p2, h _ _ _ _ p3, p⟩)))))
theorem pz_g1_mono {T X : Nat → Int} {P Q : Nat → Nat → Nat → pz_res → Prop} (h : ∀ K d i r, P K d i r → Q K d i r) {d i : Nat} {r : pz_res} (q : pz_g1 T X P d i r) : pz_g1 T X Q d i r := by
  unfold pz_g1 at q ⊢
  rcases q with ⟨j, k, p0, p⟩ | ⟨j, o, r, p0, p1, p⟩
  · exact Or.inl (⟨j, k, p0, p⟩)
  · exact Or.inr (⟨j, o, r, p0, h _ _ _ _ p1, p⟩)
theorem pz_g2_mono {T X : Nat → Int} {P Q : Nat → Nat → Nat → pz_res → Prop} (h : ∀ K d i r, P K d i r → Q K d i r) {d i : Nat} {r : pz_res} (q : pz_g2 T X P d i r) : pz_g2 T X Q d i r := by
  unfold pz_g2 at q ⊢
  rcases q with ⟨p0, p1, p⟩ | ⟨j, k, p0, p1, p⟩ | ⟨j, o, r, p0, p1, p2, p⟩
  · exact Or.inl (⟨p0, p1, p⟩)
  · exact Or.inr (Or.inl (⟨j, k, p0, h _ _ _ _ p1, p⟩))
  · exact Or.inr (Or.inr (⟨j, o, r, p0, h _ _ _ _ p1, h _ _ _ _ p2, p⟩))
theorem pz_g3_mono {T X : Nat → Int} {P Q : Nat → Nat → Nat → pz_res → Prop} (h : ∀ K d i r, P K d i r → Q K d i r) {d i : Nat} {r : pz_res} (q : pz_g3 T X P d i r) : pz_g3 T X Q d i r := by
  unfold pz_g3 at q ⊢
  rcases q with ⟨j, k, p0, p⟩ | ⟨j, o, r, p0, p1, p⟩
  · exact Or.inl (⟨j, k, h _ _ _ _ p0, p⟩)
  · exact Or.inr (⟨j, o, r, h _ _ _ _ p0, h _ _ _ _ p1, p⟩)
theorem pz_g4_mono {T X : Nat → Int} {P Q : Nat → Nat → Nat → pz_res → Prop} (h : ∀ K d i r, P K d i r → Q K d i r) {d i : Nat} {r : pz_res} (q : pz_g4 T X P d i r) : pz_g4 T X Q d i r := by
  unfold pz_g4 at q ⊢
  rcases q with ⟨p0, p1, p⟩ | ⟨j, k, p0, p1, p2, p⟩ | ⟨j, o, p0, p1, p2, p⟩ | ⟨j, k, p0, p1, p2, p⟩ | ⟨j, o, p0, p1, p2, p3, p⟩ | ⟨j, o, p0, p1, p2, p3, p⟩ | ⟨j, k, p0, p1, p2, p⟩ | ⟨j, o, p0, p1, p2, p3, p⟩ | ⟨j, l, o, k, p0, p1, p2, p3, p4, p⟩ | ⟨j, l, o, o', p0, p1, p2, p3, p4, p⟩
  · exact Or.inl (⟨p0, p1, p⟩)
  · exact Or.inr (Or.inl (⟨j, k, p0, p1, h _ _ _ _ p2, p⟩))
  · exact Or.inr (Or.inr (Or.inl (⟨j, o, p0, p1, h _ _ _ _ p2, p⟩)))
  · exact Or.inr (Or.inr (Or.inr (Or.inl (⟨j, k, p0, p1, h _ _ _ _ p2, p⟩))))
  · exact Or.inr (Or.inr (Or.inr (Or.inr (Or.inl (⟨j, o, p0, p1, h _ _ _ _ p2, p3, p⟩)))))
  · exact Or.inr (Or.inr (Or.inr (Or.inr (Or.inr (Or.inl (⟨j, o, p0, p1, h _ _ _ _ p2, p3, p⟩))))))
  · exact Or.inr (Or.inr (Or.inr (Or.inr (Or.inr (Or.inr (Or.inl (⟨j, k, p0, p1, h _ _ _ _ p2, p⟩)))))))
  · exact Or.inr (Or.inr (Or.inr (Or.inr (Or.inr (Or.inr (Or.inr (Or.inl (⟨j, o, p0, p1, h _ _ _ _ p2, p3, p⟩))))))))
  · exact Or.inr (Or.inr (Or.inr (Or.inr (Or.inr (Or.inr (Or.inr (Or.inr (Or.inl (⟨j, l, o, k, p0, p1, h _ _ _ _ p2, p3, h _ _ _ _ p4, p⟩)))))))))
  · exact Or.inr (Or.inr (Or.inr (Or.inr (Or.inr (Or.inr (Or.inr (Or.inr (Or.inr (⟨j, l, o, o', p0, p1, h _ _ _ _ p2, p3, h _ _ _ _ p4, p⟩)))))))))
theorem pz_g5_mono {T X : Nat → Int} {P Q : Nat → Nat → Nat → pz_res → Prop} (h : ∀ K d i r, P K d i r → Q K d i r) {d i : Nat} {r : pz_res} (q : pz_g5 T X P d i r) : pz_g5 T X Q d i r := by
  unfold pz_g5 at q ⊢
  rcases q with ⟨p0, p⟩ | ⟨j, k, p0, p1, p⟩ | ⟨j, o, r, p0, p1, p2, p⟩
  · exact Or.inl (⟨p0, p⟩)
  · exact Or.inr (Or.inl (⟨j, k, p0, h _ _ _ _ p1, p⟩))
  · exact Or.inr (Or.inr (⟨j, o, r, p0, h _ _ _ _ p1, h _ _ _ _ p2, p⟩))
theorem pz_g6_mono {T X : Nat → Int} {P Q : Nat → Nat → Nat → pz_res → Prop} (h : ∀ K d i r, P K d i r → Q K d i r) {d i : Nat} {r : pz_res} (q : pz_g6 T X P d i r) : pz_g6 T X Q d i r := by
  unfold pz_g6 at q ⊢
  rcases q with ⟨j, k, p0, p⟩ | ⟨j, o, r, p0, p1, p⟩
  · exact Or.inl (⟨j, k, h _ _ _ _ p0, p⟩)
  · exact Or.inr (⟨j, o, r, h _ _ _ _ p0, h _ _ _ _ p1, p⟩)
theorem pz_g7_mono {T X : Nat → Int} {P Q : Nat → Nat → Nat → pz_res → Prop} (h : ∀ K d i r, P K d i r → Q K d i r) {d i : Nat} {r : pz_res} (q : pz_g7 T X P d i r) : pz_g7 T X Q d i r := by
  unfold pz_g7 at q ⊢
  rcases q with ⟨p0, p⟩ | ⟨j, k, p0, p1, p⟩ | ⟨j, o, r, p0, p1, p2, p⟩
  · exact Or.inl (⟨p0, p⟩)
  · exact Or.inr (Or.inl (⟨j, k, p0, h _ _ _ _ p1, p⟩))
  · exact Or.inr (Or.inr (⟨j, o, r, p0, h _ _ _ _ p1, h _ _ _ _ p2, p⟩))
theorem pz_g8_mono {T X : Nat → Int} {P Q : Nat → Nat → Nat → pz_res → Prop} (h : ∀ K d i r, P K d i r → Q K d i r) {d i : Nat} {r : pz_res} (q : pz_g8 T X P d i r) : pz_g8 T X Q d i r := by
  unfold pz_g8 at q ⊢
  rcases q with ⟨j, k, p0, p⟩ | ⟨j, o, r, p0, p1, p⟩
  · exact Or.inl (⟨j, k, h _ _ _ _ p0, p⟩)
  · exact Or.inr (⟨j, o, r, h _ _ _ _ p0, h _ _ _ _ p1, p⟩)
def pz_grF (T X : Nat → Int) (P : Nat → Nat → Nat → pz_res → Prop) (K d i : Nat) (r : pz_res) : Prop :=
  (K = 0 ∧ pz_g0 T X P d i r) ∨ (K = 1 ∧ pz_g1 T X P d i r) ∨ (K = 2 ∧ pz_g2 T X P d i r) ∨ (K = 3 ∧ pz_g3 T X P d i r) ∨ (K = 4 ∧ pz_g4 T X P d i r) ∨ (K = 5 ∧ pz_g5 T X P d i r) ∨ (K = 6 ∧ pz_g6 T X P d i r) ∨ (K = 7 ∧ pz_g7 T X P d i r) ∨ (K = 8 ∧ pz_g8 T X P d i r)
theorem pz_grF_mono {T X : Nat → Int} {P Q : Nat → Nat → Nat → pz_res → Prop} (h : ∀ K d i r, P K d i r → Q K d i r) {K d i : Nat} {r : pz_res} (q : pz_grF T X P K d i r) : pz_grF T X Q K d i r := by
  unfold pz_grF at q ⊢
  rcases q with ⟨p, q⟩ | ⟨p, q⟩ | ⟨p, q⟩ | ⟨p, q⟩ | ⟨p, q⟩ | ⟨p, q⟩ | ⟨p, q⟩ | ⟨p, q⟩ | ⟨p, q⟩
  · exact Or.inl (⟨p, pz_g0_mono h q⟩)
  · exact Or.inr (Or.inl (⟨p, pz_g1_mono h q⟩))
  · exact Or.inr (Or.inr (Or.inl (⟨p, pz_g2_mono h q⟩)))
  · exact Or.inr (Or.inr (Or.inr (Or.inl (⟨p, pz_g3_mono h q⟩))))
  · exact Or.inr (Or.inr (Or.inr (Or.inr (Or.inl (⟨p, pz_g4_mono h q⟩)))))
  · exact Or.inr (Or.inr (Or.inr (Or.inr (Or.inr (Or.inl (⟨p, pz_g5_mono h q⟩))))))
  · exact Or.inr (Or.inr (Or.inr (Or.inr (Or.inr (Or.inr (Or.inl (⟨p, pz_g6_mono h q⟩)))))))
  · exact Or.inr (Or.inr (Or.inr (Or.inr (Or.inr (Or.inr (Or.inr (Or.inl (⟨p, pz_g7_mono h q⟩))))))))
  · exact Or.inr (Or.inr (Or.inr (Or.inr (Or.inr (Or.inr (Or.inr (Or.inr (⟨p, pz_g8_mono h q⟩))))))))
/-- kinds: 0 behind a unit, 1 a product, 2 behind a product, 3 a sum, 4 one test, 5 behind a test, 6 tests joined by and, 7 behind those, 8 by or -/
def pz_gr (T X : Nat → Int) (K d i : Nat) (r : pz_res) : Prop := ∀ P : Nat → Nat → Nat → pz_res → Prop, (∀ K d i r, pz_grF T X P K d i r → P K d i r) → P K d i r
theorem pz_gr_roll {T X : Nat → Int} {K d i : Nat} {r : pz_res} (h : pz_grF T X (pz_gr T X) K d i r) : pz_gr T X K d i r := fun P hP => hP _ _ _ _ (pz_grF_mono (fun _ _ _ _ q => q P hP) h)
theorem pz_gr_inv {T X : Nat → Int} {K d i : Nat} {r : pz_res} (h : pz_gr T X K d i r) : pz_grF T X (pz_gr T X) K d i r := h (pz_grF T X (pz_gr T X)) (fun _ _ _ _ q => pz_grF_mono (fun _ _ _ _ => pz_gr_roll) q)
theorem pz_gr_i0 {T X : Nat → Int} {d i : Nat} {r : pz_res} (h : pz_gr T X 0 d i r) : pz_g0 T X (pz_gr T X) d i r := by
  have q := pz_gr_inv h
  unfold pz_grF at q
  rcases q with ⟨p, q⟩ | ⟨p, q⟩ | ⟨p, q⟩ | ⟨p, q⟩ | ⟨p, q⟩ | ⟨p, q⟩ | ⟨p, q⟩ | ⟨p, q⟩ | ⟨p, q⟩
  · exact q
  · exact absurd p (by decide)
  · exact absurd p (by decide)
  · exact absurd p (by decide)
  · exact absurd p (by decide)
  · exact absurd p (by decide)
  · exact absurd p (by decide)
  · exact absurd p (by decide)
  · exact absurd p (by decide)
theorem pz_gr_i1 {T X : Nat → Int} {d i : Nat} {r : pz_res} (h : pz_gr T X 1 d i r) : pz_g1 T X (pz_gr T X) d i r := by
  have q := pz_gr_inv h
  unfold pz_grF at q
  rcases q with ⟨p, q⟩ | ⟨p, q⟩ | ⟨p, q⟩ | ⟨p, q⟩ | ⟨p, q⟩ | ⟨p, q⟩ | ⟨p, q⟩ | ⟨p, q⟩ | ⟨p, q⟩
  · exact absurd p (by decide)
  · exact q
  · exact absurd p (by decide)
  · exact absurd p (by decide)
  · exact absurd p (by decide)
  · exact absurd p (by decide)
  · exact absurd p (by decide)
  · exact absurd p (by decide)
  · exact absurd p (by decide)
theorem pz_gr_i2 {T X : Nat → Int} {d i : Nat} {r : pz_res} (h : pz_gr T X 2 d i r) : pz_g2 T X (pz_gr T X) d i r := by
  have q := pz_gr_inv h
  unfold pz_grF at q
  rcases q with ⟨p, q⟩ | ⟨p, q⟩ | ⟨p, q⟩ | ⟨p, q⟩ | ⟨p, q⟩ | ⟨p, q⟩ | ⟨p, q⟩ | ⟨p, q⟩ | ⟨p, q⟩
  · exact absurd p (by decide)
  · exact absurd p (by decide)
  · exact q
  · exact absurd p (by decide)
  · exact absurd p (by decide)
  · exact absurd p (by decide)
  · exact absurd p (by decide)
  · exact absurd p (by decide)
  · exact absurd p (by decide)
theorem pz_gr_i3 {T X : Nat → Int} {d i : Nat} {r : pz_res} (h : pz_gr T X 3 d i r) : pz_g3 T X (pz_gr T X) d i r := by
  have q := pz_gr_inv h
  unfold pz_grF at q
  rcases q with ⟨p, q⟩ | ⟨p, q⟩ | ⟨p, q⟩ | ⟨p, q⟩ | ⟨p, q⟩ | ⟨p, q⟩ | ⟨p, q⟩ | ⟨p, q⟩ | ⟨p, q⟩
  · exact absurd p (by decide)
  · exact absurd p (by decide)
  · exact absurd p (by decide)
  · exact q
  · exact absurd p (by decide)
  · exact absurd p (by decide)
  · exact absurd p (by decide)
  · exact absurd p (by decide)
  · exact absurd p (by decide)
theorem pz_gr_i4 {T X : Nat → Int} {d i : Nat} {r : pz_res} (h : pz_gr T X 4 d i r) : pz_g4 T X (pz_gr T X) d i r := by
  have q := pz_gr_inv h
  unfold pz_grF at q
  rcases q with ⟨p, q⟩ | ⟨p, q⟩ | ⟨p, q⟩ | ⟨p, q⟩ | ⟨p, q⟩ | ⟨p, q⟩ | ⟨p, q⟩ | ⟨p, q⟩ | ⟨p, q⟩
  · exact absurd p (by decide)
  · exact absurd p (by decide)
  · exact absurd p (by decide)
  · exact absurd p (by decide)
  · exact q
  · exact absurd p (by decide)
  · exact absurd p (by decide)
  · exact absurd p (by decide)
  · exact absurd p (by decide)
theorem pz_gr_i5 {T X : Nat → Int} {d i : Nat} {r : pz_res} (h : pz_gr T X 5 d i r) : pz_g5 T X (pz_gr T X) d i r := by
  have q := pz_gr_inv h
  unfold pz_grF at q
  rcases q with ⟨p, q⟩ | ⟨p, q⟩ | ⟨p, q⟩ | ⟨p, q⟩ | ⟨p, q⟩ | ⟨p, q⟩ | ⟨p, q⟩ | ⟨p, q⟩ | ⟨p, q⟩
  · exact absurd p (by decide)
  · exact absurd p (by decide)
  · exact absurd p (by decide)
  · exact absurd p (by decide)
  · exact absurd p (by decide)
  · exact q
  · exact absurd p (by decide)
  · exact absurd p (by decide)
  · exact absurd p (by decide)
theorem pz_gr_i6 {T X : Nat → Int} {d i : Nat} {r : pz_res} (h : pz_gr T X 6 d i r) : pz_g6 T X (pz_gr T X) d i r := by
  have q := pz_gr_inv h
  unfold pz_grF at q
  rcases q with ⟨p, q⟩ | ⟨p, q⟩ | ⟨p, q⟩ | ⟨p, q⟩ | ⟨p, q⟩ | ⟨p, q⟩ | ⟨p, q⟩ | ⟨p, q⟩ | ⟨p, q⟩
  · exact absurd p (by decide)
  · exact absurd p (by decide)
  · exact absurd p (by decide)
  · exact absurd p (by decide)
  · exact absurd p (by decide)
  · exact absurd p (by decide)
  · exact q
  · exact absurd p (by decide)
  · exact absurd p (by decide)
theorem pz_gr_i7 {T X : Nat → Int} {d i : Nat} {r : pz_res} (h : pz_gr T X 7 d i r) : pz_g7 T X (pz_gr T X) d i r := by
  have q := pz_gr_inv h
  unfold pz_grF at q
  rcases q with ⟨p, q⟩ | ⟨p, q⟩ | ⟨p, q⟩ | ⟨p, q⟩ | ⟨p, q⟩ | ⟨p, q⟩ | ⟨p, q⟩ | ⟨p, q⟩ | ⟨p, q⟩
  · exact absurd p (by decide)
  · exact absurd p (by decide)
  · exact absurd p (by decide)
  · exact absurd p (by decide)
  · exact absurd p (by decide)
  · exact absurd p (by decide)
  · exact absurd p (by decide)
  · exact q
  · exact absurd p (by decide)
theorem pz_gr_i8 {T X : Nat → Int} {d i : Nat} {r : pz_res} (h : pz_gr T X 8 d i r) : pz_g8 T X (pz_gr T X) d i r := by
  have q := pz_gr_inv h
  unfold pz_grF at q
  rcases q with ⟨p, q⟩ | ⟨p, q⟩ | ⟨p, q⟩ | ⟨p, q⟩ | ⟨p, q⟩ | ⟨p, q⟩ | ⟨p, q⟩ | ⟨p, q⟩ | ⟨p, q⟩
  · exact absurd p (by decide)
  · exact absurd p (by decide)
  · exact absurd p (by decide)
  · exact absurd p (by decide)
  · exact absurd p (by decide)
  · exact absurd p (by decide)
  · exact absurd p (by decide)
  · exact absurd p (by decide)
  · exact q
theorem pz_gr.pt0 {T X : Nat → Int} {d i : Nat} : T i ≠ 42 → T i ≠ 47 → pz_gr T X 0 d i (.ok i []) := fun p0 p1 => pz_gr_roll (Or.inl (⟨rfl, Or.inl (⟨p0, p1, rfl⟩)⟩))
theorem pz_gr.ptm {T X : Nat → Int} {d i : Nat} {j : Nat} {o : List (Int × Int)} {r : pz_res} : T i = 42 → pz_uf T X (i + 1) = .ok j o → pz_gr T X 0 d j r → pz_gr T X 0 d i (r.app (o ++ [(25, 0)])) := fun p0 p1 p2 => pz_gr_roll (Or.inl (⟨rfl, Or.inr (Or.inl (⟨j, o, r, p0, p1, p2, rfl⟩))⟩))
theorem pz_gr.ptmb {T X : Nat → Int} {d i : Nat} {j : Nat} {k : Int} : T i = 42 → pz_uf T X (i + 1) = .bad k j → pz_gr T X 0 d i (.bad k j) := fun p0 p1 => pz_gr_roll (Or.inl (⟨rfl, Or.inr (Or.inr (Or.inl (⟨j, k, p0, p1, rfl⟩)))⟩))
theorem pz_gr.ptn {T X : Nat → Int} {d i : Nat} : T i = 47 → T (i + 1) ≠ 100 → pz_gr T X 0 d i (.bad 1 (i + 1)) := fun p0 p1 => pz_gr_roll (Or.inl (⟨rfl, Or.inr (Or.inr (Or.inr (Or.inl (⟨p0, p1, rfl⟩))))⟩))
theorem pz_gr.ptz {T X : Nat → Int} {d i : Nat} : T i = 47 → T (i + 1) = 100 → X (i + 1) = 0 → pz_gr T X 0 d i (.bad 2 (i + 1)) := fun p0 p1 p2 => pz_gr_roll (Or.inl (⟨rfl, Or.inr (Or.inr (Or.inr (Or.inr (Or.inl (⟨p0, p1, p2, rfl⟩)))))⟩))
theorem pz_gr.ptd {T X : Nat → Int} {d i : Nat} {r : pz_res} : T i = 47 → T (i + 1) = 100 → X (i + 1) ≠ 0 → pz_gr T X 0 d (i + 2) r → pz_gr T X 0 d i (r.app [(26, X (i + 1))]) := fun p0 p1 p2 p3 => pz_gr_roll (Or.inl (⟨rfl, Or.inr (Or.inr (Or.inr (Or.inr (Or.inr (⟨r, p0, p1, p2, p3, rfl⟩)))))⟩))
theorem pz_gr.pdb {T X : Nat → Int} {d i : Nat} {j : Nat} {k : Int} : pz_uf T X i = .bad k j → pz_gr T X 1 d i (.bad k j) := fun p0 => pz_gr_roll (Or.inr (Or.inl (⟨rfl, Or.inl (⟨j, k, p0, rfl⟩)⟩)))
theorem pz_gr.pdu {T X : Nat → Int} {d i : Nat} {j : Nat} {o : List (Int × Int)} {r : pz_res} : pz_uf T X i = .ok j o → pz_gr T X 0 d j r → pz_gr T X 1 d i (r.app o) := fun p0 p1 => pz_gr_roll (Or.inr (Or.inl (⟨rfl, Or.inr (⟨j, o, r, p0, p1, rfl⟩)⟩)))
theorem pz_gr.st0 {T X : Nat → Int} {d i : Nat} : T i ≠ 43 → T i ≠ 45 → pz_gr T X 2 d i (.ok i []) := fun p0 p1 => pz_gr_roll (Or.inr (Or.inr (Or.inl (⟨rfl, Or.inl (⟨p0, p1, rfl⟩)⟩))))
theorem pz_gr.stb {T X : Nat → Int} {d i : Nat} {j : Nat} {k : Int} : T i = 43 ∨ T i = 45 → pz_gr T X 1 d (i + 1) (.bad k j) → pz_gr T X 2 d i (.bad k j) := fun p0 p1 => pz_gr_roll (Or.inr (Or.inr (Or.inl (⟨rfl, Or.inr (Or.inl (⟨j, k, p0, p1, rfl⟩))⟩))))
theorem pz_gr.sts {T X : Nat → Int} {d i : Nat} {j : Nat} {o : List (Int × Int)} {r : pz_res} : T i = 43 ∨ T i = 45 → pz_gr T X 1 d (i + 1) (.ok j o) → pz_gr T X 2 d j r → pz_gr T X 2 d i (r.app (o ++ [(pz_op (T i), 0)])) := fun p0 p1 p2 => pz_gr_roll (Or.inr (Or.inr (Or.inl (⟨rfl, Or.inr (Or.inr (⟨j, o, r, p0, p1, p2, rfl⟩))⟩))))
theorem pz_gr.smb {T X : Nat → Int} {d i : Nat} {j : Nat} {k : Int} : pz_gr T X 1 d i (.bad k j) → pz_gr T X 3 d i (.bad k j) := fun p0 => pz_gr_roll (Or.inr (Or.inr (Or.inr (Or.inl (⟨rfl, Or.inl (⟨j, k, p0, rfl⟩)⟩)))))
theorem pz_gr.sms {T X : Nat → Int} {d i : Nat} {j : Nat} {o : List (Int × Int)} {r : pz_res} : pz_gr T X 1 d i (.ok j o) → pz_gr T X 2 d j r → pz_gr T X 3 d i (r.app o) := fun p0 p1 => pz_gr_roll (Or.inr (Or.inr (Or.inr (Or.inl (⟨rfl, Or.inr (⟨j, o, r, p0, p1, rfl⟩)⟩)))))
theorem pz_gr.onx {T X : Nat → Int} {d i : Nat} : T i = 7 ∨ T i = 40 → 8 ≤ d → pz_gr T X 4 d i (.bad 3 i) := fun p0 p1 => pz_gr_roll (Or.inr (Or.inr (Or.inr (Or.inr (Or.inl (⟨rfl, Or.inl (⟨p0, p1, rfl⟩)⟩))))))
theorem pz_gr.onnb {T X : Nat → Int} {d i : Nat} {j : Nat} {k : Int} : T i = 7 → d < 8 → pz_gr T X 4 (d + 1) (i + 1) (.bad k j) → pz_gr T X 4 d i (.bad k j) := fun p0 p1 p2 => pz_gr_roll (Or.inr (Or.inr (Or.inr (Or.inr (Or.inl (⟨rfl, Or.inr (Or.inl (⟨j, k, p0, p1, p2, rfl⟩))⟩))))))
theorem pz_gr.onn {T X : Nat → Int} {d i : Nat} {j : Nat} {o : List (Int × Int)} : T i = 7 → d < 8 → pz_gr T X 4 (d + 1) (i + 1) (.ok j o) → pz_gr T X 4 d i (.ok j (o ++ [(30, 0)])) := fun p0 p1 p2 => pz_gr_roll (Or.inr (Or.inr (Or.inr (Or.inr (Or.inl (⟨rfl, Or.inr (Or.inr (Or.inl (⟨j, o, p0, p1, p2, rfl⟩)))⟩))))))
theorem pz_gr.onpb {T X : Nat → Int} {d i : Nat} {j : Nat} {k : Int} : T i = 40 → d < 8 → pz_gr T X 8 (d + 1) (i + 1) (.bad k j) → pz_gr T X 4 d i (.bad k j) := fun p0 p1 p2 => pz_gr_roll (Or.inr (Or.inr (Or.inr (Or.inr (Or.inl (⟨rfl, Or.inr (Or.inr (Or.inr (Or.inl (⟨j, k, p0, p1, p2, rfl⟩))))⟩))))))
theorem pz_gr.onpc {T X : Nat → Int} {d i : Nat} {j : Nat} {o : List (Int × Int)} : T i = 40 → d < 8 → pz_gr T X 8 (d + 1) (i + 1) (.ok j o) → T j ≠ 41 → pz_gr T X 4 d i (.bad 1 j) := fun p0 p1 p2 p3 => pz_gr_roll (Or.inr (Or.inr (Or.inr (Or.inr (Or.inl (⟨rfl, Or.inr (Or.inr (Or.inr (Or.inr (Or.inl (⟨j, o, p0, p1, p2, p3, rfl⟩)))))⟩))))))
theorem pz_gr.onp {T X : Nat → Int} {d i : Nat} {j : Nat} {o : List (Int × Int)} : T i = 40 → d < 8 → pz_gr T X 8 (d + 1) (i + 1) (.ok j o) → T j = 41 → pz_gr T X 4 d i (.ok (j + 1) o) := fun p0 p1 p2 p3 => pz_gr_roll (Or.inr (Or.inr (Or.inr (Or.inr (Or.inl (⟨rfl, Or.inr (Or.inr (Or.inr (Or.inr (Or.inr (Or.inl (⟨j, o, p0, p1, p2, p3, rfl⟩))))))⟩))))))
theorem pz_gr.ons {T X : Nat → Int} {d i : Nat} {j : Nat} {k : Int} : T i ≠ 7 → T i ≠ 40 → pz_gr T X 3 0 i (.bad k j) → pz_gr T X 4 d i (.bad k j) := fun p0 p1 p2 => pz_gr_roll (Or.inr (Or.inr (Or.inr (Or.inr (Or.inl (⟨rfl, Or.inr (Or.inr (Or.inr (Or.inr (Or.inr (Or.inr (Or.inl (⟨j, k, p0, p1, p2, rfl⟩)))))))⟩))))))
theorem pz_gr.onr {T X : Nat → Int} {d i : Nat} {j : Nat} {o : List (Int × Int)} : T i ≠ 7 → T i ≠ 40 → pz_gr T X 3 0 i (.ok j o) → ¬ (60 ≤ T j ∧ T j ≤ 62) → pz_gr T X 4 d i (.bad 1 j) := fun p0 p1 p2 p3 => pz_gr_roll (Or.inr (Or.inr (Or.inr (Or.inr (Or.inl (⟨rfl, Or.inr (Or.inr (Or.inr (Or.inr (Or.inr (Or.inr (Or.inr (Or.inl (⟨j, o, p0, p1, p2, p3, rfl⟩))))))))⟩))))))
theorem pz_gr.ont {T X : Nat → Int} {d i : Nat} {j : Nat} {l : Nat} {o : List (Int × Int)} {k : Int} : T i ≠ 7 → T i ≠ 40 → pz_gr T X 3 0 i (.ok j o) → (60 ≤ T j ∧ T j ≤ 62) → pz_gr T X 3 0 (j + 1) (.bad k l) → pz_gr T X 4 d i (.bad k l) := fun p0 p1 p2 p3 p4 => pz_gr_roll (Or.inr (Or.inr (Or.inr (Or.inr (Or.inl (⟨rfl, Or.inr (Or.inr (Or.inr (Or.inr (Or.inr (Or.inr (Or.inr (Or.inr (Or.inl (⟨j, l, o, k, p0, p1, p2, p3, p4, rfl⟩)))))))))⟩))))))
theorem pz_gr.onq {T X : Nat → Int} {d i : Nat} {j : Nat} {l : Nat} {o : List (Int × Int)} {o' : List (Int × Int)} : T i ≠ 7 → T i ≠ 40 → pz_gr T X 3 0 i (.ok j o) → (60 ≤ T j ∧ T j ≤ 62) → pz_gr T X 3 0 (j + 1) (.ok l o') → pz_gr T X 4 d i (.ok l (o ++ o' ++ [(pz_op (T j), 0)])) := fun p0 p1 p2 p3 p4 => pz_gr_roll (Or.inr (Or.inr (Or.inr (Or.inr (Or.inl (⟨rfl, Or.inr (Or.inr (Or.inr (Or.inr (Or.inr (Or.inr (Or.inr (Or.inr (Or.inr (⟨j, l, o, o', p0, p1, p2, p3, p4, rfl⟩)))))))))⟩))))))
theorem pz_gr.et0 {T X : Nat → Int} {d i : Nat} : T i ≠ 6 → pz_gr T X 5 d i (.ok i []) := fun p0 => pz_gr_roll (Or.inr (Or.inr (Or.inr (Or.inr (Or.inr (Or.inl (⟨rfl, Or.inl (⟨p0, rfl⟩)⟩)))))))
theorem pz_gr.etb {T X : Nat → Int} {d i : Nat} {j : Nat} {k : Int} : T i = 6 → pz_gr T X 4 d (i + 1) (.bad k j) → pz_gr T X 5 d i (.bad k j) := fun p0 p1 => pz_gr_roll (Or.inr (Or.inr (Or.inr (Or.inr (Or.inr (Or.inl (⟨rfl, Or.inr (Or.inl (⟨j, k, p0, p1, rfl⟩))⟩)))))))
theorem pz_gr.ets {T X : Nat → Int} {d i : Nat} {j : Nat} {o : List (Int × Int)} {r : pz_res} : T i = 6 → pz_gr T X 4 d (i + 1) (.ok j o) → pz_gr T X 5 d j r → pz_gr T X 5 d i (r.app (o ++ [(31, 0)])) := fun p0 p1 p2 => pz_gr_roll (Or.inr (Or.inr (Or.inr (Or.inr (Or.inr (Or.inl (⟨rfl, Or.inr (Or.inr (⟨j, o, r, p0, p1, p2, rfl⟩))⟩)))))))
theorem pz_gr.evb {T X : Nat → Int} {d i : Nat} {j : Nat} {k : Int} : pz_gr T X 4 d i (.bad k j) → pz_gr T X 6 d i (.bad k j) := fun p0 => pz_gr_roll (Or.inr (Or.inr (Or.inr (Or.inr (Or.inr (Or.inr (Or.inl (⟨rfl, Or.inl (⟨j, k, p0, rfl⟩)⟩))))))))
theorem pz_gr.evs {T X : Nat → Int} {d i : Nat} {j : Nat} {o : List (Int × Int)} {r : pz_res} : pz_gr T X 4 d i (.ok j o) → pz_gr T X 5 d j r → pz_gr T X 6 d i (r.app o) := fun p0 p1 => pz_gr_roll (Or.inr (Or.inr (Or.inr (Or.inr (Or.inr (Or.inr (Or.inl (⟨rfl, Or.inr (⟨j, o, r, p0, p1, rfl⟩)⟩))))))))
theorem pz_gr.at0 {T X : Nat → Int} {d i : Nat} : T i ≠ 5 → pz_gr T X 7 d i (.ok i []) := fun p0 => pz_gr_roll (Or.inr (Or.inr (Or.inr (Or.inr (Or.inr (Or.inr (Or.inr (Or.inl (⟨rfl, Or.inl (⟨p0, rfl⟩)⟩)))))))))
theorem pz_gr.atb {T X : Nat → Int} {d i : Nat} {j : Nat} {k : Int} : T i = 5 → pz_gr T X 6 d (i + 1) (.bad k j) → pz_gr T X 7 d i (.bad k j) := fun p0 p1 => pz_gr_roll (Or.inr (Or.inr (Or.inr (Or.inr (Or.inr (Or.inr (Or.inr (Or.inl (⟨rfl, Or.inr (Or.inl (⟨j, k, p0, p1, rfl⟩))⟩)))))))))
theorem pz_gr.ats {T X : Nat → Int} {d i : Nat} {j : Nat} {o : List (Int × Int)} {r : pz_res} : T i = 5 → pz_gr T X 6 d (i + 1) (.ok j o) → pz_gr T X 7 d j r → pz_gr T X 7 d i (r.app (o ++ [(32, 0)])) := fun p0 p1 p2 => pz_gr_roll (Or.inr (Or.inr (Or.inr (Or.inr (Or.inr (Or.inr (Or.inr (Or.inl (⟨rfl, Or.inr (Or.inr (⟨j, o, r, p0, p1, p2, rfl⟩))⟩)))))))))
theorem pz_gr.anb {T X : Nat → Int} {d i : Nat} {j : Nat} {k : Int} : pz_gr T X 6 d i (.bad k j) → pz_gr T X 8 d i (.bad k j) := fun p0 => pz_gr_roll (Or.inr (Or.inr (Or.inr (Or.inr (Or.inr (Or.inr (Or.inr (Or.inr (⟨rfl, Or.inl (⟨j, k, p0, rfl⟩)⟩)))))))))
theorem pz_gr.ans {T X : Nat → Int} {d i : Nat} {j : Nat} {o : List (Int × Int)} {r : pz_res} : pz_gr T X 6 d i (.ok j o) → pz_gr T X 7 d j r → pz_gr T X 8 d i (r.app o) := fun p0 p1 => pz_gr_roll (Or.inr (Or.inr (Or.inr (Or.inr (Or.inr (Or.inr (Or.inr (Or.inr (⟨rfl, Or.inr (⟨j, o, r, p0, p1, rfl⟩)⟩)))))))))
/-- two streams that are one up to the end c -/
def pz_agr (c : Nat) (T X T' X' : Nat → Int) : Prop := T c = 101 ∧ ∀ k, k ≤ c → T' k = T k ∧ (T k = 100 → X' k = X k)
theorem pz_agr_lt {c i : Nat} {T X T' X' : Nat → Int} (h : pz_agr c T X T' X') (hi : i ≤ c) (ht : T i ≠ 101) : i + 1 ≤ c := by
  rcases Nat.lt_or_ge i c with q | q
  · exact q
  · have e : i = c := by omega
    rw [e] at ht
    exact absurd h.1 ht
theorem pz_uf_ag {c i : Nat} {T X T' X' : Nat → Int} (h : pz_agr c T X T' X') (hi : i ≤ c) : pz_uf T' X' i = pz_uf T X i ∧ (∀ j o, pz_uf T X i = .ok j o → j ≤ c) := by
  obtain ⟨a, b⟩ := h.2 i hi
  unfold pz_uf
  rw [a]
  refine ⟨?_, fun j o z => ?_⟩
  · by_cases q : T i = 100
    · rw [if_pos q, if_pos q, b q]
    · rw [if_neg q, if_neg q]
  · by_cases q : T i = 100
    · rw [if_pos q] at z
      cases z
      exact pz_agr_lt h hi (by first | decide | omega)
    · rw [if_neg q] at z
      by_cases q2 : 8 ≤ T i ∧ T i ≤ 16
      · rw [if_pos q2] at z
        cases z
        exact pz_agr_lt h hi (by first | decide | omega)
      · rw [if_neg q2] at z
        cases z
theorem pz_agr_t {c i : Nat} {T X T' X' : Nat → Int} (h : pz_agr c T X T' X') (hi : i ≤ c) : T' i = T i := (h.2 i hi).1
theorem pz_agr_x {c i : Nat} {T X T' X' : Nat → Int} (h : pz_agr c T X T' X') (hi : i ≤ c) (ht : T i = 100) : X' i = X i := (h.2 i hi).2 ht
theorem pz_gr_det {c : Nat} {T X T' X' : Nat → Int} (hA : pz_agr c T X T' X') {K d i : Nat} {r : pz_res} (h : pz_gr T X K d i r) : i ≤ c → ∀ r', pz_gr T' X' K d i r' → r' = r ∧ ∀ j o, r = .ok j o → j ≤ c := by
  refine h (fun K d i r => i ≤ c → ∀ r', pz_gr T' X' K d i r' → r' = r ∧ ∀ j o, r = .ok j o → j ≤ c) (fun K d i r hF => ?_)
  intro hi r' h'
  have t := pz_agr_t hA hi
  have x := fun y => pz_agr_x hA hi y
  have l := fun y => pz_agr_lt hA hi y
  have u := pz_uf_ag hA hi
  unfold pz_grF at hF
  rcases hF with ⟨rfl, q⟩ | ⟨rfl, q⟩ | ⟨rfl, q⟩ | ⟨rfl, q⟩ | ⟨rfl, q⟩ | ⟨rfl, q⟩ | ⟨rfl, q⟩ | ⟨rfl, q⟩ | ⟨rfl, q⟩
  · have h' := pz_gr_i0 h'
    unfold pz_g0 at q h'
    rcases q with ⟨p0, p1, pe⟩ | ⟨j, o, r, p0, p1, p2, pe⟩ | ⟨j, k, p0, p1, pe⟩ | ⟨p0, p1, pe⟩ | ⟨p0, p1, p2, pe⟩ | ⟨r, p0, p1, p2, p3, pe⟩ <;> rcases h' with ⟨s0, s1, se⟩ | ⟨js, os, rs, s0, s1, s2, se⟩ | ⟨js, ks, s0, s1, se⟩ | ⟨s0, s1, se⟩ | ⟨s0, s1, s2, se⟩ | ⟨rs, s0, s1, s2, s3, se⟩ <;> first | omega | grind [pz_agr_t, pz_agr_x, pz_agr_lt, pz_uf_ag, pz_app_ok]
  · have h' := pz_gr_i1 h'
    unfold pz_g1 at q h'
    rcases q with ⟨j, k, p0, pe⟩ | ⟨j, o, r, p0, p1, pe⟩ <;> rcases h' with ⟨js, ks, s0, se⟩ | ⟨js, os, rs, s0, s1, se⟩ <;> first | omega | grind [pz_agr_t, pz_agr_x, pz_agr_lt, pz_uf_ag, pz_app_ok]
  · have h' := pz_gr_i2 h'
    unfold pz_g2 at q h'
    rcases q with ⟨p0, p1, pe⟩ | ⟨j, k, p0, p1, pe⟩ | ⟨j, o, r, p0, p1, p2, pe⟩ <;> rcases h' with ⟨s0, s1, se⟩ | ⟨js, ks, s0, s1, se⟩ | ⟨js, os, rs, s0, s1, s2, se⟩ <;> first | omega | grind [pz_agr_t, pz_agr_x, pz_agr_lt, pz_uf_ag, pz_app_ok]
  · have h' := pz_gr_i3 h'
    unfold pz_g3 at q h'
    rcases q with ⟨j, k, p0, pe⟩ | ⟨j, o, r, p0, p1, pe⟩ <;> rcases h' with ⟨js, ks, s0, se⟩ | ⟨js, os, rs, s0, s1, se⟩ <;> first | omega | grind [pz_agr_t, pz_agr_x, pz_agr_lt, pz_uf_ag, pz_app_ok]
  · have h' := pz_gr_i4 h'
    unfold pz_g4 at q h'
    rcases q with ⟨p0, p1, pe⟩ | ⟨j, k, p0, p1, p2, pe⟩ | ⟨j, o, p0, p1, p2, pe⟩ | ⟨j, k, p0, p1, p2, pe⟩ | ⟨j, o, p0, p1, p2, p3, pe⟩ | ⟨j, o, p0, p1, p2, p3, pe⟩ | ⟨j, k, p0, p1, p2, pe⟩ | ⟨j, o, p0, p1, p2, p3, pe⟩ | ⟨j, l, o, k, p0, p1, p2, p3, p4, pe⟩ | ⟨j, l, o, o', p0, p1, p2, p3, p4, pe⟩ <;> rcases h' with ⟨s0, s1, se⟩ | ⟨js, ks, s0, s1, s2, se⟩ | ⟨js, os, s0, s1, s2, se⟩ | ⟨js, ks, s0, s1, s2, se⟩ | ⟨js, os, s0, s1, s2, s3, se⟩ | ⟨js, os, s0, s1, s2, s3, se⟩ | ⟨js, ks, s0, s1, s2, se⟩ | ⟨js, os, s0, s1, s2, s3, se⟩ | ⟨js, ls, os, ks, s0, s1, s2, s3, s4, se⟩ | ⟨js, ls, os, o's, s0, s1, s2, s3, s4, se⟩ <;> first | omega | grind [pz_agr_t, pz_agr_x, pz_agr_lt, pz_uf_ag, pz_app_ok]
  · have h' := pz_gr_i5 h'
    unfold pz_g5 at q h'
    rcases q with ⟨p0, pe⟩ | ⟨j, k, p0, p1, pe⟩ | ⟨j, o, r, p0, p1, p2, pe⟩ <;> rcases h' with ⟨s0, se⟩ | ⟨js, ks, s0, s1, se⟩ | ⟨js, os, rs, s0, s1, s2, se⟩ <;> first | omega | grind [pz_agr_t, pz_agr_x, pz_agr_lt, pz_uf_ag, pz_app_ok]
  · have h' := pz_gr_i6 h'
    unfold pz_g6 at q h'
    rcases q with ⟨j, k, p0, pe⟩ | ⟨j, o, r, p0, p1, pe⟩ <;> rcases h' with ⟨js, ks, s0, se⟩ | ⟨js, os, rs, s0, s1, se⟩ <;> first | omega | grind [pz_agr_t, pz_agr_x, pz_agr_lt, pz_uf_ag, pz_app_ok]
  · have h' := pz_gr_i7 h'
    unfold pz_g7 at q h'
    rcases q with ⟨p0, pe⟩ | ⟨j, k, p0, p1, pe⟩ | ⟨j, o, r, p0, p1, p2, pe⟩ <;> rcases h' with ⟨s0, se⟩ | ⟨js, ks, s0, s1, se⟩ | ⟨js, os, rs, s0, s1, s2, se⟩ <;> first | omega | grind [pz_agr_t, pz_agr_x, pz_agr_lt, pz_uf_ag, pz_app_ok]
  · have h' := pz_gr_i8 h'
    unfold pz_g8 at q h'
    rcases q with ⟨j, k, p0, pe⟩ | ⟨j, o, r, p0, p1, pe⟩ <;> rcases h' with ⟨js, ks, s0, se⟩ | ⟨js, os, rs, s0, s1, se⟩ <;> first | omega | grind [pz_agr_t, pz_agr_x, pz_agr_lt, pz_uf_ag, pz_app_ok]
/-- the class' code of a law's steps -/
def pz_fl1 (q : Int × Int) : List Int := if q.1 = 0 then [q.2] else if q.1 < 10 then [-(q.1 + 8)] else if q.1 = 26 then [q.2, -48] else [if q.1 = 23 then -44 else if q.1 = 24 then -46 else if q.1 = 25 then -43 else if q.1 = 27 then -61 else if q.1 = 28 then -62 else if q.1 = 29 then -63 else if q.1 = 30 then -8 else if q.1 = 31 then -7 else -6]
def pz_fl : List (Int × Int) → List Int
  | [] => []
  | q :: o => pz_fl1 q ++ pz_fl o
theorem pz_fl_app {o p : List (Int × Int)} : pz_fl (o ++ p) = pz_fl o ++ pz_fl p := by
  induction o with
  | nil => rfl
  | cons q o ih =>
    show pz_fl1 q ++ pz_fl (o ++ p) = (pz_fl1 q ++ pz_fl o) ++ pz_fl p
    rw [ih, List.append_assoc]
theorem pz_fl_one {q : Int × Int} : pz_fl [q] = pz_fl1 q := List.append_nil _
theorem pz_fl1_le {q : Int × Int} : (pz_fl1 q).length ≤ if q.1 = 26 then 2 else 1 := by
  unfold pz_fl1
  repeat' split
  all_goals first | (show (1 : Nat) ≤ 2; omega) | exact Nat.le_refl _ | omega
theorem pz_op_ne {t : Int} : pz_op t ≠ 26 := by
  unfold pz_op
  repeat' split
  all_goals omega
/-- no more pieces than tokens -/
theorem pz_gr_len {T X : Nat → Int} {K d i : Nat} {r : pz_res} (h : pz_gr T X K d i r) : ∀ j o, r = .ok j o → i + (pz_fl o).length ≤ j := by
  have U : ∀ i j o, pz_uf T X i = .ok j o → i + (pz_fl o).length ≤ j := by
    intro i j o z
    unfold pz_uf at z
    split at z
    · cases z; exact Nat.le_refl _
    · split at z
      · cases z
        rw [pz_fl_one]
        have := pz_fl1_le (q := (T i - 7, 0))
        split at this
        · rename_i y
          have y : T i - 7 = 26 := y
          omega
        · omega
      · cases z
  have L : ∀ (q : Int × Int), q.1 ≠ 26 → (pz_fl [q]).length ≤ 1 := fun q hq => by
    rw [pz_fl_one]
    have := pz_fl1_le (q := q)
    rw [if_neg hq] at this
    exact this
  have L2 : ∀ (x : Int), (pz_fl [(26, x)]).length = 2 := fun x => rfl
  refine h (fun K d i r => ∀ j o, r = .ok j o → i + (pz_fl o).length ≤ j) (fun K d i r hF => ?_)
  intro j9 o9 h9
  unfold pz_grF at hF
  rcases hF with ⟨rfl, q⟩ | ⟨rfl, q⟩ | ⟨rfl, q⟩ | ⟨rfl, q⟩ | ⟨rfl, q⟩ | ⟨rfl, q⟩ | ⟨rfl, q⟩ | ⟨rfl, q⟩ | ⟨rfl, q⟩
  · unfold pz_g0 at q
    rcases q with ⟨p0, p1, pe⟩ | ⟨j, o, r, p0, p1, p2, pe⟩ | ⟨j, k, p0, p1, pe⟩ | ⟨p0, p1, pe⟩ | ⟨p0, p1, p2, pe⟩ | ⟨r, p0, p1, p2, p3, pe⟩ <;> grind [pz_app_ok, pz_fl_app, pz_op_ne, List.length_append, pz_fl]
  · unfold pz_g1 at q
    rcases q with ⟨j, k, p0, pe⟩ | ⟨j, o, r, p0, p1, pe⟩ <;> grind [pz_app_ok, pz_fl_app, pz_op_ne, List.length_append, pz_fl]
  · unfold pz_g2 at q
    rcases q with ⟨p0, p1, pe⟩ | ⟨j, k, p0, p1, pe⟩ | ⟨j, o, r, p0, p1, p2, pe⟩ <;> grind [pz_app_ok, pz_fl_app, pz_op_ne, List.length_append, pz_fl]
  · unfold pz_g3 at q
    rcases q with ⟨j, k, p0, pe⟩ | ⟨j, o, r, p0, p1, pe⟩ <;> grind [pz_app_ok, pz_fl_app, pz_op_ne, List.length_append, pz_fl]
  · unfold pz_g4 at q
    rcases q with ⟨p0, p1, pe⟩ | ⟨j, k, p0, p1, p2, pe⟩ | ⟨j, o, p0, p1, p2, pe⟩ | ⟨j, k, p0, p1, p2, pe⟩ | ⟨j, o, p0, p1, p2, p3, pe⟩ | ⟨j, o, p0, p1, p2, p3, pe⟩ | ⟨j, k, p0, p1, p2, pe⟩ | ⟨j, o, p0, p1, p2, p3, pe⟩ | ⟨j, l, o, k, p0, p1, p2, p3, p4, pe⟩ | ⟨j, l, o, o', p0, p1, p2, p3, p4, pe⟩ <;> grind [pz_app_ok, pz_fl_app, pz_op_ne, List.length_append, pz_fl]
  · unfold pz_g5 at q
    rcases q with ⟨p0, pe⟩ | ⟨j, k, p0, p1, pe⟩ | ⟨j, o, r, p0, p1, p2, pe⟩ <;> grind [pz_app_ok, pz_fl_app, pz_op_ne, List.length_append, pz_fl]
  · unfold pz_g6 at q
    rcases q with ⟨j, k, p0, pe⟩ | ⟨j, o, r, p0, p1, pe⟩ <;> grind [pz_app_ok, pz_fl_app, pz_op_ne, List.length_append, pz_fl]
  · unfold pz_g7 at q
    rcases q with ⟨p0, pe⟩ | ⟨j, k, p0, p1, pe⟩ | ⟨j, o, r, p0, p1, p2, pe⟩ <;> grind [pz_app_ok, pz_fl_app, pz_op_ne, List.length_append, pz_fl]
  · unfold pz_g8 at q
    rcases q with ⟨j, k, p0, pe⟩ | ⟨j, o, r, p0, p1, pe⟩ <;> grind [pz_app_ok, pz_fl_app, pz_op_ne, List.length_append, pz_fl]
theorem pz_gr_lt {T X : Nat → Int} {K d i : Nat} {r : pz_res} (h : pz_gr T X K d i r) : ∀ j o, r = .ok j o → i ≤ j ∧ (K = 1 ∨ K = 3 ∨ K = 4 ∨ K = 6 ∨ K = 8 → i < j) := by
  have U : ∀ i j o, pz_uf T X i = .ok j o → i < j := by
    intro i j o z
    unfold pz_uf at z
    split at z
    · cases z; exact Nat.lt_succ_self _
    · split at z
      · cases z; exact Nat.lt_succ_self _
      · cases z
  refine h (fun K d i r => ∀ j o, r = .ok j o → i ≤ j ∧ (K = 1 ∨ K = 3 ∨ K = 4 ∨ K = 6 ∨ K = 8 → i < j)) (fun K d i r hF => ?_)
  intro j9 o9 h9
  unfold pz_grF at hF
  rcases hF with ⟨rfl, q⟩ | ⟨rfl, q⟩ | ⟨rfl, q⟩ | ⟨rfl, q⟩ | ⟨rfl, q⟩ | ⟨rfl, q⟩ | ⟨rfl, q⟩ | ⟨rfl, q⟩ | ⟨rfl, q⟩
  · unfold pz_g0 at q
    rcases q with ⟨p0, p1, pe⟩ | ⟨j, o, r, p0, p1, p2, pe⟩ | ⟨j, k, p0, p1, pe⟩ | ⟨p0, p1, pe⟩ | ⟨p0, p1, p2, pe⟩ | ⟨r, p0, p1, p2, p3, pe⟩ <;> grind [pz_app_ok]
  · unfold pz_g1 at q
    rcases q with ⟨j, k, p0, pe⟩ | ⟨j, o, r, p0, p1, pe⟩ <;> grind [pz_app_ok]
  · unfold pz_g2 at q
    rcases q with ⟨p0, p1, pe⟩ | ⟨j, k, p0, p1, pe⟩ | ⟨j, o, r, p0, p1, p2, pe⟩ <;> grind [pz_app_ok]
  · unfold pz_g3 at q
    rcases q with ⟨j, k, p0, pe⟩ | ⟨j, o, r, p0, p1, pe⟩ <;> grind [pz_app_ok]
  · unfold pz_g4 at q
    rcases q with ⟨p0, p1, pe⟩ | ⟨j, k, p0, p1, p2, pe⟩ | ⟨j, o, p0, p1, p2, pe⟩ | ⟨j, k, p0, p1, p2, pe⟩ | ⟨j, o, p0, p1, p2, p3, pe⟩ | ⟨j, o, p0, p1, p2, p3, pe⟩ | ⟨j, k, p0, p1, p2, pe⟩ | ⟨j, o, p0, p1, p2, p3, pe⟩ | ⟨j, l, o, k, p0, p1, p2, p3, p4, pe⟩ | ⟨j, l, o, o', p0, p1, p2, p3, p4, pe⟩ <;> grind [pz_app_ok]
  · unfold pz_g5 at q
    rcases q with ⟨p0, pe⟩ | ⟨j, k, p0, p1, pe⟩ | ⟨j, o, r, p0, p1, p2, pe⟩ <;> grind [pz_app_ok]
  · unfold pz_g6 at q
    rcases q with ⟨j, k, p0, pe⟩ | ⟨j, o, r, p0, p1, pe⟩ <;> grind [pz_app_ok]
  · unfold pz_g7 at q
    rcases q with ⟨p0, pe⟩ | ⟨j, k, p0, p1, pe⟩ | ⟨j, o, r, p0, p1, p2, pe⟩ <;> grind [pz_app_ok]
  · unfold pz_g8 at q
    rcases q with ⟨j, k, p0, pe⟩ | ⟨j, o, r, p0, p1, pe⟩ <;> grind [pz_app_ok]
theorem pz_gr_le {c : Nat} {T X : Nat → Int} (hc : T c = 101) {K d i : Nat} {r : pz_res} (h : pz_gr T X K d i r) : i ≤ c → (∀ j o, r = .ok j o → j ≤ c) ∧ (∀ k j, r = .bad k j → j ≤ c) := by
  have L : ∀ i, i ≤ c → T i ≠ 101 → i + 1 ≤ c := fun i hi ht => by
    rcases Nat.lt_or_ge i c with q | q
    · exact q
    · rw [show i = c by omega] at ht
      exact absurd hc ht
  have U : ∀ i, i ≤ c → (∀ j o, pz_uf T X i = .ok j o → j ≤ c) ∧ (∀ k j, pz_uf T X i = .bad k j → j ≤ c) := fun i hi => by
    have l := L i hi
    unfold pz_uf
    split
    · exact ⟨fun j o z => (by cases z; exact l (by first | decide | omega)), fun k j z => (by cases z)⟩
    · split
      · exact ⟨fun j o z => (by cases z; exact l (by first | decide | omega)), fun k j z => (by cases z)⟩
      · exact ⟨fun j o z => (by cases z), fun k j z => (by cases z; exact hi)⟩
  refine h (fun K d i r => i ≤ c → (∀ j o, r = .ok j o → j ≤ c) ∧ (∀ k j, r = .bad k j → j ≤ c)) (fun K d i r hF => ?_)
  intro hi
  have l := L i hi
  unfold pz_grF at hF
  rcases hF with ⟨rfl, q⟩ | ⟨rfl, q⟩ | ⟨rfl, q⟩ | ⟨rfl, q⟩ | ⟨rfl, q⟩ | ⟨rfl, q⟩ | ⟨rfl, q⟩ | ⟨rfl, q⟩ | ⟨rfl, q⟩
  · unfold pz_g0 at q
    rcases q with ⟨p0, p1, pe⟩ | ⟨j, o, r, p0, p1, p2, pe⟩ | ⟨j, k, p0, p1, pe⟩ | ⟨p0, p1, pe⟩ | ⟨p0, p1, p2, pe⟩ | ⟨r, p0, p1, p2, p3, pe⟩ <;> grind [pz_app_ok, pz_app_bad]
  · unfold pz_g1 at q
    rcases q with ⟨j, k, p0, pe⟩ | ⟨j, o, r, p0, p1, pe⟩ <;> grind [pz_app_ok, pz_app_bad]
  · unfold pz_g2 at q
    rcases q with ⟨p0, p1, pe⟩ | ⟨j, k, p0, p1, pe⟩ | ⟨j, o, r, p0, p1, p2, pe⟩ <;> grind [pz_app_ok, pz_app_bad]
  · unfold pz_g3 at q
    rcases q with ⟨j, k, p0, pe⟩ | ⟨j, o, r, p0, p1, pe⟩ <;> grind [pz_app_ok, pz_app_bad]
  · unfold pz_g4 at q
    rcases q with ⟨p0, p1, pe⟩ | ⟨j, k, p0, p1, p2, pe⟩ | ⟨j, o, p0, p1, p2, pe⟩ | ⟨j, k, p0, p1, p2, pe⟩ | ⟨j, o, p0, p1, p2, p3, pe⟩ | ⟨j, o, p0, p1, p2, p3, pe⟩ | ⟨j, k, p0, p1, p2, pe⟩ | ⟨j, o, p0, p1, p2, p3, pe⟩ | ⟨j, l, o, k, p0, p1, p2, p3, p4, pe⟩ | ⟨j, l, o, o', p0, p1, p2, p3, p4, pe⟩ <;> grind [pz_app_ok, pz_app_bad]
  · unfold pz_g5 at q
    rcases q with ⟨p0, pe⟩ | ⟨j, k, p0, p1, pe⟩ | ⟨j, o, r, p0, p1, p2, pe⟩ <;> grind [pz_app_ok, pz_app_bad]
  · unfold pz_g6 at q
    rcases q with ⟨j, k, p0, pe⟩ | ⟨j, o, r, p0, p1, pe⟩ <;> grind [pz_app_ok, pz_app_bad]
  · unfold pz_g7 at q
    rcases q with ⟨p0, pe⟩ | ⟨j, k, p0, p1, pe⟩ | ⟨j, o, r, p0, p1, p2, pe⟩ <;> grind [pz_app_ok, pz_app_bad]
  · unfold pz_g8 at q
    rcases q with ⟨j, k, p0, pe⟩ | ⟨j, o, r, p0, p1, pe⟩ <;> grind [pz_app_ok, pz_app_bad]
/-! the lines of THE LAW -/
abbrev pz_lne : Type := Int × (List (Int × Int) × List (Int × Int))
abbrev pz_lres : Type := List pz_lne ⊕ (Int × Nat)
abbrev pz_lres.ok (ls : List pz_lne) : pz_lres := Sum.inl ls
abbrev pz_lres.bad (k : Int) (j : Nat) : pz_lres := Sum.inr (k, j)
def pz_lres.pre (ls : List pz_lne) (r : pz_lres) : pz_lres := match r with
  | .inl l => .inl (ls ++ l)
  | .inr q => .inr q
theorem pz_lpre_nil {r : pz_lres} : r.pre [] = r := by
  rcases r with l | q <;> rfl
theorem pz_lpre_pre {r : pz_lres} {a b : List pz_lne} : (r.pre b).pre a = r.pre (a ++ b) := by
  rcases r with l | q
  · show pz_lres.ok (a ++ (b ++ l)) = .ok ((a ++ b) ++ l)
    rw [List.append_assoc]
  · rfl
def pz_glF (T X : Nat → Int) (P : Nat → Nat → pz_lres → Prop) (n i : Nat) (r : pz_lres) : Prop :=
  (T i = 101 ∧ r = .ok []) ∨
  (T i ≠ 101 ∧ (¬ (0 ≤ T i ∧ T i ≤ 3)) ∧ r = .bad 1 i) ∨
  ((0 ≤ T i ∧ T i ≤ 3) ∧ 16 ≤ n ∧ r = .bad 3 i) ∨
  (∃ j : Nat, ∃ k : Int, (0 ≤ T i ∧ T i ≤ 3) ∧ n < 16 ∧ pz_gr T X 3 0 (i + 1) (.bad k j) ∧ r = .bad k j) ∨
  (∃ j : Nat, ∃ o : List (Int × Int), (0 ≤ T i ∧ T i ≤ 3) ∧ n < 16 ∧ pz_gr T X 3 0 (i + 1) (.ok j o) ∧ T j ≠ 4 ∧ T j ≠ 59 ∧ r = .bad 1 j) ∨
  (∃ j : Nat, ∃ o : List (Int × Int), ∃ r9 : pz_lres, (0 ≤ T i ∧ T i ≤ 3) ∧ n < 16 ∧ pz_gr T X 3 0 (i + 1) (.ok j o) ∧ T j = 59 ∧ P (n + 1) (j + 1) r9 ∧ r = r9.pre [(T i, o, [])]) ∨
  (∃ j : Nat, ∃ l : Nat, ∃ o : List (Int × Int), ∃ k : Int, (0 ≤ T i ∧ T i ≤ 3) ∧ n < 16 ∧ pz_gr T X 3 0 (i + 1) (.ok j o) ∧ T j = 4 ∧ pz_gr T X 8 0 (j + 1) (.bad k l) ∧ r = .bad k l) ∨
  (∃ j : Nat, ∃ l : Nat, ∃ o : List (Int × Int), ∃ p : List (Int × Int), (0 ≤ T i ∧ T i ≤ 3) ∧ n < 16 ∧ pz_gr T X 3 0 (i + 1) (.ok j o) ∧ T j = 4 ∧ pz_gr T X 8 0 (j + 1) (.ok l p) ∧ T l ≠ 59 ∧ r = .bad 1 l) ∨
  (∃ j : Nat, ∃ l : Nat, ∃ o : List (Int × Int), ∃ p : List (Int × Int), ∃ r9 : pz_lres, (0 ≤ T i ∧ T i ≤ 3) ∧ n < 16 ∧ pz_gr T X 3 0 (i + 1) (.ok j o) ∧ T j = 4 ∧ pz_gr T X 8 0 (j + 1) (.ok l p) ∧ T l = 59 ∧ P (n + 1) (l + 1) r9 ∧ r = r9.pre [(T i, o, p)])
theorem pz_glF_mono {T X : Nat → Int} {P Q : Nat → Nat → pz_lres → Prop} (h : ∀ n i r, P n i r → Q n i r) {n i : Nat} {r : pz_lres} (q : pz_glF T X P n i r) : pz_glF T X Q n i r := by
  unfold pz_glF at q ⊢
  rcases q with ⟨p0, pe⟩ | ⟨p0, p1, pe⟩ | ⟨p0, p1, pe⟩ | ⟨j, k, p0, p1, p2, pe⟩ | ⟨j, o, p0, p1, p2, p3, p4, pe⟩ | ⟨j, o, r, p0, p1, p2, p3, p4, pe⟩ | ⟨j, l, o, k, p0, p1, p2, p3, p4, pe⟩ | ⟨j, l, o, p, p0, p1, p2, p3, p4, p5, pe⟩ | ⟨j, l, o, p, r, p0, p1, p2, p3, p4, p5, p6, pe⟩
  · exact Or.inl (⟨p0, pe⟩)
  · exact Or.inr (Or.inl (⟨p0, p1, pe⟩))
  · exact Or.inr (Or.inr (Or.inl (⟨p0, p1, pe⟩)))
  · exact Or.inr (Or.inr (Or.inr (Or.inl (⟨j, k, p0, p1, p2, pe⟩))))
  · exact Or.inr (Or.inr (Or.inr (Or.inr (Or.inl (⟨j, o, p0, p1, p2, p3, p4, pe⟩)))))
  · exact Or.inr (Or.inr (Or.inr (Or.inr (Or.inr (Or.inl (⟨j, o, r, p0, p1, p2, p3, h _ _ _ p4, pe⟩))))))
  · exact Or.inr (Or.inr (Or.inr (Or.inr (Or.inr (Or.inr (Or.inl (⟨j, l, o, k, p0, p1, p2, p3, p4, pe⟩)))))))
  · exact Or.inr (Or.inr (Or.inr (Or.inr (Or.inr (Or.inr (Or.inr (Or.inl (⟨j, l, o, p, p0, p1, p2, p3, p4, p5, pe⟩))))))))
  · exact Or.inr (Or.inr (Or.inr (Or.inr (Or.inr (Or.inr (Or.inr (Or.inr (⟨j, l, o, p, r, p0, p1, p2, p3, p4, p5, h _ _ _ p6, pe⟩))))))))
def pz_gl (T X : Nat → Int) (n i : Nat) (r : pz_lres) : Prop := ∀ P : Nat → Nat → pz_lres → Prop, (∀ n i r, pz_glF T X P n i r → P n i r) → P n i r
theorem pz_gl_roll {T X : Nat → Int} {n i : Nat} {r : pz_lres} (h : pz_glF T X (pz_gl T X) n i r) : pz_gl T X n i r := fun P hP => hP _ _ _ (pz_glF_mono (fun _ _ _ q => q P hP) h)
theorem pz_gl_inv {T X : Nat → Int} {n i : Nat} {r : pz_lres} (h : pz_gl T X n i r) : pz_glF T X (pz_gl T X) n i r := h (pz_glF T X (pz_gl T X)) (fun _ _ _ q => pz_glF_mono (fun _ _ _ => pz_gl_roll) q)
theorem pz_gl.z {T X : Nat → Int} {n i : Nat} : T i = 101 → pz_gl T X n i (.ok []) := fun p0 => pz_gl_roll (Or.inl (⟨p0, rfl⟩))
theorem pz_gl.w {T X : Nat → Int} {n i : Nat} : T i ≠ 101 → (¬ (0 ≤ T i ∧ T i ≤ 3)) → pz_gl T X n i (.bad 1 i) := fun p0 p1 => pz_gl_roll (Or.inr (Or.inl (⟨p0, p1, rfl⟩)))
theorem pz_gl.m {T X : Nat → Int} {n i : Nat} : (0 ≤ T i ∧ T i ≤ 3) → 16 ≤ n → pz_gl T X n i (.bad 3 i) := fun p0 p1 => pz_gl_roll (Or.inr (Or.inr (Or.inl (⟨p0, p1, rfl⟩))))
theorem pz_gl.sb {T X : Nat → Int} {n i : Nat} {j : Nat} {k : Int} : (0 ≤ T i ∧ T i ≤ 3) → n < 16 → pz_gr T X 3 0 (i + 1) (.bad k j) → pz_gl T X n i (.bad k j) := fun p0 p1 p2 => pz_gl_roll (Or.inr (Or.inr (Or.inr (Or.inl (⟨j, k, p0, p1, p2, rfl⟩)))))
theorem pz_gl.n1 {T X : Nat → Int} {n i : Nat} {j : Nat} {o : List (Int × Int)} : (0 ≤ T i ∧ T i ≤ 3) → n < 16 → pz_gr T X 3 0 (i + 1) (.ok j o) → T j ≠ 4 → T j ≠ 59 → pz_gl T X n i (.bad 1 j) := fun p0 p1 p2 p3 p4 => pz_gl_roll (Or.inr (Or.inr (Or.inr (Or.inr (Or.inl (⟨j, o, p0, p1, p2, p3, p4, rfl⟩))))))
theorem pz_gl.s1 {T X : Nat → Int} {n i : Nat} {j : Nat} {o : List (Int × Int)} {r : pz_lres} : (0 ≤ T i ∧ T i ≤ 3) → n < 16 → pz_gr T X 3 0 (i + 1) (.ok j o) → T j = 59 → pz_gl T X (n + 1) (j + 1) r → pz_gl T X n i (r.pre [(T i, o, [])]) := fun p0 p1 p2 p3 p4 => pz_gl_roll (Or.inr (Or.inr (Or.inr (Or.inr (Or.inr (Or.inl (⟨j, o, r, p0, p1, p2, p3, p4, rfl⟩)))))))
theorem pz_gl.wb {T X : Nat → Int} {n i : Nat} {j : Nat} {l : Nat} {o : List (Int × Int)} {k : Int} : (0 ≤ T i ∧ T i ≤ 3) → n < 16 → pz_gr T X 3 0 (i + 1) (.ok j o) → T j = 4 → pz_gr T X 8 0 (j + 1) (.bad k l) → pz_gl T X n i (.bad k l) := fun p0 p1 p2 p3 p4 => pz_gl_roll (Or.inr (Or.inr (Or.inr (Or.inr (Or.inr (Or.inr (Or.inl (⟨j, l, o, k, p0, p1, p2, p3, p4, rfl⟩))))))))
theorem pz_gl.n2 {T X : Nat → Int} {n i : Nat} {j : Nat} {l : Nat} {o : List (Int × Int)} {p : List (Int × Int)} : (0 ≤ T i ∧ T i ≤ 3) → n < 16 → pz_gr T X 3 0 (i + 1) (.ok j o) → T j = 4 → pz_gr T X 8 0 (j + 1) (.ok l p) → T l ≠ 59 → pz_gl T X n i (.bad 1 l) := fun p0 p1 p2 p3 p4 p5 => pz_gl_roll (Or.inr (Or.inr (Or.inr (Or.inr (Or.inr (Or.inr (Or.inr (Or.inl (⟨j, l, o, p, p0, p1, p2, p3, p4, p5, rfl⟩)))))))))
theorem pz_gl.s2 {T X : Nat → Int} {n i : Nat} {j : Nat} {l : Nat} {o : List (Int × Int)} {p : List (Int × Int)} {r : pz_lres} : (0 ≤ T i ∧ T i ≤ 3) → n < 16 → pz_gr T X 3 0 (i + 1) (.ok j o) → T j = 4 → pz_gr T X 8 0 (j + 1) (.ok l p) → T l = 59 → pz_gl T X (n + 1) (l + 1) r → pz_gl T X n i (r.pre [(T i, o, p)]) := fun p0 p1 p2 p3 p4 p5 p6 => pz_gl_roll (Or.inr (Or.inr (Or.inr (Or.inr (Or.inr (Or.inr (Or.inr (Or.inr (⟨j, l, o, p, r, p0, p1, p2, p3, p4, p5, p6, rfl⟩)))))))))
theorem pz_gl_det {c : Nat} {T X T' X' : Nat → Int} (hA : pz_agr c T X T' X') {n i : Nat} {r : pz_lres} (h : pz_gl T X n i r) : i ≤ c → ∀ r', pz_gl T' X' n i r' → r' = r := by
  have D : ∀ {K d i : Nat} {r : pz_res}, pz_gr T X K d i r → i ≤ c → ∀ r', pz_gr T' X' K d i r' → r' = r ∧ ∀ j o, r = .ok j o → j ≤ c := fun h => pz_gr_det hA h
  refine h (fun n i r => i ≤ c → ∀ r', pz_gl T' X' n i r' → r' = r) (fun n i r hF => ?_)
  intro hi r' h'
  have h' := pz_gl_inv h'
  unfold pz_glF at hF h'
  have t := pz_agr_t hA hi
  rcases hF with ⟨p0, pe⟩ | ⟨p0, p1, pe⟩ | ⟨p0, p1, pe⟩ | ⟨j, k, p0, p1, p2, pe⟩ | ⟨j, o, p0, p1, p2, p3, p4, pe⟩ | ⟨j, o, r, p0, p1, p2, p3, p4, pe⟩ | ⟨j, l, o, k, p0, p1, p2, p3, p4, pe⟩ | ⟨j, l, o, p, p0, p1, p2, p3, p4, p5, pe⟩ | ⟨j, l, o, p, r, p0, p1, p2, p3, p4, p5, p6, pe⟩ <;> rcases h' with ⟨s0, se⟩ | ⟨s0, s1, se⟩ | ⟨s0, s1, se⟩ | ⟨js, ks, s0, s1, s2, se⟩ | ⟨js, os, s0, s1, s2, s3, s4, se⟩ | ⟨js, os, rs, s0, s1, s2, s3, s4, se⟩ | ⟨js, ls, os, ks, s0, s1, s2, s3, s4, se⟩ | ⟨js, ls, os, ps, s0, s1, s2, s3, s4, s5, se⟩ | ⟨js, ls, os, ps, rs, s0, s1, s2, s3, s4, s5, s6, se⟩ <;> first | omega | grind [pz_agr_t, pz_agr_lt]
theorem pz_lpre_bad {r : pz_lres} {ls : List pz_lne} {k : Int} {j : Nat} (h : r.pre ls = .bad k j) : r = .bad k j := by
  rcases r with l | ⟨k2, j2⟩
  · exact absurd h (by intro z; cases z)
  · exact h
theorem pz_gl_le {c : Nat} {T X : Nat → Int} (hc : T c = 101) {n i : Nat} {r : pz_lres} (h : pz_gl T X n i r) : i ≤ c → ∀ k j, r = .bad k j → j ≤ c := by
  have L : ∀ i, i ≤ c → T i ≠ 101 → i + 1 ≤ c := fun i hi ht => by
    rcases Nat.lt_or_ge i c with q | q
    · exact q
    · rw [show i = c by omega] at ht
      exact absurd hc ht
  have D : ∀ {K d i : Nat} {r : pz_res}, pz_gr T X K d i r → i ≤ c → (∀ j o, r = .ok j o → j ≤ c) ∧ (∀ k j, r = .bad k j → j ≤ c) := fun h => pz_gr_le hc h
  refine h (fun n i r => i ≤ c → ∀ k j, r = .bad k j → j ≤ c) (fun n i r hF => ?_)
  intro hi k9 j9 h9
  have l := L i hi
  unfold pz_glF at hF
  rcases hF with ⟨p0, pe⟩ | ⟨p0, p1, pe⟩ | ⟨p0, p1, pe⟩ | ⟨j, k, p0, p1, p2, pe⟩ | ⟨j, o, p0, p1, p2, p3, p4, pe⟩ | ⟨j, o, r, p0, p1, p2, p3, p4, pe⟩ | ⟨j, l, o, k, p0, p1, p2, p3, p4, pe⟩ | ⟨j, l, o, p, p0, p1, p2, p3, p4, p5, pe⟩ | ⟨j, l, o, p, r, p0, p1, p2, p3, p4, p5, p6, pe⟩ <;> grind [pz_lpre_bad]
/-- all steps of some lines -/
def pz_catl : List pz_lne → List (Int × Int)
  | [] => []
  | q :: t => (q.2.1 ++ q.2.2) ++ pz_catl t
theorem pz_catl_app {a b : List pz_lne} : pz_catl (a ++ b) = pz_catl a ++ pz_catl b := by
  induction a with
  | nil => rfl
  | cons q a ih =>
    show (q.2.1 ++ q.2.2) ++ pz_catl (a ++ b) = ((q.2.1 ++ q.2.2) ++ pz_catl a) ++ pz_catl b
    rw [ih]
    simp only [List.append_assoc]
theorem pz_catl_one {q : pz_lne} : pz_catl [q] = q.2.1 ++ q.2.2 := List.append_nil _
end
section
/-! the rows of the other TEXTS: what a row is up to where, or which fault where -/
abbrev pz_rw : Type := (Nat × List Int) ⊕ (Int × Nat)
abbrev pz_rws : Type := List (List Int) ⊕ (Int × Nat)
def pz_nd (T : Nat → Int) (t : Int) (i : Nat) (f : pz_rw) : pz_rw := if T i = t then f else .inr (1, i)
def pz_nu (T X : Nat → Int) (lo hi : Int) (i : Nat) (f : Int → pz_rw) : pz_rw := if T i = 100 then (if lo ≤ X i ∧ X i ≤ hi then f (X i) else .inr (2, i)) else .inr (1, i)
theorem pz_nd_y {T : Nat → Int} {t : Int} {i : Nat} {f : pz_rw} (h : T i = t) : pz_nd T t i f = f := if_pos h
theorem pz_nd_n {T : Nat → Int} {t : Int} {i : Nat} {f : pz_rw} (h : T i ≠ t) : pz_nd T t i f = .inr (1, i) := if_neg h
theorem pz_nu_y {T X : Nat → Int} {lo hi : Int} {i : Nat} {f : Int → pz_rw} (h : T i = 100) (h2 : lo ≤ X i ∧ X i ≤ hi) : pz_nu T X lo hi i f = f (X i) := by
  unfold pz_nu
  rw [if_pos h, if_pos h2]
theorem pz_nu_1 {T X : Nat → Int} {lo hi : Int} {i : Nat} {f : Int → pz_rw} (h : T i ≠ 100) : pz_nu T X lo hi i f = .inr (1, i) := if_neg h
theorem pz_nu_2 {T X : Nat → Int} {lo hi : Int} {i : Nat} {f : Int → pz_rw} (h : T i = 100) (h2 : ¬ (lo ≤ X i ∧ X i ≤ hi)) : pz_nu T X lo hi i f = .inr (2, i) := by
  unfold pz_nu
  rw [if_pos h, if_neg h2]
/-- a line of A PLAN from its DAY on; of PHONES from its LINK on; of RECORDS from its DAY on -/
def pz_rq (T X : Nat → Int) (i : Nat) (d w l m : Int) : pz_rw := if w = 18 ∨ w = 20 then pz_nu T X 1 99 i (fun q => .inl (i + 1, [d, w, l, m, q])) else .inl (i, [d, w, l, m, 0])
def pz_rp (n : Int) (T X : Nat → Int) (i : Nat) : pz_rw :=
  pz_nu T X 0 999 (i + 0) (fun d => if 18 ≤ T (i + 1) ∧ T (i + 1) ≤ 21 then pz_nu T X 0 (n - 1) (i + 2) (fun l =>
    if T (i + 1) = 20 then (if T (i + 3) = 100 ∧ X (i + 3) = l then .inr (2, i + 3) else pz_nu T X 0 (n - 1) (i + 3) (fun m => pz_rq T X (i + 4) d (T (i + 1)) l m)) else pz_rq T X (i + 3) d (T (i + 1)) l 0) else .inr (1, i + 1))
def pz_rh (n : Int) (T X : Nat → Int) (i : Nat) : pz_rw :=
  pz_nu T X 0 (n - 1) (i + 0) (fun l => pz_nd T 22 (i + 1) (pz_nu T X 0 240 (i + 2) (fun f => pz_nd T 23 (i + 3) (pz_nu T X (f + 1) 240 (i + 4) (fun t => .inl (i + 5, [l, f, t, 0, 0]))))))
def pz_rd (n : Int) (T X : Nat → Int) (i : Nat) : pz_rw :=
  pz_nu T X 0 999 (i + 0) (fun d => pz_nd T 8 (i + 1) (pz_nu T X 0 (n - 1) (i + 2) (fun l => .inl (i + 3, [d, l, 0, 0, 0]))))
def pz_row (k n : Int) (T X : Nat → Int) (i : Nat) : pz_rw := if k = 1 then pz_rp n T X i else if k = 2 then pz_rh n T X i else pz_rd n T X i
/-- the word that a line begins with -/
def pz_fw (k : Int) : Int := if k = 1 then 17 else if k = 2 then 8 else 13
def pz_pres (ls : List (List Int)) (r : pz_rws) : pz_rws := match r with
  | .inl l => .inl (ls ++ l)
  | .inr q => .inr q
theorem pz_pres_nil {r : pz_rws} : pz_pres [] r = r := by
  rcases r with l | q <;> rfl
theorem pz_pres_pres {a b : List (List Int)} {r : pz_rws} : pz_pres a (pz_pres b r) = pz_pres (a ++ b) r := by
  rcases r with l | q
  · show pz_pres a (.inl (b ++ l)) = .inl ((a ++ b) ++ l)
    rw [List.append_assoc]
    rfl
  · rfl
/-- what a row gives, and what comes behind its ; -/
def pz_gs (T : Nat → Int) (r : pz_rw) (g : Nat → pz_rws) : pz_rws := match r with
  | .inl (j, l) => if T j = 59 then pz_pres [l] (g (j + 1)) else .inr (1, j)
  | .inr q => .inr q
def pz_gw (w : Int) (row : Nat → pz_rw) (T : Nat → Int) : Nat → Nat → pz_rws
  | 0, i => if T i = 101 then .inl [] else if T i = w then .inr (3, i) else .inr (1, i)
  | f + 1, i => if T i = 101 then .inl [] else if T i = w then pz_gs T (row (i + 1)) (pz_gw w row T f) else .inr (1, i)
theorem pz_gw_z {w : Int} {row : Nat → pz_rw} {T : Nat → Int} {f i : Nat} (h : T i = 101) : pz_gw w row T f i = .inl [] := by
  cases f with
  | zero => exact if_pos h
  | succ f => exact if_pos h
theorem pz_gw_w {w : Int} {row : Nat → pz_rw} {T : Nat → Int} {f i : Nat} (h : T i ≠ 101) (h2 : T i ≠ w) : pz_gw w row T f i = .inr (1, i) := by
  cases f with
  | zero =>
    show (if T i = 101 then _ else if T i = w then _ else _) = _
    rw [if_neg h, if_neg h2]
  | succ f =>
    show (if T i = 101 then _ else if T i = w then _ else _) = _
    rw [if_neg h, if_neg h2]
theorem pz_gw_m {w : Int} {row : Nat → pz_rw} {T : Nat → Int} {f i : Nat} (hf : f = 0) (h : T i ≠ 101) (h2 : T i = w) : pz_gw w row T f i = .inr (3, i) := by
  subst hf
  show (if T i = 101 then _ else if T i = w then _ else _) = _
  rw [if_neg h, if_pos h2]
theorem pz_gw_s {w : Int} {row : Nat → pz_rw} {T : Nat → Int} {f g i : Nat} (hf : f = g + 1) (h : T i ≠ 101) (h2 : T i = w) : pz_gw w row T f i = pz_gs T (row (i + 1)) (pz_gw w row T g) := by
  subst hf
  show (if T i = 101 then _ else if T i = w then _ else _) = _
  rw [if_neg h, if_pos h2]
/-! two streams that are one up to the end give one answer -/
theorem pz_nu_det {c i : Nat} {T X T' X' : Nat → Int} {lo hi : Int} {f f' : Int → pz_rw} (hA : pz_agr c T X T' X') (hi9 : i ≤ c) (h : i + 1 ≤ c → ∀ x, f' x = f x) : pz_nu T' X' lo hi i f' = pz_nu T X lo hi i f := by
  have t := pz_agr_t hA hi9
  unfold pz_nu
  rw [t]
  by_cases q : T i = 100
  · rw [if_pos q, if_pos q, pz_agr_x hA hi9 q, h (pz_agr_lt hA hi9 (by first | decide | omega))]
  · rw [if_neg q, if_neg q]
theorem pz_nd_det {c i : Nat} {T X T' X' : Nat → Int} {t : Int} {f f' : pz_rw} (hA : pz_agr c T X T' X') (hi9 : i ≤ c) (ht : t ≠ 101) (h : i + 1 ≤ c → f' = f) : pz_nd T' t i f' = pz_nd T t i f := by
  have e := pz_agr_t hA hi9
  unfold pz_nd
  rw [e]
  by_cases q : T i = t
  · rw [if_pos q, if_pos q, h (pz_agr_lt hA hi9 (by first | decide | omega))]
  · rw [if_neg q, if_neg q]
theorem pz_rq_det {c i : Nat} {T X T' X' : Nat → Int} {d w l m : Int} (hA : pz_agr c T X T' X') (hi9 : i ≤ c) : pz_rq T' X' i d w l m = pz_rq T X i d w l m := by
  unfold pz_rq
  by_cases q : w = 18 ∨ w = 20
  · rw [if_pos q, if_pos q]
    exact pz_nu_det hA hi9 (fun _ _ => rfl)
  · rw [if_neg q, if_neg q]
theorem pz_row_det {c i : Nat} {T X T' X' : Nat → Int} {k n : Int} (hA : pz_agr c T X T' X') (hi9 : i ≤ c) : pz_row k n T' X' i = pz_row k n T X i := by
  have hp : pz_rp n T' X' i = pz_rp n T X i := by
    unfold pz_rp
    refine pz_nu_det hA hi9 (fun h1 d => ?_)
    have t1 := pz_agr_t hA h1
    rw [t1]
    by_cases q : 18 ≤ T (i + 1) ∧ T (i + 1) ≤ 21
    · rw [if_pos q, if_pos q]
      have h2 : i + 2 ≤ c := pz_agr_lt hA h1 (by first | decide | omega)
      refine pz_nu_det hA h2 (fun h3 l => ?_)
      have t3 := pz_agr_t hA h3
      by_cases q2 : T (i + 1) = 20
      · rw [if_pos q2, if_pos q2]
        have e : (T' (i + 3) = 100 ∧ X' (i + 3) = l) ↔ (T (i + 3) = 100 ∧ X (i + 3) = l) := by
          refine ⟨fun z => ?_, fun z => ?_⟩
          · have a : T (i + 3) = 100 := t3.symm.trans z.1
            exact ⟨a, (pz_agr_x hA h3 a).symm.trans z.2⟩
          · exact ⟨t3.trans z.1, (pz_agr_x hA h3 z.1).trans z.2⟩
        by_cases q3 : T (i + 3) = 100 ∧ X (i + 3) = l
        · rw [if_pos q3, if_pos (e.mpr q3)]
        · rw [if_neg q3, if_neg (fun z => q3 (e.mp z))]
          exact pz_nu_det hA h3 (fun h4 m => pz_rq_det hA h4)
      · rw [if_neg q2, if_neg q2]
        exact pz_rq_det hA h3
    · rw [if_neg q, if_neg q]
  have hh : pz_rh n T' X' i = pz_rh n T X i := by
    unfold pz_rh
    refine pz_nu_det hA hi9 (fun h1 l => pz_nd_det hA h1 (by decide) (fun h2 => pz_nu_det hA h2 (fun h3 f => pz_nd_det hA h3 (by decide) (fun h4 => pz_nu_det hA h4 (fun _ _ => rfl)))))
  have hd : pz_rd n T' X' i = pz_rd n T X i := by
    unfold pz_rd
    exact pz_nu_det hA hi9 (fun h1 d => pz_nd_det hA h1 (by decide) (fun h2 => pz_nu_det hA h2 (fun _ _ => rfl)))
  unfold pz_row
  rw [hp, hh, hd]
/-- no place behind the end -/
def pz_rle (c : Nat) (r : pz_rw) : Prop := match r with
  | .inl (j, _) => j ≤ c
  | .inr (_, j) => j ≤ c
theorem pz_nu_le {c i : Nat} {T X : Nat → Int} {lo hi : Int} {f : Int → pz_rw} (hc : T c = 101) (h0 : i ≤ c) (h : i + 1 ≤ c → ∀ x, pz_rle c (f x)) : pz_rle c (pz_nu T X lo hi i f) := by
  unfold pz_nu
  by_cases q : T i = 100
  · rw [if_pos q]
    by_cases q2 : lo ≤ X i ∧ X i ≤ hi
    · rw [if_pos q2]
      refine h ?_ _
      rcases Nat.lt_or_ge i c with z | z
      · exact z
      · rw [show i = c by omega, hc] at q
        omega
    · rw [if_neg q2]
      exact h0
  · rw [if_neg q]
    exact h0
theorem pz_nd_le {c i : Nat} {T : Nat → Int} {t : Int} {f : pz_rw} (hc : T c = 101) (ht : t ≠ 101) (h0 : i ≤ c) (h : i + 1 ≤ c → pz_rle c f) : pz_rle c (pz_nd T t i f) := by
  unfold pz_nd
  by_cases q : T i = t
  · rw [if_pos q]
    refine h ?_
    rcases Nat.lt_or_ge i c with z | z
    · exact z
    · rw [show i = c by omega, hc] at q
      exact absurd q.symm ht
  · rw [if_neg q]
    exact h0
theorem pz_rq_le {c i : Nat} {T X : Nat → Int} {d w l m : Int} (hc : T c = 101) (h0 : i ≤ c) : pz_rle c (pz_rq T X i d w l m) := by
  unfold pz_rq
  by_cases q : w = 18 ∨ w = 20
  · rw [if_pos q]
    exact pz_nu_le hc h0 (fun h1 _ => h1)
  · rw [if_neg q]
    exact h0
theorem pz_row_le {c i : Nat} {T X : Nat → Int} {k n : Int} (hc : T c = 101) (h0 : i ≤ c) : pz_rle c (pz_row k n T X i) := by
  unfold pz_row
  by_cases q : k = 1
  · rw [if_pos q]
    unfold pz_rp
    refine pz_nu_le hc h0 (fun h1 d => ?_)
    by_cases q : 18 ≤ T (i + 1) ∧ T (i + 1) ≤ 21
    · rw [if_pos q]
      have h2 : i + 2 ≤ c := by
        rcases Nat.lt_or_ge (i + 1) c with z | z
        · exact z
        · rw [show i + 1 = c by omega, hc] at q
          omega
      refine pz_nu_le hc h2 (fun h3 l => ?_)
      by_cases q2 : T (i + 1) = 20
      · rw [if_pos q2]
        by_cases q3 : T (i + 3) = 100 ∧ X (i + 3) = l
        · rw [if_pos q3]
          exact h3
        · rw [if_neg q3]
          exact pz_nu_le hc h3 (fun h4 m => pz_rq_le hc h4)
      · rw [if_neg q2]
        exact pz_rq_le hc h3
    · rw [if_neg q]
      exact h1
  · rw [if_neg q]
    by_cases q : k = 2
    · rw [if_pos q]
      unfold pz_rh
      exact pz_nu_le hc h0 (fun h1 l => pz_nd_le hc (by decide) h1 (fun h2 => pz_nu_le hc h2 (fun h3 f => pz_nd_le hc (by decide) h3 (fun h4 => pz_nu_le hc h4 (fun h5 _ => h5)))))
    · rw [if_neg q]
      unfold pz_rd
      exact pz_nu_le hc h0 (fun h1 d => pz_nd_le hc (by decide) h1 (fun h2 => pz_nu_le hc h2 (fun h3 _ => h3)))
theorem pz_fw_ne {k : Int} : pz_fw k ≠ 101 := by
  unfold pz_fw
  repeat' split
  all_goals omega
theorem pz_gw_det {c : Nat} {T X T' X' : Nat → Int} {k n : Int} (hA : pz_agr c T X T' X') : ∀ f i, i ≤ c → pz_gw (pz_fw k) (pz_row k n T' X') T' f i = pz_gw (pz_fw k) (pz_row k n T X) T f i := by
  intro f
  induction f with
  | zero =>
    intro i hi
    show (if T' i = 101 then _ else if T' i = pz_fw k then _ else _) = (if T i = 101 then _ else if T i = pz_fw k then _ else _)
    rw [pz_agr_t hA hi]
  | succ f ih =>
    intro i hi
    show (if T' i = 101 then _ else if T' i = pz_fw k then _ else _) = (if T i = 101 then _ else if T i = pz_fw k then _ else _)
    rw [pz_agr_t hA hi]
    by_cases q : T i = 101
    · rw [if_pos q, if_pos q]
    · rw [if_neg q, if_neg q]
      by_cases q2 : T i = pz_fw k
      · rw [if_pos q2, if_pos q2]
        have h1 := pz_agr_lt hA hi q
        rw [pz_row_det hA h1]
        have l := pz_row_le (X := X) (k := k) (n := n) hA.1 h1
        cases h : pz_row k n T X (i + 1) with
        | inl a =>
          obtain ⟨j, r⟩ := a
          rw [h] at l
          have l : j ≤ c := l
          show (if T' j = 59 then _ else _) = (if T j = 59 then _ else _)
          rw [pz_agr_t hA l]
          by_cases q3 : T j = 59
          · rw [if_pos q3, if_pos q3, ih (j + 1) (pz_agr_lt hA l (by first | decide | omega))]
          · rw [if_neg q3, if_neg q3]
        | inr a => rfl
      · rw [if_neg q2, if_neg q2]
theorem pz_gw_le {c : Nat} {T X : Nat → Int} {k n : Int} (hc : T c = 101) : ∀ f i, i ≤ c → ∀ z j, pz_gw (pz_fw k) (pz_row k n T X) T f i = .inr (z, j) → j ≤ c := by
  intro f
  induction f with
  | zero =>
    intro i hi z j h
    have h : (if T i = 101 then (Sum.inl [] : pz_rws) else if T i = pz_fw k then .inr (3, i) else .inr (1, i)) = .inr (z, j) := h
    split at h
    · cases h
    · split at h
      · cases h; exact hi
      · cases h; exact hi
  | succ f ih =>
    intro i hi z j h
    have h : (if T i = 101 then (Sum.inl [] : pz_rws) else if T i = pz_fw k then pz_gs T (pz_row k n T X (i + 1)) (pz_gw (pz_fw k) (pz_row k n T X) T f) else .inr (1, i)) = .inr (z, j) := h
    split at h
    · cases h
    · rename_i q
      have h1 : i + 1 ≤ c := by
        rcases Nat.lt_or_ge i c with y | y
        · exact y
        · rw [show i = c by omega] at q
          exact absurd hc q
      split at h
      · have l := pz_row_le (X := X) (k := k) (n := n) hc h1
        cases h9 : pz_row k n T X (i + 1) with
        | inl a =>
          obtain ⟨m, r⟩ := a
          rw [h9] at l h
          have l : m ≤ c := l
          have h : (if T m = 59 then pz_pres [r] (pz_gw (pz_fw k) (pz_row k n T X) T f (m + 1)) else .inr (1, m)) = .inr (z, j) := h
          split at h
          · rename_i q3
            have h2 : m + 1 ≤ c := by
              rcases Nat.lt_or_ge m c with y | y
              · exact y
              · rw [show m = c by omega, hc] at q3
                omega
            cases h8 : pz_gw (pz_fw k) (pz_row k n T X) T f (m + 1) with
            | inl a => rw [h8] at h; cases h
            | inr a =>
              rw [h8] at h
              obtain ⟨z2, j2⟩ := a
              cases h
              exact ih (m + 1) h2 _ _ h8
          · cases h; exact l
        | inr a =>
          obtain ⟨z2, j2⟩ := a
          rw [h9] at l h
          cases h
          exact l
      · cases h; exact hi
end
