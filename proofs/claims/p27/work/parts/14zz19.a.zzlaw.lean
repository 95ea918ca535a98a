/-! what a law's steps come to -/
def pv_un (o x t : Int) : Int := if o = 26 then pz_w (t.tdiv x) else pz_w (1 - t)
def pv_bi (o a b : Int) : Int := if o = 23 then pz_w (a + b) else if o = 24 then pz_w (a - b) else if o = 25 then pz_w (a * b) else if o = 27 then (if a < b then 1 else 0) else if o = 28 then (if a = b then 1 else 0) else if o = 29 then (if b < a then 1 else 0) else if o = 31 then (Int32.ofInt a &&& Int32.ofInt b).toInt else (Int32.ofInt a ||| Int32.ofInt b).toInt
def pv_s (F : Int → Int) (q : Int × Int) (st : List Int) : List Int := if q.1 = 0 then q.2 :: st else if q.1 < 10 then F q.1 :: st else if q.1 = 26 ∨ q.1 = 30 then pv_un q.1 q.2 (st.headD 0) :: st.tail else pv_bi q.1 (st.tail.headD 0) (st.headD 0) :: st.tail.tail
def pv_e (F : Int → Int) : List (Int × Int) → List Int → List Int
  | [], st => st
  | q :: o, st => pv_e F o (pv_s F q st)
def pv (F : Int → Int) (o : List (Int × Int)) : Int := (pv_e F o []).headD 0
theorem pv_e_app {F : Int → Int} {o p : List (Int × Int)} : ∀ st, pv_e F (o ++ p) st = pv_e F p (pv_e F o st) := by
  induction o with
  | nil => intro st; rfl
  | cons q o ih => intro st; exact ih _
/-- the steps from a depth on: operands enough, never too deep -/
def pv_2 (o : Int) : Prop := o = 23 ∨ o = 24 ∨ o = 25 ∨ o = 27 ∨ o = 28 ∨ o = 29 ∨ o = 31 ∨ o = 32
def pv_ok : List (Int × Int) → Nat → Prop
  | [], _ => True
  | q :: o, h => (q.1 = 0 ∧ 0 ≤ q.2 ∧ h < 60 ∧ pv_ok o (h + 1)) ∨ (1 ≤ q.1 ∧ q.1 < 10 ∧ h < 60 ∧ pv_ok o (h + 1)) ∨ (q.1 = 26 ∧ 0 < q.2 ∧ 1 ≤ h ∧ h < 60 ∧ pv_ok o h) ∨ (q.1 = 30 ∧ 1 ≤ h ∧ pv_ok o h) ∨ (pv_2 q.1 ∧ 2 ≤ h ∧ pv_ok o (h - 1))
def pv_gv (b : Nat) (o : List (Int × Int)) : Prop := ∀ rest h, h + b ≤ 60 → pv_ok rest (h + 1) → pv_ok (o ++ rest) h
def pv_gb (b : Nat) (o : List (Int × Int)) : Prop := ∀ rest h, h + b ≤ 60 → pv_ok rest (h + 1) → pv_ok (o ++ rest) (h + 1)
theorem pv_gv_le {a c : Nat} {o : List (Int × Int)} (x : pv_gv a o) (h : a ≤ c) : pv_gv c o := fun rest h' hb hr => x rest h' (by omega) hr
theorem pv_gb_0 {c : Nat} : pv_gb c [] := fun _ _ _ hr => hr
theorem pv_gv_b {a b c : Nat} {o p : List (Int × Int)} (x : pv_gv a o) (y : pv_gb b p) (h1 : a ≤ c) (h2 : b ≤ c) : pv_gv c (o ++ p) := fun rest h hb hr => by
  rw [List.append_assoc]
  exact x _ h (by omega) (y rest h (by omega) hr)
theorem pv_gb_v {a b c : Nat} {o p : List (Int × Int)} {t : Int} (x : pv_gv a o) (ht : pv_2 t) (y : pv_gb b p) (h1 : a + 1 ≤ c) (h2 : b ≤ c) : pv_gb c ((o ++ [(t, 0)]) ++ p) := fun rest h hb hr => by
  rw [List.append_assoc, List.append_assoc]
  exact x _ (h + 1) (by omega) (Or.inr (Or.inr (Or.inr (Or.inr ⟨ht, by omega, y rest h (by omega) hr⟩))))
theorem pv_gv_2 {a b c : Nat} {o p : List (Int × Int)} {t : Int} (x : pv_gv a o) (y : pv_gv b p) (ht : pv_2 t) (h1 : a ≤ c) (h2 : b + 1 ≤ c) : pv_gv c (o ++ p ++ [(t, 0)]) := fun rest h hb hr => by
  rw [List.append_assoc, List.append_assoc]
  exact x _ h (by omega) (y _ (h + 1) (by omega) (Or.inr (Or.inr (Or.inr (Or.inr ⟨ht, by omega, hr⟩)))))
theorem pv_gv_n {a c : Nat} {o : List (Int × Int)} (x : pv_gv a o) (h1 : a ≤ c) : pv_gv c (o ++ [(30, 0)]) := fun rest h hb hr => by
  rw [List.append_assoc]
  exact x _ h (by omega) (Or.inr (Or.inr (Or.inr (Or.inl ⟨rfl, by omega, hr⟩))))
theorem pv_gb_d {b c : Nat} {p : List (Int × Int)} {x : Int} (hx : 0 < x) (y : pv_gb b p) (h1 : 2 ≤ c) (h2 : b ≤ c) : pv_gb c ([(26, x)] ++ p) := fun rest h hb hr => Or.inr (Or.inr (Or.inl ⟨rfl, hx, by omega, by omega, y rest h (by omega) hr⟩))
theorem pv_gv_u {T X : Nat → Int} {i j : Nat} {o : List (Int × Int)} (hX : ∀ i, T i = 100 → 0 ≤ X i) (h : pz_uf T X i = .ok j o) : pv_gv 1 o := by
  unfold pz_uf at h
  split at h
  · cases h
    exact fun rest h hb hr => Or.inl ⟨rfl, hX i (by assumption), by omega, hr⟩
  · split at h
    · cases h
      exact fun rest h hb hr => Or.inr (Or.inl ⟨by show 1 ≤ T i - 7; omega, by show T i - 7 < 10; omega, by omega, hr⟩)
    · cases h
/-- one number comes of it; of a test 0 or 1 -/
def pv_vv (t : Prop) (o : List (Int × Int)) : Prop := ∀ F : Int → Int, ∃ z : Int, (t → z = 0 ∨ z = 1) ∧ ∀ st, pv_e F o st = z :: st
def pv_vb (t : Prop) (o : List (Int × Int)) : Prop := ∀ (F : Int → Int) (x : Int), ∃ z : Int, (t → x = 0 ∨ x = 1 → z = 0 ∨ z = 1) ∧ ∀ st, pv_e F o (x :: st) = z :: st
theorem pv_vb_0 {t : Prop} : pv_vb t [] := fun _ x => ⟨x, fun _ h => h, fun _ => rfl⟩
theorem pv_vv_b {t : Prop} {o p : List (Int × Int)} (x : pv_vv t o) (y : pv_vb t p) : pv_vv t (o ++ p) := fun F => by
  obtain ⟨a, a1, a2⟩ := x F
  obtain ⟨b, b1, b2⟩ := y F a
  exact ⟨b, fun q => b1 q (a1 q), fun st => by rw [pv_e_app, a2, b2]⟩
theorem pv_s2 {F : Int → Int} {t a b : Int} {st : List Int} (ht : pv_2 t) : pv_s F (t, 0) (b :: a :: st) = pv_bi t a b :: st := by
  unfold pv_s
  unfold pv_2 at ht
  have e : (t, (0 : Int)).1 = t := rfl
  rw [e, if_neg (by omega), if_neg (by omega), if_neg (by omega)]
  rfl
theorem pv_vb_v {t : Prop} {o p : List (Int × Int)} {u : Int} (hu : pv_2 u) (hb : t → ∀ a b : Int, (a = 0 ∨ a = 1) → (b = 0 ∨ b = 1) → pv_bi u a b = 0 ∨ pv_bi u a b = 1) (x : pv_vv t o) (y : pv_vb t p) : pv_vb t ((o ++ [(u, 0)]) ++ p) := fun F x0 => by
  obtain ⟨a, a1, a2⟩ := x F
  obtain ⟨b, b1, b2⟩ := y F (pv_bi u x0 a)
  refine ⟨b, fun q h => b1 q (hb q x0 a h (a1 q)), fun st => ?_⟩
  rw [pv_e_app, pv_e_app, a2]
  show pv_e F p (pv_s F (u, 0) (a :: x0 :: st)) = _
  rw [pv_s2 hu, b2]
theorem pv_vv_2 {t t' : Prop} {o p : List (Int × Int)} {u : Int} (hu : pv_2 u) (hb : ∀ a b : Int, pv_bi u a b = 0 ∨ pv_bi u a b = 1) (x : pv_vv t o) (y : pv_vv t p) : pv_vv t' (o ++ p ++ [(u, 0)]) := fun F => by
  obtain ⟨a, a1, a2⟩ := x F
  obtain ⟨b, b1, b2⟩ := y F
  refine ⟨pv_bi u a b, fun _ => hb a b, fun st => ?_⟩
  rw [pv_e_app, pv_e_app, a2, b2]
  show pv_s F (u, 0) (b :: a :: st) = _
  rw [pv_s2 hu]
theorem pv_vv_n {t : Prop} {o : List (Int × Int)} (x : pv_vv t o) : pv_vv t (o ++ [(30, 0)]) := fun F => by
  obtain ⟨a, a1, a2⟩ := x F
  refine ⟨pz_w (1 - a), fun q => ?_, fun st => ?_⟩
  · rcases a1 q with h | h <;> rw [h] <;> first | exact Or.inl rfl | exact Or.inr rfl
  · rw [pv_e_app, a2]
    rfl
theorem pv_vb_d {t : Prop} {p : List (Int × Int)} {x : Int} (ht : ¬ t) (y : pv_vb t p) : pv_vb t ([(26, x)] ++ p) := fun F x0 => by
  obtain ⟨b, b1, b2⟩ := y F (pv_un 26 x x0)
  exact ⟨b, fun q => absurd q ht, fun st => b2 st⟩
theorem pv_vv_u {T X : Nat → Int} {i j : Nat} {t : Prop} {o : List (Int × Int)} (ht : ¬ t) (h : pz_uf T X i = .ok j o) : pv_vv t o := by
  unfold pz_uf at h
  split at h
  · cases h
    exact fun F => ⟨X i, fun q => absurd q ht, fun st => rfl⟩
  · split at h
    · cases h
      refine fun F => ⟨F (T i - 7), fun q => absurd q ht, fun st => ?_⟩
      show pv_s F (T i - 7, 0) st = _
      unfold pv_s
      have e : (T i - 7, (0 : Int)).1 = T i - 7 := rfl
      rw [e, if_neg (by omega), if_pos (by omega)]
    · cases h
theorem pv_an {a b : Int} (ha : a = 0 ∨ a = 1) (hb : b = 0 ∨ b = 1) : (pv_bi 31 a b = 0 ∨ pv_bi 31 a b = 1) ∧ (pv_bi 32 a b = 0 ∨ pv_bi 32 a b = 1) := by
  rcases ha with rfl | rfl <;> rcases hb with rfl | rfl <;> decide +kernel
theorem pv_cm3 {u a b : Int} (h : u = 27 ∨ u = 28 ∨ u = 29) : pv_bi u a b = 0 ∨ pv_bi u a b = 1 := by
  unfold pv_bi
  rcases h with rfl | rfl | rfl
  · rw [if_neg (by decide), if_neg (by decide), if_neg (by decide), if_pos rfl]
    split
    · exact Or.inr rfl
    · exact Or.inl rfl
  · rw [if_neg (by decide), if_neg (by decide), if_neg (by decide), if_neg (by decide), if_pos rfl]
    split
    · exact Or.inr rfl
    · exact Or.inl rfl
  · rw [if_neg (by decide), if_neg (by decide), if_neg (by decide), if_neg (by decide), if_neg (by decide), if_pos rfl]
    split
    · exact Or.inr rfl
    · exact Or.inl rfl
theorem pv_op43 {t : Int} (h : t = 43 ∨ t = 45) : pv_2 (pz_op t) := by
  rcases h with rfl | rfl
  · exact Or.inl rfl
  · exact Or.inr (Or.inl rfl)
theorem pv_op60 {t : Int} (h : 60 ≤ t ∧ t ≤ 62) : pz_op t = 27 ∨ pz_op t = 28 ∨ pz_op t = 29 := by
  have h : t = 60 ∨ t = 61 ∨ t = 62 := by omega
  rcases h with rfl | rfl | rfl
  · exact Or.inl rfl
  · exact Or.inr (Or.inl rfl)
  · exact Or.inr (Or.inr rfl)
theorem pv_2c {u : Int} (h : u = 27 ∨ u = 28 ∨ u = 29) : pv_2 u := by unfold pv_2; omega
def pv_q (K d : Nat) (o : List (Int × Int)) : Prop := match K with
  | 0 => pv_gb 2 o ∧ pv_vb False o
  | 1 => pv_gv 2 o ∧ pv_vv False o
  | 2 => pv_gb 3 o ∧ pv_vb False o
  | 3 => pv_gv 3 o ∧ pv_vv False o
  | 4 => pv_gv (4 + 2 * (8 - d)) o ∧ pv_vv True o
  | 5 => pv_gb (5 + 2 * (8 - d)) o ∧ pv_vb True o
  | 6 => pv_gv (5 + 2 * (8 - d)) o ∧ pv_vv True o
  | 7 => pv_gb (6 + 2 * (8 - d)) o ∧ pv_vb True o
  | _ => pv_gv (6 + 2 * (8 - d)) o ∧ pv_vv True o
theorem pv_gr_q {T X : Nat → Int} (hX : ∀ i, T i = 100 → 0 ≤ X i) {K d i : Nat} {r : pz_res} (h : pz_gr T X K d i r) : ∀ j o, r = .ok j o → d ≤ 8 → pv_q K d o := by
  refine h (fun K d i r => ∀ j o, r = .ok j o → d ≤ 8 → pv_q K d o) (fun K d i r hF => ?_)
  intro j9 o9 h9 hd
  unfold pz_grF at hF
  rcases hF with ⟨rfl, q⟩ | ⟨rfl, q⟩ | ⟨rfl, q⟩ | ⟨rfl, q⟩ | ⟨rfl, q⟩ | ⟨rfl, q⟩ | ⟨rfl, q⟩ | ⟨rfl, q⟩ | ⟨rfl, q⟩
  · unfold pz_g0 at q
    rcases q with ⟨p0, p1, pe⟩ | ⟨j, o, r, p0, p1, p2, pe⟩ | ⟨j, k, p0, p1, pe⟩ | ⟨p0, p1, pe⟩ | ⟨p0, p1, p2, pe⟩ | ⟨r, p0, p1, p2, p3, pe⟩
    · rw [pe] at h9
      obtain ⟨x1, x2⟩ := Prod.mk.inj (Sum.inl.inj h9)
      rw [← x2]
      exact ⟨pv_gb_0, pv_vb_0⟩
    · rw [pe] at h9
      obtain ⟨p9, e1, e2⟩ := pz_app_ok h9
      rw [e2]
      have b := p2 _ _ e1 hd
      exact ⟨pv_gb_v (pv_gv_u hX p1) (Or.inr (Or.inr (Or.inl rfl))) b.1 (by omega) (by omega), pv_vb_v (Or.inr (Or.inr (Or.inl rfl))) (fun q => absurd q id) (pv_vv_u id p1) b.2⟩
    · rw [pe] at h9
      cases h9
    · rw [pe] at h9
      cases h9
    · rw [pe] at h9
      cases h9
    · rw [pe] at h9
      obtain ⟨p9, e1, e2⟩ := pz_app_ok h9
      rw [e2]
      have b := p3 _ _ e1 hd
      exact ⟨pv_gb_d (by have := hX _ p1; omega) b.1 (by omega) (by omega), pv_vb_d id b.2⟩
  · unfold pz_g1 at q
    rcases q with ⟨j, k, p0, pe⟩ | ⟨j, o, r, p0, p1, pe⟩
    · rw [pe] at h9
      cases h9
    · rw [pe] at h9
      obtain ⟨p9, e1, e2⟩ := pz_app_ok h9
      rw [e2]
      have b := p1 _ _ e1 hd
      exact ⟨pv_gv_b (pv_gv_u hX p0) b.1 (by omega) (by omega), pv_vv_b (pv_vv_u id p0) b.2⟩
  · unfold pz_g2 at q
    rcases q with ⟨p0, p1, pe⟩ | ⟨j, k, p0, p1, pe⟩ | ⟨j, o, r, p0, p1, p2, pe⟩
    · rw [pe] at h9
      obtain ⟨x1, x2⟩ := Prod.mk.inj (Sum.inl.inj h9)
      rw [← x2]
      exact ⟨pv_gb_0, pv_vb_0⟩
    · rw [pe] at h9
      cases h9
    · rw [pe] at h9
      obtain ⟨p9, e1, e2⟩ := pz_app_ok h9
      rw [e2]
      have a := p1 _ _ rfl hd
      have b := p2 _ _ e1 hd
      exact ⟨pv_gb_v a.1 (pv_op43 p0) b.1 (by omega) (by omega), pv_vb_v (pv_op43 p0) (fun q => absurd q id) a.2 b.2⟩
  · unfold pz_g3 at q
    rcases q with ⟨j, k, p0, pe⟩ | ⟨j, o, r, p0, p1, pe⟩
    · rw [pe] at h9
      cases h9
    · rw [pe] at h9
      obtain ⟨p9, e1, e2⟩ := pz_app_ok h9
      rw [e2]
      have a := p0 _ _ rfl hd
      have b := p1 _ _ e1 hd
      exact ⟨pv_gv_b a.1 b.1 (by omega) (by omega), pv_vv_b a.2 b.2⟩
  · unfold pz_g4 at q
    rcases q with ⟨p0, p1, pe⟩ | ⟨j, k, p0, p1, p2, pe⟩ | ⟨j, o, p0, p1, p2, pe⟩ | ⟨j, k, p0, p1, p2, pe⟩ | ⟨j, o, p0, p1, p2, p3, pe⟩ | ⟨j, o, p0, p1, p2, p3, pe⟩ | ⟨j, k, p0, p1, p2, pe⟩ | ⟨j, o, p0, p1, p2, p3, pe⟩ | ⟨j, l, o, k, p0, p1, p2, p3, p4, pe⟩ | ⟨j, l, o, o', p0, p1, p2, p3, p4, pe⟩
    · rw [pe] at h9
      cases h9
    · rw [pe] at h9
      cases h9
    · rw [pe] at h9
      obtain ⟨x1, x2⟩ := Prod.mk.inj (Sum.inl.inj h9)
      rw [← x2]
      have a := p2 _ _ rfl (by omega)
      exact ⟨pv_gv_n a.1 (by omega), pv_vv_n a.2⟩
    · rw [pe] at h9
      cases h9
    · rw [pe] at h9
      cases h9
    · rw [pe] at h9
      obtain ⟨x1, x2⟩ := Prod.mk.inj (Sum.inl.inj h9)
      rw [← x2]
      have a := p2 _ _ rfl (by omega)
      exact ⟨pv_gv_le a.1 (by omega), a.2⟩
    · rw [pe] at h9
      cases h9
    · rw [pe] at h9
      cases h9
    · rw [pe] at h9
      cases h9
    · rw [pe] at h9
      obtain ⟨x1, x2⟩ := Prod.mk.inj (Sum.inl.inj h9)
      rw [← x2]
      have a := p2 _ _ rfl (by omega)
      have b := p4 _ _ rfl (by omega)
      exact ⟨pv_gv_2 a.1 b.1 (pv_2c (pv_op60 p3)) (by omega) (by omega), pv_vv_2 (pv_2c (pv_op60 p3)) (fun _ _ => pv_cm3 (pv_op60 p3)) a.2 b.2⟩
  · unfold pz_g5 at q
    rcases q with ⟨p0, pe⟩ | ⟨j, k, p0, p1, pe⟩ | ⟨j, o, r, p0, p1, p2, pe⟩
    · rw [pe] at h9
      obtain ⟨x1, x2⟩ := Prod.mk.inj (Sum.inl.inj h9)
      rw [← x2]
      exact ⟨pv_gb_0, pv_vb_0⟩
    · rw [pe] at h9
      cases h9
    · rw [pe] at h9
      obtain ⟨p9, e1, e2⟩ := pz_app_ok h9
      rw [e2]
      have a := p1 _ _ rfl hd
      have b := p2 _ _ e1 hd
      exact ⟨pv_gb_v a.1 (by unfold pv_2; omega) b.1 (by omega) (by omega), pv_vb_v (by unfold pv_2; omega) (fun _ x y h1 h2 => (pv_an h1 h2).1) a.2 b.2⟩
  · unfold pz_g6 at q
    rcases q with ⟨j, k, p0, pe⟩ | ⟨j, o, r, p0, p1, pe⟩
    · rw [pe] at h9
      cases h9
    · rw [pe] at h9
      obtain ⟨p9, e1, e2⟩ := pz_app_ok h9
      rw [e2]
      have a := p0 _ _ rfl hd
      have b := p1 _ _ e1 hd
      exact ⟨pv_gv_b a.1 b.1 (by omega) (by omega), pv_vv_b a.2 b.2⟩
  · unfold pz_g7 at q
    rcases q with ⟨p0, pe⟩ | ⟨j, k, p0, p1, pe⟩ | ⟨j, o, r, p0, p1, p2, pe⟩
    · rw [pe] at h9
      obtain ⟨x1, x2⟩ := Prod.mk.inj (Sum.inl.inj h9)
      rw [← x2]
      exact ⟨pv_gb_0, pv_vb_0⟩
    · rw [pe] at h9
      cases h9
    · rw [pe] at h9
      obtain ⟨p9, e1, e2⟩ := pz_app_ok h9
      rw [e2]
      have a := p1 _ _ rfl hd
      have b := p2 _ _ e1 hd
      exact ⟨pv_gb_v a.1 (by unfold pv_2; omega) b.1 (by omega) (by omega), pv_vb_v (by unfold pv_2; omega) (fun _ x y h1 h2 => (pv_an h1 h2).2) a.2 b.2⟩
  · unfold pz_g8 at q
    rcases q with ⟨j, k, p0, pe⟩ | ⟨j, o, r, p0, p1, pe⟩
    · rw [pe] at h9
      cases h9
    · rw [pe] at h9
      obtain ⟨p9, e1, e2⟩ := pz_app_ok h9
      rw [e2]
      have a := p0 _ _ rfl hd
      have b := p1 _ _ e1 hd
      exact ⟨pv_gv_b a.1 b.1 (by omega) (by omega), pv_vv_b a.2 b.2⟩
/-- a line of THE LAW -/
def pv_ln (q : pz_lne) : Prop := (0 ≤ q.1 ∧ q.1 ≤ 3) ∧ (pv_gv 3 q.2.1 ∧ pv_vv False q.2.1) ∧ (q.2.2 = [] ∨ (pv_gv 22 q.2.2 ∧ pv_vv True q.2.2))
theorem pz_lpre_ok {r : pz_lres} {ls l : List pz_lne} (h : r.pre ls = .ok l) : ∃ l', r = .ok l' ∧ l = ls ++ l' := by
  rcases r with a | ⟨k2, j2⟩
  · exact ⟨a, rfl, (Sum.inl.inj h).symm⟩
  · cases h
theorem pv_gl_q {T X : Nat → Int} (hX : ∀ i, T i = 100 → 0 ≤ X i) {n i : Nat} {r : pz_lres} (h : pz_gl T X n i r) : ∀ ls, r = .ok ls → ∀ q ∈ ls, pv_ln q := by
  refine h (fun n i r => ∀ ls, r = .ok ls → ∀ q ∈ ls, pv_ln q) (fun n i r hF => ?_)
  intro l9 h9
  unfold pz_glF at hF
  rcases hF with ⟨p0, pe⟩ | ⟨p0, p1, pe⟩ | ⟨p0, p1, pe⟩ | ⟨j, k, p0, p1, p2, pe⟩ | ⟨j, o, p0, p1, p2, p3, p4, pe⟩ | ⟨j, o, r, p0, p1, p2, p3, p4, pe⟩ | ⟨j, l, o, k, p0, p1, p2, p3, p4, pe⟩ | ⟨j, l, o, p, p0, p1, p2, p3, p4, p5, pe⟩ | ⟨j, l, o, p, r, p0, p1, p2, p3, p4, p5, p6, pe⟩
  · rw [pe] at h9
    have x := Sum.inl.inj h9
    rw [← x]
    exact fun q hq => absurd hq List.not_mem_nil
  · rw [pe] at h9
    cases h9
  · rw [pe] at h9
    cases h9
  · rw [pe] at h9
    cases h9
  · rw [pe] at h9
    cases h9
  · rw [pe] at h9
    obtain ⟨l, e1, e2⟩ := pz_lpre_ok h9
    rw [e2]
    intro q hq
    rcases List.mem_cons.mp hq with hq | hq
    · rw [hq]
      have a := pv_gr_q hX p2 _ _ rfl (by omega)
      exact ⟨p0, ⟨a.1, a.2⟩, Or.inl rfl⟩
    · exact p4 l e1 q hq
  · rw [pe] at h9
    cases h9
  · rw [pe] at h9
    cases h9
  · rw [pe] at h9
    obtain ⟨l2, e1, e2⟩ := pz_lpre_ok h9
    rw [e2]
    intro q hq
    rcases List.mem_cons.mp hq with hq | hq
    · rw [hq]
      have a := pv_gr_q hX p2 _ _ rfl (by omega)
      have b := pv_gr_q hX p4 _ _ rfl (by omega)
      exact ⟨p0, ⟨a.1, a.2⟩, Or.inr ⟨b.1, b.2⟩⟩
    · exact p6 l2 e1 q hq
/-! the model's pile -/
def pv_at (f : Nat → Int) (s : Nat) (o : List (Int × Int)) : Prop := ∀ k : Nat, k < o.length → f (905 + 2 * (s + k)) = (o.getD k (0, 0)).1 ∧ ((o.getD k (0, 0)).1 = 0 ∨ (o.getD k (0, 0)).1 = 26 → f (905 + (2 * (s + k) + 1)) = (o.getD k (0, 0)).2)
def pv_pl (N : pz_M) (st : List Int) : Prop := ∀ j : Nat, j < st.length → N 68 j = st.getD (st.length - 1 - j) 0
def pv_fm (M : pz_M) (q : Int) : Int := M 69 q.toNat
def pv_in (M : pz_M) (aa bb i t : Int) (N : pz_M) : Prop := ∀ o : List (Int × Int), pv_at (M 60) aa.toNat o → aa + (o.length : Int) = bb → ∃ st : List Int, (st.length : Int) = t ∧ pv_pl N st ∧ pv_e (pv_fm M) (o.drop (i - aa).toNat) st = pv_e (pv_fm M) o []
theorem pv_in_0 {M : pz_M} {aa bb : Int} : pv_in M aa bb aa 0 M := fun o _ _ => ⟨[], rfl, fun j hj => absurd hj (Nat.not_lt_zero _), by rw [show (aa - aa).toNat = 0 by omega]; rfl⟩
theorem pv_dr {o : List (Int × Int)} {k : Nat} (h : k < o.length) : o.drop k = o.getD k (0, 0) :: o.drop (k + 1) := by
  rw [pz_gdE h]
  exact List.drop_eq_getElem_cons h
theorem pv_pl_p {N N' : pz_M} {st : List Int} {t x : Int} (h : pv_pl N st) (ht : (st.length : Int) = t) (e : N' = pz_u N 68 t.toNat x) : pv_pl N' (x :: st) := by
  intro j hj
  have hj : j < st.length + 1 := hj
  show N' 68 j = (x :: st).getD (st.length + 1 - 1 - j) 0
  by_cases c : j = st.length
  · rw [e, pz_ue (by omega), show st.length + 1 - 1 - j = 0 by omega]
    rfl
  · rw [e, pz_une (by omega), h j (by omega), show st.length + 1 - 1 - j = (st.length - 1 - j) + 1 by omega]
    rfl
theorem pv_pl_h {N : pz_M} {a : Int} {st : List Int} (h : pv_pl N (a :: st)) : N 68 st.length = a ∧ pv_pl N st := by
  refine ⟨?_, fun j hj => ?_⟩
  · have x := h st.length (Nat.lt_succ_self _)
    rw [show (a :: st).length - 1 - st.length = 0 by show st.length + 1 - 1 - st.length = 0; omega] at x
    exact x
  · have x := h j (by show j < st.length + 1; omega)
    rw [show (a :: st).length - 1 - j = (st.length - 1 - j) + 1 by show st.length + 1 - 1 - j = _; omega] at x
    exact x
theorem pv_in_p {M N N' : pz_M} {aa bb i i' t t' s v x : Int} (h : pv_in M aa bb i t N) (ha : 0 ≤ aa ∧ aa ≤ i ∧ i < bb) (hs : s = M 60 (905 + (2 * i).toNat)) (hv : v = M 60 (905 + (2 * i + 1).toNat)) (r : 0 ≤ s ∧ s < 10) (hx : x = if s = 0 then v else M 69 s.toNat) (e : N' = pz_u N 68 t.toNat x) (hi : i' = i + 1) (ht : t' = t + 1) : pv_in M aa bb i' t' N' := by
  intro o oa ol
  obtain ⟨st, l, p, q⟩ := h o oa ol
  have k : (i - aa).toNat < o.length := by omega
  have a := oa _ k
  rw [show 905 + 2 * (aa.toNat + (i - aa).toNat) = 905 + (2 * i).toNat by omega, show 905 + (2 * (aa.toNat + (i - aa).toNat) + 1) = 905 + (2 * i + 1).toNat by omega, ← hs, ← hv] at a
  rw [pv_dr k] at q
  refine ⟨x :: st, by rw [ht, ← l]; rfl, pv_pl_p p l e, ?_⟩
  rw [show (i' - aa).toNat = (i - aa).toNat + 1 by omega, ← q]
  show _ = pv_e (pv_fm M) (o.drop ((i - aa).toNat + 1)) (pv_s (pv_fm M) (o.getD (i - aa).toNat (0, 0)) st)
  congr 1
  unfold pv_s
  rw [← a.1]
  by_cases c : s = 0
  · rw [if_pos c, hx, if_pos c, a.2 (Or.inl (a.1.symm.trans c))]
  · rw [if_neg c, if_pos r.2, hx, if_neg c]
    rfl
theorem pv_in_u {M N N' : pz_M} {aa bb i i' t s v x y : Int} (h : pv_in M aa bb i t N) (ha : 0 ≤ aa ∧ aa ≤ i ∧ i < bb) (h1 : 1 ≤ t) (hs : s = M 60 (905 + (2 * i).toNat)) (hv : v = M 60 (905 + (2 * i + 1).toNat)) (r : s = 26 ∨ s = 30) (hx : x = N 68 (t - 1).toNat) (hy : y = pv_un s v x) (e : N' = pz_u N 68 (t - 1).toNat y) (hi : i' = i + 1) : pv_in M aa bb i' t N' := by
  intro o oa ol
  obtain ⟨st, l, p, q⟩ := h o oa ol
  have k : (i - aa).toNat < o.length := by omega
  have a := oa _ k
  rw [show 905 + 2 * (aa.toNat + (i - aa).toNat) = 905 + (2 * i).toNat by omega, show 905 + (2 * (aa.toNat + (i - aa).toNat) + 1) = 905 + (2 * i + 1).toNat by omega, ← hs, ← hv] at a
  rw [pv_dr k] at q
  rcases st with _ | ⟨c, st⟩
  · have l : (0 : Int) = t := l
    omega
  · have l : ((st.length + 1 : Nat) : Int) = t := l
    obtain ⟨p1, p2⟩ := pv_pl_h p
    have ex : x = c := by rw [hx, show (t - 1).toNat = st.length by omega, p1]
    refine ⟨y :: st, l, pv_pl_p p2 (t := t - 1) (by omega) e, ?_⟩
    rw [show (i' - aa).toNat = (i - aa).toNat + 1 by omega, ← q]
    show _ = pv_e (pv_fm M) (o.drop ((i - aa).toNat + 1)) (pv_s (pv_fm M) (o.getD (i - aa).toNat (0, 0)) (c :: st))
    congr 1
    unfold pv_s
    rw [← a.1, if_neg (by omega), if_neg (by omega), if_pos r, hy, ex]
    show pv_un s v c :: st = pv_un s (o.getD (i - aa).toNat (0, 0)).2 c :: st
    rcases r with r | r
    · rw [a.2 (Or.inr (a.1.symm.trans r))]
    · unfold pv_un
      rw [if_neg (by omega), if_neg (by omega)]
theorem pv_in_b {M N N' : pz_M} {aa bb i i' t t' s x y z : Int} (h : pv_in M aa bb i t N) (ha : 0 ≤ aa ∧ aa ≤ i ∧ i < bb) (h1 : 2 ≤ t) (hs : s = M 60 (905 + (2 * i).toNat)) (r : 23 ≤ s ∧ s ≠ 26 ∧ s ≠ 30) (hx : x = N 68 (t' - 1).toNat) (hy : y = N 68 t'.toNat) (hz : z = pv_bi s x y) (e : N' = pz_u N 68 (t' - 1).toNat z) (hi : i' = i + 1) (ht : t' = t - 1) : pv_in M aa bb i' t' N' := by
  intro o oa ol
  obtain ⟨st, l, p, q⟩ := h o oa ol
  have k : (i - aa).toNat < o.length := by omega
  have a := oa _ k
  rw [show 905 + 2 * (aa.toNat + (i - aa).toNat) = 905 + (2 * i).toNat by omega, ← hs] at a
  rw [pv_dr k] at q
  rcases st with _ | ⟨c, _ | ⟨d, st⟩⟩
  · have l : (0 : Int) = t := l
    omega
  · have l : (1 : Int) = t := l
    omega
  · have l : ((st.length + 1 + 1 : Nat) : Int) = t := l
    obtain ⟨p1, p2⟩ := pv_pl_h p
    obtain ⟨p3, p4⟩ := pv_pl_h p2
    have p1 : N 68 (st.length + 1) = c := p1
    have ey : y = c := by rw [hy, show t'.toNat = st.length + 1 by omega, p1]
    have ex : x = d := by rw [hx, show (t' - 1).toNat = st.length by omega, p3]
    refine ⟨z :: st, by show ((st.length + 1 : Nat) : Int) = t'; omega, pv_pl_p p4 (t := t' - 1) (by omega) e, ?_⟩
    rw [show (i' - aa).toNat = (i - aa).toNat + 1 by omega, ← q]
    show _ = pv_e (pv_fm M) (o.drop ((i - aa).toNat + 1)) (pv_s (pv_fm M) (o.getD (i - aa).toNat (0, 0)) (c :: d :: st))
    congr 1
    unfold pv_s
    rw [← a.1, if_neg (by omega), if_neg (by omega), if_neg (by omega), hz, ex, ey]
    rfl
/-- what comesTo answers -/
def pv_cm (M : pz_M) (aa bb v : Int) : Prop := ∀ o : List (Int × Int), pv_at (M 60) aa.toNat o → aa + (o.length : Int) = bb → v = pv (pv_fm M) o
theorem pv_in_z {M N : pz_M} {aa bb v : Int} (h : pv_in M aa bb bb 1 N) (hv : v = N 68 0) : pv_cm M aa bb v := by
  intro o oa ol
  obtain ⟨st, l, p, q⟩ := h o oa ol
  rw [show (bb - aa).toNat = o.length by omega, List.drop_length] at q
  have q : st = pv_e (pv_fm M) o [] := q
  rcases st with _ | ⟨c, _ | ⟨d, st⟩⟩
  · have l : (0 : Int) = 1 := l
    omega
  · have p1 := (pv_pl_h p).1
    have p1 : N 68 0 = c := p1
    unfold pv
    rw [← q, hv, p1]
    rfl
  · have l : ((st.length + 1 + 1 : Nat) : Int) = 1 := l
    omega
/-! the class' codes and its stack -/
def pc_j (t a b : Int) : Int := if t = 43 then pz_w (a + b) else if t = 45 then pz_w (a - b) else if t = 42 then pz_w (a * b) else if t = 47 then (if b = 0 then 0 else pz_w (a.tdiv b)) else if t = 60 then (if a < b then 1 else 0) else if t = 61 then (if a = b then 1 else 0) else if t = 62 then (if b < a then 1 else 0) else if t = 6 then (Int32.ofInt a &&& Int32.ofInt b).toInt else if t = 5 then (Int32.ofInt a ||| Int32.ofInt b).toInt else 0
def pc_s (F : Int → Int) (c : Int) (st : List Int) : List Int := if 0 ≤ c then c :: st else if -17 ≤ c ∧ c ≤ -9 then F (-c - 8) :: st else if c = -8 then pz_w (1 - st.headD 0) :: st.tail else pc_j (-c - 1) (st.tail.headD 0) (st.headD 0) :: st.tail.tail
def pc_e (F : Int → Int) : List Int → List Int → List Int
  | [], st => st
  | c :: cs, st => pc_e F cs (pc_s F c st)
def pc_ok : List Int → Nat → Prop
  | [], _ => True
  | c :: cs, h => (0 ≤ c ∧ h < 62 ∧ pc_ok cs (h + 1)) ∨ (-17 ≤ c ∧ c ≤ -9 ∧ h < 62 ∧ pc_ok cs (h + 1)) ∨ (c = -8 ∧ 1 ≤ h ∧ pc_ok cs h) ∨ ((c < -17 ∨ c = -7 ∨ c = -6) ∧ 2 ≤ h ∧ pc_ok cs (h - 1))
theorem pc_e_app {F : Int → Int} {o p : List Int} : ∀ st, pc_e F (o ++ p) st = pc_e F p (pc_e F o st) := by
  induction o with
  | nil => intro st; rfl
  | cons q o ih => intro st; exact ih _
/-- the code of a sign -/
def pc_o (o : Int) : Int := if o = 23 then -44 else if o = 24 then -46 else if o = 25 then -43 else if o = 27 then -61 else if o = 28 then -62 else if o = 29 then -63 else if o = 30 then -8 else if o = 31 then -7 else -6
theorem pc_fl2 {o x : Int} (h : pv_2 o) : pz_fl1 (o, x) = [pc_o o] := by
  unfold pv_2 at h
  unfold pz_fl1 pc_o
  have e : (o, x).1 = o := rfl
  rw [e, if_neg (by omega), if_neg (by omega), if_neg (by omega)]
theorem pc_o2 {o : Int} (h : pv_2 o) : (pc_o o < -17 ∨ pc_o o = -7 ∨ pc_o o = -6) ∧ ∀ a b, pc_j (-(pc_o o) - 1) a b = pv_bi o a b := by
  unfold pv_2 at h
  rcases h with rfl | rfl | rfl | rfl | rfl | rfl | rfl | rfl
  · exact ⟨by decide, fun _ _ => rfl⟩
  · exact ⟨by decide, fun _ _ => rfl⟩
  · exact ⟨by decide, fun _ _ => rfl⟩
  · exact ⟨by decide, fun _ _ => rfl⟩
  · exact ⟨by decide, fun _ _ => rfl⟩
  · exact ⟨by decide, fun _ _ => rfl⟩
  · exact ⟨by decide, fun _ _ => rfl⟩
  · exact ⟨by decide, fun _ _ => rfl⟩
theorem pc_of {o : List (Int × Int)} : ∀ h, pv_ok o h → pc_ok (pz_fl o) h := by
  induction o with
  | nil => intro h _; trivial
  | cons q o ih =>
    intro h w
    obtain ⟨q1, q2⟩ := q
    show pc_ok (pz_fl1 (q1, q2) ++ pz_fl o) h
    rcases w with ⟨a, b, c, d⟩ | ⟨a, b, c, d⟩ | ⟨a, b, c, c2, d⟩ | ⟨a, b, d⟩ | ⟨a, b, d⟩
    · have a : q1 = 0 := a
      subst a
      exact Or.inl ⟨b, by omega, ih _ d⟩
    · have a : 1 ≤ q1 := a
      have b : q1 < 10 := b
      have e : pz_fl1 (q1, q2) = [-(q1 + 8)] := by
        unfold pz_fl1
        have e : (q1, q2).1 = q1 := rfl
        rw [e, if_neg (by omega), if_pos b]
      rw [e]
      exact Or.inr (Or.inl ⟨by omega, by omega, by omega, ih _ d⟩)
    · have a : q1 = 26 := a
      subst a
      have b : 0 < q2 := b
      exact Or.inl ⟨by omega, by omega, Or.inr (Or.inr (Or.inr ⟨Or.inl (by decide), by omega, ih _ d⟩))⟩
    · have a : q1 = 30 := a
      subst a
      exact Or.inr (Or.inr (Or.inl ⟨rfl, b, ih _ d⟩))
    · have a : pv_2 q1 := a
      rw [pc_fl2 a]
      exact Or.inr (Or.inr (Or.inr ⟨(pc_o2 a).1, b, ih _ d⟩))
theorem pc_ev {F : Int → Int} {o : List (Int × Int)} : ∀ h (st : List Int), pv_ok o h → st.length = h → pc_e F (pz_fl o) st = pv_e F o st := by
  induction o with
  | nil => intro h st _ _; rfl
  | cons q o ih =>
    intro h st w l
    obtain ⟨q1, q2⟩ := q
    show pc_e F (pz_fl1 (q1, q2) ++ pz_fl o) st = pv_e F o (pv_s F (q1, q2) st)
    rw [pc_e_app]
    rcases w with ⟨a, b, c, d⟩ | ⟨a, b, c, d⟩ | ⟨a, b, c, c2, d⟩ | ⟨a, b, d⟩ | ⟨a, b, d⟩
    · have a : q1 = 0 := a
      subst a
      have b : 0 ≤ q2 := b
      have e : pc_e F (pz_fl1 (0, q2)) st = q2 :: st := if_pos b
      rw [e]
      exact ih _ _ d (by show st.length + 1 = h + 1; omega)
    · have a : 1 ≤ q1 := a
      have b : q1 < 10 := b
      have e : pz_fl1 (q1, q2) = [-(q1 + 8)] := by
        unfold pz_fl1
        have e : (q1, q2).1 = q1 := rfl
        rw [e, if_neg (by omega), if_pos b]
      have e2 : pc_e F [-(q1 + 8)] st = F q1 :: st := by
        show pc_s F (-(q1 + 8)) st = _
        unfold pc_s
        rw [if_neg (by omega), if_pos (by omega), show -(-(q1 + 8)) - 8 = q1 by omega]
      have e3 : pv_s F (q1, q2) st = F q1 :: st := by
        unfold pv_s
        have e : (q1, q2).1 = q1 := rfl
        rw [e, if_neg (by omega), if_pos b]
      rw [e, e2, e3]
      exact ih _ _ d (by show st.length + 1 = h + 1; omega)
    · have a : q1 = 26 := a
      subst a
      have b : 0 < q2 := b
      rcases st with _ | ⟨x, st⟩
      · have l : 0 = h := l
        omega
      · have e : pc_e F (pz_fl1 (26, q2)) (x :: st) = pv_s F (26, q2) (x :: st) := by
          show pc_s F (-48) (pc_s F q2 (x :: st)) = _
          have e1 : pc_s F q2 (x :: st) = q2 :: x :: st := if_pos (by omega)
          rw [e1]
          show (if q2 = 0 then 0 else pz_w (x.tdiv q2)) :: st = pz_w (x.tdiv q2) :: st
          rw [if_neg (by omega)]
        rw [e]
        exact ih _ _ d l
    · have a : q1 = 30 := a
      subst a
      rcases st with _ | ⟨x, st⟩
      · have l : 0 = h := l
        omega
      · exact ih _ _ d l
    · have a : pv_2 q1 := a
      rcases st with _ | ⟨x, _ | ⟨y, st⟩⟩
      · have l : 0 = h := l
        omega
      · have l : 1 = h := l
        omega
      · have l : st.length + 1 + 1 = h := l
        have e : pc_e F (pz_fl1 (q1, q2)) (x :: y :: st) = pv_bi q1 y x :: st := by
          rw [pc_fl2 a]
          obtain ⟨c1, c2⟩ := pc_o2 a
          show pc_s F (pc_o q1) (x :: y :: st) = _
          unfold pc_s
          rw [if_neg (by omega), if_neg (by omega), if_neg (by omega)]
          show pc_j (-(pc_o q1) - 1) y x :: st = _
          rw [c2]
        have e2 : pv_s F (q1, q2) (x :: y :: st) = pv_bi q1 y x :: st := by
          unfold pv_2 at a
          unfold pv_s
          have e : (q1, q2).1 = q1 := rfl
          rw [e, if_neg (by omega), if_neg (by omega), if_neg (by omega)]
          rfl
        rw [e, e2]
        exact ih _ _ d (by show st.length + 1 = h - 1; omega)
theorem pc_val {F : Int → Int} {o : List (Int × Int)} (h : pv_ok o 0) : (pc_e F (pz_fl o) []).headD 0 = pv F o := by
  rw [pc_ev 0 [] h rfl]
  rfl
def pc_pl (k : Nat) (N : pz_M) (st : List Int) : Prop := ∀ j : Nat, j < st.length → N k j = st.getD (st.length - 1 - j) 0
def pc_at (f : Nat → Int) (s : Nat) (cs : List Int) : Prop := ∀ k : Nat, k < cs.length → f (s + k) = cs.getD k 0
/-- the state of the class' loop: code array a, stack k, from p to q, at i with t on the stack -/
def pc_in (F : Int → Int) (M : pz_M) (a k : Nat) (p q i t : Int) (N : pz_M) : Prop := ∀ cs : List Int, pc_at (M a) p.toNat cs → p + (cs.length : Int) = q → pc_ok cs 0 → ∃ st : List Int, (st.length : Int) = t ∧ pc_pl k N st ∧ pc_e F (cs.drop (i - p).toNat) st = pc_e F cs [] ∧ pc_ok (cs.drop (i - p).toNat) st.length
theorem pc_in_0 {F : Int → Int} {M : pz_M} {a k : Nat} {p q : Int} : pc_in F M a k p q p 0 M := fun o _ _ w => ⟨[], rfl, fun j hj => absurd hj (Nat.not_lt_zero _), by rw [show (p - p).toNat = 0 by omega]; rfl, by rw [show (p - p).toNat = 0 by omega]; exact w⟩
theorem pc_dr {o : List Int} {k : Nat} (h : k < o.length) : o.drop k = o.getD k 0 :: o.drop (k + 1) := by
  rw [pz_gdE h]
  exact List.drop_eq_getElem_cons h
theorem pc_pl_p {k : Nat} {N N' : pz_M} {st : List Int} {t x : Int} (h : pc_pl k N st) (ht : (st.length : Int) = t) (e : N' = pz_u N k t.toNat x) : pc_pl k N' (x :: st) := by
  intro j hj
  have hj : j < st.length + 1 := hj
  show N' k j = (x :: st).getD (st.length + 1 - 1 - j) 0
  by_cases c : j = st.length
  · rw [e, pz_ue (by omega), show st.length + 1 - 1 - j = 0 by omega]
    rfl
  · rw [e, pz_une (by omega), h j (by omega), show st.length + 1 - 1 - j = (st.length - 1 - j) + 1 by omega]
    rfl
theorem pc_pl_h {k : Nat} {N : pz_M} {a : Int} {st : List Int} (h : pc_pl k N (a :: st)) : N k st.length = a ∧ pc_pl k N st := by
  refine ⟨?_, fun j hj => ?_⟩
  · have x := h st.length (Nat.lt_succ_self _)
    rw [show (a :: st).length - 1 - st.length = 0 by show st.length + 1 - 1 - st.length = 0; omega] at x
    exact x
  · have x := h j (by show j < st.length + 1; omega)
    rw [show (a :: st).length - 1 - j = (st.length - 1 - j) + 1 by show st.length + 1 - 1 - j = _; omega] at x
    exact x
/-- one code more: what the class does with it -/
theorem pc_in_s {F : Int → Int} {M N N' : pz_M} {a k : Nat} {p q i i' t t' c : Int} (h : pc_in F M a k p q i t N) (hp : 0 ≤ p ∧ p ≤ i ∧ i < q) (hc : c = M a i.toNat) (hi : i' = i + 1)
    (d : (0 ≤ c ∧ t < 62 → t' = t + 1 ∧ N' = pz_u N k t.toNat c) ∧ (-17 ≤ c ∧ c ≤ -9 ∧ t < 62 → t' = t + 1 ∧ N' = pz_u N k t.toNat (F (-c - 8))) ∧ (c = -8 ∧ 1 ≤ t → t' = t ∧ N' = pz_u N k (t - 1).toNat (pz_w (1 - N k (t - 1).toNat))) ∧ ((c < -17 ∨ c = -7 ∨ c = -6) ∧ 2 ≤ t → t' = t - 1 ∧ N' = pz_u N k (t - 2).toNat (pc_j (-c - 1) (N k (t - 2).toNat) (N k (t - 1).toNat)))) : pc_in F M a k p q i' t' N' := by
  intro cs ca cl w
  obtain ⟨st, l, pl, e, ok⟩ := h cs ca cl w
  have kk : (i - p).toNat < cs.length := by omega
  have x := ca _ kk
  rw [show p.toNat + (i - p).toNat = i.toNat by omega, ← hc] at x
  rw [pc_dr kk, ← x] at e ok
  rw [show (i' - p).toNat = (i - p).toNat + 1 by omega, ← e]
  obtain ⟨d1, d2, d3, d4⟩ := d
  rcases ok with ⟨o1, o2, o3⟩ | ⟨o1, o2, o3, o4⟩ | ⟨o1, o2, o3⟩ | ⟨o1, o2, o3⟩
  · obtain ⟨t1, t2⟩ := d1 ⟨o1, by omega⟩
    have s : pc_s F c st = c :: st := if_pos o1
    exact ⟨c :: st, by rw [t1, ← l]; rfl, pc_pl_p pl l t2, by show pc_e F _ _ = pc_e F _ (pc_s F c st); rw [s], o3⟩
  · obtain ⟨t1, t2⟩ := d2 ⟨o1, o2, by omega⟩
    have s : pc_s F c st = F (-c - 8) :: st := by
      unfold pc_s
      rw [if_neg (by omega), if_pos ⟨o1, o2⟩]
    exact ⟨F (-c - 8) :: st, by rw [t1, ← l]; rfl, pc_pl_p pl l t2, by show pc_e F _ _ = pc_e F _ (pc_s F c st); rw [s], o4⟩
  · obtain ⟨t1, t2⟩ := d3 ⟨o1, by omega⟩
    rcases st with _ | ⟨u, st⟩
    · have o2 : 1 ≤ 0 := o2
      omega
    · have l : ((st.length + 1 : Nat) : Int) = t := l
      obtain ⟨p1, p2⟩ := pc_pl_h pl
      rw [show (t - 1).toNat = st.length by omega, p1] at t2
      have s : pc_s F c (u :: st) = pz_w (1 - u) :: st := by
        unfold pc_s
        rw [if_neg (by omega), if_neg (by omega), if_pos o1]
        rfl
      exact ⟨pz_w (1 - u) :: st, by rw [t1, ← l]; rfl, pc_pl_p p2 (t := (st.length : Int)) rfl (by rw [t2]; rfl), by show pc_e F _ _ = pc_e F _ (pc_s F c (u :: st)); rw [s], o3⟩
  · obtain ⟨t1, t2⟩ := d4 ⟨o1, by omega⟩
    rcases st with _ | ⟨u, _ | ⟨y, st⟩⟩
    · have o2 : 2 ≤ 0 := o2
      omega
    · have o2 : 2 ≤ 1 := o2
      omega
    · have l : ((st.length + 1 + 1 : Nat) : Int) = t := l
      obtain ⟨p1, p2⟩ := pc_pl_h pl
      obtain ⟨p3, p4⟩ := pc_pl_h p2
      have p1 : N k (st.length + 1) = u := p1
      rw [show (t - 2).toNat = st.length by omega, show (t - 1).toNat = st.length + 1 by omega, p1, p3] at t2
      have s : pc_s F c (u :: y :: st) = pc_j (-c - 1) y u :: st := by
        unfold pc_s
        rw [if_neg (by omega), if_neg (by omega), if_neg (by omega)]
        rfl
      have o3 : pc_ok (cs.drop ((i - p).toNat + 1)) (st.length + 1 + 1 - 1) := o3
      exact ⟨pc_j (-c - 1) y u :: st, by show ((st.length + 1 : Nat) : Int) = t'; omega, pc_pl_p p4 (t := (st.length : Int)) rfl (by rw [t2]; rfl), by show pc_e F _ _ = pc_e F _ (pc_s F c (u :: y :: st)); rw [s], o3⟩
/-- what worked answers -/
def pc_wk (F : Int → Int) (M : pz_M) (g : Nat) (p q v : Int) : Prop := ∀ cs : List Int, pc_at (M (pz_lb3 g + 4)) p.toNat cs → p + (cs.length : Int) = q → 0 ≤ p → q ≤ M g 1 → pc_ok cs 0 → v = (pc_e F cs []).headD 0
theorem pc_in_z {F : Int → Int} {M N : pz_M} {g k : Nat} {p q t v : Int} (h : pc_in F M (pz_lb3 g + 4) k p q q t N) (hv : (0 < t → v = N k (t - 1).toNat) ∧ (t ≤ 0 → v = 0)) : pc_wk F M g p q v := by
  intro cs ca cl p0 q1 w
  obtain ⟨st, l, pl, e, ok⟩ := h cs ca cl w
  rw [show (q - p).toNat = cs.length by omega, List.drop_length] at e
  have e : st = pc_e F cs [] := e
  rw [← e]
  rcases st with _ | ⟨u, st⟩
  · have l : (0 : Int) = t := l
    exact hv.2 (by omega)
  · have l : ((st.length + 1 : Nat) : Int) = t := l
    rw [hv.1 (by omega), show (t - 1).toNat = st.length by omega, (pc_pl_h pl).1]
    rfl
