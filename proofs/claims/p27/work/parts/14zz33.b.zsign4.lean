/-! the law's relation with what is kept of SIGNS -/
def sg_pf (M : pz_M) : Nat → Int := fun i => M 60 (105 + 2 * i)
def sg_pg (M : pz_M) : Nat → Int := fun i => M 60 (106 + 2 * i)
def sg_K (M : pz_M) : Prop := M 7 0 ≠ 0 → sg_tc M (sg_pf M) (sg_pg M) (M 71 3)
def pz_RP (M : pz_M) : Prop := pz_RZ M ∧ sg_K M
def sg_kb (b j : Nat) : Prop := b = 7 ∨ b = 58 ∨ (b = 71 ∧ j = 3) ∨ (b = 60 ∧ 105 ≤ j ∧ j < 129)
theorem sg_tc_cg {M N : pz_M} {f g : Nat → Int} {n : Int} (h : sg_tc M f g n) (e7 : ∀ j, N 7 j = M 7 j) (e8 : ∀ j, N 58 j = M 58 j) : sg_tc N f g n := by
  have o : sg_on N = sg_on M := funext fun q => by
    unfold sg_on
    rw [e8]
  unfold sg_tc at h ⊢
  rw [e7, e7, e7, o]
  obtain ⟨h1, h2, h3, h4⟩ := h
  refine ⟨h1, h2, h3, fun y => ⟨fun q hq => ?_, (h4 y).2⟩⟩
  rw [e8]
  exact (h4 y).1 q hq
theorem sg_ok_cg {f g f' g' : Nat → Int} {B : Int} : ∀ (l : List Nat) (t : Int) (s : Nat → Bool), (∀ i, s i = true → f' i = f i ∧ g' i = g i) → sg_ok f g B t s l → sg_ok f' g' B t s l := by
  intro l
  induction l with
  | nil => exact fun t s _ z => z
  | cons i l ih =>
    intro t s e z
    obtain ⟨z1, z2, z3⟩ := z
    have d : sg_d f' t i = sg_d f t i := by
      unfold sg_d
      rw [(e i z1).1]
    refine ⟨z1, by rw [d, (e i z1).2]; exact z2, ?_⟩
    rw [d]
    exact ih _ _ (fun k hk => e k (sg_rm_t.mp hk).1) z3
theorem sg_fe_cg {f g f' g' : Nat → Int} {B t : Int} {s : Nat → Bool} (e : ∀ i, s i = true → f' i = f i ∧ g' i = g i) : sg_fe f g B t s ↔ sg_fe f' g' B t s := by
  constructor
  · rintro ⟨l, z⟩
    exact ⟨l, sg_ok_cg l t s e z⟩
  · rintro ⟨l, z⟩
    exact ⟨l, sg_ok_cg l t s (fun i hi => ⟨(e i hi).1.symm, (e i hi).2.symm⟩) z⟩
theorem sg_K_cg {M N : pz_M} (h : sg_K M) (e : ∀ b j : Nat, b = 7 ∨ b = 58 ∨ (b = 71 ∧ j = 3) → N b j = M b j) (e2 : ∀ j : Nat, 105 ≤ j → N 60 j = M 60 j ∨ 129 ≤ j) (hn : M 71 3 ≤ 12) : sg_K N := fun y => by
  rw [e 7 0 (Or.inl rfl)] at y
  rw [e 71 3 (by omega)]
  have h := sg_tc_cg (N := N) (h y) (fun j => e 7 j (Or.inl rfl)) (fun j => e 58 j (by omega))
  have c : ∀ i : Nat, i < (M 71 3).toNat → sg_pf N i = sg_pf M i ∧ sg_pg N i = sg_pg M i := fun i hi => by
    unfold sg_pf sg_pg
    exact ⟨(e2 _ (by omega)).resolve_right (by omega), (e2 _ (by omega)).resolve_right (by omega)⟩
  obtain ⟨h1, h2, h3, h4⟩ := h
  have fS : ∀ B, sg_fe (sg_pf M) (sg_pg M) B 0 (sg_S (M 71 3).toNat) ↔ sg_fe (sg_pf N) (sg_pg N) B 0 (sg_S (M 71 3).toNat) := fun B => sg_fe_cg (fun i hi => c i (sg_S_t.mp hi))
  have fk : ∀ (k : Nat), k < 2 ^ (M 71 3).toNat → ∀ B, sg_fe (sg_pf M) (sg_pg M) B 0 (sg_bt k) ↔ sg_fe (sg_pf N) (sg_pg N) B 0 (sg_bt k) := fun k hk B => sg_fe_cg (fun i hi => c i (sg_bt_n hk hi))
  refine ⟨h1, ⟨h2.1, fun B => (fS B).symm.trans (h2.2 B)⟩, ?_, fun z => ?_⟩
  · obtain ⟨⟨k, k1, ⟨B, k2⟩, k3⟩, k4⟩ := h3
    refine ⟨⟨k, k1, ⟨B, (fk k k1 B).mp k2⟩, k3⟩, fun l l1 l2 => ?_⟩
    obtain ⟨B', l2⟩ := l2
    exact k4 l l1 ⟨B', (fk l l1 B').mpr l2⟩
  · obtain ⟨z1, z2⟩ := h4 z
    refine ⟨z1, ?_⟩
    have tm : ∀ p, p ≤ (M 71 3).toNat → sg_tm (sg_pf N) (sg_on N) p = sg_tm (sg_pf M) (sg_on N) p := by
      intro p
      induction p with
      | zero => exact fun _ => rfl
      | succ p ih =>
        intro hp
        have l := sg_rs_t p (z2 p (by omega)).1.1
        show sg_d (sg_pf N) (sg_tm (sg_pf N) (sg_on N) p) (sg_on N p) = sg_d (sg_pf M) (sg_tm (sg_pf M) (sg_on N) p) (sg_on N p)
        rw [ih (by omega)]
        unfold sg_d
        rw [(c _ l).1]
    have nq : ∀ (t E : Int) (s : Nat → Bool) (i : Nat), (∀ k, s k = true → k < (M 71 3).toNat) → (sg_nq (sg_pf N) (sg_pg N) E t s i ↔ sg_nq (sg_pf M) (sg_pg M) E t s i) := fun t E s i hs => by
      have u : s i = true → sg_d (sg_pf N) t i = sg_d (sg_pf M) t i := fun si => by
        unfold sg_d
        rw [(c i (hs i si)).1]
      have v : sg_fe (sg_pf M) (sg_pg M) E (sg_d (sg_pf M) t i) (sg_rm s i) ↔ sg_fe (sg_pf N) (sg_pg N) E (sg_d (sg_pf M) t i) (sg_rm s i) := sg_fe_cg (fun k hk => c k (hs k (sg_rm_t.mp hk).1))
      constructor
      · rintro ⟨x1, x2, x3⟩
        rw [u x1] at x2 x3
        rw [(c i (hs i x1)).2] at x2
        exact ⟨x1, x2, v.mpr x3⟩
      · rintro ⟨x1, x2, x3⟩
        refine ⟨x1, ?_, ?_⟩
        · rw [u x1, (c i (hs i x1)).2]
          exact x2
        · rw [u x1]
          exact v.mp x3
    intro q hq
    have w := z2 q hq
    rw [tm q (by omega)]
    exact ⟨(nq _ _ _ _ (fun k hk => sg_rs_t q hk)).mpr w.1, fun j hj y9 => w.2 j hj ((nq _ _ _ _ (fun k hk => sg_rs_t q hk)).mp y9)⟩
theorem sg_hn {M : pz_M} (hI : pz_ic M) : 0 ≤ M 71 3 ∧ M 71 3 ≤ 12 := by
  have i := hI.1 71 (by omega) (by omega)
  omega
theorem pz_RP_k {M N : pz_M} (hI : pz_ic M) (h : pz_RP M) (hs : pq_pr pq_Pk M N) : pz_RP N := ⟨pz_RZ_k hI h.1 hs, sg_K_cg h.2 (fun b j y => hs.2 b j (by unfold pq_Pk pq_Pw; omega)) (fun j _ => Or.inl (hs.2 60 j (by unfold pq_Pk pq_Pw; omega))) (sg_hn hI).2⟩
theorem pz_RP_v {M N : pz_M} (hI : pz_ic M) (h : pz_RP M) (hs : pz_rl pz_QV M N) : pz_RP N := ⟨pz_RZ_v h.1 hs, sg_K_cg h.2 (fun b j y => hs.2 b j (by unfold pz_QV; omega)) (fun j _ => Or.inl (hs.2 60 j (by unfold pz_QV; omega))) (sg_hn hI).2⟩
/-- both sides of a call: what the class' one leaves, what the model's one leaves -/
theorem sg_K_2 {M M1 M2 : pz_M} (hI : pz_ic M) (h : sg_K M) (e1 : ∀ b j : Nat, b = 7 ∨ b = 58 ∨ (b = 71 ∧ j = 3) ∨ b = 60 → M1 b j = M b j) (e2 : ∀ b j : Nat, b = 7 ∨ b = 58 ∨ b = 71 ∨ (b = 60 ∧ 105 ≤ j ∧ j < 129) → M2 b j = M1 b j) : sg_K M2 := sg_K_cg h (fun b j y => (e2 b j (by omega)).trans (e1 b j (by omega))) (fun j y => by
  by_cases q : 129 ≤ j
  · exact Or.inr q
  · exact Or.inl ((e2 60 j (by omega)).trans (e1 60 j (by omega)))) (sg_hn hI).2
theorem sg_QX {M M1 : pz_M} (z : pz_rl pz_QX M M1) : ∀ b j : Nat, b = 7 ∨ b = 58 ∨ b = 71 ∨ (b = 60 ∧ 105 ≤ j ∧ j < 129) → M1 b j = M b j := fun b j y => z.2 b j (by unfold pz_QX; omega)
theorem pz_RP_feed {M M1 M2 : pz_M} {p q w s u v v' : Int} (hI : pz_ic M) (hR : pz_RP M) (h : (M 4 1 + 20 ≤ 400 ∧ v = M 4 1 + 20 ∧ M1 4 1 = M 4 1 + 20 ∧ pz_fb M M1 p q w s u) ∨ (¬ M 4 1 + 20 ≤ 400 ∧ v = -1 ∧ M1 = M)) (z : pq_pr pq_Pf M M1)
    (h' : (M1 1 16 + 20 ≤ 400 ∧ v' = M1 1 16 + 20 ∧ M2 1 16 = M1 1 16 + 20 ∧ pz_fm M1 M2 20 p q w s u) ∨ (¬ M1 1 16 + 20 ≤ 400 ∧ v' = -1 ∧ M2 = M1)) (z' : pz_rl pz_QF M1 M2) : v = v' ∧ pz_RP M2 := by
  obtain ⟨e, r⟩ := pz_RZ_feed hI hR.1 h z h' z'
  exact ⟨e, r, sg_K_2 hI hR.2 (fun b j y => z.2 b j (by unfold pq_Pf; omega)) (fun b j y => z'.2 b j (by unfold pz_QF; omega))⟩
theorem pz_RP_end {M M1 M2 : pz_M} {n v v' : Int} (hI : pz_ic M) (hR : pz_RP M) (h : if 0 ≤ n ∧ n ≤ M 4 1 then v = 1 ∧ M1 4 1 = n else v = 0 ∧ M1 4 1 = M 4 1) (z : pq_pr pq_Pe M M1) (h' : if 0 ≤ n ∧ n ≤ M1 1 16 then v' = 1 ∧ M2 1 16 = n else v' = 0 ∧ M2 1 16 = M1 1 16) (z' : pz_rl pz_QN M1 M2) : v = v' ∧ pz_RP M2 := by
  obtain ⟨e, r⟩ := pz_RZ_end hI hR.1 h z h' z'
  exact ⟨e, r, sg_K_2 hI hR.2 (fun b j y => z.2 b j (by unfold pq_Pe; omega)) (fun b j y => z'.2 b j (by unfold pz_QN; omega))⟩
theorem sg_kf_o {M : pz_M} (hI : pz_ic M) {b j : Nat} (y : b = 7 ∨ b = 58 ∨ (b = 71 ∧ j = 3) ∨ b = 60) : pz_kf M b j = M b j := sd_kf_o hI (by omega)
theorem pz_RP_deed {M M1 M2 : pz_M} {v v' d : Int} {P : (Nat → Int) → Prop} {A : List pz_lne → (Nat → Int) → Int} {g : List pz_lne → (Nat → Int) → (Nat → Int)} (hI : pz_ic M) (h : pz_RP M) (q : sd_da M M1 v d P A g) (z : pz_sW M M1) (q' : sd_ma M1 M2 v' d P A g) (z' : pz_rl pz_QX M1 M2) : v = v' ∧ pz_RP M2 := by
  obtain ⟨e, r⟩ := pz_RZ_deed hI h.1 q z q' z'
  refine ⟨e, r, sg_K_2 hI h.2 (fun b j y => ?_) (sg_QX z')⟩
  obtain ⟨h1, ⟨h2, h3, h4⟩, -⟩ := h.1.2
  obtain ⟨a1, a2⟩ := q (M 60) h2 h4
  by_cases hp : P (M 60)
  · exact ((a2 hp).1.2 b j (by unfold pq_Pd pq_Pw pz_lb; omega)).trans (sg_kf_o hI y)
  · rw [(a1 hp).2]
theorem pz_RP_days {M M1 M2 : pz_M} {n v v' : Int} (hI : pz_ic M) (h : pz_RP M) (q : sd_dc M M1 n v) (z : pz_sW M M1) (q' : sd_dm M1 M2 n v') (z' : pz_rl pz_QX M1 M2) : v = v' ∧ pz_RP M2 := by
  obtain ⟨e, r⟩ := pz_RZ_days hI h.1 q z q' z'
  refine ⟨e, r, sg_K_2 hI h.2 (fun b j y => ?_) (sg_QX z')⟩
  obtain ⟨h1, ⟨h2, h3, h4⟩, -⟩ := h.1.2
  obtain ⟨a1, a2⟩ := q (M 60) h2 h4
  by_cases hp : sd_dn (M 60) n
  · exact (a2 hp).1.2 b j (by unfold pq_Pz pq_Pd pq_Pw pz_lb; omega)
  · rw [(a1 hp).2]
theorem pz_RP_state {M M1 M2 : pz_M} {n v v' : Int} (hI : pz_ic M) (h : pz_RP M) (q : v = M 71 6 ∧ M1 = pz_u (pz_u M 71 6 n) 3 2 0) (z : pz_sW M M1) (q' : v' = M1 60 2 ∧ M2 = pz_u (pz_u M1 60 2 n) 1 4 0) (z' : pz_rl pz_QX M1 M2) : v = v' ∧ pz_RP M2 := by
  obtain ⟨e, r⟩ := pz_RZ_state hI h.1 q z q' z'
  refine ⟨e, r, sg_K_2 hI h.2 (fun b j y => ?_) (sg_QX z')⟩
  rw [q.2, pz_una (by omega), pz_une (by omega)]
theorem pz_RP_undo {M M1 M2 : pz_M} {v v' : Int} (hI : pz_ic M) (h : pz_RP M) (q : (M 3 2 = 0 ∧ v = 0 ∧ M1 = M) ∨ (M 3 2 ≠ 0 ∧ v = 1 ∧ M1 = pz_bf M)) (z : pz_sW M M1) (q' : (M1 1 4 = 0 ∧ v' = 0 ∧ M2 = M1) ∨ (M1 1 4 ≠ 0 ∧ v' = 1 ∧ M2 1 4 = M1 1 4 - 1 ∧ M2 60 = sd_kF M1 (M1 1 4 - 1).toNat)) (z' : pz_rl pz_QK M1 M2) : v = v' ∧ pz_RP M2 := by
  obtain ⟨e, r⟩ := pz_RZ_undo hI h.1 q z q' z'
  have n0 := h.1.2.2.1.1.1
  have n2 := r.2.2.1.1.1
  have w : ∀ j : Nat, 88 ≤ j → M2 60 j = M1 60 j := fun j hj => z'.2 60 j (by unfold pz_QK; omega)
  have w60 : M1 60 = M 60 := sd_sW_60 z (by unfold pz_mid; omega)
  have c : ∀ b j : Nat, b ≠ 60 → b ≠ 1 → M2 b j = M1 b j := fun b j y1 y2 => z'.2 b j (by unfold pz_QK; omega)
  have o : ∀ b j : Nat, b = 7 ∨ b = 58 ∨ b = 60 → M1 b j = M b j := fun b j y => by
    rcases q with ⟨-, -, a3⟩ | ⟨-, -, a3⟩
    · rw [a3]
    · rw [a3]
      exact pz_bf_o (by omega) (by omega) (by omega)
  have n3 : M1 71 3 = M 71 3 := by
    have a := c 71 3 (by decide) (by decide)
    have b := w 88 (Nat.le_refl _)
    have d := congrFun w60 88
    omega
  refine ⟨e, r, sg_K_cg h.2 (fun b j y => ?_) (fun j _ => Or.inl ((w j (by omega)).trans (congrFun w60 j))) (sg_hn hI).2⟩
  rcases y with y | y | ⟨y1, y2⟩
  · exact (c b j (by omega) (by omega)).trans (o b j (by omega))
  · exact (c b j (by omega) (by omega)).trans (o b j (by omega))
  · rw [y1, y2]
    exact (c 71 3 (by decide) (by decide)).trans n3
theorem pz_RP_goes {M M1 M2 : pz_M} {n w v v' : Int} (hI : pz_ic M) (h : pz_RP M) (q : sd_gc M M1 n w v) (z : pq_pr pq_Pg M M1) (q' : sd_gm M1 M2 n w v') (z' : pz_rl pz_QG M1 M2) : v = v' ∧ pz_RP M2 := by
  obtain ⟨e, r⟩ := pz_RZ_goes hI h.1 q z q' z'
  exact ⟨e, r, sg_K_2 hI h.2 (fun b j y => z.2 b j (by unfold pq_Pg pq_Pk pq_Pw; omega)) (fun b j y => z'.2 b j (by unfold pz_QG; omega))⟩
theorem pz_RP_link {M M1 M2 : pz_M} {p q w s v v' : Int} (hI : pz_ic M) (h : pz_RP M) (q1 : ((M 71 3 < 12 ∧ (1 ≤ p ∧ p ≤ 999) ∧ (-9999 ≤ q ∧ q ≤ 9999) ∧ (-999 ≤ w ∧ w ≤ 999) ∧ 0 ≤ s ∧ s ≤ 9) ∧ v = M 71 3 ∧ M1 = pz_lkf p q w s M) ∨ (¬ (M 71 3 < 12 ∧ (1 ≤ p ∧ p ≤ 999) ∧ (-9999 ≤ q ∧ q ≤ 9999) ∧ (-999 ≤ w ∧ w ≤ 999) ∧ 0 ≤ s ∧ s ≤ 9) ∧ v = -1 ∧ M1 = M))
    (q2 : ((M1 60 88 < 12 ∧ (1 ≤ p ∧ p ≤ 999) ∧ (-9999 ≤ q ∧ q ≤ 9999) ∧ (-999 ≤ w ∧ w ≤ 999) ∧ 0 ≤ s ∧ s ≤ 9) ∧ v' = M1 60 88 ∧ M2 = pz_lkm p q w s M1) ∨ (¬ (M1 60 88 < 12 ∧ (1 ≤ p ∧ p ≤ 999) ∧ (-9999 ≤ q ∧ q ≤ 9999) ∧ (-999 ≤ w ∧ w ≤ 999) ∧ 0 ≤ s ∧ s ≤ 9) ∧ v' = -1 ∧ M2 = M1)) : v = v' ∧ pz_RP M2 := by
  obtain ⟨e, r⟩ := pz_RZ_link hI h.1 q1 q2
  refine ⟨e, r, ?_⟩
  have i9 := sg_hn hI
  have m7 : M2 7 0 = M1 7 0 := by
    rcases q2 with ⟨-, -, b⟩ | ⟨-, -, b⟩
    · rw [b]
      unfold pz_lkm
      rw [pz_una (by decide), pz_una (by decide), pz_una (by decide), pz_una (by decide), pz_una (by decide), pz_una (by decide), pz_una (by decide), pz_una (by decide), pz_una (by decide), pz_una (by decide), pz_una (by decide), pz_una (by decide)]
    · rw [b]
  rcases q1 with ⟨-, -, a⟩ | ⟨a1, a2, a⟩
  · intro y
    rw [m7, a] at y
    unfold pz_lkf at y
    rw [pz_uu] at y
    exact absurd rfl y
  · rcases q2 with ⟨-, b2, -⟩ | ⟨-, -, b⟩
    · rw [a] at b2
      have n0 := h.1.2.2.1.1.1
      omega
    · rw [b, a]
      exact h.2
theorem pz_RP_set {M M1 M2 : pz_M} {w i n v v' : Int} {C : Prop} (hC : C → (w = 0 ∧ 1 ≤ n ∧ n ≤ 999) ∨ (w = 1 ∧ -9999 ≤ n ∧ n ≤ 9999) ∨ (w = 2 ∧ -999 ≤ n ∧ n ≤ 999) ∨ (w = 3 ∧ 0 ≤ n ∧ n ≤ 9) ∨ (w = 4 ∧ 0 ≤ n ∧ n ≤ 1)) (hI : pz_ic M) (h : pz_RP M) (q1 : (((0 ≤ i ∧ i < M 71 3) ∧ C) ∧ v = 1 ∧ M1 = pz_u (pz_u M (89 + i.toNat) w.toNat n) 3 2 0) ∨ (¬ ((0 ≤ i ∧ i < M 71 3) ∧ C) ∧ v = 0 ∧ M1 = M)) (q2 : (((0 ≤ i ∧ i < M1 60 88) ∧ C) ∧ v' = 1 ∧ M2 = pz_u (pz_u M1 60 (pz_bs w + i).toNat n) 1 4 0) ∨ (¬ ((0 ≤ i ∧ i < M1 60 88) ∧ C) ∧ v' = 0 ∧ M2 = M1)) : v = v' ∧ pz_RP M2 := by
  obtain ⟨e, r⟩ := pz_RZ_set hC hI h.1 q1 q2
  have i9 := sg_hn hI
  refine ⟨e, r, sg_K_2 (M1 := M1) hI h.2 (fun b j y => ?_) (fun b j y => ?_)⟩
  · rcases q1 with ⟨⟨a1, a2⟩, -, a3⟩ | ⟨-, -, a3⟩
    · rw [a3, pz_una (by omega), pz_una (by omega)]
    · rw [a3]
  · rcases q2 with ⟨⟨b1, b2⟩, -, b3⟩ | ⟨-, -, b3⟩
    · have n0 : M1 60 88 = M 60 88 := by
        rcases q1 with ⟨⟨a1, a2⟩, -, a3⟩ | ⟨-, -, a3⟩
        · rw [a3, pz_una (by decide), pz_una (by omega)]
        · rw [a3]
      have n1 := h.1.2.2.1.1.1
      have bs : pz_bs w + i < 105 := by
        have c := hC b2
        have hw : w = 0 ∨ w = 1 ∨ w = 2 ∨ w = 3 ∨ w = 4 := by omega
        rcases hw with rfl | rfl | rfl | rfl | rfl
        · show (4 : Int) + i < 105
          omega
        · show (16 : Int) + i < 105
          omega
        · show (28 : Int) + i < 105
          omega
        · show (93 : Int) + i < 105
          omega
        · show (40 : Int) + i < 105
          omega
      rw [b3, pz_una (by omega), pz_une (by omega)]
    · rw [b3]
theorem pz_RP_text {M M1 M2 : pz_M} {k v v' : Int} (hI : pz_ic M) (hI1 : pz_ic M1) (h : pz_RP M) (q : ((pq_te k (M 71 3) M M1 v ∧ M1 4 1 = 0 ∧ (∀ j : Nat, j ≠ 2 → M1 3 j = M 3 j) ∧ (M1 3 2 = M 3 2 ∨ M1 3 2 = 0)) ∧ M1 3 2 = if v ≠ -1 ∧ k = 1 then 0 else M 3 2) ∧ (M1 7 0 ≠ 0 → M 7 0 ≠ 0 ∧ ¬ (k = 2 ∧ v ≠ -1))) (z : pq_pr pq_Pt M M1) (q' : (pq_tx k M1 M2 v' ∧ M2 1 16 = 0) ∧ M2 1 4 = if v' ≠ -1 ∧ k = 1 then 0 else M1 1 4) (z' : pz_rl pz_QT M1 M2) : v = v' ∧ pz_RP M2 := by
  obtain ⟨e, r⟩ := pz_RZ_text hI hI1 h.1 q.1 z q' z'
  refine ⟨e, r, fun y => ?_⟩
  have c : ∀ b j : Nat, b ≠ 60 → b ≠ 1 → (b < 64 ∨ 66 < b) → M2 b j = M1 b j := fun b j y1 y2 y3 => z'.2 b j (by unfold pz_QT; omega)
  have y0 : M1 7 0 ≠ 0 := by
    rw [← c 7 0 (by decide) (by decide) (by decide)]
    exact y
  obtain ⟨y1, y2⟩ := q.2 y0
  have hR := h.1.1.1
  have i4 := hI.2.2.2.2.1
  have e67 : M1 67 = M 67 := funext fun j => z.2 67 j (by unfold pq_Pt; omega)
  have e16 : M1 1 16 = M 4 1 := (z.2 1 16 (by unfold pq_Pt; omega)).trans hR.2.1.1.symm
  have tb : pz_tb M1 := fun i hi => by
    rw [e67, (hR.2.1.2 i (by rw [← e16]; exact hi)).2]
    exact Int.emod_nonneg _ (by decide)
  obtain ⟨x1, x2, x3⟩ := q'.1.1 tb
  have w : ∀ j : Nat, 105 ≤ j → j < 129 → M2 60 j = M1 60 j := fun j j1 j2 => by
    by_cases k0 : k = 0
    · rcases x1 k0 with ⟨ls, -, -, -, -, -, f⟩ | ⟨f, p, -, -, -, -, g⟩
      · exact f j (by unfold pq_wf; omega)
      · exact g j
    by_cases k1 : 1 ≤ k ∧ k ≤ 3
    · rcases x2 k1 with ⟨ls, -, f1, -, -, -, f⟩ | ⟨f, p, -, -, -, -, g⟩
      · exact f j (by unfold pq_wf; omega)
      · exact g j
    · exact (x3 (by omega)).2.2.2 j
  have e7 : ∀ j : Nat, M1 7 j = M 7 j ∨ j = 0 := fun j => by
    by_cases q : j = 0
    · exact Or.inr q
    · exact Or.inl (z.2 7 j (by unfold pq_Pt; omega))
  -- known again
  have hk : sg_K (pz_u M1 7 0 (M 7 0)) := sg_K_cg h.2 (fun b j y => by
    by_cases u : b = 7 ∧ j = 0
    · rw [u.1, u.2]
      exact pz_uu
    · rw [pz_une u]
      exact z.2 b j (by unfold pq_Pt; omega)) (fun j _ => Or.inl (by
    rw [pz_una (by decide)]
    exact z.2 60 j (by unfold pq_Pt; omega))) (sg_hn hI).2
  have hk2 : sg_K (pz_u M2 7 0 (M 7 0)) := sg_K_cg hk (fun b j y => by
    by_cases u : b = 7 ∧ j = 0
    · rw [u.1, u.2, pz_uu, pz_uu]
    · rw [pz_une u, pz_une u]
      exact c b j (by omega) (by omega) (by omega)) (fun j j1 => by
    by_cases u : 129 ≤ j
    · exact Or.inr u
    · refine Or.inl ?_
      rw [pz_una (by decide), pz_una (by decide)]
      exact w j j1 (by omega)) (by
    rw [pz_una (by decide)]
    exact (sg_hn hI1).2)
  have t := hk2 (by rw [pz_uu]; exact y1)
  rw [pz_una (by decide)] at t
  have o : sg_on (pz_u M2 7 0 (M 7 0)) = sg_on M2 := funext fun q => by
    unfold sg_on
    rw [pz_una (by decide)]
  have pf : sg_pf (pz_u M2 7 0 (M 7 0)) = sg_pf M2 := funext fun i => pz_una (by decide)
  have pg : sg_pg (pz_u M2 7 0 (M 7 0)) = sg_pg M2 := funext fun i => pz_una (by decide)
  obtain ⟨t1, t2, t3, t4⟩ := t
  rw [pf, pg] at t2 t3 t4
  rw [o] at t4
  rw [pz_unk (by decide)] at t1 t2 t3 t4
  refine ⟨t1, t2, t3, fun u => ⟨fun q hq => ?_, (t4 u).2⟩⟩
  have s := (t4 u).1 q hq
  rw [pz_una (by decide)] at s
  exact s
theorem pz_RP_image {M M1 M2 : pz_M} {t v v' : Int} (hI : pz_ic M) (h : pz_RP M) (q : ((t = 0 ∧ M 0 13 = 0 ∧ v = 0 ∧ M1 = M) ∨ ((t ≠ 0 ∧ v = 1 ∧ M1 0 13 = 1 ∧ pz_xi 73 71 M M1) ∧ pz_Ti 9 8 M M1) ∨ ((t = 0 ∧ M 0 13 ≠ 0 ∧ v = 1 ∧ M1 0 13 = M 0 13 ∧ M1 3 2 = 0 ∧ pz_xi 71 73 M M1) ∧ pz_Ti 8 9 M M1)) ∧ (t ≠ 0 → ∀ b j : Nat, ¬ pz_td 9 b → M1 b j = if b = 46 ∧ j < 600 then M 45 j else if b = 0 ∧ j = 13 then 1 else pz_tf 73 71 M b j) ∧ (t = 0 → M 0 13 ≠ 0 → ∀ b j : Nat, ¬ pz_td 8 b → M1 b j = if b = 45 ∧ j < 600 then M 46 j else if b = 3 ∧ j = 2 then 0 else if b = 7 ∧ j = 0 then 0 else pz_tf 71 73 M b j))
    (q' : ((t = 0 ∧ M1 1 5 = 0 ∧ v' = 0 ∧ M2 = M1) ∨ ((t ≠ 0 ∨ M1 1 5 ≠ 0) ∧ v' = 1 ∧ M2 1 5 = 1 ∧ ((t = 0 → ∀ k : Nat, (k : Int) < 1725 → M2 60 k = M1 61 k) ∧ (t = 0 → ∀ k, M2 61 k = M1 61 k) ∧ (t ≠ 0 → ∀ k : Nat, (k : Int) < 1725 → M2 61 k = M1 60 k) ∧ (t ≠ 0 → ∀ k, M2 60 k = M1 60 k)))) ∧ (t = 0 → M1 1 5 ≠ 0 → M2 1 4 = 0) ∧ (t ≠ 0 → M2 1 4 = M1 1 4)) (z' : pz_rl pz_QI M1 M2) : v = v' ∧ pz_RP M2 := by
  obtain ⟨e, r⟩ := pz_RZ_image hI h.1 q q' z'
  refine ⟨e, r, ?_⟩
  have c : ∀ b j : Nat, b ≠ 60 → b ≠ 61 → b ≠ 1 → M2 b j = M1 b j := fun b j y1 y2 y3 => z'.2 b j (by unfold pz_QI; omega)
  by_cases t0 : t = 0
  · by_cases m0 : M 0 13 = 0
    · have a : M1 = M ∧ v = 0 := by
        rcases q.1 with ⟨-, -, a1, a2⟩ | ⟨⟨a1, -⟩, -⟩ | ⟨⟨-, a1, -⟩, -⟩
        · exact ⟨a2, a1⟩
        · exact absurd t0 a1
        · exact absurd m0 a1
      rcases q'.1 with ⟨-, -, -, b⟩ | ⟨-, b, -⟩
      · rw [b, a.1]
        exact h.2
      · have a2 := a.2
        omega
    · intro y
      rw [c 7 0 (by decide) (by decide) (by decide), q.2.2 t0 m0 7 0 (by unfold pz_td; omega), if_neg (by omega), if_neg (by omega), if_pos ⟨rfl, rfl⟩] at y
      exact absurd rfl y
  · have E := q.2.1 t0
    have b4 : ∀ k, M2 60 k = M1 60 k := by
      rcases q'.1 with ⟨b, -⟩ | ⟨-, -, -, -, -, -, b⟩
      · exact absurd b t0
      · exact b t0
    refine sg_K_2 (M1 := M1) hI h.2 (fun b j y => ?_) (fun b j y => ?_)
    · rw [E b j (by unfold pz_td; omega), if_neg (by omega), if_neg (by omega)]
      exact pz_tf_o (by omega) (by unfold pz_lb; omega)
    · by_cases u : b = 60
      · rw [u]
        exact b4 j
      · exact c b j u (by omega) (by omega)
/-! SIGNS -/
theorem sg_st {M N : pz_M} (h : pq_pr sg_PD M N) : pz_st M N := ⟨⟨h.1, fun b j q => h.2 b j (by unfold pz_md pz_kx pz_mid at q; unfold sg_PD; omega)⟩, h.2 4 1 (by unfold sg_PD; omega), h.2 5 9 (by unfold sg_PD; omega)⟩
theorem sg_RZ_D {M N : pz_M} (hI : pz_ic M) (h : pz_RZ M) (hs : pq_pr sg_PD M N) : pz_RZ N := ⟨pz_RX_sW hI h.1 (sg_st hs).sw, sd_RZ_cg h.2 (fun b j y => hs.2 b j (by unfold sd_rz at y; unfold sg_PD; omega))⟩
theorem sg_ph_b {ls : List (List Int)} {n : Int} (h : pq_ok n 2 ls) {i : Int} : ∀ m, m ≤ ls.length → (0 ≤ pz_ph (pq_gl ls) i 0 1 m ∧ pz_ph (pq_gl ls) i 0 1 m ≤ 240) ∧ 0 ≤ pz_ph (pq_gl ls) i 240 2 m ∧ pz_ph (pq_gl ls) i 240 2 m ≤ 240 := by
  intro m
  induction m with
  | zero => exact fun _ => (show ((0 : Int) ≤ 0 ∧ (0 : Int) ≤ 240) ∧ (0 : Int) ≤ 240 ∧ (240 : Int) ≤ 240 from by decide)
  | succ m ih =>
    intro hm
    have ok := ((h.2 m (by omega)).2.1 rfl).2
    have ok : 0 ≤ pq_gl ls m 1 ∧ pq_gl ls m 1 < pq_gl ls m 2 ∧ pq_gl ls m 2 ≤ 240 := ok
    show (0 ≤ (if pq_gl ls m 0 = i then pq_gl ls m 1 else pz_ph (pq_gl ls) i 0 1 m) ∧ (if pq_gl ls m 0 = i then pq_gl ls m 1 else pz_ph (pq_gl ls) i 0 1 m) ≤ 240) ∧ 0 ≤ (if pq_gl ls m 0 = i then pq_gl ls m 2 else pz_ph (pq_gl ls) i 240 2 m) ∧ (if pq_gl ls m 0 = i then pq_gl ls m 2 else pz_ph (pq_gl ls) i 240 2 m) ≤ 240
    by_cases c : pq_gl ls m 0 = i
    · rw [if_pos c, if_pos c]
      exact ⟨⟨by omega, by omega⟩, by omega, by omega⟩
    · rw [if_neg c, if_neg c]
      exact ih (by omega)
theorem sg_RX_p {M : pz_M} (hI : pz_ic M) (h : pz_RX M) : sg_fg (sg_pf M) (sg_pg M) (M 71 3) ∧ sg_pz M 8 (sg_pf M) (sg_pg M) (M 71 3) := by
  have i9 := sg_hn hI
  obtain ⟨ls, l1, l2, l3, -, -, ⟨h1, h2, h3⟩, -⟩ := h.2.1
  have n1 : M 14 0 = (l2.length : Int) := h1.1
  have n : pz_nph M 8 = l2.length := by
    show (M 14 0).toNat = l2.length
    omega
  have g : ∀ r c, r < l2.length → c < 5 → pz_gph M 8 r c = pq_gl l2 r c := fun r c hr hc => h1.2 r c hr hc
  refine ⟨fun i hi => ?_, fun i hi => ?_⟩
  · have w9 := h2.2 i (by omega) hi
    have b := sg_ph_b h3 (i := (i : Int)) l2.length (Nat.le_refl _)
    have w1 : sg_pf M i = _ := w9.1
    have w2 : sg_pg M i = _ := w9.2
    rw [w1, w2]
    exact b
  · have w9 := h2.2 i (by omega) hi
    have w1 : sg_pf M i = _ := w9.1
    have w2 : sg_pg M i = _ := w9.2
    rw [w1, w2, n]
    exact ⟨(pz_ph_cg (fun r hr => ⟨g r 0 hr (by omega), g r 1 hr (by omega)⟩)).symm, (pz_ph_cg (fun r hr => ⟨g r 0 hr (by omega), g r 2 hr (by omega)⟩)).symm⟩
theorem pz_RP_c {M M1 : pz_M} {w v : Int} (hI : pz_ic M) (h : pz_RP M) (q : sg_cs M M1 8 (M 71 3) ∧ sg_vw M1 w v) (z : pq_pr sg_PD M M1) : pz_RP M1 ∧ sg_tc M1 (sg_pf M1) (sg_pg M1) (M1 71 3) := by
  have r := sg_RZ_D hI h.1 z
  have p := sg_RX_p hI h.1.1
  have e60 : M1 60 = M 60 := funext fun j => z.2 60 j (by unfold sg_PD; omega)
  have e71 : M1 71 3 = M 71 3 := z.2 71 3 (by unfold sg_PD; omega)
  have pf : sg_pf M1 = sg_pf M := funext fun i => congrFun e60 _
  have pg : sg_pg M1 = sg_pg M := funext fun i => congrFun e60 _
  have t : sg_tc M1 (sg_pf M1) (sg_pg M1) (M1 71 3) := by
    rw [pf, pg, e71]
    by_cases y : M 7 0 = 0
    · exact (q.1.2 y).2 _ _ p.1 p.2
    · rw [q.1.1 y]
      exact h.2 y
  exact ⟨⟨r, fun _ => t⟩, t⟩
theorem pz_RP_signs {M : pz_M} {w v v' : Int} (hI : pz_ic M) (h : pz_RP M) (t : sg_tc M (sg_pf M) (sg_pg M) (M 71 3)) (q : sg_vw M w v) (q' : ∀ f g : Nat → Int, sg_fg f g (M 60 88) → sg_pm (M 60) f g (M 60 88) → sg_mv f g (M 60 88) w v') : v = v' := by
  have e := h.1.2.2.1.1.1
  have p := sg_RX_p hI h.1.1
  have i9 := sg_hn hI
  have b := q' (sg_pf M) (sg_pg M) (by rw [← e]; exact p.1) (fun i _ => ⟨rfl, rfl⟩)
  rw [← e] at b
  exact sg_mv_e i9.2 t q b
