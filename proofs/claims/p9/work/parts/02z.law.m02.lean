section
/-! the texts that the program's constants are: whose, which entry, what -/
def pz_ss : List (String × Nat × String) := [("TwelveChain$Tape", 52, "ready leave give cost when or and not link price purse worth slow day links bridged lacks on ask bridge pay paper from to "), ("TwelveChainModel", 121, "when"), ("TwelveChainModel", 123, "or"), ("TwelveChainModel", 125, "and"), ("TwelveChainModel", 127, "not"), ("TwelveChainModel", 129, "ready"), ("TwelveChainModel", 131, "leave"), ("TwelveChainModel", 133, "give"), ("TwelveChainModel", 135, "cost"), ("TwelveChainModel", 99, "link"), ("TwelveChainModel", 105, "price"), ("TwelveChainModel", 107, "purse"), ("TwelveChainModel", 109, "worth"), ("TwelveChainModel", 111, "slow"), ("TwelveChainModel", 113, "day"), ("TwelveChainModel", 115, "links"), ("TwelveChainModel", 117, "bridged"), ("TwelveChainModel", 119, "lacks"), ("TwelveChainModel", 140, "on"), ("TwelveChainModel", 142, "ask"), ("TwelveChainModel", 144, "bridge"), ("TwelveChainModel", 146, "pay"), ("TwelveChainModel", 148, "paper"), ("TwelveChainModel", 159, "from"), ("TwelveChainModel", 161, "to")]
def pz_stl : List Nat := [122, 4, 2, 3, 3, 5, 5, 4, 4, 4, 5, 5, 5, 4, 3, 5, 7, 5, 2, 3, 6, 3, 5, 4, 2]
def pz_sb : List (List Int32) := [[114, 101, 97, 100, 121, 32, 108, 101, 97, 118, 101, 32, 103, 105, 118, 101, 32, 99, 111, 115, 116, 32, 119, 104, 101, 110, 32, 111, 114, 32, 97, 110, 100, 32, 110, 111, 116, 32, 108, 105, 110, 107, 32, 112, 114, 105, 99, 101, 32, 112, 117, 114, 115, 101, 32, 119, 111, 114, 116, 104, 32, 115, 108, 111, 119, 32, 100, 97, 121, 32, 108, 105, 110, 107, 115, 32, 98, 114, 105, 100, 103, 101, 100, 32, 108, 97, 99, 107, 115, 32, 111, 110, 32, 97, 115, 107, 32, 98, 114, 105, 100, 103, 101, 32, 112, 97, 121, 32, 112, 97, 112, 101, 114, 32, 102, 114, 111, 109, 32, 116, 111, 32], [119, 104, 101, 110], [111, 114], [97, 110, 100], [110, 111, 116], [114, 101, 97, 100, 121], [108, 101, 97, 118, 101], [103, 105, 118, 101], [99, 111, 115, 116], [108, 105, 110, 107], [112, 114, 105, 99, 101], [112, 117, 114, 115, 101], [119, 111, 114, 116, 104], [115, 108, 111, 119], [100, 97, 121], [108, 105, 110, 107, 115], [98, 114, 105, 100, 103, 101, 100], [108, 97, 99, 107, 115], [111, 110], [97, 115, 107], [98, 114, 105, 100, 103, 101], [112, 97, 121], [112, 97, 112, 101, 114], [102, 114, 111, 109], [116, 111]]
/-- the words that stay true in every method -/
def pz_tbl : List Cond := lw_tbl.filter goodWord
theorem pz_tbl_in {w : Cond} (h : w ∈ lw_tbl) (g : goodWord w = true) : w ∈ pz_tbl := List.mem_filter.mpr ⟨h, g⟩
def pz_v (ad : Nat → Nat) : pz_V → Value
  | .inl i => .int (Int32.ofInt i)
  | .inr (.inl j) => .long (Int64.ofInt j)
  | .inr (.inr q) => .ref (ad q.2)
def pz_cv : pz_V → Prop
  | .inl i => pz_c i
  | .inr (.inl j) => pz_cl j
  | .inr (.inr q) => pz_kd q.2 = q.1 ∧ q.2 < 231
theorem pz_v_cat (ad : Nat → Nat) (v : pz_V) : (pz_v ad v).category = pz_cat v := by
  match v with
  | .inl i => rfl
  | .inr (.inl j) => rfl
  | .inr (.inr q) => rfl
def pz_fv (ad : Nat → Nat) (M : pz_M) (a k j : Nat) : Value := match pz_rk k j with
  | some _ => .ref (ad (pz_rf a j))
  | none => .int (Int32.ofInt (M a j))
def pz_ei (cy : Nat → ClassId) (M : pz_M) (a : Nat) (q : Nat × Nat) : va_E := .inl (cy q.1, q.2, .inl (fun j => Int32.ofInt (M a j)))
def pz_eq_ (ad : Nat → Nat) (cy : Nat → ClassId) (a : Nat) (q : Nat × Nat) : va_E := .inl (cy q.1, q.2, .inr (.inr (.inr (.inr (fun j => some (ad (pz_rf a j)))))))
def pz_eo (ad : Nat → Nat) (M : pz_M) (a k : Nat) : va_E := .inr (k, (List.range (pz_nf k)).map (pz_fv ad M a k))
def pz_en (ad : Nat → Nat) (cy : Nat → ClassId) (M : pz_M) (a : Nat) : va_E :=
  if pz_kd a < 13 then pz_eo ad M a (pz_kd a)
  else if (pz_ak (pz_kd a)).1 < 2 then pz_ei cy M a (pz_ak (pz_kd a))
  else pz_eq_ ad cy a (pz_ak (pz_kd a))
def pz_ws (ad : Nat → Nat) (cy : Nat → ClassId) (M : pz_M) : va_W := (List.range 206).map (fun a => (ad a, pz_en ad cy M a))
def pz_ty (cy : Nat → ClassId) : List (ClassId × FieldType) := [(cy 0, .int), (cy 1, .byte), (cy 2, .object "TwelveChain$Link"), (cy 3, .object "TwelveChain$Chain")]
theorem pz_ws_get {ad : Nat → Nat} {cy : Nat → ClassId} {M : pz_M} {a : Nat} (h : a < 206) : (pz_ws ad cy M)[a]? = some (ad a, pz_en ad cy M a) := by
  simp [pz_ws, h]
theorem pz_en_ne {ad : Nat → Nat} {cy : Nat → ClassId} {M : pz_M} {a k b : Nat} {v : Int} (h : b ≠ a) : pz_en ad cy (pz_u M a k v) b = pz_en ad cy M b := by
  have e : ∀ j, pz_u M a k v b j = M b j := fun j => pz_una h
  unfold pz_en pz_eo pz_ei
  have e2 : pz_fv ad (pz_u M a k v) b = pz_fv ad M b := by
    funext k2 j
    unfold pz_fv
    cases pz_rk k2 j with
    | some _ => rfl
    | none => simp only [e]
  simp only [e, e2]
theorem pz_ws_set {ad : Nat → Nat} {cy : Nat → ClassId} {M : pz_M} {a k : Nat} {v : Int} {q : Nat} {e : va_E} (hq : q = ad a) (he : pz_en ad cy (pz_u M a k v) a = e) : (pz_ws ad cy M).set a (q, e) = pz_ws ad cy (pz_u M a k v) := by
  subst hq; subst he
  apply List.ext_getElem?
  intro b
  by_cases hb : b = a
  · subst hb
    by_cases hl : b < 206
    · rw [List.getElem?_set_self (by simp [pz_ws, hl]), pz_ws_get hl]
    · simp [pz_ws, hl]
  · rw [List.getElem?_set_ne (Ne.symm hb)]
    by_cases hl : b < 206
    · rw [pz_ws_get hl, pz_ws_get hl, pz_en_ne hb]
    · simp [pz_ws, hl]
theorem pz_eo_get {ad : Nat → Nat} {M : pz_M} {a k j : Nat} (h : j < pz_nf k) : ((List.range (pz_nf k)).map (pz_fv ad M a k))[j]? = some (pz_fv ad M a k j) := by simp [h]
theorem pz_eo_set {ad : Nat → Nat} {M : pz_M} {a k j : Nat} {v : Int} (hr : pz_rk k j = none) : pz_eo ad (pz_u M a j v) a k = .inr (k, ((List.range (pz_nf k)).map (pz_fv ad M a k)).set j (.int (Int32.ofInt v))) := by
  unfold pz_eo
  congr 2
  apply List.ext_getElem?
  intro b
  by_cases hb : b = j
  · subst hb
    by_cases hl : b < pz_nf k
    · rw [List.getElem?_set_self (by simp [hl]), pz_eo_get hl]
      unfold pz_fv
      rw [hr, pz_uu]
    · simp [hl]
  · rw [List.getElem?_set_ne (Ne.symm hb)]
    by_cases hl : b < pz_nf k
    · rw [pz_eo_get hl, pz_eo_get hl]
      unfold pz_fv
      rw [pz_unk hb]
    · simp [hl]
theorem pz_upd {M : pz_M} {a k : Nat} {v : Int} : upd (fun j => Int32.ofInt (M a j)) k (Int32.ofInt v) = fun j => Int32.ofInt (pz_u M a k v a j) := by
  funext j
  by_cases hj : j = k
  · subst hj
    simp [upd, pz_uu]
  · simp [upd, hj, pz_unk hj]
/-- the classes, as the tables have them -/
def pz_ckc (ci k : Nat) : Bool := match vwCl[ci]? with
  | some (_, T, N) => decide (N = pz_nf ci) && (match pz_pf ci k with
    | 0 => true
    | 1 => decide ((T k).2.2.1 = "I") && (decide ((T k).2.2.2 = false) && decide (pz_rk ci k = none))
    | _ => decide ((T k).2.2.1 = "Z") && (decide ((T k).2.2.2 = false) && decide (pz_rk ci k = none)))
  | none => false
theorem pz_ckc_ok : ∀ ci, ci < 13 → ∀ k, k < pz_nf ci → pz_ckc ci k = true := by decide +kernel
def pz_ckr (a k : Nat) : Bool := match pz_rk (pz_kd a) k with
  | some kr => decide (k < 12 ∨ pz_kd a < 13) && (decide (k < 6 ∨ pz_kd a < 30)) && (decide (pz_kd (pz_rf a k) = kr) && decide (pz_rf a k < 206)) || decide (pz_kd a = 29 ∧ 12 ≤ k) || decide (pz_kd a = 30 ∧ 6 ≤ k)
  | none => true
theorem pz_ckr_ok : ∀ a, a < 206 → ∀ k, k < 28 → pz_ckr a k = true := by decide +kernel
theorem pz_kd_hi {a : Nat} (h : ¬ a < 206) : pz_kd a = 99 := by unfold pz_kd; rw [if_neg (by omega), if_neg (by omega), if_neg (by omega), if_neg h]
theorem pz_kd_lo {a k : Nat} (h : pz_kd a = k) (hk : k ≠ 99) : a < 206 := Nat.lt_of_not_le (fun q => hk (by rw [← h]; exact pz_kd_hi (by omega)))
theorem pz_rf_ok {a k kd kr : Nat} (hd : pz_kd a = kd) (hk9 : kd ≠ 99) (hr : pz_rk kd k = some kr) (hk : k < 28) (h29 : kd = 29 → k < 12) (h30 : kd = 30 → k < 6) : pz_kd (pz_rf a k) = kr ∧ pz_rf a k < 206 := by
  subst hd
  have h := pz_ckr_ok a (pz_kd_lo rfl hk9) k hk
  unfold pz_ckr at h
  rw [hr] at h
  simp only [Bool.or_eq_true, Bool.and_eq_true, decide_eq_true_eq] at h
  rcases h with (h | h) | h
  · exact ⟨h.2.1, h.2.2⟩
  · exact absurd h.2 (by have := h29 h.1; omega)
  · exact absurd h.2 (by have := h30 h.1; omega)
theorem pz_in0 : ∀ w ∈ u_ws RX0 TX0 8, w ∈ lw_tbl := by decide +kernel
theorem pz_in1 : ∀ w ∈ u_ws RX1 TX1 2, w ∈ lw_tbl := by decide +kernel
theorem pz_in2 : ∀ w ∈ u_ws RX2 TX2 3, w ∈ lw_tbl := by decide +kernel
theorem pz_in3 : ∀ w ∈ u_ws RX3 TX3 8, w ∈ lw_tbl := by decide +kernel
theorem pz_in4 : ∀ w ∈ u_ws RX4 TX4 5, w ∈ lw_tbl := by decide +kernel
theorem pz_in5 : ∀ w ∈ u_ws RX5 TX5 8, w ∈ lw_tbl := by decide +kernel
theorem pz_in6 : ∀ w ∈ u_ws RX6 TX6 2, w ∈ lw_tbl := by decide +kernel
theorem pz_in7 : ∀ w ∈ u_ws RX7 TX7 5, w ∈ lw_tbl := by decide +kernel
theorem pz_in8 : ∀ w ∈ u_ws RX8 TX8 8, w ∈ lw_tbl := by decide +kernel
theorem pz_in9 : ∀ w ∈ u_ws RX9 TX9 10, w ∈ lw_tbl := by decide +kernel
theorem pz_in10 : ∀ w ∈ u_ws RX10 TX10 4, w ∈ lw_tbl := by decide +kernel
theorem pz_in11 : ∀ w ∈ u_ws RX11 TX11 14, w ∈ lw_tbl := by decide +kernel
theorem pz_in12 : ∀ w ∈ u_ws RX12 TX12 28, w ∈ lw_tbl := by decide +kernel
theorem pz_layg {C : String} {T : u_T} {N : Nat} : ∀ w ∈ u_ws C T N, goodWord w = true := by
  intro w hw
  obtain ⟨k, -, rfl⟩ := List.mem_map.mp hw
  unfold u_lay
  split <;> rfl
theorem pz_cls {ci : Nat} {C : String} {T : u_T} {N : Nat} (h : vwCl[ci]? = some (C, T, N)) : (∀ w ∈ u_ws C T N, w ∈ pz_tbl) ∧ (∀ a, a < N → ∀ b, b < N → a ≠ b → (T a).2.1 ≠ (T b).2.1) ∧ ∃ ty0 : Nat → FieldType, ∀ k, k < N → parseFieldDescriptor (T k).2.2.1 = some (ty0 k) := by
  have key : (∀ w ∈ u_ws C T N, w ∈ lw_tbl) ∧ (∀ a, a < N → ∀ b, b < N → a ≠ b → (T a).2.1 ≠ (T b).2.1) ∧ ∃ ty0 : Nat → FieldType, ∀ k, k < N → parseFieldDescriptor (T k).2.2.1 = some (ty0 k) := by
    match ci, h with
    | 0, h => cases h; exact ⟨pz_in0, nmX0, tyX0, tyX0_ok⟩
    | 1, h => cases h; exact ⟨pz_in1, nmX1, tyX1, tyX1_ok⟩
    | 2, h => cases h; exact ⟨pz_in2, nmX2, tyX2, tyX2_ok⟩
    | 3, h => cases h; exact ⟨pz_in3, nmX3, tyX3, tyX3_ok⟩
    | 4, h => cases h; exact ⟨pz_in4, nmX4, tyX4, tyX4_ok⟩
    | 5, h => cases h; exact ⟨pz_in5, nmX5, tyX5, tyX5_ok⟩
    | 6, h => cases h; exact ⟨pz_in6, nmX6, tyX6, tyX6_ok⟩
    | 7, h => cases h; exact ⟨pz_in7, nmX7, tyX7, tyX7_ok⟩
    | 8, h => cases h; exact ⟨pz_in8, nmX8, tyX8, tyX8_ok⟩
    | 9, h => cases h; exact ⟨pz_in9, nmX9, tyX9, tyX9_ok⟩
    | 10, h => cases h; exact ⟨pz_in10, nmX10, tyX10, tyX10_ok⟩
    | 11, h => cases h; exact ⟨pz_in11, nmX11, tyX11, tyX11_ok⟩
    | 12, h => cases h; exact ⟨pz_in12, nmX12, tyX12, tyX12_ok⟩
    | k + 13, h => simp [vwCl] at h
  exact ⟨fun w hw => pz_tbl_in (key.1 w hw) (pz_layg w hw), key.2⟩
/-- what stays: the texts, one static, one word of a nest mate -/
def pz_S (ad adV : Nat → Nat) (A : Nat → Prop) (U : State) (H : Heap) : Prop :=
  vk_S 25 pz_stl pz_sb (fun i => ad (206 + i)) adV A U H ∧ (∀ (i : Nat) (q : String × Nat × String), pz_ss[i]? = some q → vk_R q.1 q.2.1 q.2.2 (ad (206 + i)) U) ∧ (va_Z "java/lang/String" "COMPACT_STRINGS" "Z" (.int 1) A U H ∧ va_Zq "jdk/internal/util/Preconditions" "SIOOBE_FORMATTER" "Ljava/util/function/BiFunction;" A U H) ∧ va_Nw (.methodLinkNest RX1 35 yX11_within "TwelveChain") U
theorem pz_S.kept {ad adV : Nat → Nat} {A : Nat → Prop} {U : State} {H H1 : Heap} (h : pz_S ad adV A U H) (hq : ∀ a : Nat, a < H.size → ¬ A a → H1[a]? = H[a]?) : pz_S ad adV A U H1 := ⟨h.1.kept hq, h.2.1, ⟨h.2.2.1.1.kept hq, h.2.2.1.2.kept hq⟩, h.2.2.2⟩
theorem pz_S.warm {ad adV : Nat → Nat} {A : Nat → Prop} {s U : State} {H : Heap} (hW : s.WarmedH U.vm) (h : pz_S ad adV A s H) : pz_S ad adV A U H :=
  ⟨h.1.moved hW.alike, fun i q hq => (h.2.1 i q hq).warm hW, ⟨h.2.2.1.1.moved hW.alike, h.2.2.1.2.moved hW.alike⟩, va_Nw.warmM hW h.2.2.2⟩
theorem pz_S.same {ad adV : Nat → Nat} {A : Nat → Prop} {u U : State} {H : Heap} (hv : U.vm = u.vm) (h : pz_S ad adV A u H) : pz_S ad adV A U H :=
  ⟨h.1.moved (by rw [hv]; exact Vm.Alike.refl u.vm), fun i q hq => (h.2.1 i q hq).same hv, ⟨h.2.2.1.1.moved (by rw [hv]; exact Vm.Alike.refl u.vm), h.2.2.1.2.moved (by rw [hv]; exact Vm.Alike.refl u.vm)⟩, va_Nw.same rfl hv.symm h.2.2.2⟩
def pz_X (D : va_G) (ad adV : Nat → Nat) (cy : Nat → ClassId) (A : Nat → Prop) (U : State) (H : Heap) : Prop :=
  va_K D vwCl (pz_ty cy) U ∧ (∀ i j : Nat, i < 206 → j < 206 → ad i = ad j → i = j) ∧ (∀ i : Nat, i < 206 → A (ad i)) ∧ pz_S ad adV A U H
theorem pz_X.kept {D : va_G} {ad adV : Nat → Nat} {cy : Nat → ClassId} {A : Nat → Prop} {U : State} {H H1 : Heap} (h : pz_X D ad adV cy A U H) (hq : ∀ a : Nat, a < H.size → ¬ A a → H1[a]? = H[a]?) : pz_X D ad adV cy A U H1 := ⟨h.1, h.2.1, h.2.2.1, h.2.2.2.kept hq⟩
theorem pz_X.warm {D : va_G} {ad adV : Nat → Nat} {cy : Nat → ClassId} {A : Nat → Prop} {s U : State} {H : Heap} (hW : s.WarmedH U.vm) (h : pz_X D ad adV cy A s H) : pz_X D ad adV cy A U H := ⟨h.1.moved hW.alike, h.2.1, h.2.2.1, h.2.2.2.warm hW⟩
theorem pz_X.same {D : va_G} {ad adV : Nat → Nat} {cy : Nat → ClassId} {A : Nat → Prop} {u U : State} {H : Heap} (hv : U.vm = u.vm) (h : pz_X D ad adV cy A u H) : pz_X D ad adV cy A U H := ⟨h.1.moved (by rw [hv]; exact Vm.Alike.refl u.vm), h.2.1, h.2.2.1, h.2.2.2.same hv⟩
theorem pz_X.D {D : va_G} {ad adV : Nat → Nat} {cy : Nat → ClassId} {A : Nat → Prop} {U : State} {H : Heap} (h : pz_X D ad adV cy A U H) (M : pz_M) : va_D A (pz_ws ad cy M) := by
  have key : ∀ (k : Nat) (q : Nat × va_E), (pz_ws ad cy M)[k]? = some q → k < 206 ∧ q.1 = ad k := by
    intro k q hq
    have hl : k < 206 := by
      have := (List.getElem?_eq_some_iff.mp hq).1
      simpa [pz_ws] using this
    rw [pz_ws_get hl] at hq
    cases hq
    exact ⟨hl, rfl⟩
  refine ⟨fun i j p q hi hj he => ?_, fun k q hk => ?_⟩
  · obtain ⟨a1, a2⟩ := key i p hi
    obtain ⟨b1, b2⟩ := key j q hj
    exact h.2.1 i j a1 b1 (by rw [← a2, ← b2, he])
  · obtain ⟨a1, a2⟩ := key k q hk
    rw [a2]
    exact h.2.2.1 k a1
/-- the world of a method: memory M, the rest as it stays -/
def pz_G (D : va_G) (ad adV : Nat → Nat) (cy : Nat → ClassId) (A : Nat → Prop) (M : pz_M) (U : State) : Prop :=
  va_P D vwCl (pz_ws ad cy M) U.heap ∧ pz_X D ad adV cy A U U.heap ∧ ∀ a k : Nat, pz_c (M a k)
def pz_rr : Nat → Option pz_V → Prop
  | 0, r => r = none
  | 1, r => ∃ x, r = some (.inl x) ∧ pz_c x
  | 2, r => ∃ x, r = some (.inr (.inl x)) ∧ pz_cl x
  | k + 3, r => ∃ a, r = some (.inr (.inr (k, a))) ∧ pz_kd a = k ∧ a < 231
/-- a method keeps its contract -/
def pz_H (y : MethodName) (cc : ByteArray) (maxL : Nat) (ret : Option FieldType) (k : pz_C) (fr lo : Nat) : Prop :=
  ∀ (l : Launch) (D : va_G) (ad adV : Nat → Nat) (cy : Nat → ClassId) (A : Nat → Prop) (a : List pz_V) (M : pz_M), a.length = k.1 → k.2.2.1 a M → (∀ v ∈ a, pz_cv v) →
    Met l y (.code y cc maxL ret :: pz_tbl) { frames := fr, cells := 0, slots := 0, locals := lo } (va_Pc (a.map (pz_v ad)) (pz_G D ad adV cy A M))
      (fun _ st o t => (∃ (r : Option pz_V) (M' : pz_M), k.2.2.2 a M r M' ∧ pz_rr k.2.1 r ∧ o = .returned (r.map (pz_v ad)) ∧ pz_G D ad adV cy A M' t) ∧ va_F A st t) 0 0 A
def pz_LV (ad : Nat → Nat) (ls : Array Slot) (nL : Nat) (lo : pz_L) : Prop := ls.size = nL ∧ lv_wf ls ∧ lo.length = nL ∧ ∀ (i : Nat) (v : pz_V), lo[i]? = some (some v) → ls[i]? = some (.val (pz_v ad v)) ∧ pz_cv v
def pz_pr (ad : Nat → Nat) (lo : pz_L) : List (Nat × Value) := (List.range lo.length).filterMap (fun i => (lo.getD i none).map (fun v => (i, pz_v ad v)))
theorem pz_pr_mem {ad : Nat → Nat} {lo : pz_L} {i : Nat} {v : pz_V} (h : lo[i]? = some (some v)) : (i, pz_v ad v) ∈ pz_pr ad lo := by
  have hl : i < lo.length := (List.getElem?_eq_some_iff.mp h).1
  refine List.mem_filterMap.mpr ⟨i, List.mem_range.mpr hl, ?_⟩
  rw [List.getD_eq_getElem?_getD, h]
  rfl
theorem pz_LV.has {ad : Nat → Nat} {ls : Array Slot} {nL : Nat} {lo : pz_L} (h : pz_LV ad ls nL lo) : lv_has ls nL (pz_pr ad lo) := by
  refine ⟨h.1, h.2.1, fun q hq => ?_⟩
  obtain ⟨i, -, hi⟩ := List.mem_filterMap.mp hq
  rw [List.getD_eq_getElem?_getD] at hi
  cases e : lo[i]? with
  | none => rw [e] at hi; cases hi
  | some o =>
    cases o with
    | none => rw [e] at hi; cases hi
    | some v =>
      rw [e] at hi
      cases hi
      exact (h.2.2.2 i v e).1
theorem pz_LV.of {ad : Nat → Nat} {ls' : Array Slot} {nL : Nat} {lo' : pz_L} {lv' : List (Nat × Value)} (h : lv_has ls' nL lv') (hl : lo'.length = nL) (hm : ∀ (i : Nat) (v : pz_V), lo'[i]? = some (some v) → (i, pz_v ad v) ∈ lv' ∧ pz_cv v) : pz_LV ad ls' nL lo' :=
  ⟨h.1, h.2.1, hl, fun i v e => ⟨h.2.2 _ (hm i v e).1, (hm i v e).2⟩⟩
end
