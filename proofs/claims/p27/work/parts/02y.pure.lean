/-! one instruction as a proposition -/
def pz_w (x : Int) : Int := (x + 2147483648) % 4294967296 - 2147483648
def pz_wl (x : Int) : Int := (x + 9223372036854775808) % 18446744073709551616 - 9223372036854775808
def pz_c (x : Int) : Prop := -2147483648 ≤ x ∧ x ≤ 2147483647
def pz_cl (x : Int) : Prop := -9223372036854775808 ≤ x ∧ x ≤ 9223372036854775807
def pz_u (M : pz_M) (a k : Nat) (v : Int) : pz_M := fun b j => if b = a ∧ j = k then v else M b j
/-- a number gets a name -/
def pz_n (z : Int) (K : Int → Prop) : Prop := ∀ v : Int, v = z → -2147483648 ≤ v → v ≤ 2147483647 → K v
def pz_nl (z : Int) (K : Int → Prop) : Prop := ∀ v : Int, v = z → -9223372036854775808 ≤ v → v ≤ 9223372036854775807 → K v
def pz_kl : Option pz_V → Option pz_V
  | some (.inr (.inl _)) => none
  | h => h
def pz_get : pz_L → Nat → (pz_V → Prop) → Prop
  | some v :: _, 0, f => f v
  | _ :: t, k + 1, f => pz_get t k f
  | _, _, _ => False
def pz_set : pz_L → Nat → pz_V → (pz_L → Prop) → Prop
  | _ :: t, 0, v, f => f (some v :: t)
  | h :: _ :: t, 1, v, f => f (pz_kl h :: some v :: t)
  | h :: t, k + 1, v, f => pz_set t k v (fun t' => f (h :: t'))
  | [], _, _, _ => False
def pz_setl : pz_L → Nat → pz_V → (pz_L → Prop) → Prop
  | _ :: _ :: t, 0, v, f => f (some v :: none :: t)
  | h :: _ :: _ :: t, 1, v, f => f (pz_kl h :: some v :: none :: t)
  | h :: t, k + 2, v, f => pz_setl t (k + 1) v (fun t' => f (h :: t'))
  | _, _, _, _ => False
def pz_cat : pz_V → Nat
  | .inr (.inl _) => 2
  | _ => 1
def pz_cs : List pz_V → Nat
  | [] => 0
  | v :: t => pz_cat v + pz_cs t
def pz_1 (st : List pz_V) (f : Int → List pz_V → Prop) : Prop := match st with
  | .inl x :: r => f x r
  | _ => False
def pz_2 (st : List pz_V) (f : Int → Int → List pz_V → Prop) : Prop := match st with
  | .inl y :: .inl x :: r => f x y r
  | _ => False
def pz_l1 (st : List pz_V) (f : Int → List pz_V → Prop) : Prop := match st with
  | .inr (.inl x) :: r => f x r
  | _ => False
def pz_l2 (st : List pz_V) (f : Int → Int → List pz_V → Prop) : Prop := match st with
  | .inr (.inl y) :: .inr (.inl x) :: r => f x y r
  | _ => False
def pz_r (st : List pz_V) (f : Nat → Nat → List pz_V → Prop) : Prop := match st with
  | .inr (.inr (k, a)) :: r => f k a r
  | _ => False
def pz_ri (st : List pz_V) (f : Nat → Nat → Int → List pz_V → Prop) : Prop := match st with
  | .inl i :: .inr (.inr (k, a)) :: r => f k a i r
  | _ => False
def pz_rii (st : List pz_V) (f : Nat → Nat → Int → Int → List pz_V → Prop) : Prop := match st with
  | .inl v :: .inl i :: .inr (.inr (k, a)) :: r => f k a i v r
  | _ => False
def pz_b (b : Bool) (P : Prop) : Prop := match b with
  | true => P
  | false => False
/-- kinds: 0 .. 12 the classes as vwCl has them; arrays: what of (0 ints, 1 bytes, 2 Links, 3 Chains), how long -/
def pz_ak : Nat → Nat × Nat
  | 13 => (0, 600)
  | 14 => (0, 16)
  | 15 => (0, 400)
  | 16 => (0, 64)
  | 17 => (0, 80)
  | 18 => (1, 400)
  | 19 => (0, 401)
  | 20 => (0, 12)
  | 21 => (0, 144)
  | 22 => (0, 4096)
  | 23 => (0, 1725)
  | 24 => (0, 528)
  | 25 => (0, 88)
  | 26 => (0, 820)
  | 27 => (0, 420)
  | 28 => (0, 10)
  | 29 => (2, 12)
  | 30 => (3, 6)
  | _ => (9, 0)
/-- how many fields an object of that class has -/
def pz_nf : Nat → Nat
  | 0 => 8 | 1 => 2 | 2 => 3 | 3 => 8 | 4 => 5 | 5 => 8 | 6 => 2 | 7 => 5 | 8 => 8 | 9 => 10 | 10 => 4 | 11 => 14 | 12 => 28 | _ => 0
/-- of which kind is what a field (an element) refers to; none: a number -/
def pz_rk : Nat → Nat → Option Nat
  | 0, 1 => some 29 | 0, 2 => some 5
  | 1, 0 => some 10 | 1, 1 => some 13
  | 2, 0 => some 30
  | 3, 2 => some 14 | 3, 3 => some 14 | 3, 4 => some 14 | 3, 5 => some 14 | 3, 6 => some 15 | 3, 7 => some 16
  | 4, 0 => some 3 | 4, 1 => some 20 | 4, 2 => some 20 | 4, 3 => some 20 | 4, 4 => some 21
  | 6, 1 => some 17
  | 7, 0 => some 18 | 7, 2 => some 19 | 7, 3 => some 19 | 7, 4 => some 19
  | 8, 4 => some 20 | 8, 5 => some 20 | 8, 6 => some 20 | 8, 7 => some 22
  | 9, 0 => some 7 | 9, 1 => some 3 | 9, 2 => some 6
  | 10, 0 => some 3 | 10, 1 => some 6 | 10, 2 => some 6 | 10, 3 => some 6
  | 11, 0 => some 0 | 11, 1 => some 0 | 11, 2 => some 10 | 11, 3 => some 13 | 11, 4 => some 1 | 11, 5 => some 2 | 11, 6 => some 7 | 11, 7 => some 9 | 11, 8 => some 4 | 11, 9 => some 8 | 11, 10 => some 0 | 11, 11 => some 10 | 11, 12 => some 13
  | 12, 0 => some 23 | 12, 1 => some 23 | 12, 2 => some 24 | 12, 3 => some 25 | 12, 6 => some 16 | 12, 7 => some 26 | 12, 8 => some 17 | 12, 9 => some 15 | 12, 10 => some 27 | 12, 11 => some 28 | 12, 27 => some 22
  | 29, _ => some 5 | 30, _ => some 0
  | _, _ => none
/-- what may be put into a field: 0 nothing, 1 an int, 2 a boolean -/
def pz_pf : Nat → Nat → Nat
  | 0, 0 => 0 | 8, 0 => 2 | 11, 13 => 2 | 12, 5 => 2 | 12, 26 => 2
  | k, j => (match pz_rk k j with | some _ => 0 | none => 1)
/-- ids below 71: their kinds -/
def pz_k0 : List Nat := [11, 12, 1, 2, 7, 9, 4, 8, 10, 10, 3, 3, 3, 6, 6, 6, 6, 6, 6, 6, 17, 17, 17, 17, 17, 17, 17, 14, 14, 14, 14, 15, 16, 14, 14, 14, 14, 15, 16, 14, 14, 14, 14, 15, 16, 13, 13, 30, 18, 19, 19, 19, 20, 20, 20, 21, 20, 20, 20, 22, 23, 23, 24, 25, 16, 26, 17, 15, 27, 28, 22]
def pz_kd (a : Nat) : Nat := if a < 71 then pz_k0.getD a 98 else if a < 80 then 0 else if a < 89 then 29 else if a < 206 then 5 else 99
/-- what a field (an element) of a thing refers to -/
def pz_rf (a k : Nat) : Nat :=
  if a < 71 then (match a with
    | 0 => [71, 72, 8, 45, 2, 3, 4, 5, 6, 7, 73, 9, 46].getD k 0
    | 1 => [60, 61, 62, 63, 0, 0, 64, 65, 66, 67, 68, 69, 0, 0, 0, 0, 0, 0, 0, 0, 0, 0, 0, 0, 0, 0, 0, 70].getD k 0
    | 2 => [8, 45].getD k 0
    | 3 => 47
    | 4 => [48, 0, 49, 50, 51].getD k 0
    | 5 => [4, 12, 19].getD k 0
    | 6 => [10, 52, 53, 54, 55].getD k 0
    | 7 => [0, 0, 0, 0, 56, 57, 58, 59].getD k 0
    | 8 => [10, 13, 14, 15].getD k 0
    | 9 => [11, 16, 17, 18].getD k 0
    | 10 => 25 + k
    | 11 => 31 + k
    | 12 => 37 + k
    | 47 => 74 + k
    | a => a + 7)
  else if a < 80 then (match k with
    | 1 => a + 9
    | _ => 89 + 13 * (a - 71) + 12)
  else 89 + 13 * (a - 80) + k
def pz_sw (x lo : Int) (K : Nat → Prop) : List Nat → Prop
  | [] => True
  | t :: ts => (x = lo → K t) ∧ pz_sw x (lo + 1) K ts
def pz_lk (x : Int) (K : Nat → Prop) : List (Int × Int) → List Nat → Prop
  | q :: ps, t :: ts => (x = q.1 → K t) ∧ pz_lk x K ps ts
  | _, _ => True
def pz_nk (x : Int) (P : Prop) : List (Int × Int) → Prop
  | [] => P
  | q :: ps => ¬ x = q.1 → pz_nk x P ps
/-- the answer of a call, by its kind: 0 none, 1 an int, 2 a long, 3 + k a reference of kind k -/
def pz_an (rk : Nat) (P : Option pz_V → pz_M → Prop) (K : List pz_V → pz_M → Prop) : Prop := match rk with
  | 0 => ∀ M, P none M → K [] M
  | 1 => ∀ (v : Int) (M : pz_M), -2147483648 ≤ v → v ≤ 2147483647 → P (some (.inl v)) M → K [.inl v] M
  | 2 => ∀ (v : Int) (M : pz_M), -9223372036854775808 ≤ v → v ≤ 9223372036854775807 → P (some (.inr (.inl v))) M → K [.inr (.inl v)] M
  | k + 3 => ∀ (a : Nat) (M : pz_M), pz_kd a = k → P (some (.inr (.inr (k, a)))) M → K [.inr (.inr (k, a))] M
def pz_br (b : Jvm.ClassFile.Cond) (x y : Int) (A B : Prop) : Prop := match b with
  | .eq => (x = y → A) ∧ (¬ x = y → B)
  | .ne => (¬ x = y → A) ∧ (x = y → B)
  | .lt => (x < y → A) ∧ (¬ x < y → B)
  | .ge => (¬ x < y → A) ∧ (x < y → B)
  | .gt => (y < x → A) ∧ (¬ y < x → B)
  | .le => (¬ y < x → A) ∧ (y < x → B)
def pz_call (ct : Nat → Option pz_C) (i : Nat) (lo : pz_L) (st : List pz_V) (M : pz_M) (K : List pz_V → pz_M → Prop) : Prop := match ct i with
  | some (n, rk, pre, post) => pz_b (Nat.ble n st.length) (pz_b (Nat.ble (pz_cs (st.drop n)) 8) (pre (st.take n).reverse M ∧ pz_an rk (fun r M' => post (st.take n).reverse M r M') (fun r M' => K (r ++ st.drop n) M')))
  | none => False
/-- a memory gets a name -/
def pz_nM (M0 : pz_M) (K : pz_M → Prop) : Prop := ∀ M : pz_M, M = M0 → K M
/-- a reference gets a name -/
def pz_nr (r k : Nat) (K : Nat → Prop) : Prop := ∀ z : Nat, z = r → pz_kd z = k → K z
def pz_getf (q : Option (Nat × Nat)) (st : List pz_V) (M : pz_M) (K : List pz_V → Prop) : Prop := match q with
  | some (k, j) => pz_r st (fun kd a r => pz_b (Nat.beq kd k) (match pz_rk k j with
      | some kr => pz_nr (pz_rf a j) kr (fun z => K (.inr (.inr (kr, z)) :: r))
      | none => pz_n (M a j) (fun z => K (.inl z :: r))))
  | none => False
def pz_putk (n : Nat) (v : Int) (P : Prop) : Prop := match n with
  | 1 => P
  | 2 => (v = 0 ∨ v = 1) ∧ P
  | _ => False
def pz_putf (q : Option (Nat × Nat)) (st : List pz_V) (M : pz_M) (K : List pz_V → pz_M → Prop) : Prop := match q with
  | some (k, j) => (match st with
    | .inl v :: .inr (.inr (kd, a)) :: r => pz_b (Nat.beq kd k) (pz_putk (pz_pf k j) v (pz_nM (pz_u M a j v) (K r)))
    | _ => False)
  | none => False
def pz_al (q : Nat × Nat) (t : Nat) (i : Int) (P : Prop) : Prop := match Nat.beq q.1 t with
  | true => 0 ≤ i ∧ (i < (q.2 : Int) ∧ P)
  | false => False
def pz_aal (kd : Nat) (i : Int) (K : Nat → Prop) : Prop := match kd with
  | 29 => 0 ≤ i ∧ (i < 12 ∧ K 5)
  | 30 => 0 ≤ i ∧ (i < 6 ∧ K 0)
  | _ => False
/-- one instruction: what must hold so that all goes well -/
def pz_stp (fl : Nat → Option (Nat × Nat)) (ci : Nat → Option pz_V) (ct : Bool → Nat → Option pz_C) (K : pz_F) (Rt : Option pz_V → pz_M → Prop) (rz : Bool) (I : Instr) (nx : Nat) (tg : List Nat) (lo : pz_L) (st : List pz_V) (M : pz_M) : Prop :=
  match I with
  | .iconst v => K nx lo (.inl v :: st) M
  | .bipush v => K nx lo (.inl v :: st) M
  | .sipush v => K nx lo (.inl v :: st) M
  | .lconst v => K nx lo (.inr (.inl (v : Nat)) :: st) M
  | .ldc i => (match ci i with | some (.inr (.inl _)) => False | some v => K nx lo (v :: st) M | none => False)
  | .ldc_w i => (match ci i with | some (.inl v) => K nx lo (.inl v :: st) M | _ => False)
  | .ldc2_w i => (match ci i with | some (.inr (.inl v)) => K nx lo (.inr (.inl v) :: st) M | _ => False)
  | .iload k => pz_get lo k (fun v => match v with | .inl x => K nx lo (.inl x :: st) M | _ => False)
  | .iload_n k => pz_get lo k (fun v => match v with | .inl x => K nx lo (.inl x :: st) M | _ => False)
  | .lload k => pz_get lo k (fun v => match v with | .inr (.inl x) => K nx lo (.inr (.inl x) :: st) M | _ => False)
  | .lload_n k => pz_get lo k (fun v => match v with | .inr (.inl x) => K nx lo (.inr (.inl x) :: st) M | _ => False)
  | .aload k => pz_get lo k (fun v => match v with | .inr (.inr x) => K nx lo (.inr (.inr x) :: st) M | _ => False)
  | .aload_n k => pz_get lo k (fun v => match v with | .inr (.inr x) => K nx lo (.inr (.inr x) :: st) M | _ => False)
  | .istore k => pz_1 st (fun x r => pz_set lo k (.inl x) (fun lo' => K nx lo' r M))
  | .istore_n k => pz_1 st (fun x r => pz_set lo k (.inl x) (fun lo' => K nx lo' r M))
  | .lstore k => pz_l1 st (fun x r => pz_setl lo k (.inr (.inl x)) (fun lo' => K nx lo' r M))
  | .lstore_n k => pz_l1 st (fun x r => pz_setl lo k (.inr (.inl x)) (fun lo' => K nx lo' r M))
  | .astore k => pz_r st (fun kd a r => pz_set lo k (.inr (.inr (kd, a))) (fun lo' => K nx lo' r M))
  | .astore_n k => pz_r st (fun kd a r => pz_set lo k (.inr (.inr (kd, a))) (fun lo' => K nx lo' r M))
  | .iinc k n => pz_get lo k (fun v => match v with | .inl x => pz_n (pz_w (x + n)) (fun z => pz_set lo k (.inl z) (fun lo' => K nx lo' st M)) | _ => False)
  | .iadd => pz_2 st (fun x y r => pz_n (pz_w (x + y)) (fun z => K nx lo (.inl z :: r) M))
  | .isub => pz_2 st (fun x y r => pz_n (pz_w (x - y)) (fun z => K nx lo (.inl z :: r) M))
  | .imul => pz_2 st (fun x y r => pz_n (pz_w (x * y)) (fun z => K nx lo (.inl z :: r) M))
  | .idiv => pz_2 st (fun x y r => ¬ y = 0 ∧ pz_n (pz_w (x.tdiv y)) (fun z => K nx lo (.inl z :: r) M))
  | .irem => pz_2 st (fun x y r => ¬ y = 0 ∧ pz_n (pz_w (x.tmod y)) (fun z => K nx lo (.inl z :: r) M))
  | .iand => pz_2 st (fun x y r => pz_n ((Int32.ofInt x &&& Int32.ofInt y).toInt) (fun z => K nx lo (.inl z :: r) M))
  | .ior => pz_2 st (fun x y r => pz_n ((Int32.ofInt x ||| Int32.ofInt y).toInt) (fun z => K nx lo (.inl z :: r) M))
  | .ixor => pz_2 st (fun x y r => pz_n ((Int32.ofInt x ^^^ Int32.ofInt y).toInt) (fun z => K nx lo (.inl z :: r) M))
  | .ishl => pz_2 st (fun x y r => pz_n ((Int32.ofInt x <<< (Int32.ofInt y &&& 31)).toInt) (fun z => K nx lo (.inl z :: r) M))
  | .ishr => pz_2 st (fun x y r => pz_n ((Int32.ofInt x >>> (Int32.ofInt y &&& 31)).toInt) (fun z => K nx lo (.inl z :: r) M))
  | .iushr => pz_2 st (fun x y r => pz_n (((Int32.ofInt x).toUInt32 >>> ((Int32.ofInt y).toUInt32 &&& Int32.toUInt32 31)).toInt32.toInt) (fun z => K nx lo (.inl z :: r) M))
  | .i2b => pz_1 st (fun x r => pz_n ((Int32.ofInt x).toInt8.toInt32.toInt) (fun z => K nx lo (.inl z :: r) M))
  | .i2l => pz_1 st (fun x r => K nx lo (.inr (.inl x) :: r) M)
  | .l2i => pz_l1 st (fun x r => pz_n (pz_w x) (fun z => K nx lo (.inl z :: r) M))
  | .ladd => pz_l2 st (fun x y r => pz_nl (pz_wl (x + y)) (fun z => K nx lo (.inr (.inl z) :: r) M))
  | .lsub => pz_l2 st (fun x y r => pz_nl (pz_wl (x - y)) (fun z => K nx lo (.inr (.inl z) :: r) M))
  | .lmul => pz_l2 st (fun x y r => pz_nl (pz_wl (x * y)) (fun z => K nx lo (.inr (.inl z) :: r) M))
  | .ldiv => pz_l2 st (fun x y r => ¬ y = 0 ∧ pz_nl (pz_wl (x.tdiv y)) (fun z => K nx lo (.inr (.inl z) :: r) M))
  | .lcmp => pz_l2 st (fun x y r => (x < y → K nx lo (.inl (-1) :: r) M) ∧ ((x = y → K nx lo (.inl 0 :: r) M) ∧ (y < x → K nx lo (.inl 1 :: r) M)))
  | .dup => (match st with | v :: r => pz_b (Nat.beq (pz_cat v) 1) (K nx lo (v :: v :: r) M) | _ => False)
  | .dup2 => (match st with | v :: u :: r => pz_b (Nat.beq (pz_cat v) 1) (pz_b (Nat.beq (pz_cat u) 1) (K nx lo (v :: u :: v :: u :: r) M)) | _ => False)
  | .pop => (match st with | v :: r => pz_b (Nat.beq (pz_cat v) 1) (K nx lo r M) | _ => False)
  | .goto _ => (match tg with | t :: _ => K t lo st M | _ => False)
  | .ifCond b _ => (match tg with | t :: _ => pz_1 st (fun x r => pz_br b x 0 (K t lo r M) (K nx lo r M)) | _ => False)
  | .if_icmp b _ => (match tg with | t :: _ => pz_2 st (fun x y r => pz_br b x y (K t lo r M) (K nx lo r M)) | _ => False)
  | .tableswitch _ low high _ => (match tg with | d :: ts => pz_1 st (fun x r => pz_sw x low (fun t => K t lo r M) ts ∧ (x < low ∨ high < x → K d lo r M)) | _ => False)
  | .lookupswitch _ ps => (match tg with | d :: ts => pz_1 st (fun x r => pz_lk x (fun t => K t lo r M) ps.toList ts ∧ pz_nk x (K d lo r M) ps.toList) | _ => False)
  | .getfield i => pz_getf (fl i) st M (fun st' => K nx lo st' M)
  | .putfield i => pz_putf (fl i) st M (fun st' M' => K nx lo st' M')
  | .iaload => pz_ri st (fun kd a i r => pz_al (pz_ak kd) 0 i (pz_n (M a i.toNat) (fun z => K nx lo (.inl z :: r) M)))
  | .baload => pz_ri st (fun kd a i r => pz_al (pz_ak kd) 1 i (pz_n (M a i.toNat) (fun z => K nx lo (.inl z :: r) M)))
  | .aaload => pz_ri st (fun kd a i r => pz_aal kd i (fun kr => pz_nr (pz_rf a i.toNat) kr (fun z => K nx lo (.inr (.inr (kr, z)) :: r) M)))
  | .iastore => pz_rii st (fun kd a i v r => pz_al (pz_ak kd) 0 i (pz_nM (pz_u M a i.toNat v) (fun M' => K nx lo r M')))
  | .bastore => pz_rii st (fun kd a i v r => pz_al (pz_ak kd) 1 i (-128 ≤ v ∧ (v ≤ 127 ∧ pz_nM (pz_u M a i.toNat v) (fun M' => K nx lo r M'))))
  | .arraylength => pz_r st (fun kd _ r => pz_b (Nat.ble (pz_ak kd).1 8) (K nx lo (.inl ((pz_ak kd).2 : Int) :: r) M))
  | .invokevirtual i => pz_call (ct true) i lo st M (fun st' M' => K nx lo st' M')
  | .invokestatic i => pz_call (ct false) i lo st M (fun st' M' => K nx lo st' M')
  | .ireturn => (match st with | [.inl x] => (match rz with | true => (x = 0 ∨ x = 1) ∧ Rt (some (.inl x)) M | false => Rt (some (.inl x)) M) | _ => False)
  | .lreturn => (match st with | [.inr (.inl x)] => Rt (some (.inr (.inl x))) M | _ => False)
  | .areturn => (match st with | [.inr (.inr x)] => Rt (some (.inr (.inr x))) M | _ => False)
  | .return_ => (match st with | [] => Rt none M | _ => False)
  | _ => False
/-- many instructions, up to the places 'cut' -/
def pz_run (tb : List pz_E) (fl : Nat → Option (Nat × Nat)) (ci : Nat → Option pz_V) (ct : Bool → Nat → Option pz_C) (cut : Nat → Bool) (Ok : pz_F) (Rt : Option pz_V → pz_M → Prop) (rz : Bool) : Nat → pz_F
  | 0, pc, lo, st, M => Ok pc lo st M
  | n + 1, pc, lo, st, M => match pz_at tb pc with
    | some q => pz_stp fl ci ct (fun pc' lo' st' M' => match cut pc' with
        | true => Ok pc' lo' st' M'
        | false => pz_run tb fl ci ct cut Ok Rt rz n pc' lo' st' M') Rt rz q.2.1 q.2.2.2.1 q.2.2.2.2 lo st M
    | none => False
