/-! deeds -/
def sd_st (x : Int) : Int := pz_w (pz_w (1664525 * x) + 1013904223)
def sd_ch (s : Int) : Int := pz_w ((pz_shu s 8).tmod 1000)
def sd_note (tr : Bool) (F : Nat → Int) (w i m : Int) : Nat → Int := if tr = true ∧ F 3 ≠ 150 then sd_u (sd_u (sd_u (sd_u (sd_u F (241 + 4 * (F 3).toNat) (F 0)) (242 + 4 * (F 3).toNat) w) (243 + 4 * (F 3).toNat) i) (244 + 4 * (F 3).toNat) m) 3 (F 3 + 1) else F
def sd_fb (tr : Bool) (F : Nat → Int) (ch : Int) : Bool := if tr = true then decide (sd_ch (sd_st (F 2)) < ch) else decide (500 ≤ ch)
def sd_fF (tr : Bool) (F : Nat → Int) : Nat → Int := if tr = true then sd_u F 2 (sd_st (F 2)) else F
abbrev sd_in (F : Nat → Int) (i : Nat) : Prop := F (52 + i) ≠ 1 ∧ F (76 + i) = -1
abbrev sd_cp (F : Nat → Int) (i : Nat) : Prop := (i : Int) < F 88 ∧ sd_in F i ∧ F (40 + i) ≠ 1
abbrev sd_py (F : Nat → Int) (i : Nat) : Prop := (i : Int) = F 88 - 1 ∨ F (5 + i) ≤ pz_w (F (16 + i) + (if i = 0 then 0 else F (4 + i)))
abbrev sd_ca (F : Nat → Int) (i : Nat) : Prop := (i : Int) + 1 < F 88 ∧ sd_in F (i + 1)
abbrev sd_cb (F : Nat → Int) (i : Nat) : Prop := (i : Int) + 1 < F 88 ∧ sd_in F i ∧ 1 ≤ i ∧ F (64 + i) ≠ 1
abbrev sd_c0 (F : Nat → Int) (a b : Nat) (n : Int) : Prop := (a : Int) < F 88 ∧ (b : Int) < F 88 ∧ a ≠ b ∧ -9999 ≤ pz_w (F (16 + a) - n) ∧ pz_w (F (16 + b) + n) ≤ 9999
def sd_get (tr : Bool) (F : Nat → Int) (i : Nat) : Nat → Int := sd_note tr (sd_u F (40 + i) 1) 3 i 0
def sd_gi (ls : List pz_lne) (F : Nat → Int) (o : Nat) (n : Int) : Int := min (min (sd_gv ls F o) n) (F (4 + o) - 1)
def sd_ask (tr : Bool) (ls : List pz_lne) (F : Nat → Int) (i : Nat) (n : Int) : Nat → Int := sd_note tr (sd_u (sd_u F (5 + i) (F (5 + i) - sd_gi ls F (i + 1) n)) (29 + i) (max (-999) (F (29 + i) - sd_gi ls F (i + 1) n))) 0 (i + 1) (sd_gi ls F (i + 1) n)
def sd_bri (tr : Bool) (F : Nat → Int) (i : Nat) : Nat → Int := sd_note tr (sd_u F (64 + i) 1) 1 i 0
def sd_pys (tr : Bool) (F : Nat → Int) (a b : Nat) (n : Int) : Nat → Int := sd_note tr (sd_u (sd_u F (16 + a) (F (16 + a) - n)) (16 + b) (F (16 + b) + n)) 2 a n
def sd_joi (tr : Bool) (F : Nat → Int) (i : Nat) : Nat → Int := sd_note tr (sd_u (sd_u F (52 + i) 0) (40 + i) 0) 6 i 0
def sd_unr (F : Nat → Int) (k : Nat) : Nat → Int := if (k : Int) < F 88 ∧ F (76 + k) = -1 then sd_u F (40 + k) 0 else F
def sd_lv1 (F : Nat → Int) (i : Nat) : Nat → Int := sd_u (sd_u (sd_u F (52 + i) 1) 1 (pz_w (F 1 + 1))) (40 + i) 0
def sd_lev (tr : Bool) (F : Nat → Int) (i : Nat) : Nat → Int := sd_note tr (sd_unr (if i = 0 then sd_lv1 F i else sd_unr (sd_lv1 F i) (i - 1)) (i + 1)) 4 i 0
/-- a planned deed: DAY, the deed's word, LINK, the other LINK, N -/
def sd_doe (tr : Bool) (ls : List pz_lne) (F : Nat → Int) (r : List Int) : Nat → Int :=
  if r.getD 1 0 = 18 then (if sd_ca F (r.getD 2 0).toNat then sd_ask tr ls F (r.getD 2 0).toNat (r.getD 4 0) else F)
  else if r.getD 1 0 = 19 then (if sd_cb F (r.getD 2 0).toNat then sd_bri tr F (r.getD 2 0).toNat else F)
  else if r.getD 1 0 = 20 then (if sd_c0 F (r.getD 2 0).toNat (r.getD 3 0).toNat (r.getD 4 0) then sd_pys tr F (r.getD 2 0).toNat (r.getD 3 0).toNat (r.getD 4 0) else F)
  else (if sd_cp F (r.getD 2 0).toNat then sd_get tr F (r.getD 2 0).toNat else F)
def sd_p1 (tr : Bool) (ls : List pz_lne) : List (List Int) → (Nat → Int) → (Nat → Int)
  | [], F => F
  | r :: l, F => sd_p1 tr ls l (if r.getD 0 0 = F 0 then sd_doe tr ls F r else F)
def sd_s2 (tr : Bool) (ls : List pz_lne) (i : Nat) (F : Nat → Int) : Nat → Int := if sd_cp F i then (if sd_fb tr F (sd_rd ls F i) = true then sd_get tr (sd_fF tr F) i else sd_fF tr F) else F
def sd_p2 (tr : Bool) (ls : List pz_lne) : Nat → Nat → (Nat → Int) → (Nat → Int)
  | 0, _, F => F
  | m + 1, i, F => sd_p2 tr ls m (i + 1) (sd_s2 tr ls i F)
def sd_s3 (tr : Bool) (ls : List pz_lne) (i : Nat) (F : Nat → Int) : Nat → Int := if sd_in F i ∧ 0 < sd_le ls F i then (if sd_fb tr F (sd_le ls F i) = true then sd_lev tr (sd_fF tr F) i else sd_fF tr F) else F
def sd_p3 (tr : Bool) (ls : List pz_lne) : Nat → Nat → (Nat → Int) → (Nat → Int)
  | 0, _, F => F
  | m + 1, i, F => sd_p3 tr ls m (i + 1) (sd_s3 tr ls i F)
def sd_cm (F : Nat → Int) (to : Nat) : Nat → Nat → Bool
  | 0, _ => true
  | m + 1, i => decide (F (40 + i) = 1 ∧ F (52 + i) ≠ 1 ∧ (i < to → sd_py F i)) && sd_cm F to m (i + 1)
abbrev sd_mk (F : Nat → Int) (to : Nat) (e : Bool) (i : Nat) : Prop := F (76 + i) = -1 ∧ (i = to → e = true)
def sd_mi (tr : Bool) (to : Nat) (e : Bool) : Nat → Nat → (Nat → Int) → Int → (Nat → Int) × Int
  | 0, _, F, c => (F, c)
  | m + 1, i, F, c => if sd_mk F to e i then sd_mi tr to e m (i + 1) (sd_note tr (sd_u F (76 + i) (F 0)) 5 i 0) (pz_w (c + 1)) else sd_mi tr to e m (i + 1) F c
/-- the PARTS from `from` on -/
def sd_mv (tr : Bool) (b : Nat → Bool) (n : Nat) : Nat → Nat → (Nat → Int) → Int → (Nat → Int) × Int
  | 0, _, F, c => (F, c)
  | f + 1, a, F, c => if a < n then
      (let to := sd_end b n a
       let r := if sd_cm F to (to + 1 - a) a = true then sd_mi tr to (decide (to = n - 1)) (to + 1 - a) a F c else (F, c)
       sd_mv tr b n f (if to = n - 1 then n else to) r.1 r.2) else (F, c)
def sd_s5 (ls : List pz_lne) (i : Nat) (F : Nat → Int) : Nat → Int := if F (64 + i) = 1 ∧ sd_in F i then sd_u F (16 + i) (max (-9999) (F (16 + i) - sd_co ls F i)) else F
def sd_p5 (ls : List pz_lne) : Nat → Nat → (Nat → Int) → (Nat → Int)
  | 0, _, F => F
  | m + 1, i, F => sd_p5 ls m (i + 1) (sd_s5 ls i F)
def sd_n (F : Nat → Int) : Nat := (F 88).toNat
def sd_d3 (tr : Bool) (ls : List pz_lne) (l1 : List (List Int)) (F : Nat → Int) : Nat → Int := sd_p3 tr ls (sd_n F) 0 (sd_p2 tr ls (sd_n F) 0 (sd_p1 tr ls l1 F))
def sd_d4 (tr : Bool) (ls : List pz_lne) (l1 : List (List Int)) (F : Nat → Int) : (Nat → Int) × Int := sd_mv tr (sd_bb (sd_d3 tr ls l1 F)) (sd_n F) 12 0 (sd_d3 tr ls l1 F) 0
def sd_d5 (tr : Bool) (ls : List pz_lne) (l1 : List (List Int)) (F : Nat → Int) : Nat → Int := sd_p5 ls (sd_n F) 0 (sd_d4 tr ls l1 F).1
def sd_day (tr : Bool) (ls : List pz_lne) (l1 : List (List Int)) (F : Nat → Int) : Nat → Int := sd_u (sd_d5 tr ls l1 F) 0 (pz_w (sd_d5 tr ls l1 F 0 + 1))
