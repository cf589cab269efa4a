def gX1_greatestOfAll_L6 (F : jF) (G : jG)  (K : Int32 → Int64 → Int64) : Nat → Int32 → Int64 → Int64
  | 0, _, _ => 0
  | n9 + 1, v3, v1 => (if (F 1 0) ≤ v3 then (K v3 v1 ) else bv (gX1_greatestIn F G  v3) (fun x3 : Int64 => bv (if x3 < v1 then v1 else x3) (fun x4 : Int64 => (gX1_greatestOfAll_L6 F G   K n9 (v3 + 1) x4 ))))
def okX1_greatestOfAll_L6 (F : jF) (G : jG)  (okK : Int32 → Int64 → Prop) : Nat → Int32 → Int64 → Prop
  | 0, _, _ => False
  | n9 + 1, v3, v1 => (((F 1 0) ≤ v3 → (okK v3 v1 )) ∧ (¬ (F 1 0) ≤ v3 → ((okX1_greatestIn F G  v3) ∧ bv (gX1_greatestIn F G  v3) (fun x3 : Int64 => bv (if x3 < v1 then v1 else x3) (fun x4 : Int64 => (okX1_greatestOfAll_L6 F G   okK n9 (v3 + 1) x4 ))))))
def gX1_greatestOfAll (F : jF) (G : jG)  : Int64 := (gX1_greatestOfAll_L6 F G   (fun (y5 : Int32) (y6 : Int64) => y6) 80 0 (-9223372036854775808) )
def okX1_greatestOfAll (F : jF) (G : jG)  : Prop := (okX1_greatestOfAll_L6 F G   (fun (y5 : Int32) (y6 : Int64) => True) 80 0 (-9223372036854775808) )
abbrev rmX1_greatestOfAll : Room := { frames := 1, cells := 0, slots := 0, locals := 23 }
def gX1_countLast_L11 (F : jF) (G : jG) (f2 : Int64) (K : Int32 → Int32 → Int32) : Nat → Int32 → Int32 → Int32
  | 0, _, _ => 0
  | n9 + 1, v5, v4 => (if (F 1 0) ≤ v5 then (K v5 v4 ) else bv (gX1_greatestIn F G  v5) (fun x4 : Int64 => (if x4 < f2 then (gX1_countLast_L11 F G  f2 K n9 (v5 + 1) v4 ) else (gX1_countLast_L11 F G  f2 K n9 (v5 + 1) (v4 + 1) ))))
def okX1_countLast_L11 (F : jF) (G : jG) (f2 : Int64) (okK : Int32 → Int32 → Prop) : Nat → Int32 → Int32 → Prop
  | 0, _, _ => False
  | n9 + 1, v5, v4 => (((F 1 0) ≤ v5 → (okK v5 v4 )) ∧ (¬ (F 1 0) ≤ v5 → ((okX1_greatestIn F G  v5) ∧ bv (gX1_greatestIn F G  v5) (fun x4 : Int64 => ((x4 < f2 → (okX1_countLast_L11 F G  f2 okK n9 (v5 + 1) v4 )) ∧ (¬ x4 < f2 → (okX1_countLast_L11 F G  f2 okK n9 (v5 + 1) (v4 + 1) )))))))
def gX1_countLast (F : jF) (G : jG) (p1 : Int32) (p2 : Int64) : Int32 := bv ((F 1 0) - p1) (fun x1 : Int32 => (gX1_countLast_L11 F G  p2 (fun (y6 : Int32) (y7 : Int32) => y7) 80 x1 0 ))
def okX1_countLast (F : jF) (G : jG) (p1 : Int32) (p2 : Int64) : Prop := bv ((F 1 0) - p1) (fun x1 : Int32 => (okX1_countLast_L11 F G  p2 (fun (y6 : Int32) (y7 : Int32) => True) 80 x1 0 ))
abbrev rmX1_countLast : Room := { frames := 1, cells := 0, slots := 0, locals := 21 }
def gX1_rankedOf_L12 (F : jF) (G : jG) (f1 : Int32) (f2 : Int32) (K : Int32 → Int64 → Int64) : Nat → Int32 → Int64 → Int64
  | 0, _, _ => 0
  | n9 + 1, v5, v3 => (if (F 1 0) ≤ v5 then (K v5 v3 ) else bv (gX1_greatestIn F G  v5) (fun x4 : Int64 => (if x4 ≤ v3 then (gX1_rankedOf_L12 F G  f1 f2 K n9 (v5 + 1) v3 ) else bv (gX1_greatestIn F G  v5) (fun x7 : Int64 => bv (gX1_countLast F G  f1 x7) (fun x9 : Int32 => (if x9 < f2 then (gX1_rankedOf_L12 F G  f1 f2 K n9 (v5 + 1) v3 ) else bv (gX1_greatestIn F G  v5) (fun x12 : Int64 => (gX1_rankedOf_L12 F G  f1 f2 K n9 (v5 + 1) x12 ))))))))
def okX1_rankedOf_L12 (F : jF) (G : jG) (f1 : Int32) (f2 : Int32) (okK : Int32 → Int64 → Prop) : Nat → Int32 → Int64 → Prop
  | 0, _, _ => False
  | n9 + 1, v5, v3 => (((F 1 0) ≤ v5 → (okK v5 v3 )) ∧ (¬ (F 1 0) ≤ v5 → ((okX1_greatestIn F G  v5) ∧ bv (gX1_greatestIn F G  v5) (fun x4 : Int64 => ((x4 ≤ v3 → (okX1_rankedOf_L12 F G  f1 f2 okK n9 (v5 + 1) v3 )) ∧ (¬ x4 ≤ v3 → ((okX1_greatestIn F G  v5) ∧ bv (gX1_greatestIn F G  v5) (fun x7 : Int64 => ((okX1_countLast F G  f1 x7) ∧ bv (gX1_countLast F G  f1 x7) (fun x9 : Int32 => ((x9 < f2 → (okX1_rankedOf_L12 F G  f1 f2 okK n9 (v5 + 1) v3 )) ∧ (¬ x9 < f2 → ((okX1_greatestIn F G  v5) ∧ bv (gX1_greatestIn F G  v5) (fun x12 : Int64 => (okX1_rankedOf_L12 F G  f1 f2 okK n9 (v5 + 1) x12 )))))))))))))))
def gX1_rankedOf (F : jF) (G : jG) (p1 : Int32) (p2 : Int32) : Int64 := bv ((F 1 0) - p1) (fun x1 : Int32 => (gX1_rankedOf_L12 F G  p1 p2 (fun (y13 : Int32) (y14 : Int64) => y14) 80 x1 (-9223372036854775808) ))
def okX1_rankedOf (F : jF) (G : jG) (p1 : Int32) (p2 : Int32) : Prop := bv ((F 1 0) - p1) (fun x1 : Int32 => (okX1_rankedOf_L12 F G  p1 p2 (fun (y13 : Int32) (y14 : Int64) => True) 80 x1 (-9223372036854775808) ))
abbrev rmX1_rankedOf : Room := { frames := 2, cells := 0, slots := 0, locals := 46 }
def gX5_gateAt (F : jF) (G : jG) (p1 : Int32) : Option Nat := (if p1 < 0 then none else (if p1 < 8 then bv (op (cn F 17) (Int32.toNatClampNeg p1)) (fun o3 : Option Nat => o3) else none))
def okX5_gateAt (F : jF) (G : jG) (p1 : Int32) : Prop := ((p1 < 0 → True) ∧ (¬ p1 < 0 → ((p1 < 8 → (vp_in p1 8)) ∧ (¬ p1 < 8 → True))))
abbrev rmX5_gateAt : Room := { frames := 0, cells := 0, slots := 0, locals := 0 }
def gX5_pumpAt (F : jF) (G : jG) (p1 : Int32) : Option Nat := (if p1 < 0 then none else (if p1 < 8 then bv (op (cn F 23) (Int32.toNatClampNeg p1)) (fun o3 : Option Nat => o3) else none))
def okX5_pumpAt (F : jF) (G : jG) (p1 : Int32) : Prop := ((p1 < 0 → True) ∧ (¬ p1 < 0 → ((p1 < 8 → (vp_in p1 8)) ∧ (¬ p1 < 8 → True))))
abbrev rmX5_pumpAt : Room := { frames := 0, cells := 0, slots := 0, locals := 0 }
def gX5_dykeAt (F : jF) (G : jG) (p1 : Int32) : Option Nat := (if p1 < 0 then none else (if p1 < 8 then bv (op (cn F 32) (Int32.toNatClampNeg p1)) (fun o3 : Option Nat => o3) else none))
def okX5_dykeAt (F : jF) (G : jG) (p1 : Int32) : Prop := ((p1 < 0 → True) ∧ (¬ p1 < 0 → ((p1 < 8 → (vp_in p1 8)) ∧ (¬ p1 < 8 → True))))
abbrev rmX5_dykeAt : Room := { frames := 0, cells := 0, slots := 0, locals := 0 }
def gX5_crewAt (F : jF) (G : jG) (p1 : Int32) : Option Nat := (if p1 < 0 then none else (if p1 < 3 then bv (op (3) (Int32.toNatClampNeg p1)) (fun o3 : Option Nat => o3) else none))
def okX5_crewAt (F : jF) (G : jG) (p1 : Int32) : Prop := ((p1 < 0 → True) ∧ (¬ p1 < 0 → ((p1 < 3 → (vp_in p1 3)) ∧ (¬ p1 < 3 → True))))
abbrev rmX5_crewAt : Room := { frames := 0, cells := 0, slots := 0, locals := 0 }
def gX5_order (F : jF) (G : jG) (p1 : Option Nat) (p2 : Int32) (p3 : Int32) : (Int32 × jS) := om p1 (0, (F, G)) (fun k9 : Nat => br (gX4_obey F G k9 p2 p3) (fun (x6 : Int32) (F3 : jF) (G4 : jG) => (x6, (F3, G4))))
def okX5_order (F : jF) (G : jG) (p1 : Option Nat) (p2 : Int32) (p3 : Int32) : Prop := om p1 True (fun k9 : Nat => (k9 < cn F 17 ∧ (okX4_obey F G k9 p2 p3)))
abbrev rmX5_order : Room := { frames := 5, cells := 0, slots := 0, locals := 112 }
def gX5_switchPump (F : jF) (G : jG) (p1 : Option Nat) (p2 : Int32) (p3 : Int32) : (Int32 × jS) := om p1 (0, (F, G)) (fun k9 : Nat => bv (u2 F 62 0 ((F 62 0) - p3)) (fun F1 : jF => bv (u2 F1 29 k9 p2) (fun F5 : jF => bv (u2 F5 30 k9 ((F5 30 k9) + p3)) (fun F9 : jF => ((F9 30 k9), (F9, G))))))
def okX5_switchPump (F : jF) (G : jG) (p1 : Option Nat) (p2 : Int32) (p3 : Int32) : Prop := om p1 True (fun k9 : Nat => bv (u2 F 62 0 ((F 62 0) - p3)) (fun F1 : jF => (jb p2 ∧ (k9 < cn F1 23 ∧ bv (u2 F1 29 k9 p2) (fun F5 : jF => (k9 < cn F5 23 ∧ (k9 < cn F5 23 ∧ bv (u2 F5 30 k9 ((F5 30 k9) + p3)) (fun F9 : jF => (k9 < cn F9 23)))))))))
abbrev rmX5_switchPump : Room := { frames := 0, cells := 0, slots := 0, locals := 0 }
def gX5_mendPump (F : jF) (G : jG) (p1 : Option Nat) : (Int32 × jS) := om p1 (0, (F, G)) (fun k9 : Nat => bv (u2 F 62 0 ((F 62 0) - 20)) (fun F1 : jF => bv (F1 31 k9) (fun x4 : Int32 => bv (u2 F1 31 k9 0) (fun F6 : jF => (x4, (F6, G))))))
def okX5_mendPump (F : jF) (G : jG) (p1 : Option Nat) : Prop := om p1 True (fun k9 : Nat => bv (u2 F 62 0 ((F 62 0) - 20)) (fun F1 : jF => (k9 < cn F1 23 ∧ bv (F1 31 k9) (fun x4 : Int32 => (k9 < cn F1 23)))))
abbrev rmX5_mendPump : Room := { frames := 0, cells := 0, slots := 0, locals := 0 }
def gX5_sendCrew (F : jF) (G : jG) (p1 : Option Nat) (p2 : Int32) (p3 : Int32) : (Int32 × jS) := om p1 (0, (F, G)) (fun k9 : Nat => bv (u2 F 62 0 ((F 62 0) - p3)) (fun F1 : jF => bv (u2 F1 64 k9 p2) (fun F4 : jF => bv (u2 F4 50 k9 ((F4 50 k9) + p3)) (fun F8 : jF => ((F8 50 k9), (F8, G))))))
def okX5_sendCrew (F : jF) (G : jG) (p1 : Option Nat) (p2 : Int32) (p3 : Int32) : Prop := om p1 True (fun k9 : Nat => bv (u2 F 62 0 ((F 62 0) - p3)) (fun F1 : jF => (k9 < 3 ∧ bv (u2 F1 64 k9 p2) (fun F4 : jF => (k9 < 3 ∧ (k9 < 3 ∧ bv (u2 F4 50 k9 ((F4 50 k9) + p3)) (fun F8 : jF => (k9 < 3))))))))
abbrev rmX5_sendCrew : Room := { frames := 0, cells := 0, slots := 0, locals := 0 }
def gX5_passHours_L16 (f2 : Int32) (f1 : Int32) (K : Int32 → jF → jG → (Int32 × jS)) : Nat → Int32 → jF → jG → (Int32 × jS)
  | 0, _, F, G => (0, (F, G))
  | n9 + 1, v3, F, G => (if 8 ≤ v3 then (K v3 F G) else bv (op (cn F 17) (Int32.toNatClampNeg v3)) (fun o7 : Option Nat => om o7 (gX5_passHours_L16  f2 f1 K n9 (v3 + 1) F G) (fun k9 : Nat => bv (op (cn F 17) (Int32.toNatClampNeg v3)) (fun o10 : Option Nat => om o10 (0, (F, G)) (fun k12 : Nat => bs (gX4_pass F G k12 ) (fun (F15 : jF) (G16 : jG) => (gX5_passHours_L16  f2 f1 K n9 (v3 + 1) F15 G16)))))))
def okX5_passHours_L16 (f2 : Int32) (f1 : Int32) (okK : Int32 → jF → jG → Prop) : Nat → Int32 → jF → jG → Prop
  | 0, _, _, _ => False
  | n9 + 1, v3, F, G => ((8 ≤ v3 → (okK v3 F G)) ∧ (¬ 8 ≤ v3 → (vp_in v3 8 ∧ bv (op (cn F 17) (Int32.toNatClampNeg v3)) (fun o7 : Option Nat => om o7 (okX5_passHours_L16  f2 f1 okK n9 (v3 + 1) F G) (fun k9 : Nat => (vp_in v3 8 ∧ bv (op (cn F 17) (Int32.toNatClampNeg v3)) (fun o10 : Option Nat => om o10 False (fun k12 : Nat => (k12 < cn F 17 ∧ ((okX4_pass F G k12 ) ∧ bs (gX4_pass F G k12 ) (fun (F15 : jF) (G16 : jG) => (okX5_passHours_L16  f2 f1 okK n9 (v3 + 1) F15 G16))))))))))))
def gX5_passHours_L55 (f2 : Int32) (f1 : Int32) (K : Int32 → jF → jG → (Int32 × jS)) : Nat → Int32 → jF → jG → (Int32 × jS)
  | 0, _, F, G => (0, (F, G))
  | n9 + 1, v3, F, G => (if 8 ≤ v3 then (K v3 F G) else bv (op (cn F 23) (Int32.toNatClampNeg v3)) (fun o22 : Option Nat => om o22 (gX5_passHours_L55  f2 f1 K n9 (v3 + 1) F G) (fun k24 : Nat => bv (op (cn F 23) (Int32.toNatClampNeg v3)) (fun o25 : Option Nat => om o25 (0, (F, G)) (fun k27 : Nat => bs (gX7_work F G k27 ) (fun (F30 : jF) (G31 : jG) => (gX5_passHours_L55  f2 f1 K n9 (v3 + 1) F30 G31)))))))
def okX5_passHours_L55 (f2 : Int32) (f1 : Int32) (okK : Int32 → jF → jG → Prop) : Nat → Int32 → jF → jG → Prop
  | 0, _, _, _ => False
  | n9 + 1, v3, F, G => ((8 ≤ v3 → (okK v3 F G)) ∧ (¬ 8 ≤ v3 → (vp_in v3 8 ∧ bv (op (cn F 23) (Int32.toNatClampNeg v3)) (fun o22 : Option Nat => om o22 (okX5_passHours_L55  f2 f1 okK n9 (v3 + 1) F G) (fun k24 : Nat => (vp_in v3 8 ∧ bv (op (cn F 23) (Int32.toNatClampNeg v3)) (fun o25 : Option Nat => om o25 False (fun k27 : Nat => (k27 < cn F 23 ∧ ((okX7_work F G k27 ) ∧ bs (gX7_work F G k27 ) (fun (F30 : jF) (G31 : jG) => (okX5_passHours_L55  f2 f1 okK n9 (v3 + 1) F30 G31))))))))))))
def gX5_passHours_L94 (f2 : Int32) (f1 : Int32) (K : Int32 → jF → jG → (Int32 × jS)) : Nat → Int32 → jF → jG → (Int32 × jS)
  | 0, _, F, G => (0, (F, G))
  | n9 + 1, v3, F, G => (if 8 ≤ v3 then (K v3 F G) else bv (op (cn F 32) (Int32.toNatClampNeg v3)) (fun o37 : Option Nat => om o37 (gX5_passHours_L94  f2 f1 K n9 (v3 + 1) F G) (fun k39 : Nat => bv (op (cn F 32) (Int32.toNatClampNeg v3)) (fun o40 : Option Nat => om o40 (0, (F, G)) (fun k42 : Nat => bs (gX3_hold F G k42 ) (fun (F45 : jF) (G46 : jG) => (gX5_passHours_L94  f2 f1 K n9 (v3 + 1) F45 G46)))))))
def okX5_passHours_L94 (f2 : Int32) (f1 : Int32) (okK : Int32 → jF → jG → Prop) : Nat → Int32 → jF → jG → Prop
  | 0, _, _, _ => False
  | n9 + 1, v3, F, G => ((8 ≤ v3 → (okK v3 F G)) ∧ (¬ 8 ≤ v3 → (vp_in v3 8 ∧ bv (op (cn F 32) (Int32.toNatClampNeg v3)) (fun o37 : Option Nat => om o37 (okX5_passHours_L94  f2 f1 okK n9 (v3 + 1) F G) (fun k39 : Nat => (vp_in v3 8 ∧ bv (op (cn F 32) (Int32.toNatClampNeg v3)) (fun o40 : Option Nat => om o40 False (fun k42 : Nat => (k42 < cn F 32 ∧ ((okX3_hold F G k42 ) ∧ bs (gX3_hold F G k42 ) (fun (F45 : jF) (G46 : jG) => (okX5_passHours_L94  f2 f1 okK n9 (v3 + 1) F45 G46))))))))))))
def gX5_passHours_L151 (f2 : Int32) (f1 : Int32) (K : Int32 → jF → jG → (Int32 × jS)) : Nat → Int32 → jF → jG → (Int32 × jS)
  | 0, _, F, G => (0, (F, G))
  | n9 + 1, v3, F, G => (if 3 ≤ v3 then (K v3 F G) else bv (op (3) (Int32.toNatClampNeg v3)) (fun o60 : Option Nat => om o60 (gX5_passHours_L151  f2 f1 K n9 (v3 + 1) F G) (fun k62 : Nat => bv (op (3) (Int32.toNatClampNeg v3)) (fun o63 : Option Nat => bv (op (3) (Int32.toNatClampNeg v3)) (fun o65 : Option Nat => om o65 (0, (F, G)) (fun k67 : Nat => om o63 (0, (F, G)) (fun k69 : Nat => bv (gX5_dykeAt F G  (F 64 k67)) (fun o71 : Option Nat => bs (gX2_toil F G k69 o71) (fun (F74 : jF) (G75 : jG) => (gX5_passHours_L151  f2 f1 K n9 (v3 + 1) F74 G75))))))))))
def okX5_passHours_L151 (f2 : Int32) (f1 : Int32) (okK : Int32 → jF → jG → Prop) : Nat → Int32 → jF → jG → Prop
  | 0, _, _, _ => False
  | n9 + 1, v3, F, G => ((3 ≤ v3 → (okK v3 F G)) ∧ (¬ 3 ≤ v3 → (vp_in v3 3 ∧ bv (op (3) (Int32.toNatClampNeg v3)) (fun o60 : Option Nat => om o60 (okX5_passHours_L151  f2 f1 okK n9 (v3 + 1) F G) (fun k62 : Nat => (vp_in v3 3 ∧ bv (op (3) (Int32.toNatClampNeg v3)) (fun o63 : Option Nat => (vp_in v3 3 ∧ bv (op (3) (Int32.toNatClampNeg v3)) (fun o65 : Option Nat => om o65 False (fun k67 : Nat => (k67 < 3 ∧ om o63 False (fun k69 : Nat => ((okX5_dykeAt F G  (F 64 k67)) ∧ bv (gX5_dykeAt F G  (F 64 k67)) (fun o71 : Option Nat => (k69 < 3 ∧ ((okX2_toil F G k69 o71) ∧ bs (gX2_toil F G k69 o71) (fun (F74 : jF) (G75 : jG) => (okX5_passHours_L151  f2 f1 okK n9 (v3 + 1) F74 G75))))))))))))))))))
def gX5_passHours_L2 (f1 : Int32) (K : Int32 → jF → jG → (Int32 × jS)) : Nat → Int32 → jF → jG → (Int32 × jS)
  | 0, _, F, G => (0, (F, G))
  | n9 + 1, v2, F, G => (if f1 ≤ v2 then (K v2 F G) else bs (gX10_fallRain F G  ) (fun (F3 : jF) (G4 : jG) => (gX5_passHours_L16  v2 f1 (fun (y18 : Int32) (F19 : jF) (G20 : jG) => (gX5_passHours_L55  v2 f1 (fun (y33 : Int32) (F34 : jF) (G35 : jG) => (gX5_passHours_L94  v2 f1 (fun (y48 : Int32) (F49 : jF) (G50 : jG) => bs (gX10_countHarms F49 G50  ) (fun (F52 : jF) (G53 : jG) => bs (gX8_lookAt F52 G53  ) (fun (F56 : jF) (G57 : jG) => (gX5_passHours_L151  v2 f1 (fun (y77 : Int32) (F78 : jF) (G79 : jG) => bs (gX1_noteSea F78 G79  (G79 69 0)) (fun (F80 : jF) (G81 : jG) => bs (gX10_endHour F80 G81  ) (fun (F84 : jF) (G85 : jG) => (gX5_passHours_L2  f1 K n9 (v2 + 1) F84 G85)))) 80 0 F56 G57)))) 80 0 F34 G35)) 80 0 F19 G20)) 80 0 F3 G4)))
def okX5_passHours_L2 (f1 : Int32) (okK : Int32 → jF → jG → Prop) : Nat → Int32 → jF → jG → Prop
  | 0, _, _, _ => False
  | n9 + 1, v2, F, G => ((f1 ≤ v2 → (okK v2 F G)) ∧ (¬ f1 ≤ v2 → ((okX10_fallRain F G  ) ∧ bs (gX10_fallRain F G  ) (fun (F3 : jF) (G4 : jG) => (okX5_passHours_L16  v2 f1 (fun (y18 : Int32) (F19 : jF) (G20 : jG) => (okX5_passHours_L55  v2 f1 (fun (y33 : Int32) (F34 : jF) (G35 : jG) => (okX5_passHours_L94  v2 f1 (fun (y48 : Int32) (F49 : jF) (G50 : jG) => ((okX10_countHarms F49 G50  ) ∧ bs (gX10_countHarms F49 G50  ) (fun (F52 : jF) (G53 : jG) => ((okX8_lookAt F52 G53  ) ∧ bs (gX8_lookAt F52 G53  ) (fun (F56 : jF) (G57 : jG) => (okX5_passHours_L151  v2 f1 (fun (y77 : Int32) (F78 : jF) (G79 : jG) => bs (gX1_noteSea F78 G79  (G79 69 0)) (fun (F80 : jF) (G81 : jG) => ((okX10_endHour F80 G81  ) ∧ bs (gX10_endHour F80 G81  ) (fun (F84 : jF) (G85 : jG) => (okX5_passHours_L2  f1 okK n9 (v2 + 1) F84 G85))))) 80 0 F56 G57)))))) 80 0 F34 G35)) 80 0 F19 G20)) 80 0 F3 G4)))))
def gX5_passHours (F : jF) (G : jG) (p1 : Int32) : (Int32 × jS) := (gX5_passHours_L2  p1 (fun (y87 : Int32) (F88 : jF) (G89 : jG) => ((F88 0 0), (F88, G89))) 80 0 F G)
def okX5_passHours (F : jF) (G : jG) (p1 : Int32) : Prop := (okX5_passHours_L2  p1 (fun (y87 : Int32) (F88 : jF) (G89 : jG) => True) 80 0 F G)
abbrev rmX5_passHours : Room := { frames := 5, cells := 0, slots := 0, locals := 131 }
def gX5_closeYear (F : jF) (G : jG)  : (Int32 × jS) := bs (gX10_sinkAll F G  ) (fun (F2 : jF) (G3 : jG) => bs (gX1_close F2 G3  ) (fun (F6 : jF) (G7 : jG) => ((F6 1 0), (F6, G7))))
def okX5_closeYear (F : jF) (G : jG)  : Prop := ((okX10_sinkAll F G  ) ∧ bs (gX10_sinkAll F G  ) (fun (F2 : jF) (G3 : jG) => (okX1_close F2 G3  )))
abbrev rmX5_closeYear : Room := { frames := 2, cells := 0, slots := 0, locals := 41 }
def gX5_hasSeaDyke_L2 (F : jF) (G : jG) (f1 : Int32) (K : Int32 → Int32) : Nat → Int32 → Int32
  | 0, _ => 0
  | n9 + 1, v2 => (if 8 ≤ v2 then (K v2 ) else bv (op (cn F 32) (Int32.toNatClampNeg v2)) (fun o2 : Option Nat => om o2 (gX5_hasSeaDyke_L2 F G  f1 K n9 (v2 + 1) ) (fun k4 : Nat => bv (op (cn F 32) (Int32.toNatClampNeg v2)) (fun o5 : Option Nat => om o5 0 (fun k7 : Nat => bv (gX3_joins F G k7 20 f1) (fun x10 : Int32 => (if x10 = 0 then (gX5_hasSeaDyke_L2 F G  f1 K n9 (v2 + 1) ) else 1)))))))
def okX5_hasSeaDyke_L2 (F : jF) (G : jG) (f1 : Int32) (okK : Int32 → Prop) : Nat → Int32 → Prop
  | 0, _ => False
  | n9 + 1, v2 => ((8 ≤ v2 → (okK v2 )) ∧ (¬ 8 ≤ v2 → (vp_in v2 8 ∧ bv (op (cn F 32) (Int32.toNatClampNeg v2)) (fun o2 : Option Nat => om o2 (okX5_hasSeaDyke_L2 F G  f1 okK n9 (v2 + 1) ) (fun k4 : Nat => (vp_in v2 8 ∧ bv (op (cn F 32) (Int32.toNatClampNeg v2)) (fun o5 : Option Nat => om o5 False (fun k7 : Nat => (k7 < cn F 32 ∧ ((okX3_joins F G k7 20 f1) ∧ bv (gX3_joins F G k7 20 f1) (fun x10 : Int32 => ((x10 = 0 → (okX5_hasSeaDyke_L2 F G  f1 okK n9 (v2 + 1) )) ∧ (¬ x10 = 0 → True)))))))))))))
def gX5_hasSeaDyke (F : jF) (G : jG) (p1 : Int32) : Int32 := (gX5_hasSeaDyke_L2 F G  p1 (fun (y12 : Int32) => 0) 80 0 )
def okX5_hasSeaDyke (F : jF) (G : jG) (p1 : Int32) : Prop := (okX5_hasSeaDyke_L2 F G  p1 (fun (y12 : Int32) => True) 80 0 )
abbrev rmX5_hasSeaDyke : Room := { frames := 1, cells := 0, slots := 0, locals := 22 }
def gX5_highSea (F : jF) (G : jG)  : Int64 := bv (gX1_greatestOfAll F G  ) (fun x2 : Int64 => bv ((if x2 = (-9223372036854775808) then bv (gX6_highTide F G  ) (fun x6 : Int64 => x6) else bv (gJ9_floorDiv_f86c9 x2 100) (fun x5 : Int64 => x5)) : Int64) (fun v7 : Int64 => v7))
def okX5_highSea (F : jF) (G : jG)  : Prop := ((okX1_greatestOfAll F G  ) ∧ bv (gX1_greatestOfAll F G  ) (fun x2 : Int64 => ((x2 = (-9223372036854775808) → True) ∧ (¬ x2 = (-9223372036854775808) → (okJ9_floorDiv_f86c9 x2 100)))))
abbrev rmX5_highSea : Room := { frames := 2, cells := 0, slots := 0, locals := 46 }
def gX5_keptDry (F : jF) (G : jG) (p1 : Int32) : Int64 := bv (gX10_basinAt F G  p1) (fun o2 : Option Nat => om o2 0 (fun k3 : Nat => bv (gX5_hasSeaDyke F G  p1) (fun x5 : Int32 => (if x5 = 0 then 0 else bv (gX5_highSea F G  ) (fun x8 : Int64 => bv (x8 - (Int32.toInt64 (F 10 k3))) (fun x10 : Int64 => bv ((if 0 < x10 then (x10 * (Int32.toInt64 (F 9 k3))) else 0) : Int64) (fun v13 : Int64 => v13)))))))
def okX5_keptDry (F : jF) (G : jG) (p1 : Int32) : Prop := ((okX10_basinAt F G  p1) ∧ bv (gX10_basinAt F G  p1) (fun o2 : Option Nat => om o2 True (fun k3 : Nat => ((okX5_hasSeaDyke F G  p1) ∧ bv (gX5_hasSeaDyke F G  p1) (fun x5 : Int32 => ((x5 = 0 → True) ∧ (¬ x5 = 0 → ((okX5_highSea F G  ) ∧ bv (gX5_highSea F G  ) (fun x8 : Int64 => (k3 < cn F 8 ∧ bv (x8 - (Int32.toInt64 (F 10 k3))) (fun x10 : Int64 => ((0 < x10 → (k3 < cn F 8)) ∧ (¬ 0 < x10 → True)))))))))))))
abbrev rmX5_keptDry : Room := { frames := 3, cells := 0, slots := 0, locals := 68 }
def gX5_partOf_L6 (F : jF) (G : jG) (f1 : Int64) (f3 : Int32) (K : Int32 → Int64 → Int64) : Nat → Int32 → Int64 → Int64
  | 0, _, _ => 0
  | n9 + 1, v6, v4 => (if 8 ≤ v6 then (K v6 v4 ) else bv (gX5_keptDry F G  v6) (fun x3 : Int64 => bv (v4 + x3) (fun x4 : Int64 => (gX5_partOf_L6 F G  f1 f3 K n9 (v6 + 1) x4 ))))
def okX5_partOf_L6 (F : jF) (G : jG) (f1 : Int64) (f3 : Int32) (okK : Int32 → Int64 → Prop) : Nat → Int32 → Int64 → Prop
  | 0, _, _ => False
  | n9 + 1, v6, v4 => ((8 ≤ v6 → (okK v6 v4 )) ∧ (¬ 8 ≤ v6 → ((okX5_keptDry F G  v6) ∧ bv (gX5_keptDry F G  v6) (fun x3 : Int64 => bv (v4 + x3) (fun x4 : Int64 => (okX5_partOf_L6 F G  f1 f3 okK n9 (v6 + 1) x4 ))))))
def gX5_partOf_L45 (F : jF) (G : jG) (f4 : Int64) (f1 : Int64) (f3 : Int32) (K : Int32 → Int64 → Int64) : Nat → Int32 → Int64 → Int64
  | 0, _, _ => 0
  | n9 + 1, v8, v6 => (if 8 ≤ v8 then (K v8 v6 ) else bv (gX5_keptDry F G  v8) (fun x10 : Int64 => bv (v6 - ((f1 * x10) / f4)) (fun x12 : Int64 => (gX5_partOf_L45 F G  f4 f1 f3 K n9 (v8 + 1) x12 ))))
def okX5_partOf_L45 (F : jF) (G : jG) (f4 : Int64) (f1 : Int64) (f3 : Int32) (okK : Int32 → Int64 → Prop) : Nat → Int32 → Int64 → Prop
  | 0, _, _ => False
  | n9 + 1, v8, v6 => ((8 ≤ v8 → (okK v8 v6 )) ∧ (¬ 8 ≤ v8 → ((okX5_keptDry F G  v8) ∧ bv (gX5_keptDry F G  v8) (fun x10 : Int64 => (¬ f4 = (0 : Int64) ∧ bv (v6 - ((f1 * x10) / f4)) (fun x12 : Int64 => (okX5_partOf_L45 F G  f4 f1 f3 okK n9 (v8 + 1) x12 )))))))
def gX5_partOf_L89 (F : jF) (G : jG) (f8 : Int64) (f6 : Int64) (f4 : Int64) (f1 : Int64) (f3 : Int32) (K : Int32 → Int64 → Int64) : Nat → Int32 → Int64 → Int64
  | 0, _, _ => 0
  | n9 + 1, v12, v10 => (if 8 ≤ v12 then (K v12 v10 ) else bv (gX5_keptDry F G  v12) (fun x20 : Int64 => bv ((f1 * x20) - (f1 * x20) / f4 * f4) (fun x22 : Int64 => (if (f8 - f8 / f4 * f4) < x22 then bv (v10 + 1) (fun x25 : Int64 => (gX5_partOf_L89 F G  f8 f6 f4 f1 f3 K n9 (v12 + 1) x25 )) else (if x22 = (f8 - f8 / f4 * f4) then (if f3 ≤ v12 then (gX5_partOf_L89 F G  f8 f6 f4 f1 f3 K n9 (v12 + 1) v10 ) else bv (v10 + 1) (fun x29 : Int64 => (gX5_partOf_L89 F G  f8 f6 f4 f1 f3 K n9 (v12 + 1) x29 ))) else (gX5_partOf_L89 F G  f8 f6 f4 f1 f3 K n9 (v12 + 1) v10 ))))))
def okX5_partOf_L89 (F : jF) (G : jG) (f8 : Int64) (f6 : Int64) (f4 : Int64) (f1 : Int64) (f3 : Int32) (okK : Int32 → Int64 → Prop) : Nat → Int32 → Int64 → Prop
  | 0, _, _ => False
  | n9 + 1, v12, v10 => ((8 ≤ v12 → (okK v12 v10 )) ∧ (¬ 8 ≤ v12 → ((okX5_keptDry F G  v12) ∧ bv (gX5_keptDry F G  v12) (fun x20 : Int64 => (¬ f4 = (0 : Int64) ∧ bv ((f1 * x20) - (f1 * x20) / f4 * f4) (fun x22 : Int64 => (¬ f4 = (0 : Int64) ∧ (((f8 - f8 / f4 * f4) < x22 → bv (v10 + 1) (fun x25 : Int64 => (okX5_partOf_L89 F G  f8 f6 f4 f1 f3 okK n9 (v12 + 1) x25 ))) ∧ (¬ (f8 - f8 / f4 * f4) < x22 → (¬ f4 = (0 : Int64) ∧ ((x22 = (f8 - f8 / f4 * f4) → ((f3 ≤ v12 → (okX5_partOf_L89 F G  f8 f6 f4 f1 f3 okK n9 (v12 + 1) v10 )) ∧ (¬ f3 ≤ v12 → bv (v10 + 1) (fun x29 : Int64 => (okX5_partOf_L89 F G  f8 f6 f4 f1 f3 okK n9 (v12 + 1) x29 ))))) ∧ (¬ x22 = (f8 - f8 / f4 * f4) → (okX5_partOf_L89 F G  f8 f6 f4 f1 f3 okK n9 (v12 + 1) v10 )))))))))))))
def gX5_partOf (F : jF) (G : jG) (p1 : Int64) (p2 : Int32) : Int64 := (gX5_partOf_L6 F G  p1 p2 (fun (y5 : Int32) (y6 : Int64) => (if 0 < y6 then (gX5_partOf_L45 F G  y6 p1 p2 (fun (y13 : Int32) (y14 : Int64) => bv (gX5_keptDry F G  p2) (fun x16 : Int64 => bv (p1 * x16) (fun x17 : Int64 => (gX5_partOf_L89 F G  x17 y14 y6 p1 p2 (fun (y30 : Int32) (y31 : Int64) => bv ((if y14 ≤ y31 then 0 else 1) : Int32) (fun v34 : Int32 => ((x17 / y6) + (Int32.toInt64 v34)))) 80 0 0 )))) 80 0 p1 ) else 0)) 80 0 0 )
def okX5_partOf (F : jF) (G : jG) (p1 : Int64) (p2 : Int32) : Prop := (okX5_partOf_L6 F G  p1 p2 (fun (y5 : Int32) (y6 : Int64) => ((0 < y6 → (okX5_partOf_L45 F G  y6 p1 p2 (fun (y13 : Int32) (y14 : Int64) => ((okX5_keptDry F G  p2) ∧ bv (gX5_keptDry F G  p2) (fun x16 : Int64 => bv (p1 * x16) (fun x17 : Int64 => (okX5_partOf_L89 F G  x17 y14 y6 p1 p2 (fun (y30 : Int32) (y31 : Int64) => (¬ y6 = (0 : Int64))) 80 0 0 ))))) 80 0 p1 )) ∧ (¬ 0 < y6 → True))) 80 0 0 )
abbrev rmX5_partOf : Room := { frames := 4, cells := 0, slots := 0, locals := 92 }
def gX5_sumOfAll_L45 (F : jF) (G : jG)  (K : Int32 → Int64 → Int64) : Nat → Int32 → Int64 → Int64
  | 0, _, _ => 0
  | n9 + 1, v3, v1 => (if 8 ≤ v3 then (K v3 v1 ) else bv (op (cn F 32) (Int32.toNatClampNeg v3)) (fun o6 : Option Nat => om o6 (gX5_sumOfAll_L45 F G   K n9 (v3 + 1) v1 ) (fun k8 : Nat => bv (op (cn F 32) (Int32.toNatClampNeg v3)) (fun o9 : Option Nat => om o9 0 (fun k11 : Nat => bv (gX3_sumDyke F G k11 v1) (fun x14 : Int64 => (gX5_sumOfAll_L45 F G   K n9 (v3 + 1) x14 )))))))
def okX5_sumOfAll_L45 (F : jF) (G : jG)  (okK : Int32 → Int64 → Prop) : Nat → Int32 → Int64 → Prop
  | 0, _, _ => False
  | n9 + 1, v3, v1 => ((8 ≤ v3 → (okK v3 v1 )) ∧ (¬ 8 ≤ v3 → (vp_in v3 8 ∧ bv (op (cn F 32) (Int32.toNatClampNeg v3)) (fun o6 : Option Nat => om o6 (okX5_sumOfAll_L45 F G   okK n9 (v3 + 1) v1 ) (fun k8 : Nat => (vp_in v3 8 ∧ bv (op (cn F 32) (Int32.toNatClampNeg v3)) (fun o9 : Option Nat => om o9 False (fun k11 : Nat => (k11 < cn F 32 ∧ ((okX3_sumDyke F G k11 v1) ∧ bv (gX3_sumDyke F G k11 v1) (fun x14 : Int64 => (okX5_sumOfAll_L45 F G   okK n9 (v3 + 1) x14 ))))))))))))
def gX5_sumOfAll_L82 (F : jF) (G : jG)  (K : Int32 → Int64 → Int64) : Nat → Int32 → Int64 → Int64
  | 0, _, _ => 0
  | n9 + 1, v3, v1 => (if 8 ≤ v3 then (K v3 v1 ) else bv (op (cn F 23) (Int32.toNatClampNeg v3)) (fun o18 : Option Nat => om o18 (gX5_sumOfAll_L82 F G   K n9 (v3 + 1) v1 ) (fun k20 : Nat => bv (op (cn F 23) (Int32.toNatClampNeg v3)) (fun o21 : Option Nat => om o21 0 (fun k23 : Nat => bv (gX7_sumPump F G k23 v1) (fun x26 : Int64 => (gX5_sumOfAll_L82 F G   K n9 (v3 + 1) x26 )))))))
def okX5_sumOfAll_L82 (F : jF) (G : jG)  (okK : Int32 → Int64 → Prop) : Nat → Int32 → Int64 → Prop
  | 0, _, _ => False
  | n9 + 1, v3, v1 => ((8 ≤ v3 → (okK v3 v1 )) ∧ (¬ 8 ≤ v3 → (vp_in v3 8 ∧ bv (op (cn F 23) (Int32.toNatClampNeg v3)) (fun o18 : Option Nat => om o18 (okX5_sumOfAll_L82 F G   okK n9 (v3 + 1) v1 ) (fun k20 : Nat => (vp_in v3 8 ∧ bv (op (cn F 23) (Int32.toNatClampNeg v3)) (fun o21 : Option Nat => om o21 False (fun k23 : Nat => (k23 < cn F 23 ∧ ((okX7_sumPump F G k23 v1) ∧ bv (gX7_sumPump F G k23 v1) (fun x26 : Int64 => (okX5_sumOfAll_L82 F G   okK n9 (v3 + 1) x26 ))))))))))))
def gX5_sumOfAll (F : jF) (G : jG)  : Int64 := bv ((7 * 31) + (Int32.toInt64 (F 0 0))) (fun x1 : Int64 => bv ((x1 * 31) + (Int32.toInt64 (F 62 0))) (fun x2 : Int64 => bv (gX10_sumBasins F G  x2) (fun x4 : Int64 => (gX5_sumOfAll_L45 F G   (fun (y15 : Int32) (y16 : Int64) => (gX5_sumOfAll_L82 F G   (fun (y27 : Int32) (y28 : Int64) => y28) 80 0 y16 )) 80 0 x4 ))))
def okX5_sumOfAll (F : jF) (G : jG)  : Prop := bv ((7 * 31) + (Int32.toInt64 (F 0 0))) (fun x1 : Int64 => bv ((x1 * 31) + (Int32.toInt64 (F 62 0))) (fun x2 : Int64 => ((okX10_sumBasins F G  x2) ∧ bv (gX10_sumBasins F G  x2) (fun x4 : Int64 => (okX5_sumOfAll_L45 F G   (fun (y15 : Int32) (y16 : Int64) => (okX5_sumOfAll_L82 F G   (fun (y27 : Int32) (y28 : Int64) => True) 80 0 y16 )) 80 0 x4 )))))
abbrev rmX5_sumOfAll : Room := { frames := 2, cells := 0, slots := 0, locals := 45 }
set_option maxHeartbeats 4000000 in
set_option maxRecDepth 100000 in
theorem qX1_greatestOfAll (l : Launch) (D : va_G) (yy : Nat → ClassId) (B : Nat → Nat) (F : jF) (G : jG)  (hok : okX1_greatestOfAll F G ) : Met l yX1_greatestOfAll (Cond.code yX1_greatestOfAll cX1_greatestOfAll 4 (some .long) :: wsL_law) rmX1_greatestOfAll (va_Pc [.ref (B 2)] (jR D yy (lW yy B F G))) (vp_Sl (fun r => r = gX1_greatestOfAll F G )) 0 0 (fun _ => False) := by
  generalize hres : gX1_greatestOfAll F G  = RES
  refine jM (vs := [.ref (B 2)]) (own := RX1) (by decide +kernel) rfl (Nat.le_of_ble_eq_true rfl) ?_
  intro p e s m args below meth c ls Q hQ hargs S hr hlk hinit hB hl
  obtain ⟨hx, hb, hml, hown, hts⟩ := S
  have hl : lv_has ls 4 [(0, .ref (B 2))] := hl
  obtain ⟨hP, hK⟩ := hB
  unfold gX1_greatestOfAll at hres
  unfold okX1_greatestOfAll at hok
  refine lv_ldc2 (v := (-9223372036854775808)) hx hb hown (jw hts gw100) (dd_of dX1_greatestOfAll_0 0 rfl) ?_
  refine lv_lstore_n (lv' := [(1, .long (-9223372036854775808)), (0, .ref (B 2))]) hx hb (dd_of dX1_greatestOfAll_0 1 rfl) rfl hl (by decide) rfl (fun ls hl => ?_)
  refine lv_iconst (v := 0) hx hb (dd_of dX1_greatestOfAll_0 2 rfl) (by decide) ?_
  refine lv_istore_n (lv' := [(3, .int 0), (1, .long (-9223372036854775808)), (0, .ref (B 2))]) hx hb (dd_of dX1_greatestOfAll_0 3 rfl) rfl hl (by decide) rfl (fun ls hl => ?_)
  have LP6 : ∀ (K : Int32 → Int64 → Int64) (okK : Int32 → Int64 → Prop) (n : Nat), ∀ (v3 : Int32) (v1 : Int64), ∀ (ls : Array Slot), lv_has ls 4 [(3, .int v3), (1, .long v1), (0, .ref (B 2))] → okX1_greatestOfAll_L6 F G  okK n v3 v1 → gX1_greatestOfAll_L6 F G  K n v3 v1 = RES → (∀ (v3 : Int32) (v1 : Int64), ∀ (ls : Array Slot), lv_has ls 4 [(3, .int v3), (1, .long v1), (0, .ref (B 2))] → okK v3 v1 → K v3 v1 = RES → W p l e rmX1_greatestOfAll s m args below meth c s.heap [] 0 0 Q (F0 m 30 ls [])) → W p l e rmX1_greatestOfAll s m args below meth c s.heap [] 0 0 Q (F0 m 6 ls []) := by
    intro  K okK n
    induction n with
    | zero =>
      intro v3 v1 ls hl hok _ _
      exact absurd hok (by unfold okX1_greatestOfAll_L6; exact id)
    | succ n9 ih =>
      intro v3 v1 ls hl hok hres hexit
      unfold gX1_greatestOfAll_L6 at hres
      unfold okX1_greatestOfAll_L6 at hok
      refine lv_iload_n hx hb (dd_of dX1_greatestOfAll_0 4 rfl) rfl (lv_at hl 0 rfl) ?_
      refine lv_aload_n hx hb (dd_of dX1_greatestOfAll_0 5 rfl) rfl (lv_at hl 2 rfl) ?_
      refine va_get (D := D) (cl := vwCl) (tys := jT yy) (ci := 1) (v := .int (F 1 0)) (C := RX1) (T := TX1) (N := 8) hx hb hts (fun w h => List.mem_cons_of_mem _ (inlX1 w h)) hown hK hP 2 rfl rfl 2 (by decide) (jw hts gw579) (fun _ h9 => h9) rfl (dd_of dX1_greatestOfAll_0 6 rfl) ?_
      refine lv_icmp_ge (tgt := 30) hx hb (dd_of dX1_greatestOfAll_0 7 rfl) (by decide) (fun c1 => ?_) (fun c1 => ?_)
      · replace hres := ifE c1 hres
        replace hok := hok.1 c1
        exact hexit v3 v1 ls (lv_sub hl [0, 1, 2] rfl) hok hres
      · replace hres := ifN c1 hres
        replace hok := hok.2 c1
        refine lv_lload_n hx hb (dd_of dX1_greatestOfAll_0 8 rfl) rfl (lv_at hl 1 rfl) ?_
        refine lv_aload_n hx hb (dd_of dX1_greatestOfAll_0 9 rfl) rfl (lv_at hl 2 rfl) ?_
        refine lv_iload_n hx hb (dd_of dX1_greatestOfAll_0 10 rfl) rfl (lv_at hl 0 rfl) ?_
        have h2 := hok.1
        replace hok := hok.2
        refine jc_l (As := [.int v3]) (rest := [.long v1]) (w := (lW yy B F G)) (D := D) (yy := yy) ⟨hx, hb, hml, hown, hts⟩ (qX1_greatestIn l D yy B F G  v3 h2) (cwV 1 hts (jgV gw1150 gw1129 gw1130 gw30 gw1131) rfl rfl rfl (by decide +kernel) ⟨Nat.le_of_ble_eq_true rfl, Nat.le_of_ble_eq_true rfl⟩) hP hK (va_recv hK hP (ci := 1) (q0 := 2) rfl rfl) rfl hl.1 rfl (Nat.le_of_ble_eq_true rfl) (dd_of dX1_greatestOfAll_0 11 rfl) ⟨Nat.zero_le _, Nat.zero_le _⟩ (fun x3 ex3 => ?_)
        replace hres := bvE ex3 hres
        replace hok := bvO ex3 hok
        refine va_mmax_long hx hb (hml.trans hl.1.symm) hown (jw hts gw560) (jw hts gw81) (jw hts gw82) (jw hts gw83) (Nat.le_of_ble_eq_true rfl) (Nat.le_of_ble_eq_true rfl) (Nat.zero_le _) (Nat.zero_le _) (dd_of dX1_greatestOfAll_0 12 rfl) ?_
        refine lv_topl (fun x4 ex4 => ?_)
        replace hres := bvE ex4 hres
        replace hok := bvO ex4 hok
        refine lv_lstore_n (lv' := [(1, .long x4), (3, .int v3), (0, .ref (B 2))]) hx hb (dd_of dX1_greatestOfAll_0 13 rfl) rfl hl (by decide) rfl (fun ls hl => ?_)
        refine lv_iinc (v := (v3 + 1)) (lv' := [(3, .int (v3 + 1)), (1, .long x4), (0, .ref (B 2))]) hx hb (dd_of dX1_greatestOfAll_0 14 rfl) hl (k := 1) rfl rfl (by decide) rfl (fun ls hl => ?_)
        refine lv_goto (tgt := 6) hx hb (dd_of dX1_greatestOfAll_0 15 rfl) (by decide) ?_
        exact ih (v3 + 1) x4 ls (lv_sub hl [0, 1, 2] rfl) hok hres hexit
  refine LP6  _ _ 80 0 (-9223372036854775808) ls (lv_sub hl [0, 1, 2] rfl) hok hres (fun y5 y6 ls hl hok hres => ?_)
  refine lv_lload_n hx hb (dd_of dX1_greatestOfAll_0 16 rfl) rfl (lv_at hl 1 rfl) ?_
  subst hQ
  exact W.lret (v := y6) hx hb hr (fun t ht _ => ⟨_, rfl, hres, ht⟩) (fun _ h => absurd h List.not_mem_nil) (dd_of dX1_greatestOfAll_0 17 rfl) hlk
set_option maxHeartbeats 4000000 in
set_option maxRecDepth 100000 in
theorem qX5_gateAt (l : Launch) (D : va_G) (yy : Nat → ClassId) (B : Nat → Nat) (F : jF) (G : jG) (p1 : Int32) (hok : okX5_gateAt F G p1) : Met l yX5_gateAt (Cond.code yX5_gateAt cX5_gateAt 2 (some (.object "Polderwardens$Gate")) :: wsL_law) rmX5_gateAt (va_Pc [.ref (B 0), .int p1] (jR D yy (lW yy B F G))) (va_Sq (fun r => r = oB B 200 (gX5_gateAt F G p1))) 0 0 (fun _ => False) := by
  generalize hres : gX5_gateAt F G p1 = RES
  refine jM (vs := [.ref (B 0), .int p1]) (own := RX5) (by decide +kernel) rfl (Nat.le_of_ble_eq_true rfl) ?_
  intro p e s m args below meth c ls Q hQ hargs S hr hlk hinit hB hl
  obtain ⟨hx, hb, hml, hown, hts⟩ := S
  have hl : lv_has ls 2 [(0, .ref (B 0)), (1, .int p1)] := hl
  obtain ⟨hP, hK⟩ := hB
  unfold gX5_gateAt at hres
  unfold okX5_gateAt at hok
  refine lv_iload_n hx hb (dd_of dX5_gateAt_0 0 rfl) rfl (lv_at hl 1 rfl) ?_
  refine lv_if_lt (tgt := 13) hx hb (dd_of dX5_gateAt_0 1 rfl) (by decide) (fun c1 => ?_) (fun c1 => ?_)
  · replace hres := ifE c1 hres
    refine lv_null hx hb (dd_of dX5_gateAt_0 7 rfl) ?_
    refine lv_goto (tgt := 23) hx hb (dd_of dX5_gateAt_0 8 rfl) (by decide) ?_
    subst hQ
    exact W.aret (v := va_rf (oB B 200 none)) (rt := .object "Polderwardens$Gate") hx hb hr (Or.inl ⟨_, rfl⟩) (va_rf_or _) (fun t ht _ => ⟨_, rfl, congrArg (oB B 200) hres, ht⟩) (fun _ h => absurd h List.not_mem_nil) (dd_of dX5_gateAt_0 13 rfl) hlk
  · replace hres := ifN c1 hres
    replace hok := hok.2 c1
    refine lv_iload_n hx hb (dd_of dX5_gateAt_0 2 rfl) rfl (lv_at hl 1 rfl) ?_
    refine lv_aload_n hx hb (dd_of dX5_gateAt_0 3 rfl) rfl (lv_at hl 0 rfl) ?_
    refine va_get (D := D) (cl := vwCl) (tys := jT yy) (ci := 5) (v := .ref (B 3)) (C := RX5) (T := TX5) (N := 10) hx hb hts (fun w h => List.mem_cons_of_mem _ (inlX5 w h)) hown hK hP 0 rfl rfl 2 (by decide) (jw hts gw33) (fun _ h9 => h9) rfl (dd_of dX5_gateAt_0 4 rfl) ?_
    refine va_alen (v := 8) hx hb hK hP 5 6 rfl rfl rfl (dd_of dX5_gateAt_0 5 rfl) ?_
    refine lv_icmp_lt (tgt := 17) hx hb (dd_of dX5_gateAt_0 6 rfl) (by decide) (fun c2 => ?_) (fun c2 => ?_)
    · replace hres := ifE c2 hres
      replace hok := hok.1 c2
      refine lv_aload_n hx hb (dd_of dX5_gateAt_0 9 rfl) rfl (lv_at hl 0 rfl) ?_
      refine va_get (D := D) (cl := vwCl) (tys := jT yy) (ci := 5) (v := .ref (B 3)) (C := RX5) (T := TX5) (N := 10) hx hb hts (fun w h => List.mem_cons_of_mem _ (inlX5 w h)) hown hK hP 0 rfl rfl 2 (by decide) (jw hts gw33) (fun _ h9 => h9) rfl (dd_of dX5_gateAt_0 10 rfl) ?_
      refine lv_iload_n hx hb (dd_of dX5_gateAt_0 11 rfl) rfl (lv_at hl 1 rfl) ?_
      have h4 := hok
      refine va_aldq hx hb hK hP 5 6 rfl rfl h4 (dd_of dX5_gateAt_0 12 rfl) ?_
      refine jo_nm (B := B) (off := 200) (e0 := (op (cn F 17) (Int32.toNatClampNeg p1))) (fun o3 eo3 => ?_)
      replace hres := bvE eo3 hres
      subst hQ
      exact W.aret (v := va_rf (oB B 200 o3)) (rt := .object "Polderwardens$Gate") hx hb hr (Or.inl ⟨_, rfl⟩) (va_rf_or _) (fun t ht _ => ⟨_, rfl, congrArg (oB B 200) hres, ht⟩) (fun _ h => absurd h List.not_mem_nil) (dd_of dX5_gateAt_0 13 rfl) hlk
    · replace hres := ifN c2 hres
      refine lv_null hx hb (dd_of dX5_gateAt_0 7 rfl) ?_
      refine lv_goto (tgt := 23) hx hb (dd_of dX5_gateAt_0 8 rfl) (by decide) ?_
      subst hQ
      exact W.aret (v := va_rf (oB B 200 none)) (rt := .object "Polderwardens$Gate") hx hb hr (Or.inl ⟨_, rfl⟩) (va_rf_or _) (fun t ht _ => ⟨_, rfl, congrArg (oB B 200) hres, ht⟩) (fun _ h => absurd h List.not_mem_nil) (dd_of dX5_gateAt_0 13 rfl) hlk
set_option maxHeartbeats 4000000 in
set_option maxRecDepth 100000 in
theorem qX5_pumpAt (l : Launch) (D : va_G) (yy : Nat → ClassId) (B : Nat → Nat) (F : jF) (G : jG) (p1 : Int32) (hok : okX5_pumpAt F G p1) : Met l yX5_pumpAt (Cond.code yX5_pumpAt cX5_pumpAt 2 (some (.object "Polderwardens$Pump")) :: wsL_law) rmX5_pumpAt (va_Pc [.ref (B 0), .int p1] (jR D yy (lW yy B F G))) (va_Sq (fun r => r = oB B 300 (gX5_pumpAt F G p1))) 0 0 (fun _ => False) := by
  generalize hres : gX5_pumpAt F G p1 = RES
  refine jM (vs := [.ref (B 0), .int p1]) (own := RX5) (by decide +kernel) rfl (Nat.le_of_ble_eq_true rfl) ?_
  intro p e s m args below meth c ls Q hQ hargs S hr hlk hinit hB hl
  obtain ⟨hx, hb, hml, hown, hts⟩ := S
  have hl : lv_has ls 2 [(0, .ref (B 0)), (1, .int p1)] := hl
  obtain ⟨hP, hK⟩ := hB
  unfold gX5_pumpAt at hres
  unfold okX5_pumpAt at hok
  refine lv_iload_n hx hb (dd_of dX5_pumpAt_0 0 rfl) rfl (lv_at hl 1 rfl) ?_
  refine lv_if_lt (tgt := 13) hx hb (dd_of dX5_pumpAt_0 1 rfl) (by decide) (fun c1 => ?_) (fun c1 => ?_)
  · replace hres := ifE c1 hres
    refine lv_null hx hb (dd_of dX5_pumpAt_0 7 rfl) ?_
    refine lv_goto (tgt := 23) hx hb (dd_of dX5_pumpAt_0 8 rfl) (by decide) ?_
    subst hQ
    exact W.aret (v := va_rf (oB B 300 none)) (rt := .object "Polderwardens$Pump") hx hb hr (Or.inl ⟨_, rfl⟩) (va_rf_or _) (fun t ht _ => ⟨_, rfl, congrArg (oB B 300) hres, ht⟩) (fun _ h => absurd h List.not_mem_nil) (dd_of dX5_pumpAt_0 13 rfl) hlk
  · replace hres := ifN c1 hres
    replace hok := hok.2 c1
    refine lv_iload_n hx hb (dd_of dX5_pumpAt_0 2 rfl) rfl (lv_at hl 1 rfl) ?_
    refine lv_aload_n hx hb (dd_of dX5_pumpAt_0 3 rfl) rfl (lv_at hl 0 rfl) ?_
    refine va_get (D := D) (cl := vwCl) (tys := jT yy) (ci := 5) (v := .ref (B 4)) (C := RX5) (T := TX5) (N := 10) hx hb hts (fun w h => List.mem_cons_of_mem _ (inlX5 w h)) hown hK hP 0 rfl rfl 4 (by decide) (jw hts gw35) (fun _ h9 => h9) rfl (dd_of dX5_pumpAt_0 4 rfl) ?_
    refine va_alen (v := 8) hx hb hK hP 6 7 rfl rfl rfl (dd_of dX5_pumpAt_0 5 rfl) ?_
    refine lv_icmp_lt (tgt := 17) hx hb (dd_of dX5_pumpAt_0 6 rfl) (by decide) (fun c2 => ?_) (fun c2 => ?_)
    · replace hres := ifE c2 hres
      replace hok := hok.1 c2
      refine lv_aload_n hx hb (dd_of dX5_pumpAt_0 9 rfl) rfl (lv_at hl 0 rfl) ?_
      refine va_get (D := D) (cl := vwCl) (tys := jT yy) (ci := 5) (v := .ref (B 4)) (C := RX5) (T := TX5) (N := 10) hx hb hts (fun w h => List.mem_cons_of_mem _ (inlX5 w h)) hown hK hP 0 rfl rfl 4 (by decide) (jw hts gw35) (fun _ h9 => h9) rfl (dd_of dX5_pumpAt_0 10 rfl) ?_
      refine lv_iload_n hx hb (dd_of dX5_pumpAt_0 11 rfl) rfl (lv_at hl 1 rfl) ?_
      have h4 := hok
      refine va_aldq hx hb hK hP 6 7 rfl rfl h4 (dd_of dX5_pumpAt_0 12 rfl) ?_
      refine jo_nm (B := B) (off := 300) (e0 := (op (cn F 23) (Int32.toNatClampNeg p1))) (fun o3 eo3 => ?_)
      replace hres := bvE eo3 hres
      subst hQ
      exact W.aret (v := va_rf (oB B 300 o3)) (rt := .object "Polderwardens$Pump") hx hb hr (Or.inl ⟨_, rfl⟩) (va_rf_or _) (fun t ht _ => ⟨_, rfl, congrArg (oB B 300) hres, ht⟩) (fun _ h => absurd h List.not_mem_nil) (dd_of dX5_pumpAt_0 13 rfl) hlk
    · replace hres := ifN c2 hres
      refine lv_null hx hb (dd_of dX5_pumpAt_0 7 rfl) ?_
      refine lv_goto (tgt := 23) hx hb (dd_of dX5_pumpAt_0 8 rfl) (by decide) ?_
      subst hQ
      exact W.aret (v := va_rf (oB B 300 none)) (rt := .object "Polderwardens$Pump") hx hb hr (Or.inl ⟨_, rfl⟩) (va_rf_or _) (fun t ht _ => ⟨_, rfl, congrArg (oB B 300) hres, ht⟩) (fun _ h => absurd h List.not_mem_nil) (dd_of dX5_pumpAt_0 13 rfl) hlk
set_option maxHeartbeats 4000000 in
set_option maxRecDepth 100000 in
theorem qX5_dykeAt (l : Launch) (D : va_G) (yy : Nat → ClassId) (B : Nat → Nat) (F : jF) (G : jG) (p1 : Int32) (hok : okX5_dykeAt F G p1) : Met l yX5_dykeAt (Cond.code yX5_dykeAt cX5_dykeAt 2 (some (.object "Polderwardens$Dyke")) :: wsL_law) rmX5_dykeAt (va_Pc [.ref (B 0), .int p1] (jR D yy (lW yy B F G))) (va_Sq (fun r => r = oB B 400 (gX5_dykeAt F G p1))) 0 0 (fun _ => False) := by
  generalize hres : gX5_dykeAt F G p1 = RES
  refine jM (vs := [.ref (B 0), .int p1]) (own := RX5) (by decide +kernel) rfl (Nat.le_of_ble_eq_true rfl) ?_
  intro p e s m args below meth c ls Q hQ hargs S hr hlk hinit hB hl
  obtain ⟨hx, hb, hml, hown, hts⟩ := S
  have hl : lv_has ls 2 [(0, .ref (B 0)), (1, .int p1)] := hl
  obtain ⟨hP, hK⟩ := hB
  unfold gX5_dykeAt at hres
  unfold okX5_dykeAt at hok
  refine lv_iload_n hx hb (dd_of dX5_dykeAt_0 0 rfl) rfl (lv_at hl 1 rfl) ?_
  refine lv_if_lt (tgt := 13) hx hb (dd_of dX5_dykeAt_0 1 rfl) (by decide) (fun c1 => ?_) (fun c1 => ?_)
  · replace hres := ifE c1 hres
    refine lv_null hx hb (dd_of dX5_dykeAt_0 7 rfl) ?_
    refine lv_goto (tgt := 23) hx hb (dd_of dX5_dykeAt_0 8 rfl) (by decide) ?_
    subst hQ
    exact W.aret (v := va_rf (oB B 400 none)) (rt := .object "Polderwardens$Dyke") hx hb hr (Or.inl ⟨_, rfl⟩) (va_rf_or _) (fun t ht _ => ⟨_, rfl, congrArg (oB B 400) hres, ht⟩) (fun _ h => absurd h List.not_mem_nil) (dd_of dX5_dykeAt_0 13 rfl) hlk
  · replace hres := ifN c1 hres
    replace hok := hok.2 c1
    refine lv_iload_n hx hb (dd_of dX5_dykeAt_0 2 rfl) rfl (lv_at hl 1 rfl) ?_
    refine lv_aload_n hx hb (dd_of dX5_dykeAt_0 3 rfl) rfl (lv_at hl 0 rfl) ?_
    refine va_get (D := D) (cl := vwCl) (tys := jT yy) (ci := 5) (v := .ref (B 5)) (C := RX5) (T := TX5) (N := 10) hx hb hts (fun w h => List.mem_cons_of_mem _ (inlX5 w h)) hown hK hP 0 rfl rfl 6 (by decide) (jw hts gw37) (fun _ h9 => h9) rfl (dd_of dX5_dykeAt_0 4 rfl) ?_
    refine va_alen (v := 8) hx hb hK hP 7 5 rfl rfl rfl (dd_of dX5_dykeAt_0 5 rfl) ?_
    refine lv_icmp_lt (tgt := 17) hx hb (dd_of dX5_dykeAt_0 6 rfl) (by decide) (fun c2 => ?_) (fun c2 => ?_)
    · replace hres := ifE c2 hres
      replace hok := hok.1 c2
      refine lv_aload_n hx hb (dd_of dX5_dykeAt_0 9 rfl) rfl (lv_at hl 0 rfl) ?_
      refine va_get (D := D) (cl := vwCl) (tys := jT yy) (ci := 5) (v := .ref (B 5)) (C := RX5) (T := TX5) (N := 10) hx hb hts (fun w h => List.mem_cons_of_mem _ (inlX5 w h)) hown hK hP 0 rfl rfl 6 (by decide) (jw hts gw37) (fun _ h9 => h9) rfl (dd_of dX5_dykeAt_0 10 rfl) ?_
      refine lv_iload_n hx hb (dd_of dX5_dykeAt_0 11 rfl) rfl (lv_at hl 1 rfl) ?_
      have h4 := hok
      refine va_aldq hx hb hK hP 7 5 rfl rfl h4 (dd_of dX5_dykeAt_0 12 rfl) ?_
      refine jo_nm (B := B) (off := 400) (e0 := (op (cn F 32) (Int32.toNatClampNeg p1))) (fun o3 eo3 => ?_)
      replace hres := bvE eo3 hres
      subst hQ
      exact W.aret (v := va_rf (oB B 400 o3)) (rt := .object "Polderwardens$Dyke") hx hb hr (Or.inl ⟨_, rfl⟩) (va_rf_or _) (fun t ht _ => ⟨_, rfl, congrArg (oB B 400) hres, ht⟩) (fun _ h => absurd h List.not_mem_nil) (dd_of dX5_dykeAt_0 13 rfl) hlk
    · replace hres := ifN c2 hres
      refine lv_null hx hb (dd_of dX5_dykeAt_0 7 rfl) ?_
      refine lv_goto (tgt := 23) hx hb (dd_of dX5_dykeAt_0 8 rfl) (by decide) ?_
      subst hQ
      exact W.aret (v := va_rf (oB B 400 none)) (rt := .object "Polderwardens$Dyke") hx hb hr (Or.inl ⟨_, rfl⟩) (va_rf_or _) (fun t ht _ => ⟨_, rfl, congrArg (oB B 400) hres, ht⟩) (fun _ h => absurd h List.not_mem_nil) (dd_of dX5_dykeAt_0 13 rfl) hlk
set_option maxHeartbeats 4000000 in
set_option maxRecDepth 100000 in
theorem qX5_crewAt (l : Launch) (D : va_G) (yy : Nat → ClassId) (B : Nat → Nat) (F : jF) (G : jG) (p1 : Int32) (hok : okX5_crewAt F G p1) : Met l yX5_crewAt (Cond.code yX5_crewAt cX5_crewAt 2 (some (.object "Polderwardens$Crew")) :: wsL_law) rmX5_crewAt (va_Pc [.ref (B 0), .int p1] (jR D yy (lW yy B F G))) (va_Sq (fun r => r = oB B 700 (gX5_crewAt F G p1))) 0 0 (fun _ => False) := by
  generalize hres : gX5_crewAt F G p1 = RES
  refine jM (vs := [.ref (B 0), .int p1]) (own := RX5) (by decide +kernel) rfl (Nat.le_of_ble_eq_true rfl) ?_
  intro p e s m args below meth c ls Q hQ hargs S hr hlk hinit hB hl
  obtain ⟨hx, hb, hml, hown, hts⟩ := S
  have hl : lv_has ls 2 [(0, .ref (B 0)), (1, .int p1)] := hl
  obtain ⟨hP, hK⟩ := hB
  unfold gX5_crewAt at hres
  unfold okX5_crewAt at hok
  refine lv_iload_n hx hb (dd_of dX5_crewAt_0 0 rfl) rfl (lv_at hl 1 rfl) ?_
  refine lv_if_lt (tgt := 13) hx hb (dd_of dX5_crewAt_0 1 rfl) (by decide) (fun c1 => ?_) (fun c1 => ?_)
  · replace hres := ifE c1 hres
    refine lv_null hx hb (dd_of dX5_crewAt_0 7 rfl) ?_
    refine lv_goto (tgt := 23) hx hb (dd_of dX5_crewAt_0 8 rfl) (by decide) ?_
    subst hQ
    exact W.aret (v := va_rf (oB B 700 none)) (rt := .object "Polderwardens$Crew") hx hb hr (Or.inl ⟨_, rfl⟩) (va_rf_or _) (fun t ht _ => ⟨_, rfl, congrArg (oB B 700) hres, ht⟩) (fun _ h => absurd h List.not_mem_nil) (dd_of dX5_crewAt_0 13 rfl) hlk
  · replace hres := ifN c1 hres
    replace hok := hok.2 c1
    refine lv_iload_n hx hb (dd_of dX5_crewAt_0 2 rfl) rfl (lv_at hl 1 rfl) ?_
    refine lv_aload_n hx hb (dd_of dX5_crewAt_0 3 rfl) rfl (lv_at hl 0 rfl) ?_
    refine va_get (D := D) (cl := vwCl) (tys := jT yy) (ci := 5) (v := .ref (B 6)) (C := RX5) (T := TX5) (N := 10) hx hb hts (fun w h => List.mem_cons_of_mem _ (inlX5 w h)) hown hK hP 0 rfl rfl 8 (by decide) (jw hts gw39) (fun _ h9 => h9) rfl (dd_of dX5_crewAt_0 4 rfl) ?_
    refine va_alen (v := 3) hx hb hK hP 8 4 rfl rfl rfl (dd_of dX5_crewAt_0 5 rfl) ?_
    refine lv_icmp_lt (tgt := 17) hx hb (dd_of dX5_crewAt_0 6 rfl) (by decide) (fun c2 => ?_) (fun c2 => ?_)
    · replace hres := ifE c2 hres
      replace hok := hok.1 c2
      refine lv_aload_n hx hb (dd_of dX5_crewAt_0 9 rfl) rfl (lv_at hl 0 rfl) ?_
      refine va_get (D := D) (cl := vwCl) (tys := jT yy) (ci := 5) (v := .ref (B 6)) (C := RX5) (T := TX5) (N := 10) hx hb hts (fun w h => List.mem_cons_of_mem _ (inlX5 w h)) hown hK hP 0 rfl rfl 8 (by decide) (jw hts gw39) (fun _ h9 => h9) rfl (dd_of dX5_crewAt_0 10 rfl) ?_
      refine lv_iload_n hx hb (dd_of dX5_crewAt_0 11 rfl) rfl (lv_at hl 1 rfl) ?_
      have h4 := hok
      refine va_aldq hx hb hK hP 8 4 rfl rfl h4 (dd_of dX5_crewAt_0 12 rfl) ?_
      refine jo_nm (B := B) (off := 700) (e0 := (op (3) (Int32.toNatClampNeg p1))) (fun o3 eo3 => ?_)
      replace hres := bvE eo3 hres
      subst hQ
      exact W.aret (v := va_rf (oB B 700 o3)) (rt := .object "Polderwardens$Crew") hx hb hr (Or.inl ⟨_, rfl⟩) (va_rf_or _) (fun t ht _ => ⟨_, rfl, congrArg (oB B 700) hres, ht⟩) (fun _ h => absurd h List.not_mem_nil) (dd_of dX5_crewAt_0 13 rfl) hlk
    · replace hres := ifN c2 hres
      refine lv_null hx hb (dd_of dX5_crewAt_0 7 rfl) ?_
      refine lv_goto (tgt := 23) hx hb (dd_of dX5_crewAt_0 8 rfl) (by decide) ?_
      subst hQ
      exact W.aret (v := va_rf (oB B 700 none)) (rt := .object "Polderwardens$Crew") hx hb hr (Or.inl ⟨_, rfl⟩) (va_rf_or _) (fun t ht _ => ⟨_, rfl, congrArg (oB B 700) hres, ht⟩) (fun _ h => absurd h List.not_mem_nil) (dd_of dX5_crewAt_0 13 rfl) hlk
set_option maxHeartbeats 4000000 in
set_option maxRecDepth 100000 in
theorem qX5_order (l : Launch) (D : va_G) (yy : Nat → ClassId) (B : Nat → Nat) (F : jF) (G : jG) (sz : Nat) (p1 : Option Nat) (p2 : Int32) (p3 : Int32) (hok : okX5_order F G p1 p2 p3) : Met l yX5_order (Cond.code yX5_order cX5_order 4 (some .int) :: wsL_law) rmX5_order (va_Pc [.ref (B 0), va_rf (oB B 200 p1), .int p2, .int p3] (jP D yy (lW yy B F G) sz)) (va_Qi (fun r (u : jS) => (r, u) = gX5_order F G p1 p2 p3) (fun (u : jS) t => jB D yy (va_A (lW yy B F G) sz) (lW yy B u.1 u.2) t) (va_A (lW yy B F G) sz)) 0 0 (va_A (lW yy B F G) sz) := by
  rcases p1 with _ | k9
  · skip
    generalize hres : gX5_order F G none p2 p3 = RES
    refine jM (vs := [.ref (B 0), .null, .int p2, .int p3]) (own := RX5) (by decide +kernel) rfl (Nat.le_of_ble_eq_true rfl) ?_
    intro p e s m args below meth c ls Q hQ hargs S hr hlk hinit hB hl
    obtain ⟨hx, hb, hml, hown, hts⟩ := S
    have hl : lv_has ls 4 [(0, .ref (B 0)), (1, .null), (2, .int p2), (3, .int p3)] := hl
    obtain ⟨hsz, hP, hK, hD0⟩ := hB
    subst hsz
    have hD := hD0.self (sz := s.heap.size)
    generalize hZ : va_A (lW yy B F G) s.heap.size = Z at hD hQ
    have hA : ∀ q : Nat, s.heap.size ≤ q → Z q := fun q h => by rw [← hZ]; exact Or.inr h
    obtain ⟨H, hH⟩ : ∃ z, z = s.heap := ⟨_, rfl⟩
    obtain ⟨locs, hlocs⟩ : ∃ z : List Loc, z = [] := ⟨_, rfl⟩
    have hS : va_S Z s.heap H locs := by rw [hH, hlocs]; exact va_S.rf
    rw [← hH] at hP
    suffices hgo : W p l e rmX5_order s m args below meth c H locs 0 0 Q (F0 m 0 ls []) by rw [hH, hlocs] at hgo; exact hgo
    unfold gX5_order at hres
    unfold okX5_order at hok
    replace hres := omN hres
    replace hok := opN hok
    refine lv_aload_nN hx hb (dd_of dX5_order_0 0 rfl) rfl (lv_at hl 1 rfl) ?_
    refine lv_ifnonnullN hx hb (dd_of dX5_order_0 1 rfl) ?_
    refine lv_iconst (v := 0) hx hb (dd_of dX5_order_0 2 rfl) (by decide) ?_
    refine lv_goto (tgt := 18) hx hb (dd_of dX5_order_0 3 rfl) (by decide) ?_
    subst hQ
    exact W.iret (v := 0) hx hb hr (fun t ht hW => ⟨⟨0, (F, G), rfl, hres, by rw [ht]; exact hP, va_K.moved hW.alike hK, hD⟩, hS.F ht⟩) hS.2.2 (dd_of dX5_order_0 10 rfl) hlk
  · skip
    generalize hres : gX5_order F G (some k9) p2 p3 = RES
    refine jM (vs := [.ref (B 0), .ref (B (200 + k9)), .int p2, .int p3]) (own := RX5) (by decide +kernel) rfl (Nat.le_of_ble_eq_true rfl) ?_
    intro p e s m args below meth c ls Q hQ hargs S hr hlk hinit hB hl
    obtain ⟨hx, hb, hml, hown, hts⟩ := S
    have hl : lv_has ls 4 [(0, .ref (B 0)), (1, .ref (B (200 + k9))), (2, .int p2), (3, .int p3)] := hl
    obtain ⟨hsz, hP, hK, hD0⟩ := hB
    subst hsz
    have hD := hD0.self (sz := s.heap.size)
    generalize hZ : va_A (lW yy B F G) s.heap.size = Z at hD hQ
    have hA : ∀ q : Nat, s.heap.size ≤ q → Z q := fun q h => by rw [← hZ]; exact Or.inr h
    obtain ⟨H, hH⟩ : ∃ z, z = s.heap := ⟨_, rfl⟩
    obtain ⟨locs, hlocs⟩ : ∃ z : List Loc, z = [] := ⟨_, rfl⟩
    have hS : va_S Z s.heap H locs := by rw [hH, hlocs]; exact va_S.rf
    rw [← hH] at hP
    suffices hgo : W p l e rmX5_order s m args below meth c H locs 0 0 Q (F0 m 0 ls []) by rw [hH, hlocs] at hgo; exact hgo
    unfold gX5_order at hres
    unfold okX5_order at hok
    replace hres := omS hres
    replace hok := opS hok
    refine lv_aload_n hx hb (dd_of dX5_order_0 0 rfl) rfl (lv_at hl 1 rfl) ?_
    refine lv_ifnonnull (tgt := 8) hx hb (dd_of dX5_order_0 1 rfl) (by decide) ?_
    refine lv_aload_n hx hb (dd_of dX5_order_0 4 rfl) rfl (lv_at hl 1 rfl) ?_
    refine lv_aload_n hx hb (dd_of dX5_order_0 5 rfl) rfl (lv_at hl 0 rfl) ?_
    refine va_get (D := D) (cl := vwCl) (tys := jT yy) (ci := 5) (v := .ref (B 1)) (C := RX5) (T := TX5) (N := 10) hx hb hts (fun w h => List.mem_cons_of_mem _ (inlX5 w h)) hown hK hP 0 rfl rfl 0 (by decide) (jw hts gw27) (fun _ h9 => h9) rfl (dd_of dX5_order_0 6 rfl) ?_
    refine lv_iload_n hx hb (dd_of dX5_order_0 7 rfl) rfl (lv_at hl 2 rfl) ?_
    refine lv_iload_n hx hb (dd_of dX5_order_0 8 rfl) rfl (lv_at hl 3 rfl) ?_
    have h1 := hok.1
    replace hok := hok.2
    have h2 := hok
    obtain ⟨q9, hq9⟩ := lWg_gate (yy := yy) (B := B) (F := F) (G := G) h1
    refine jm_i (As := [.ref (B 1), .int p2, .int p3]) (rest := []) (w := (lW yy B F G)) (w1 := fun u : jS => (lW yy B u.1 u.2)) (D := D) (yy := yy) ⟨hx, hb, hml, hown, hts⟩ (qX4_obey l D yy B F G H.size k9 p2 p3 h2) (cwV 3 hts (jgV gw345 gw346 gw347 gw265 gw348) rfl rfl rfl (by decide +kernel) ⟨Nat.le_of_ble_eq_true rfl, Nat.le_of_ble_eq_true rfl⟩) hP hK hD hS hA (va_recv hK hP (ci := 4) (q0 := q9) rfl hq9) rfl hl.1 rfl (Nat.le_of_ble_eq_true rfl) (dd_of dX5_order_0 9 rfl) ⟨Nat.zero_le _, Nat.zero_le _⟩ (fun x6 u9 H locs w5 hP hD hS => ?_)
    obtain ⟨F3, G4⟩ := u9
    have hP : va_P D vwCl (lW yy B F3 G4) H := hP
    have hD : va_D Z (lW yy B F3 G4) := hD
    replace hres := brE w5 hres
    subst hQ
    exact W.iret (v := x6) hx hb hr (fun t ht hW => ⟨⟨x6, (F3, G4), rfl, hres, by rw [ht]; exact hP, va_K.moved hW.alike hK, hD⟩, hS.F ht⟩) hS.2.2 (dd_of dX5_order_0 10 rfl) hlk
set_option maxHeartbeats 4000000 in
set_option maxRecDepth 100000 in
theorem qX5_switchPump (l : Launch) (D : va_G) (yy : Nat → ClassId) (B : Nat → Nat) (F : jF) (G : jG) (sz : Nat) (p1 : Option Nat) (p2 : Int32) (p3 : Int32) (hok : okX5_switchPump F G p1 p2 p3) : Met l yX5_switchPump (Cond.code yX5_switchPump cX5_switchPump 4 (some .int) :: wsL_law) rmX5_switchPump (va_Pc [.ref (B 0), va_rf (oB B 300 p1), .int p2, .int p3] (jP D yy (lW yy B F G) sz)) (va_Qi (fun r (u : jS) => (r, u) = gX5_switchPump F G p1 p2 p3) (fun (u : jS) t => jB D yy (va_A (lW yy B F G) sz) (lW yy B u.1 u.2) t) (va_A (lW yy B F G) sz)) 0 0 (va_A (lW yy B F G) sz) := by
  rcases p1 with _ | k9
  · skip
    generalize hres : gX5_switchPump F G none p2 p3 = RES
    refine jM (vs := [.ref (B 0), .null, .int p2, .int p3]) (own := RX5) (by decide +kernel) rfl (Nat.le_of_ble_eq_true rfl) ?_
    intro p e s m args below meth c ls Q hQ hargs S hr hlk hinit hB hl
    obtain ⟨hx, hb, hml, hown, hts⟩ := S
    have hl : lv_has ls 4 [(0, .ref (B 0)), (1, .null), (2, .int p2), (3, .int p3)] := hl
    obtain ⟨hsz, hP, hK, hD0⟩ := hB
    subst hsz
    have hD := hD0.self (sz := s.heap.size)
    generalize hZ : va_A (lW yy B F G) s.heap.size = Z at hD hQ
    have hA : ∀ q : Nat, s.heap.size ≤ q → Z q := fun q h => by rw [← hZ]; exact Or.inr h
    obtain ⟨H, hH⟩ : ∃ z, z = s.heap := ⟨_, rfl⟩
    obtain ⟨locs, hlocs⟩ : ∃ z : List Loc, z = [] := ⟨_, rfl⟩
    have hS : va_S Z s.heap H locs := by rw [hH, hlocs]; exact va_S.rf
    rw [← hH] at hP
    suffices hgo : W p l e rmX5_switchPump s m args below meth c H locs 0 0 Q (F0 m 0 ls []) by rw [hH, hlocs] at hgo; exact hgo
    unfold gX5_switchPump at hres
    unfold okX5_switchPump at hok
    replace hres := omN hres
    replace hok := opN hok
    refine lv_aload_nN hx hb (dd_of dX5_switchPump_0 0 rfl) rfl (lv_at hl 1 rfl) ?_
    refine lv_ifnonnullN hx hb (dd_of dX5_switchPump_0 1 rfl) ?_
    refine lv_iconst (v := 0) hx hb (dd_of dX5_switchPump_0 2 rfl) (by decide) ?_
    subst hQ
    exact W.iret (v := 0) hx hb hr (fun t ht hW => ⟨⟨0, (F, G), rfl, hres, by rw [ht]; exact hP, va_K.moved hW.alike hK, hD⟩, hS.F ht⟩) hS.2.2 (dd_of dX5_switchPump_0 3 rfl) hlk
  · skip
    generalize hres : gX5_switchPump F G (some k9) p2 p3 = RES
    refine jM (vs := [.ref (B 0), .ref (B (300 + k9)), .int p2, .int p3]) (own := RX5) (by decide +kernel) rfl (Nat.le_of_ble_eq_true rfl) ?_
    intro p e s m args below meth c ls Q hQ hargs S hr hlk hinit hB hl
    obtain ⟨hx, hb, hml, hown, hts⟩ := S
    have hl : lv_has ls 4 [(0, .ref (B 0)), (1, .ref (B (300 + k9))), (2, .int p2), (3, .int p3)] := hl
    obtain ⟨hsz, hP, hK, hD0⟩ := hB
    subst hsz
    have hD := hD0.self (sz := s.heap.size)
    generalize hZ : va_A (lW yy B F G) s.heap.size = Z at hD hQ
    have hA : ∀ q : Nat, s.heap.size ≤ q → Z q := fun q h => by rw [← hZ]; exact Or.inr h
    obtain ⟨H, hH⟩ : ∃ z, z = s.heap := ⟨_, rfl⟩
    obtain ⟨locs, hlocs⟩ : ∃ z : List Loc, z = [] := ⟨_, rfl⟩
    have hS : va_S Z s.heap H locs := by rw [hH, hlocs]; exact va_S.rf
    rw [← hH] at hP
    suffices hgo : W p l e rmX5_switchPump s m args below meth c H locs 0 0 Q (F0 m 0 ls []) by rw [hH, hlocs] at hgo; exact hgo
    unfold gX5_switchPump at hres
    unfold okX5_switchPump at hok
    replace hres := omS hres
    replace hok := opS hok
    refine lv_aload_n hx hb (dd_of dX5_switchPump_0 0 rfl) rfl (lv_at hl 1 rfl) ?_
    refine lv_ifnonnull (tgt := 6) hx hb (dd_of dX5_switchPump_0 1 rfl) (by decide) ?_
    refine lv_aload_n hx hb (dd_of dX5_switchPump_0 4 rfl) rfl (lv_at hl 0 rfl) ?_
    refine va_get (D := D) (cl := vwCl) (tys := jT yy) (ci := 5) (v := .ref (B 2)) (C := RX5) (T := TX5) (N := 10) hx hb hts (fun w h => List.mem_cons_of_mem _ (inlX5 w h)) hown hK hP 0 rfl rfl 1 (by decide) (jw hts gw31) (fun _ h9 => h9) rfl (dd_of dX5_switchPump_0 5 rfl) ?_
    refine lv_dup hx hb (dd_of dX5_switchPump_0 6 rfl) rfl ?_
    refine va_get (D := D) (cl := vwCl) (tys := jT yy) (ci := 1) (v := .int (F 62 0)) (C := RX1) (T := TX1) (N := 8) hx hb hts (fun w h => List.mem_cons_of_mem _ (inlX1 w h)) hown hK hP 2 rfl rfl 0 (by decide) (jw hts gw384) (fun _ h9 => h9) rfl (dd_of dX5_switchPump_0 7 rfl) ?_
    refine lv_iload_n hx hb (dd_of dX5_switchPump_0 8 rfl) rfl (lv_at hl 3 rfl) ?_
    refine lv_isub hx hb (dd_of dX5_switchPump_0 9 rfl) ?_
    refine va_put (D := D) (cl := vwCl) (tys := jT yy) (ci := 1) (v := .int ((F 62 0) - p3)) (ty := .int) (C := RX1) (T := TX1) (N := 8) hx hb hts (fun w h => List.mem_cons_of_mem _ (inlX1 w h)) tyX1 tyX1_ok nmX1 hown hK hP hD hS 2 rfl rfl 0 (by decide) (jw hts gw384) (fun _ h9 => h9) rfl (by decide +kernel) rfl rfl (Nat.le_of_ble_eq_true rfl) (dd_of dX5_switchPump_0 10 rfl) (fun H locs hP hD hS => ?_)
    obtain ⟨F1, e2⟩ : ∃ z : jF, z = u2 F 62 0 ((F 62 0) - p3) := ⟨_, rfl⟩
    have hP : va_P D vwCl (lW yy B F1 G) H := by rw [e2]; exact hP
    have hD : va_D Z (lW yy B F1 G) := by rw [e2]; exact hD
    replace hres := bvE e2 hres
    replace hok := bvO e2 hok
    refine lv_aload_n hx hb (dd_of dX5_switchPump_0 11 rfl) rfl (lv_at hl 1 rfl) ?_
    refine lv_iload_n hx hb (dd_of dX5_switchPump_0 12 rfl) rfl (lv_at hl 2 rfl) ?_
    have h3 := hok.1
    replace hok := hok.2
    have h4 := hok.1
    replace hok := hok.2
    obtain ⟨q9, hq9, hs9⟩ := lWs_pump_on (yy := yy) (B := B) (F := F1) (G := G) (v := p2) h4
    refine va_put (D := D) (cl := vwCl) (tys := jT yy) (ci := 7) (v := .int p2) (ty := .boolean) (C := RX7) (T := TX7) (N := 8) hx hb hts (fun w h => List.mem_cons_of_mem _ (inlX7 w h)) tyX7 tyX7_ok nmX7 hown hK hP hD hS q9 hq9 rfl 5 (by decide) (jw hts gw385) (fun _ h9 => h9) rfl (by decide +kernel) (jb_nz h3) (jb_fit h3) (Nat.le_of_ble_eq_true rfl) (dd_of dX5_switchPump_0 13 rfl) (fun H locs hP hD hS => ?_)
    obtain ⟨F5, e6⟩ : ∃ z : jF, z = u2 F1 29 k9 p2 := ⟨_, rfl⟩
    have hP : va_P D vwCl (lW yy B F5 G) H := by rw [e6, ← hs9]; exact hP
    have hD : va_D Z (lW yy B F5 G) := by rw [e6, ← hs9]; exact hD
    replace hres := bvE e6 hres
    replace hok := bvO e6 hok
    refine lv_aload_n hx hb (dd_of dX5_switchPump_0 14 rfl) rfl (lv_at hl 1 rfl) ?_
    refine lv_dup hx hb (dd_of dX5_switchPump_0 15 rfl) rfl ?_
    have h7 := hok.1
    replace hok := hok.2
    obtain ⟨q9, hq9⟩ := lWg_pump (yy := yy) (B := B) (F := F5) (G := G) h7
    refine va_get (D := D) (cl := vwCl) (tys := jT yy) (ci := 7) (v := .int (F5 30 k9)) (C := RX7) (T := TX7) (N := 8) hx hb hts (fun w h => List.mem_cons_of_mem _ (inlX7 w h)) hown hK hP q9 hq9 rfl 6 (by decide) (jw hts gw386) (fun _ h9 => h9) rfl (dd_of dX5_switchPump_0 16 rfl) ?_
    refine lv_iload_n hx hb (dd_of dX5_switchPump_0 17 rfl) rfl (lv_at hl 3 rfl) ?_
    refine lv_iadd hx hb (dd_of dX5_switchPump_0 18 rfl) ?_
    have h8 := hok.1
    replace hok := hok.2
    obtain ⟨q9, hq9, hs9⟩ := lWs_pump_fuel (yy := yy) (B := B) (F := F5) (G := G) (v := ((F5 30 k9) + p3)) h8
    refine va_put (D := D) (cl := vwCl) (tys := jT yy) (ci := 7) (v := .int ((F5 30 k9) + p3)) (ty := .int) (C := RX7) (T := TX7) (N := 8) hx hb hts (fun w h => List.mem_cons_of_mem _ (inlX7 w h)) tyX7 tyX7_ok nmX7 hown hK hP hD hS q9 hq9 rfl 6 (by decide) (jw hts gw386) (fun _ h9 => h9) rfl (by decide +kernel) rfl rfl (Nat.le_of_ble_eq_true rfl) (dd_of dX5_switchPump_0 19 rfl) (fun H locs hP hD hS => ?_)
    obtain ⟨F9, e10⟩ : ∃ z : jF, z = u2 F5 30 k9 ((F5 30 k9) + p3) := ⟨_, rfl⟩
    have hP : va_P D vwCl (lW yy B F9 G) H := by rw [e10, ← hs9]; exact hP
    have hD : va_D Z (lW yy B F9 G) := by rw [e10, ← hs9]; exact hD
    replace hres := bvE e10 hres
    replace hok := bvO e10 hok
    refine lv_aload_n hx hb (dd_of dX5_switchPump_0 20 rfl) rfl (lv_at hl 1 rfl) ?_
    have h11 := hok
    obtain ⟨q9, hq9⟩ := lWg_pump (yy := yy) (B := B) (F := F9) (G := G) h11
    refine va_get (D := D) (cl := vwCl) (tys := jT yy) (ci := 7) (v := .int (F9 30 k9)) (C := RX7) (T := TX7) (N := 8) hx hb hts (fun w h => List.mem_cons_of_mem _ (inlX7 w h)) hown hK hP q9 hq9 rfl 6 (by decide) (jw hts gw386) (fun _ h9 => h9) rfl (dd_of dX5_switchPump_0 21 rfl) ?_
    subst hQ
    exact W.iret (v := (F9 30 k9)) hx hb hr (fun t ht hW => ⟨⟨(F9 30 k9), (F9, G), rfl, hres, by rw [ht]; exact hP, va_K.moved hW.alike hK, hD⟩, hS.F ht⟩) hS.2.2 (dd_of dX5_switchPump_0 22 rfl) hlk
set_option maxHeartbeats 4000000 in
set_option maxRecDepth 100000 in
theorem qX5_mendPump (l : Launch) (D : va_G) (yy : Nat → ClassId) (B : Nat → Nat) (F : jF) (G : jG) (sz : Nat) (p1 : Option Nat) (hok : okX5_mendPump F G p1) : Met l yX5_mendPump (Cond.code yX5_mendPump cX5_mendPump 3 (some .int) :: wsL_law) rmX5_mendPump (va_Pc [.ref (B 0), va_rf (oB B 300 p1)] (jP D yy (lW yy B F G) sz)) (va_Qi (fun r (u : jS) => (r, u) = gX5_mendPump F G p1) (fun (u : jS) t => jB D yy (va_A (lW yy B F G) sz) (lW yy B u.1 u.2) t) (va_A (lW yy B F G) sz)) 0 0 (va_A (lW yy B F G) sz) := by
  rcases p1 with _ | k9
  · skip
    generalize hres : gX5_mendPump F G none = RES
    refine jM (vs := [.ref (B 0), .null]) (own := RX5) (by decide +kernel) rfl (Nat.le_of_ble_eq_true rfl) ?_
    intro p e s m args below meth c ls Q hQ hargs S hr hlk hinit hB hl
    obtain ⟨hx, hb, hml, hown, hts⟩ := S
    have hl : lv_has ls 3 [(0, .ref (B 0)), (1, .null)] := hl
    obtain ⟨hsz, hP, hK, hD0⟩ := hB
    subst hsz
    have hD := hD0.self (sz := s.heap.size)
    generalize hZ : va_A (lW yy B F G) s.heap.size = Z at hD hQ
    have hA : ∀ q : Nat, s.heap.size ≤ q → Z q := fun q h => by rw [← hZ]; exact Or.inr h
    obtain ⟨H, hH⟩ : ∃ z, z = s.heap := ⟨_, rfl⟩
    obtain ⟨locs, hlocs⟩ : ∃ z : List Loc, z = [] := ⟨_, rfl⟩
    have hS : va_S Z s.heap H locs := by rw [hH, hlocs]; exact va_S.rf
    rw [← hH] at hP
    suffices hgo : W p l e rmX5_mendPump s m args below meth c H locs 0 0 Q (F0 m 0 ls []) by rw [hH, hlocs] at hgo; exact hgo
    unfold gX5_mendPump at hres
    unfold okX5_mendPump at hok
    replace hres := omN hres
    replace hok := opN hok
    refine lv_aload_nN hx hb (dd_of dX5_mendPump_0 0 rfl) rfl (lv_at hl 1 rfl) ?_
    refine lv_ifnonnullN hx hb (dd_of dX5_mendPump_0 1 rfl) ?_
    refine lv_iconst (v := 0) hx hb (dd_of dX5_mendPump_0 2 rfl) (by decide) ?_
    subst hQ
    exact W.iret (v := 0) hx hb hr (fun t ht hW => ⟨⟨0, (F, G), rfl, hres, by rw [ht]; exact hP, va_K.moved hW.alike hK, hD⟩, hS.F ht⟩) hS.2.2 (dd_of dX5_mendPump_0 3 rfl) hlk
  · skip
    generalize hres : gX5_mendPump F G (some k9) = RES
    refine jM (vs := [.ref (B 0), .ref (B (300 + k9))]) (own := RX5) (by decide +kernel) rfl (Nat.le_of_ble_eq_true rfl) ?_
    intro p e s m args below meth c ls Q hQ hargs S hr hlk hinit hB hl
    obtain ⟨hx, hb, hml, hown, hts⟩ := S
    have hl : lv_has ls 3 [(0, .ref (B 0)), (1, .ref (B (300 + k9)))] := hl
    obtain ⟨hsz, hP, hK, hD0⟩ := hB
    subst hsz
    have hD := hD0.self (sz := s.heap.size)
    generalize hZ : va_A (lW yy B F G) s.heap.size = Z at hD hQ
    have hA : ∀ q : Nat, s.heap.size ≤ q → Z q := fun q h => by rw [← hZ]; exact Or.inr h
    obtain ⟨H, hH⟩ : ∃ z, z = s.heap := ⟨_, rfl⟩
    obtain ⟨locs, hlocs⟩ : ∃ z : List Loc, z = [] := ⟨_, rfl⟩
    have hS : va_S Z s.heap H locs := by rw [hH, hlocs]; exact va_S.rf
    rw [← hH] at hP
    suffices hgo : W p l e rmX5_mendPump s m args below meth c H locs 0 0 Q (F0 m 0 ls []) by rw [hH, hlocs] at hgo; exact hgo
    unfold gX5_mendPump at hres
    unfold okX5_mendPump at hok
    replace hres := omS hres
    replace hok := opS hok
    refine lv_aload_n hx hb (dd_of dX5_mendPump_0 0 rfl) rfl (lv_at hl 1 rfl) ?_
    refine lv_ifnonnull (tgt := 6) hx hb (dd_of dX5_mendPump_0 1 rfl) (by decide) ?_
    refine lv_aload_n hx hb (dd_of dX5_mendPump_0 4 rfl) rfl (lv_at hl 0 rfl) ?_
    refine va_get (D := D) (cl := vwCl) (tys := jT yy) (ci := 5) (v := .ref (B 2)) (C := RX5) (T := TX5) (N := 10) hx hb hts (fun w h => List.mem_cons_of_mem _ (inlX5 w h)) hown hK hP 0 rfl rfl 1 (by decide) (jw hts gw31) (fun _ h9 => h9) rfl (dd_of dX5_mendPump_0 5 rfl) ?_
    refine lv_dup hx hb (dd_of dX5_mendPump_0 6 rfl) rfl ?_
    refine va_get (D := D) (cl := vwCl) (tys := jT yy) (ci := 1) (v := .int (F 62 0)) (C := RX1) (T := TX1) (N := 8) hx hb hts (fun w h => List.mem_cons_of_mem _ (inlX1 w h)) hown hK hP 2 rfl rfl 0 (by decide) (jw hts gw384) (fun _ h9 => h9) rfl (dd_of dX5_mendPump_0 7 rfl) ?_
    refine lv_bipush (v := 20) hx hb (dd_of dX5_mendPump_0 8 rfl) (by decide) ?_
    refine lv_isub hx hb (dd_of dX5_mendPump_0 9 rfl) ?_
    refine va_put (D := D) (cl := vwCl) (tys := jT yy) (ci := 1) (v := .int ((F 62 0) - 20)) (ty := .int) (C := RX1) (T := TX1) (N := 8) hx hb hts (fun w h => List.mem_cons_of_mem _ (inlX1 w h)) tyX1 tyX1_ok nmX1 hown hK hP hD hS 2 rfl rfl 0 (by decide) (jw hts gw384) (fun _ h9 => h9) rfl (by decide +kernel) rfl rfl (Nat.le_of_ble_eq_true rfl) (dd_of dX5_mendPump_0 10 rfl) (fun H locs hP hD hS => ?_)
    obtain ⟨F1, e2⟩ : ∃ z : jF, z = u2 F 62 0 ((F 62 0) - 20) := ⟨_, rfl⟩
    have hP : va_P D vwCl (lW yy B F1 G) H := by rw [e2]; exact hP
    have hD : va_D Z (lW yy B F1 G) := by rw [e2]; exact hD
    replace hres := bvE e2 hres
    replace hok := bvO e2 hok
    refine lv_aload_n hx hb (dd_of dX5_mendPump_0 11 rfl) rfl (lv_at hl 1 rfl) ?_
    have h3 := hok.1
    replace hok := hok.2
    obtain ⟨q9, hq9⟩ := lWg_pump (yy := yy) (B := B) (F := F1) (G := G) h3
    refine va_get (D := D) (cl := vwCl) (tys := jT yy) (ci := 7) (v := .int (F1 31 k9)) (C := RX7) (T := TX7) (N := 8) hx hb hts (fun w h => List.mem_cons_of_mem _ (inlX7 w h)) hown hK hP q9 hq9 rfl 7 (by decide) (jw hts gw391) (fun _ h9 => h9) rfl (dd_of dX5_mendPump_0 12 rfl) ?_
    refine lv_topi (fun x4 ex4 => ?_)
    replace hres := bvE ex4 hres
    replace hok := bvO ex4 hok
    refine lv_istore_n (lv' := [(2, .int x4), (0, .ref (B 0)), (1, .ref (B (300 + k9)))]) hx hb (dd_of dX5_mendPump_0 13 rfl) rfl hl (by decide) rfl (fun ls hl => ?_)
    refine lv_aload_n hx hb (dd_of dX5_mendPump_0 14 rfl) rfl (lv_at hl 2 rfl) ?_
    refine lv_iconst (v := 0) hx hb (dd_of dX5_mendPump_0 15 rfl) (by decide) ?_
    have h5 := hok
    obtain ⟨q9, hq9, hs9⟩ := lWs_pump_wear (yy := yy) (B := B) (F := F1) (G := G) (v := 0) h5
    refine va_put (D := D) (cl := vwCl) (tys := jT yy) (ci := 7) (v := .int 0) (ty := .int) (C := RX7) (T := TX7) (N := 8) hx hb hts (fun w h => List.mem_cons_of_mem _ (inlX7 w h)) tyX7 tyX7_ok nmX7 hown hK hP hD hS q9 hq9 rfl 7 (by decide) (jw hts gw391) (fun _ h9 => h9) rfl (by decide +kernel) rfl rfl (Nat.le_of_ble_eq_true rfl) (dd_of dX5_mendPump_0 16 rfl) (fun H locs hP hD hS => ?_)
    obtain ⟨F6, e7⟩ : ∃ z : jF, z = u2 F1 31 k9 0 := ⟨_, rfl⟩
    have hP : va_P D vwCl (lW yy B F6 G) H := by rw [e7, ← hs9]; exact hP
    have hD : va_D Z (lW yy B F6 G) := by rw [e7, ← hs9]; exact hD
    replace hres := bvE e7 hres
    refine lv_iload_n hx hb (dd_of dX5_mendPump_0 17 rfl) rfl (lv_at hl 0 rfl) ?_
    subst hQ
    exact W.iret (v := x4) hx hb hr (fun t ht hW => ⟨⟨x4, (F6, G), rfl, hres, by rw [ht]; exact hP, va_K.moved hW.alike hK, hD⟩, hS.F ht⟩) hS.2.2 (dd_of dX5_mendPump_0 18 rfl) hlk
set_option maxHeartbeats 4000000 in
set_option maxRecDepth 100000 in
theorem qX5_sendCrew (l : Launch) (D : va_G) (yy : Nat → ClassId) (B : Nat → Nat) (F : jF) (G : jG) (sz : Nat) (p1 : Option Nat) (p2 : Int32) (p3 : Int32) (hok : okX5_sendCrew F G p1 p2 p3) : Met l yX5_sendCrew (Cond.code yX5_sendCrew cX5_sendCrew 4 (some .int) :: wsL_law) rmX5_sendCrew (va_Pc [.ref (B 0), va_rf (oB B 700 p1), .int p2, .int p3] (jP D yy (lW yy B F G) sz)) (va_Qi (fun r (u : jS) => (r, u) = gX5_sendCrew F G p1 p2 p3) (fun (u : jS) t => jB D yy (va_A (lW yy B F G) sz) (lW yy B u.1 u.2) t) (va_A (lW yy B F G) sz)) 0 0 (va_A (lW yy B F G) sz) := by
  rcases p1 with _ | k9
  · skip
    generalize hres : gX5_sendCrew F G none p2 p3 = RES
    refine jM (vs := [.ref (B 0), .null, .int p2, .int p3]) (own := RX5) (by decide +kernel) rfl (Nat.le_of_ble_eq_true rfl) ?_
    intro p e s m args below meth c ls Q hQ hargs S hr hlk hinit hB hl
    obtain ⟨hx, hb, hml, hown, hts⟩ := S
    have hl : lv_has ls 4 [(0, .ref (B 0)), (1, .null), (2, .int p2), (3, .int p3)] := hl
    obtain ⟨hsz, hP, hK, hD0⟩ := hB
    subst hsz
    have hD := hD0.self (sz := s.heap.size)
    generalize hZ : va_A (lW yy B F G) s.heap.size = Z at hD hQ
    have hA : ∀ q : Nat, s.heap.size ≤ q → Z q := fun q h => by rw [← hZ]; exact Or.inr h
    obtain ⟨H, hH⟩ : ∃ z, z = s.heap := ⟨_, rfl⟩
    obtain ⟨locs, hlocs⟩ : ∃ z : List Loc, z = [] := ⟨_, rfl⟩
    have hS : va_S Z s.heap H locs := by rw [hH, hlocs]; exact va_S.rf
    rw [← hH] at hP
    suffices hgo : W p l e rmX5_sendCrew s m args below meth c H locs 0 0 Q (F0 m 0 ls []) by rw [hH, hlocs] at hgo; exact hgo
    unfold gX5_sendCrew at hres
    unfold okX5_sendCrew at hok
    replace hres := omN hres
    replace hok := opN hok
    refine lv_aload_nN hx hb (dd_of dX5_sendCrew_0 0 rfl) rfl (lv_at hl 1 rfl) ?_
    refine lv_ifnonnullN hx hb (dd_of dX5_sendCrew_0 1 rfl) ?_
    refine lv_iconst (v := 0) hx hb (dd_of dX5_sendCrew_0 2 rfl) (by decide) ?_
    subst hQ
    exact W.iret (v := 0) hx hb hr (fun t ht hW => ⟨⟨0, (F, G), rfl, hres, by rw [ht]; exact hP, va_K.moved hW.alike hK, hD⟩, hS.F ht⟩) hS.2.2 (dd_of dX5_sendCrew_0 3 rfl) hlk
  · skip
    generalize hres : gX5_sendCrew F G (some k9) p2 p3 = RES
    refine jM (vs := [.ref (B 0), .ref (B (700 + k9)), .int p2, .int p3]) (own := RX5) (by decide +kernel) rfl (Nat.le_of_ble_eq_true rfl) ?_
    intro p e s m args below meth c ls Q hQ hargs S hr hlk hinit hB hl
    obtain ⟨hx, hb, hml, hown, hts⟩ := S
    have hl : lv_has ls 4 [(0, .ref (B 0)), (1, .ref (B (700 + k9))), (2, .int p2), (3, .int p3)] := hl
    obtain ⟨hsz, hP, hK, hD0⟩ := hB
    subst hsz
    have hD := hD0.self (sz := s.heap.size)
    generalize hZ : va_A (lW yy B F G) s.heap.size = Z at hD hQ
    have hA : ∀ q : Nat, s.heap.size ≤ q → Z q := fun q h => by rw [← hZ]; exact Or.inr h
    obtain ⟨H, hH⟩ : ∃ z, z = s.heap := ⟨_, rfl⟩
    obtain ⟨locs, hlocs⟩ : ∃ z : List Loc, z = [] := ⟨_, rfl⟩
    have hS : va_S Z s.heap H locs := by rw [hH, hlocs]; exact va_S.rf
    rw [← hH] at hP
    suffices hgo : W p l e rmX5_sendCrew s m args below meth c H locs 0 0 Q (F0 m 0 ls []) by rw [hH, hlocs] at hgo; exact hgo
    unfold gX5_sendCrew at hres
    unfold okX5_sendCrew at hok
    replace hres := omS hres
    replace hok := opS hok
    refine lv_aload_n hx hb (dd_of dX5_sendCrew_0 0 rfl) rfl (lv_at hl 1 rfl) ?_
    refine lv_ifnonnull (tgt := 6) hx hb (dd_of dX5_sendCrew_0 1 rfl) (by decide) ?_
    refine lv_aload_n hx hb (dd_of dX5_sendCrew_0 4 rfl) rfl (lv_at hl 0 rfl) ?_
    refine va_get (D := D) (cl := vwCl) (tys := jT yy) (ci := 5) (v := .ref (B 2)) (C := RX5) (T := TX5) (N := 10) hx hb hts (fun w h => List.mem_cons_of_mem _ (inlX5 w h)) hown hK hP 0 rfl rfl 1 (by decide) (jw hts gw31) (fun _ h9 => h9) rfl (dd_of dX5_sendCrew_0 5 rfl) ?_
    refine lv_dup hx hb (dd_of dX5_sendCrew_0 6 rfl) rfl ?_
    refine va_get (D := D) (cl := vwCl) (tys := jT yy) (ci := 1) (v := .int (F 62 0)) (C := RX1) (T := TX1) (N := 8) hx hb hts (fun w h => List.mem_cons_of_mem _ (inlX1 w h)) hown hK hP 2 rfl rfl 0 (by decide) (jw hts gw384) (fun _ h9 => h9) rfl (dd_of dX5_sendCrew_0 7 rfl) ?_
    refine lv_iload_n hx hb (dd_of dX5_sendCrew_0 8 rfl) rfl (lv_at hl 3 rfl) ?_
    refine lv_isub hx hb (dd_of dX5_sendCrew_0 9 rfl) ?_
    refine va_put (D := D) (cl := vwCl) (tys := jT yy) (ci := 1) (v := .int ((F 62 0) - p3)) (ty := .int) (C := RX1) (T := TX1) (N := 8) hx hb hts (fun w h => List.mem_cons_of_mem _ (inlX1 w h)) tyX1 tyX1_ok nmX1 hown hK hP hD hS 2 rfl rfl 0 (by decide) (jw hts gw384) (fun _ h9 => h9) rfl (by decide +kernel) rfl rfl (Nat.le_of_ble_eq_true rfl) (dd_of dX5_sendCrew_0 10 rfl) (fun H locs hP hD hS => ?_)
    obtain ⟨F1, e2⟩ : ∃ z : jF, z = u2 F 62 0 ((F 62 0) - p3) := ⟨_, rfl⟩
    have hP : va_P D vwCl (lW yy B F1 G) H := by rw [e2]; exact hP
    have hD : va_D Z (lW yy B F1 G) := by rw [e2]; exact hD
    replace hres := bvE e2 hres
    replace hok := bvO e2 hok
    refine lv_aload_n hx hb (dd_of dX5_sendCrew_0 11 rfl) rfl (lv_at hl 1 rfl) ?_
    refine lv_iload_n hx hb (dd_of dX5_sendCrew_0 12 rfl) rfl (lv_at hl 2 rfl) ?_
    have h3 := hok.1
    replace hok := hok.2
    obtain ⟨q9, hq9, hs9⟩ := lWs_crew_dyke (yy := yy) (B := B) (F := F1) (G := G) (v := p2) h3
    refine va_put (D := D) (cl := vwCl) (tys := jT yy) (ci := 2) (v := .int p2) (ty := .int) (C := RX2) (T := TX2) (N := 3) hx hb hts (fun w h => List.mem_cons_of_mem _ (inlX2 w h)) tyX2 tyX2_ok nmX2 hown hK hP hD hS q9 hq9 rfl 2 (by decide) (jw hts gw400) (fun _ h9 => h9) rfl (by decide +kernel) rfl rfl (Nat.le_of_ble_eq_true rfl) (dd_of dX5_sendCrew_0 13 rfl) (fun H locs hP hD hS => ?_)
    obtain ⟨F4, e5⟩ : ∃ z : jF, z = u2 F1 64 k9 p2 := ⟨_, rfl⟩
    have hP : va_P D vwCl (lW yy B F4 G) H := by rw [e5, ← hs9]; exact hP
    have hD : va_D Z (lW yy B F4 G) := by rw [e5, ← hs9]; exact hD
    replace hres := bvE e5 hres
    replace hok := bvO e5 hok
    refine lv_aload_n hx hb (dd_of dX5_sendCrew_0 14 rfl) rfl (lv_at hl 1 rfl) ?_
    refine lv_dup hx hb (dd_of dX5_sendCrew_0 15 rfl) rfl ?_
    have h6 := hok.1
    replace hok := hok.2
    obtain ⟨q9, hq9⟩ := lWg_crew (yy := yy) (B := B) (F := F4) (G := G) h6
    refine va_get (D := D) (cl := vwCl) (tys := jT yy) (ci := 2) (v := .int (F4 50 k9)) (C := RX2) (T := TX2) (N := 3) hx hb hts (fun w h => List.mem_cons_of_mem _ (inlX2 w h)) hown hK hP q9 hq9 rfl 1 (by decide) (jw hts gw401) (fun _ h9 => h9) rfl (dd_of dX5_sendCrew_0 16 rfl) ?_
    refine lv_iload_n hx hb (dd_of dX5_sendCrew_0 17 rfl) rfl (lv_at hl 3 rfl) ?_
    refine lv_iadd hx hb (dd_of dX5_sendCrew_0 18 rfl) ?_
    have h7 := hok.1
    replace hok := hok.2
    obtain ⟨q9, hq9, hs9⟩ := lWs_crew_bags (yy := yy) (B := B) (F := F4) (G := G) (v := ((F4 50 k9) + p3)) h7
    refine va_put (D := D) (cl := vwCl) (tys := jT yy) (ci := 2) (v := .int ((F4 50 k9) + p3)) (ty := .int) (C := RX2) (T := TX2) (N := 3) hx hb hts (fun w h => List.mem_cons_of_mem _ (inlX2 w h)) tyX2 tyX2_ok nmX2 hown hK hP hD hS q9 hq9 rfl 1 (by decide) (jw hts gw401) (fun _ h9 => h9) rfl (by decide +kernel) rfl rfl (Nat.le_of_ble_eq_true rfl) (dd_of dX5_sendCrew_0 19 rfl) (fun H locs hP hD hS => ?_)
    obtain ⟨F8, e9⟩ : ∃ z : jF, z = u2 F4 50 k9 ((F4 50 k9) + p3) := ⟨_, rfl⟩
    have hP : va_P D vwCl (lW yy B F8 G) H := by rw [e9, ← hs9]; exact hP
    have hD : va_D Z (lW yy B F8 G) := by rw [e9, ← hs9]; exact hD
    replace hres := bvE e9 hres
    replace hok := bvO e9 hok
    refine lv_aload_n hx hb (dd_of dX5_sendCrew_0 20 rfl) rfl (lv_at hl 1 rfl) ?_
    have h10 := hok
    obtain ⟨q9, hq9⟩ := lWg_crew (yy := yy) (B := B) (F := F8) (G := G) h10
    refine va_get (D := D) (cl := vwCl) (tys := jT yy) (ci := 2) (v := .int (F8 50 k9)) (C := RX2) (T := TX2) (N := 3) hx hb hts (fun w h => List.mem_cons_of_mem _ (inlX2 w h)) hown hK hP q9 hq9 rfl 1 (by decide) (jw hts gw401) (fun _ h9 => h9) rfl (dd_of dX5_sendCrew_0 21 rfl) ?_
    subst hQ
    exact W.iret (v := (F8 50 k9)) hx hb hr (fun t ht hW => ⟨⟨(F8 50 k9), (F8, G), rfl, hres, by rw [ht]; exact hP, va_K.moved hW.alike hK, hD⟩, hS.F ht⟩) hS.2.2 (dd_of dX5_sendCrew_0 22 rfl) hlk
set_option maxHeartbeats 4000000 in
set_option maxRecDepth 100000 in
theorem qX5_passHours (l : Launch) (D : va_G) (yy : Nat → ClassId) (B : Nat → Nat) (F : jF) (G : jG) (sz : Nat) (p1 : Int32) (hok : okX5_passHours F G p1) : Met l yX5_passHours (Cond.code yX5_passHours cX5_passHours 4 (some .int) :: wsL_law) rmX5_passHours (va_Pc [.ref (B 0), .int p1] (jP D yy (lW yy B F G) sz)) (va_Qi (fun r (u : jS) => (r, u) = gX5_passHours F G p1) (fun (u : jS) t => jB D yy (va_A (lW yy B F G) sz) (lW yy B u.1 u.2) t) (va_A (lW yy B F G) sz)) 0 0 (va_A (lW yy B F G) sz) := by
  generalize hres : gX5_passHours F G p1 = RES
  refine jM (vs := [.ref (B 0), .int p1]) (own := RX5) (by decide +kernel) rfl (Nat.le_of_ble_eq_true rfl) ?_
  intro p e s m args below meth c ls Q hQ hargs S hr hlk hinit hB hl
  obtain ⟨hx, hb, hml, hown, hts⟩ := S
  have hl : lv_has ls 4 [(0, .ref (B 0)), (1, .int p1)] := hl
  obtain ⟨hsz, hP, hK, hD0⟩ := hB
  subst hsz
  have hD := hD0.self (sz := s.heap.size)
  generalize hZ : va_A (lW yy B F G) s.heap.size = Z at hD hQ
  have hA : ∀ q : Nat, s.heap.size ≤ q → Z q := fun q h => by rw [← hZ]; exact Or.inr h
  obtain ⟨H, hH⟩ : ∃ z, z = s.heap := ⟨_, rfl⟩
  obtain ⟨locs, hlocs⟩ : ∃ z : List Loc, z = [] := ⟨_, rfl⟩
  have hS : va_S Z s.heap H locs := by rw [hH, hlocs]; exact va_S.rf
  rw [← hH] at hP
  suffices hgo : W p l e rmX5_passHours s m args below meth c H locs 0 0 Q (F0 m 0 ls []) by rw [hH, hlocs] at hgo; exact hgo
  unfold gX5_passHours at hres
  unfold okX5_passHours at hok
  refine lv_iconst (v := 0) hx hb (dd_of dX5_passHours_0 0 rfl) (by decide) ?_
  refine lv_istore_n (lv' := [(2, .int 0), (0, .ref (B 0)), (1, .int p1)]) hx hb (dd_of dX5_passHours_0 1 rfl) rfl hl (by decide) rfl (fun ls hl => ?_)
  have LP2 : ∀ (f1 : Int32), ∀ (K : Int32 → jF → jG → (Int32 × jS)) (okK : Int32 → jF → jG → Prop) (n : Nat), ∀ (v2 : Int32) (F : jF) (G : jG), ∀ (H : Heap) (locs : List Loc) (ls : Array Slot), va_P D vwCl (lW yy B F G) H → va_D Z (lW yy B F G) → va_S Z s.heap H locs → lv_has ls 4 [(2, .int v2), (0, .ref (B 0)), (1, .int f1)] → okX5_passHours_L2 f1 okK n v2 F G → gX5_passHours_L2 f1 K n v2 F G = RES → (∀ (v2 : Int32) (F : jF) (G : jG), ∀ (H : Heap) (locs : List Loc) (ls : Array Slot), va_P D vwCl (lW yy B F G) H → va_D Z (lW yy B F G) → va_S Z s.heap H locs → lv_has ls 4 [(2, .int v2), (0, .ref (B 0)), (1, .int f1)] → okK v2 F G → K v2 F G = RES → W p l e rmX5_passHours s m args below meth c H locs 0 0 Q (F0 m 232 ls [])) → W p l e rmX5_passHours s m args below meth c H locs 0 0 Q (F0 m 2 ls []) := by
    intro f1 K okK n
    induction n with
    | zero =>
      intro v2 F G H locs ls hP hD hS hl hok _ _
      exact absurd hok (by unfold okX5_passHours_L2; exact id)
    | succ n9 ih =>
      intro v2 F G H locs ls hP hD hS hl hok hres hexit
      unfold gX5_passHours_L2 at hres
      unfold okX5_passHours_L2 at hok
      refine lv_iload_n hx hb (dd_of dX5_passHours_0 2 rfl) rfl (lv_at hl 0 rfl) ?_
      refine lv_iload_n hx hb (dd_of dX5_passHours_0 3 rfl) rfl (lv_at hl 2 rfl) ?_
      refine lv_icmp_ge (tgt := 232) hx hb (dd_of dX5_passHours_0 4 rfl) (by decide) (fun c1 => ?_) (fun c1 => ?_)
      · replace hres := ifE c1 hres
        replace hok := hok.1 c1
        exact hexit v2 F G H locs ls hP hD hS (lv_sub hl [0, 1, 2] rfl) hok hres
      · replace hres := ifN c1 hres
        replace hok := hok.2 c1
        refine lv_aload_n hx hb (dd_of dX5_passHours_0 5 rfl) rfl (lv_at hl 1 rfl) ?_
        refine va_get (D := D) (cl := vwCl) (tys := jT yy) (ci := 5) (v := .ref (B 1)) (C := RX5) (T := TX5) (N := 10) hx hb hts (fun w h => List.mem_cons_of_mem _ (inlX5 w h)) hown hK hP 0 rfl rfl 0 (by decide) (jw hts gw27) (fun _ h9 => h9) rfl (dd_of dX5_passHours_0 6 rfl) ?_
        have h2 := hok.1
        replace hok := hok.2
        refine jm_v (As := []) (rest := []) (w := (lW yy B F G)) (w1 := fun u : jS => (lW yy B u.1 u.2)) (D := D) (yy := yy) ⟨hx, hb, hml, hown, hts⟩ (qX10_fallRain l D yy B F G H.size   h2) (cwV 0 hts (jgV gw422 gw423 gw424 gw26 gw425) rfl rfl rfl (by decide +kernel) ⟨Nat.le_of_ble_eq_true rfl, Nat.le_of_ble_eq_true rfl⟩) hP hK hD hS hA (va_recv hK hP (ci := 10) (q0 := 1) rfl rfl) rfl hl.1 rfl (Nat.le_of_ble_eq_true rfl) (dd_of dX5_passHours_0 7 rfl) ⟨Nat.zero_le _, Nat.zero_le _⟩ (fun u9 H locs w5 hP hD hS => ?_)
        obtain ⟨F3, G4⟩ := u9
        have hP : va_P D vwCl (lW yy B F3 G4) H := hP
        have hD : va_D Z (lW yy B F3 G4) := hD
        replace hres := bsE w5 hres
        replace hok := bsO w5 hok
        refine lv_iconst (v := 0) hx hb (dd_of dX5_passHours_0 8 rfl) (by decide) ?_
        refine lv_istore_n (lv' := [(3, .int 0), (2, .int v2), (0, .ref (B 0)), (1, .int f1)]) hx hb (dd_of dX5_passHours_0 9 rfl) rfl hl (by decide) rfl (fun ls hl => ?_)
        have LP16 : ∀ (f2 : Int32) (f1 : Int32), ∀ (K : Int32 → jF → jG → (Int32 × jS)) (okK : Int32 → jF → jG → Prop) (n : Nat), ∀ (v3 : Int32) (F : jF) (G : jG), ∀ (H : Heap) (locs : List Loc) (ls : Array Slot), va_P D vwCl (lW yy B F G) H → va_D Z (lW yy B F G) → va_S Z s.heap H locs → lv_has ls 4 [(3, .int v3), (2, .int f2), (0, .ref (B 0)), (1, .int f1)] → okX5_passHours_L16 f2 f1 okK n v3 F G → gX5_passHours_L16 f2 f1 K n v3 F G = RES → (∀ (v3 : Int32) (F : jF) (G : jG), ∀ (H : Heap) (locs : List Loc) (ls : Array Slot), va_P D vwCl (lW yy B F G) H → va_D Z (lW yy B F G) → va_S Z s.heap H locs → lv_has ls 4 [(3, .int v3), (2, .int f2), (0, .ref (B 0)), (1, .int f1)] → okK v3 F G → K v3 F G = RES → W p l e rmX5_passHours s m args below meth c H locs 0 0 Q (F0 m 53 ls [])) → W p l e rmX5_passHours s m args below meth c H locs 0 0 Q (F0 m 16 ls []) := by
          intro f2 f1 K okK n
          induction n with
          | zero =>
            intro v3 F G H locs ls hP hD hS hl hok _ _
            exact absurd hok (by unfold okX5_passHours_L16; exact id)
          | succ n9 ih =>
            intro v3 F G H locs ls hP hD hS hl hok hres hexit
            unfold gX5_passHours_L16 at hres
            unfold okX5_passHours_L16 at hok
            refine lv_iload_n hx hb (dd_of dX5_passHours_0 10 rfl) rfl (lv_at hl 0 rfl) ?_
            refine lv_aload_n hx hb (dd_of dX5_passHours_0 11 rfl) rfl (lv_at hl 2 rfl) ?_
            refine va_get (D := D) (cl := vwCl) (tys := jT yy) (ci := 5) (v := .ref (B 3)) (C := RX5) (T := TX5) (N := 10) hx hb hts (fun w h => List.mem_cons_of_mem _ (inlX5 w h)) hown hK hP 0 rfl rfl 2 (by decide) (jw hts gw33) (fun _ h9 => h9) rfl (dd_of dX5_passHours_0 12 rfl) ?_
            refine va_alen (v := 8) hx hb hK hP 5 6 rfl rfl rfl (dd_of dX5_passHours_0 13 rfl) ?_
            refine lv_icmp_ge (tgt := 53) hx hb (dd_of dX5_passHours_0 14 rfl) (by decide) (fun c6 => ?_) (fun c6 => ?_)
            · replace hres := ifE c6 hres
              replace hok := hok.1 c6
              exact hexit v3 F G H locs ls hP hD hS (lv_sub hl [0, 1, 2, 3] rfl) hok hres
            · replace hres := ifN c6 hres
              replace hok := hok.2 c6
              refine lv_aload_n hx hb (dd_of dX5_passHours_0 15 rfl) rfl (lv_at hl 2 rfl) ?_
              refine va_get (D := D) (cl := vwCl) (tys := jT yy) (ci := 5) (v := .ref (B 3)) (C := RX5) (T := TX5) (N := 10) hx hb hts (fun w h => List.mem_cons_of_mem _ (inlX5 w h)) hown hK hP 0 rfl rfl 2 (by decide) (jw hts gw33) (fun _ h9 => h9) rfl (dd_of dX5_passHours_0 16 rfl) ?_
              refine lv_iload_n hx hb (dd_of dX5_passHours_0 17 rfl) rfl (lv_at hl 0 rfl) ?_
              have h8 := hok.1
              replace hok := hok.2
              refine va_aldq hx hb hK hP 5 6 rfl rfl h8 (dd_of dX5_passHours_0 18 rfl) ?_
              refine jo_nm (B := B) (off := 200) (e0 := (op (cn F 17) (Int32.toNatClampNeg v3))) (fun o7 eo7 => ?_)
              replace hres := bvE eo7 hres
              replace hok := bvO eo7 hok
              rcases o7 with _ | k9
              · replace hres := omN hres
                replace hok := opN hok
                refine lv_ifnullN (tgt := 47) hx hb (dd_of dX5_passHours_0 19 rfl) (by decide) ?_
                refine lv_iinc (v := (v3 + 1)) (lv' := [(3, .int (v3 + 1)), (2, .int f2), (0, .ref (B 0)), (1, .int f1)]) hx hb (dd_of dX5_passHours_0 27 rfl) hl (k := 0) rfl rfl (by decide) rfl (fun ls hl => ?_)
                refine lv_goto (tgt := 16) hx hb (dd_of dX5_passHours_0 28 rfl) (by decide) ?_
                exact ih (v3 + 1) F G H locs ls hP hD hS (lv_sub hl [0, 1, 2, 3] rfl) hok hres hexit
              · replace hres := omS hres
                replace hok := opS hok
                refine lv_ifnull hx hb (dd_of dX5_passHours_0 19 rfl) ?_
                refine lv_aload_n hx hb (dd_of dX5_passHours_0 20 rfl) rfl (lv_at hl 2 rfl) ?_
                refine va_get (D := D) (cl := vwCl) (tys := jT yy) (ci := 5) (v := .ref (B 3)) (C := RX5) (T := TX5) (N := 10) hx hb hts (fun w h => List.mem_cons_of_mem _ (inlX5 w h)) hown hK hP 0 rfl rfl 2 (by decide) (jw hts gw33) (fun _ h9 => h9) rfl (dd_of dX5_passHours_0 21 rfl) ?_
                refine lv_iload_n hx hb (dd_of dX5_passHours_0 22 rfl) rfl (lv_at hl 0 rfl) ?_
                have h11 := hok.1
                replace hok := hok.2
                refine va_aldq hx hb hK hP 5 6 rfl rfl h11 (dd_of dX5_passHours_0 23 rfl) ?_
                refine jo_nm (B := B) (off := 200) (e0 := (op (cn F 17) (Int32.toNatClampNeg v3))) (fun o10 eo10 => ?_)
                replace hres := bvE eo10 hres
                replace hok := bvO eo10 hok
                refine lv_aload_n hx hb (dd_of dX5_passHours_0 24 rfl) rfl (lv_at hl 2 rfl) ?_
                refine va_get (D := D) (cl := vwCl) (tys := jT yy) (ci := 5) (v := .ref (B 1)) (C := RX5) (T := TX5) (N := 10) hx hb hts (fun w h => List.mem_cons_of_mem _ (inlX5 w h)) hown hK hP 0 rfl rfl 0 (by decide) (jw hts gw27) (fun _ h9 => h9) rfl (dd_of dX5_passHours_0 25 rfl) ?_
                rcases o10 with _ | k12
                · replace hres := omN hres
                  replace hok := opN hok
                  exact False.elim hok
                · replace hres := omS hres
                  replace hok := opS hok
                  have h13 := hok.1
                  replace hok := hok.2
                  have h14 := hok.1
                  replace hok := hok.2
                  obtain ⟨q9, hq9⟩ := lWg_gate (yy := yy) (B := B) (F := F) (G := G) h13
                  refine jm_v (As := [.ref (B 1)]) (rest := []) (w := (lW yy B F G)) (w1 := fun u : jS => (lW yy B u.1 u.2)) (D := D) (yy := yy) ⟨hx, hb, hml, hown, hts⟩ (qX4_pass l D yy B F G H.size k12  h14) (cwV 1 hts (jgV gw432 gw433 gw434 gw265 gw435) rfl rfl rfl (by decide +kernel) ⟨Nat.le_of_ble_eq_true rfl, Nat.le_of_ble_eq_true rfl⟩) hP hK hD hS hA (va_recv hK hP (ci := 4) (q0 := q9) rfl hq9) rfl hl.1 rfl (Nat.le_of_ble_eq_true rfl) (dd_of dX5_passHours_0 26 rfl) ⟨Nat.zero_le _, Nat.zero_le _⟩ (fun u9 H locs w17 hP hD hS => ?_)
                  obtain ⟨F15, G16⟩ := u9
                  have hP : va_P D vwCl (lW yy B F15 G16) H := hP
                  have hD : va_D Z (lW yy B F15 G16) := hD
                  replace hres := bsE w17 hres
                  replace hok := bsO w17 hok
                  refine lv_iinc (v := (v3 + 1)) (lv' := [(3, .int (v3 + 1)), (2, .int f2), (0, .ref (B 0)), (1, .int f1)]) hx hb (dd_of dX5_passHours_0 27 rfl) hl (k := 0) rfl rfl (by decide) rfl (fun ls hl => ?_)
                  refine lv_goto (tgt := 16) hx hb (dd_of dX5_passHours_0 28 rfl) (by decide) ?_
                  exact ih (v3 + 1) F15 G16 H locs ls hP hD hS (lv_sub hl [0, 1, 2, 3] rfl) hok hres hexit
        refine LP16 v2 f1 _ _ 80 0 F3 G4 H locs ls hP hD hS (lv_sub hl [0, 1, 2, 3] rfl) hok hres (fun y18 F19 G20 H locs ls hP hD hS hl hok hres => ?_)
        refine lv_iconst (v := 0) hx hb (dd_of dX5_passHours_0 29 rfl) (by decide) ?_
        refine lv_istore_n (lv' := [(3, .int 0), (2, .int v2), (0, .ref (B 0)), (1, .int f1)]) hx hb (dd_of dX5_passHours_0 30 rfl) rfl hl (by decide) rfl (fun ls hl => ?_)
        have LP55 : ∀ (f2 : Int32) (f1 : Int32), ∀ (K : Int32 → jF → jG → (Int32 × jS)) (okK : Int32 → jF → jG → Prop) (n : Nat), ∀ (v3 : Int32) (F : jF) (G : jG), ∀ (H : Heap) (locs : List Loc) (ls : Array Slot), va_P D vwCl (lW yy B F G) H → va_D Z (lW yy B F G) → va_S Z s.heap H locs → lv_has ls 4 [(3, .int v3), (2, .int f2), (0, .ref (B 0)), (1, .int f1)] → okX5_passHours_L55 f2 f1 okK n v3 F G → gX5_passHours_L55 f2 f1 K n v3 F G = RES → (∀ (v3 : Int32) (F : jF) (G : jG), ∀ (H : Heap) (locs : List Loc) (ls : Array Slot), va_P D vwCl (lW yy B F G) H → va_D Z (lW yy B F G) → va_S Z s.heap H locs → lv_has ls 4 [(3, .int v3), (2, .int f2), (0, .ref (B 0)), (1, .int f1)] → okK v3 F G → K v3 F G = RES → W p l e rmX5_passHours s m args below meth c H locs 0 0 Q (F0 m 92 ls [])) → W p l e rmX5_passHours s m args below meth c H locs 0 0 Q (F0 m 55 ls []) := by
          intro f2 f1 K okK n
          induction n with
          | zero =>
            intro v3 F G H locs ls hP hD hS hl hok _ _
            exact absurd hok (by unfold okX5_passHours_L55; exact id)
          | succ n9 ih =>
            intro v3 F G H locs ls hP hD hS hl hok hres hexit
            unfold gX5_passHours_L55 at hres
            unfold okX5_passHours_L55 at hok
            refine lv_iload_n hx hb (dd_of dX5_passHours_0 31 rfl) rfl (lv_at hl 0 rfl) ?_
            refine lv_aload_n hx hb (dd_of dX5_passHours_0 32 rfl) rfl (lv_at hl 2 rfl) ?_
            refine va_get (D := D) (cl := vwCl) (tys := jT yy) (ci := 5) (v := .ref (B 4)) (C := RX5) (T := TX5) (N := 10) hx hb hts (fun w h => List.mem_cons_of_mem _ (inlX5 w h)) hown hK hP 0 rfl rfl 4 (by decide) (jw hts gw35) (fun _ h9 => h9) rfl (dd_of dX5_passHours_0 33 rfl) ?_
            refine va_alen (v := 8) hx hb hK hP 6 7 rfl rfl rfl (dd_of dX5_passHours_0 34 rfl) ?_
            refine lv_icmp_ge (tgt := 92) hx hb (dd_of dX5_passHours_0 35 rfl) (by decide) (fun c21 => ?_) (fun c21 => ?_)
            · replace hres := ifE c21 hres
              replace hok := hok.1 c21
              exact hexit v3 F G H locs ls hP hD hS (lv_sub hl [0, 1, 2, 3] rfl) hok hres
            · replace hres := ifN c21 hres
              replace hok := hok.2 c21
              refine lv_aload_n hx hb (dd_of dX5_passHours_0 36 rfl) rfl (lv_at hl 2 rfl) ?_
              refine va_get (D := D) (cl := vwCl) (tys := jT yy) (ci := 5) (v := .ref (B 4)) (C := RX5) (T := TX5) (N := 10) hx hb hts (fun w h => List.mem_cons_of_mem _ (inlX5 w h)) hown hK hP 0 rfl rfl 4 (by decide) (jw hts gw35) (fun _ h9 => h9) rfl (dd_of dX5_passHours_0 37 rfl) ?_
              refine lv_iload_n hx hb (dd_of dX5_passHours_0 38 rfl) rfl (lv_at hl 0 rfl) ?_
              have h23 := hok.1
              replace hok := hok.2
              refine va_aldq hx hb hK hP 6 7 rfl rfl h23 (dd_of dX5_passHours_0 39 rfl) ?_
              refine jo_nm (B := B) (off := 300) (e0 := (op (cn F 23) (Int32.toNatClampNeg v3))) (fun o22 eo22 => ?_)
              replace hres := bvE eo22 hres
              replace hok := bvO eo22 hok
              rcases o22 with _ | k24
              · replace hres := omN hres
                replace hok := opN hok
                refine lv_ifnullN (tgt := 86) hx hb (dd_of dX5_passHours_1 0 rfl) (by decide) ?_
                refine lv_iinc (v := (v3 + 1)) (lv' := [(3, .int (v3 + 1)), (2, .int f2), (0, .ref (B 0)), (1, .int f1)]) hx hb (dd_of dX5_passHours_1 8 rfl) hl (k := 0) rfl rfl (by decide) rfl (fun ls hl => ?_)
                refine lv_goto (tgt := 55) hx hb (dd_of dX5_passHours_1 9 rfl) (by decide) ?_
                exact ih (v3 + 1) F G H locs ls hP hD hS (lv_sub hl [0, 1, 2, 3] rfl) hok hres hexit
              · replace hres := omS hres
                replace hok := opS hok
                refine lv_ifnull hx hb (dd_of dX5_passHours_1 0 rfl) ?_
                refine lv_aload_n hx hb (dd_of dX5_passHours_1 1 rfl) rfl (lv_at hl 2 rfl) ?_
                refine va_get (D := D) (cl := vwCl) (tys := jT yy) (ci := 5) (v := .ref (B 4)) (C := RX5) (T := TX5) (N := 10) hx hb hts (fun w h => List.mem_cons_of_mem _ (inlX5 w h)) hown hK hP 0 rfl rfl 4 (by decide) (jw hts gw35) (fun _ h9 => h9) rfl (dd_of dX5_passHours_1 2 rfl) ?_
                refine lv_iload_n hx hb (dd_of dX5_passHours_1 3 rfl) rfl (lv_at hl 0 rfl) ?_
                have h26 := hok.1
                replace hok := hok.2
                refine va_aldq hx hb hK hP 6 7 rfl rfl h26 (dd_of dX5_passHours_1 4 rfl) ?_
                refine jo_nm (B := B) (off := 300) (e0 := (op (cn F 23) (Int32.toNatClampNeg v3))) (fun o25 eo25 => ?_)
                replace hres := bvE eo25 hres
                replace hok := bvO eo25 hok
                refine lv_aload_n hx hb (dd_of dX5_passHours_1 5 rfl) rfl (lv_at hl 2 rfl) ?_
                refine va_get (D := D) (cl := vwCl) (tys := jT yy) (ci := 5) (v := .ref (B 1)) (C := RX5) (T := TX5) (N := 10) hx hb hts (fun w h => List.mem_cons_of_mem _ (inlX5 w h)) hown hK hP 0 rfl rfl 0 (by decide) (jw hts gw27) (fun _ h9 => h9) rfl (dd_of dX5_passHours_1 6 rfl) ?_
                rcases o25 with _ | k27
                · replace hres := omN hres
                  replace hok := opN hok
                  exact False.elim hok
                · replace hres := omS hres
                  replace hok := opS hok
                  have h28 := hok.1
                  replace hok := hok.2
                  have h29 := hok.1
                  replace hok := hok.2
                  obtain ⟨q9, hq9⟩ := lWg_pump (yy := yy) (B := B) (F := F) (G := G) h28
                  refine jm_v (As := [.ref (B 1)]) (rest := []) (w := (lW yy B F G)) (w1 := fun u : jS => (lW yy B u.1 u.2)) (D := D) (yy := yy) ⟨hx, hb, hml, hown, hts⟩ (qX7_work l D yy B F G H.size k27  h29) (cwV 1 hts (jgV gw461 gw462 gw463 gw205 gw464) rfl rfl rfl (by decide +kernel) ⟨Nat.le_of_ble_eq_true rfl, Nat.le_of_ble_eq_true rfl⟩) hP hK hD hS hA (va_recv hK hP (ci := 7) (q0 := q9) rfl hq9) rfl hl.1 rfl (Nat.le_of_ble_eq_true rfl) (dd_of dX5_passHours_1 7 rfl) ⟨Nat.zero_le _, Nat.zero_le _⟩ (fun u9 H locs w32 hP hD hS => ?_)
                  obtain ⟨F30, G31⟩ := u9
                  have hP : va_P D vwCl (lW yy B F30 G31) H := hP
                  have hD : va_D Z (lW yy B F30 G31) := hD
                  replace hres := bsE w32 hres
                  replace hok := bsO w32 hok
                  refine lv_iinc (v := (v3 + 1)) (lv' := [(3, .int (v3 + 1)), (2, .int f2), (0, .ref (B 0)), (1, .int f1)]) hx hb (dd_of dX5_passHours_1 8 rfl) hl (k := 0) rfl rfl (by decide) rfl (fun ls hl => ?_)
                  refine lv_goto (tgt := 55) hx hb (dd_of dX5_passHours_1 9 rfl) (by decide) ?_
                  exact ih (v3 + 1) F30 G31 H locs ls hP hD hS (lv_sub hl [0, 1, 2, 3] rfl) hok hres hexit
        refine LP55 v2 f1 _ _ 80 0 F19 G20 H locs ls hP hD hS (lv_sub hl [0, 1, 2, 3] rfl) hok hres (fun y33 F34 G35 H locs ls hP hD hS hl hok hres => ?_)
        refine lv_iconst (v := 0) hx hb (dd_of dX5_passHours_1 10 rfl) (by decide) ?_
        refine lv_istore_n (lv' := [(3, .int 0), (2, .int v2), (0, .ref (B 0)), (1, .int f1)]) hx hb (dd_of dX5_passHours_1 11 rfl) rfl hl (by decide) rfl (fun ls hl => ?_)
        have LP94 : ∀ (f2 : Int32) (f1 : Int32), ∀ (K : Int32 → jF → jG → (Int32 × jS)) (okK : Int32 → jF → jG → Prop) (n : Nat), ∀ (v3 : Int32) (F : jF) (G : jG), ∀ (H : Heap) (locs : List Loc) (ls : Array Slot), va_P D vwCl (lW yy B F G) H → va_D Z (lW yy B F G) → va_S Z s.heap H locs → lv_has ls 4 [(3, .int v3), (2, .int f2), (0, .ref (B 0)), (1, .int f1)] → okX5_passHours_L94 f2 f1 okK n v3 F G → gX5_passHours_L94 f2 f1 K n v3 F G = RES → (∀ (v3 : Int32) (F : jF) (G : jG), ∀ (H : Heap) (locs : List Loc) (ls : Array Slot), va_P D vwCl (lW yy B F G) H → va_D Z (lW yy B F G) → va_S Z s.heap H locs → lv_has ls 4 [(3, .int v3), (2, .int f2), (0, .ref (B 0)), (1, .int f1)] → okK v3 F G → K v3 F G = RES → W p l e rmX5_passHours s m args below meth c H locs 0 0 Q (F0 m 131 ls [])) → W p l e rmX5_passHours s m args below meth c H locs 0 0 Q (F0 m 94 ls []) := by
          intro f2 f1 K okK n
          induction n with
          | zero =>
            intro v3 F G H locs ls hP hD hS hl hok _ _
            exact absurd hok (by unfold okX5_passHours_L94; exact id)
          | succ n9 ih =>
            intro v3 F G H locs ls hP hD hS hl hok hres hexit
            unfold gX5_passHours_L94 at hres
            unfold okX5_passHours_L94 at hok
            refine lv_iload_n hx hb (dd_of dX5_passHours_1 12 rfl) rfl (lv_at hl 0 rfl) ?_
            refine lv_aload_n hx hb (dd_of dX5_passHours_1 13 rfl) rfl (lv_at hl 2 rfl) ?_
            refine va_get (D := D) (cl := vwCl) (tys := jT yy) (ci := 5) (v := .ref (B 5)) (C := RX5) (T := TX5) (N := 10) hx hb hts (fun w h => List.mem_cons_of_mem _ (inlX5 w h)) hown hK hP 0 rfl rfl 6 (by decide) (jw hts gw37) (fun _ h9 => h9) rfl (dd_of dX5_passHours_1 14 rfl) ?_
            refine va_alen (v := 8) hx hb hK hP 7 5 rfl rfl rfl (dd_of dX5_passHours_1 15 rfl) ?_
            refine lv_icmp_ge (tgt := 131) hx hb (dd_of dX5_passHours_1 16 rfl) (by decide) (fun c36 => ?_) (fun c36 => ?_)
            · replace hres := ifE c36 hres
              replace hok := hok.1 c36
              exact hexit v3 F G H locs ls hP hD hS (lv_sub hl [0, 1, 2, 3] rfl) hok hres
            · replace hres := ifN c36 hres
              replace hok := hok.2 c36
              refine lv_aload_n hx hb (dd_of dX5_passHours_1 17 rfl) rfl (lv_at hl 2 rfl) ?_
              refine va_get (D := D) (cl := vwCl) (tys := jT yy) (ci := 5) (v := .ref (B 5)) (C := RX5) (T := TX5) (N := 10) hx hb hts (fun w h => List.mem_cons_of_mem _ (inlX5 w h)) hown hK hP 0 rfl rfl 6 (by decide) (jw hts gw37) (fun _ h9 => h9) rfl (dd_of dX5_passHours_1 18 rfl) ?_
              refine lv_iload_n hx hb (dd_of dX5_passHours_1 19 rfl) rfl (lv_at hl 0 rfl) ?_
              have h38 := hok.1
              replace hok := hok.2
              refine va_aldq hx hb hK hP 7 5 rfl rfl h38 (dd_of dX5_passHours_1 20 rfl) ?_
              refine jo_nm (B := B) (off := 400) (e0 := (op (cn F 32) (Int32.toNatClampNeg v3))) (fun o37 eo37 => ?_)
              replace hres := bvE eo37 hres
              replace hok := bvO eo37 hok
              rcases o37 with _ | k39
              · replace hres := omN hres
                replace hok := opN hok
                refine lv_ifnullN (tgt := 125) hx hb (dd_of dX5_passHours_1 21 rfl) (by decide) ?_
                refine lv_iinc (v := (v3 + 1)) (lv' := [(3, .int (v3 + 1)), (2, .int f2), (0, .ref (B 0)), (1, .int f1)]) hx hb (dd_of dX5_passHours_1 29 rfl) hl (k := 0) rfl rfl (by decide) rfl (fun ls hl => ?_)
                refine lv_goto (tgt := 94) hx hb (dd_of dX5_passHours_1 30 rfl) (by decide) ?_
                exact ih (v3 + 1) F G H locs ls hP hD hS (lv_sub hl [0, 1, 2, 3] rfl) hok hres hexit
              · replace hres := omS hres
                replace hok := opS hok
                refine lv_ifnull hx hb (dd_of dX5_passHours_1 21 rfl) ?_
                refine lv_aload_n hx hb (dd_of dX5_passHours_1 22 rfl) rfl (lv_at hl 2 rfl) ?_
                refine va_get (D := D) (cl := vwCl) (tys := jT yy) (ci := 5) (v := .ref (B 5)) (C := RX5) (T := TX5) (N := 10) hx hb hts (fun w h => List.mem_cons_of_mem _ (inlX5 w h)) hown hK hP 0 rfl rfl 6 (by decide) (jw hts gw37) (fun _ h9 => h9) rfl (dd_of dX5_passHours_1 23 rfl) ?_
                refine lv_iload_n hx hb (dd_of dX5_passHours_1 24 rfl) rfl (lv_at hl 0 rfl) ?_
                have h41 := hok.1
                replace hok := hok.2
                refine va_aldq hx hb hK hP 7 5 rfl rfl h41 (dd_of dX5_passHours_1 25 rfl) ?_
                refine jo_nm (B := B) (off := 400) (e0 := (op (cn F 32) (Int32.toNatClampNeg v3))) (fun o40 eo40 => ?_)
                replace hres := bvE eo40 hres
                replace hok := bvO eo40 hok
                refine lv_aload_n hx hb (dd_of dX5_passHours_1 26 rfl) rfl (lv_at hl 2 rfl) ?_
                refine va_get (D := D) (cl := vwCl) (tys := jT yy) (ci := 5) (v := .ref (B 1)) (C := RX5) (T := TX5) (N := 10) hx hb hts (fun w h => List.mem_cons_of_mem _ (inlX5 w h)) hown hK hP 0 rfl rfl 0 (by decide) (jw hts gw27) (fun _ h9 => h9) rfl (dd_of dX5_passHours_1 27 rfl) ?_
                rcases o40 with _ | k42
                · replace hres := omN hres
                  replace hok := opN hok
                  exact False.elim hok
                · replace hres := omS hres
                  replace hok := opS hok
                  have h43 := hok.1
                  replace hok := hok.2
                  have h44 := hok.1
                  replace hok := hok.2
                  obtain ⟨q9, hq9⟩ := lWg_dyke (yy := yy) (B := B) (F := F) (G := G) h43
                  refine jm_v (As := [.ref (B 1)]) (rest := []) (w := (lW yy B F G)) (w1 := fun u : jS => (lW yy B u.1 u.2)) (D := D) (yy := yy) ⟨hx, hb, hml, hown, hts⟩ (qX3_hold l D yy B F G H.size k42  h44) (cwV 1 hts (jgV gw473 gw474 gw475 gw207 gw476) rfl rfl rfl (by decide +kernel) ⟨Nat.le_of_ble_eq_true rfl, Nat.le_of_ble_eq_true rfl⟩) hP hK hD hS hA (va_recv hK hP (ci := 3) (q0 := q9) rfl hq9) rfl hl.1 rfl (Nat.le_of_ble_eq_true rfl) (dd_of dX5_passHours_1 28 rfl) ⟨Nat.zero_le _, Nat.zero_le _⟩ (fun u9 H locs w47 hP hD hS => ?_)
                  obtain ⟨F45, G46⟩ := u9
                  have hP : va_P D vwCl (lW yy B F45 G46) H := hP
                  have hD : va_D Z (lW yy B F45 G46) := hD
                  replace hres := bsE w47 hres
                  replace hok := bsO w47 hok
                  refine lv_iinc (v := (v3 + 1)) (lv' := [(3, .int (v3 + 1)), (2, .int f2), (0, .ref (B 0)), (1, .int f1)]) hx hb (dd_of dX5_passHours_1 29 rfl) hl (k := 0) rfl rfl (by decide) rfl (fun ls hl => ?_)
                  refine lv_goto (tgt := 94) hx hb (dd_of dX5_passHours_1 30 rfl) (by decide) ?_
                  exact ih (v3 + 1) F45 G46 H locs ls hP hD hS (lv_sub hl [0, 1, 2, 3] rfl) hok hres hexit
        refine LP94 v2 f1 _ _ 80 0 F34 G35 H locs ls hP hD hS (lv_sub hl [0, 1, 2, 3] rfl) hok hres (fun y48 F49 G50 H locs ls hP hD hS hl hok hres => ?_)
        refine lv_aload_n hx hb (dd_of dX5_passHours_1 31 rfl) rfl (lv_at hl 2 rfl) ?_
        refine va_get (D := D) (cl := vwCl) (tys := jT yy) (ci := 5) (v := .ref (B 1)) (C := RX5) (T := TX5) (N := 10) hx hb hts (fun w h => List.mem_cons_of_mem _ (inlX5 w h)) hown hK hP 0 rfl rfl 0 (by decide) (jw hts gw27) (fun _ h9 => h9) rfl (dd_of dX5_passHours_1 32 rfl) ?_
        have h51 := hok.1
        replace hok := hok.2
        refine jm_v (As := []) (rest := []) (w := (lW yy B F49 G50)) (w1 := fun u : jS => (lW yy B u.1 u.2)) (D := D) (yy := yy) ⟨hx, hb, hml, hown, hts⟩ (qX10_countHarms l D yy B F49 G50 H.size   h51) (cwV 0 hts (jgV gw497 gw498 gw499 gw26 gw500) rfl rfl rfl (by decide +kernel) ⟨Nat.le_of_ble_eq_true rfl, Nat.le_of_ble_eq_true rfl⟩) hP hK hD hS hA (va_recv hK hP (ci := 10) (q0 := 1) rfl rfl) rfl hl.1 rfl (Nat.le_of_ble_eq_true rfl) (dd_of dX5_passHours_1 33 rfl) ⟨Nat.zero_le _, Nat.zero_le _⟩ (fun u9 H locs w54 hP hD hS => ?_)
        obtain ⟨F52, G53⟩ := u9
        have hP : va_P D vwCl (lW yy B F52 G53) H := hP
        have hD : va_D Z (lW yy B F52 G53) := hD
        replace hres := bsE w54 hres
        replace hok := bsO w54 hok
        refine lv_aload_n hx hb (dd_of dX5_passHours_1 34 rfl) rfl (lv_at hl 2 rfl) ?_
        refine va_get (D := D) (cl := vwCl) (tys := jT yy) (ci := 5) (v := .ref (B 7)) (C := RX5) (T := TX5) (N := 10) hx hb hts (fun w h => List.mem_cons_of_mem _ (inlX5 w h)) hown hK hP 0 rfl rfl 9 (by decide) (jw hts gw43) (fun _ h9 => h9) rfl (dd_of dX5_passHours_1 35 rfl) ?_
        refine lv_aload_n hx hb (dd_of dX5_passHours_1 36 rfl) rfl (lv_at hl 2 rfl) ?_
        refine va_get (D := D) (cl := vwCl) (tys := jT yy) (ci := 5) (v := .ref (B 1)) (C := RX5) (T := TX5) (N := 10) hx hb hts (fun w h => List.mem_cons_of_mem _ (inlX5 w h)) hown hK hP 0 rfl rfl 0 (by decide) (jw hts gw27) (fun _ h9 => h9) rfl (dd_of dX5_passHours_1 37 rfl) ?_
        have h55 := hok.1
        replace hok := hok.2
        refine jm_v (As := [.ref (B 1)]) (rest := []) (w := (lW yy B F52 G53)) (w1 := fun u : jS => (lW yy B u.1 u.2)) (D := D) (yy := yy) ⟨hx, hb, hml, hown, hts⟩ (qX8_lookAt l D yy B F52 G53 H.size   h55) (cwV 1 hts (jgV gw515 gw516 gw517 gw42 gw518) rfl rfl rfl (by decide +kernel) ⟨Nat.le_of_ble_eq_true rfl, Nat.le_of_ble_eq_true rfl⟩) hP hK hD hS hA (va_recv hK hP (ci := 8) (q0 := 3) rfl rfl) rfl hl.1 rfl (Nat.le_of_ble_eq_true rfl) (dd_of dX5_passHours_1 38 rfl) ⟨Nat.zero_le _, Nat.zero_le _⟩ (fun u9 H locs w58 hP hD hS => ?_)
        obtain ⟨F56, G57⟩ := u9
        have hP : va_P D vwCl (lW yy B F56 G57) H := hP
        have hD : va_D Z (lW yy B F56 G57) := hD
        replace hres := bsE w58 hres
        replace hok := bsO w58 hok
        refine lv_iconst (v := 0) hx hb (dd_of dX5_passHours_1 39 rfl) (by decide) ?_
        refine lv_istore_n (lv' := [(3, .int 0), (2, .int v2), (0, .ref (B 0)), (1, .int f1)]) hx hb (dd_of dX5_passHours_2 0 rfl) rfl hl (by decide) rfl (fun ls hl => ?_)
        have LP151 : ∀ (f2 : Int32) (f1 : Int32), ∀ (K : Int32 → jF → jG → (Int32 × jS)) (okK : Int32 → jF → jG → Prop) (n : Nat), ∀ (v3 : Int32) (F : jF) (G : jG), ∀ (H : Heap) (locs : List Loc) (ls : Array Slot), va_P D vwCl (lW yy B F G) H → va_D Z (lW yy B F G) → va_S Z s.heap H locs → lv_has ls 4 [(3, .int v3), (2, .int f2), (0, .ref (B 0)), (1, .int f1)] → okX5_passHours_L151 f2 f1 okK n v3 F G → gX5_passHours_L151 f2 f1 K n v3 F G = RES → (∀ (v3 : Int32) (F : jF) (G : jG), ∀ (H : Heap) (locs : List Loc) (ls : Array Slot), va_P D vwCl (lW yy B F G) H → va_D Z (lW yy B F G) → va_S Z s.heap H locs → lv_has ls 4 [(3, .int v3), (2, .int f2), (0, .ref (B 0)), (1, .int f1)] → okK v3 F G → K v3 F G = RES → W p l e rmX5_passHours s m args below meth c H locs 0 0 Q (F0 m 205 ls [])) → W p l e rmX5_passHours s m args below meth c H locs 0 0 Q (F0 m 151 ls []) := by
          intro f2 f1 K okK n
          induction n with
          | zero =>
            intro v3 F G H locs ls hP hD hS hl hok _ _
            exact absurd hok (by unfold okX5_passHours_L151; exact id)
          | succ n9 ih =>
            intro v3 F G H locs ls hP hD hS hl hok hres hexit
            unfold gX5_passHours_L151 at hres
            unfold okX5_passHours_L151 at hok
            refine lv_iload_n hx hb (dd_of dX5_passHours_2 1 rfl) rfl (lv_at hl 0 rfl) ?_
            refine lv_aload_n hx hb (dd_of dX5_passHours_2 2 rfl) rfl (lv_at hl 2 rfl) ?_
            refine va_get (D := D) (cl := vwCl) (tys := jT yy) (ci := 5) (v := .ref (B 6)) (C := RX5) (T := TX5) (N := 10) hx hb hts (fun w h => List.mem_cons_of_mem _ (inlX5 w h)) hown hK hP 0 rfl rfl 8 (by decide) (jw hts gw39) (fun _ h9 => h9) rfl (dd_of dX5_passHours_2 3 rfl) ?_
            refine va_alen (v := 3) hx hb hK hP 8 4 rfl rfl rfl (dd_of dX5_passHours_2 4 rfl) ?_
            refine lv_icmp_ge (tgt := 205) hx hb (dd_of dX5_passHours_2 5 rfl) (by decide) (fun c59 => ?_) (fun c59 => ?_)
            · replace hres := ifE c59 hres
              replace hok := hok.1 c59
              exact hexit v3 F G H locs ls hP hD hS (lv_sub hl [0, 1, 2, 3] rfl) hok hres
            · replace hres := ifN c59 hres
              replace hok := hok.2 c59
              refine lv_aload_n hx hb (dd_of dX5_passHours_2 6 rfl) rfl (lv_at hl 2 rfl) ?_
              refine va_get (D := D) (cl := vwCl) (tys := jT yy) (ci := 5) (v := .ref (B 6)) (C := RX5) (T := TX5) (N := 10) hx hb hts (fun w h => List.mem_cons_of_mem _ (inlX5 w h)) hown hK hP 0 rfl rfl 8 (by decide) (jw hts gw39) (fun _ h9 => h9) rfl (dd_of dX5_passHours_2 7 rfl) ?_
              refine lv_iload_n hx hb (dd_of dX5_passHours_2 8 rfl) rfl (lv_at hl 0 rfl) ?_
              have h61 := hok.1
              replace hok := hok.2
              refine va_aldq hx hb hK hP 8 4 rfl rfl h61 (dd_of dX5_passHours_2 9 rfl) ?_
              refine jo_nm (B := B) (off := 700) (e0 := (op (3) (Int32.toNatClampNeg v3))) (fun o60 eo60 => ?_)
              replace hres := bvE eo60 hres
              replace hok := bvO eo60 hok
              rcases o60 with _ | k62
              · replace hres := omN hres
                replace hok := opN hok
                refine lv_ifnullN (tgt := 199) hx hb (dd_of dX5_passHours_2 10 rfl) (by decide) ?_
                refine lv_iinc (v := (v3 + 1)) (lv' := [(3, .int (v3 + 1)), (2, .int f2), (0, .ref (B 0)), (1, .int f1)]) hx hb (dd_of dX5_passHours_2 27 rfl) hl (k := 0) rfl rfl (by decide) rfl (fun ls hl => ?_)
                refine lv_goto (tgt := 151) hx hb (dd_of dX5_passHours_2 28 rfl) (by decide) ?_
                exact ih (v3 + 1) F G H locs ls hP hD hS (lv_sub hl [0, 1, 2, 3] rfl) hok hres hexit
              · replace hres := omS hres
                replace hok := opS hok
                refine lv_ifnull hx hb (dd_of dX5_passHours_2 10 rfl) ?_
                refine lv_aload_n hx hb (dd_of dX5_passHours_2 11 rfl) rfl (lv_at hl 2 rfl) ?_
                refine va_get (D := D) (cl := vwCl) (tys := jT yy) (ci := 5) (v := .ref (B 6)) (C := RX5) (T := TX5) (N := 10) hx hb hts (fun w h => List.mem_cons_of_mem _ (inlX5 w h)) hown hK hP 0 rfl rfl 8 (by decide) (jw hts gw39) (fun _ h9 => h9) rfl (dd_of dX5_passHours_2 12 rfl) ?_
                refine lv_iload_n hx hb (dd_of dX5_passHours_2 13 rfl) rfl (lv_at hl 0 rfl) ?_
                have h64 := hok.1
                replace hok := hok.2
                refine va_aldq hx hb hK hP 8 4 rfl rfl h64 (dd_of dX5_passHours_2 14 rfl) ?_
                refine jo_nm (B := B) (off := 700) (e0 := (op (3) (Int32.toNatClampNeg v3))) (fun o63 eo63 => ?_)
                replace hres := bvE eo63 hres
                replace hok := bvO eo63 hok
                refine lv_aload_n hx hb (dd_of dX5_passHours_2 15 rfl) rfl (lv_at hl 2 rfl) ?_
                refine lv_aload_n hx hb (dd_of dX5_passHours_2 16 rfl) rfl (lv_at hl 2 rfl) ?_
                refine va_get (D := D) (cl := vwCl) (tys := jT yy) (ci := 5) (v := .ref (B 6)) (C := RX5) (T := TX5) (N := 10) hx hb hts (fun w h => List.mem_cons_of_mem _ (inlX5 w h)) hown hK hP 0 rfl rfl 8 (by decide) (jw hts gw39) (fun _ h9 => h9) rfl (dd_of dX5_passHours_2 17 rfl) ?_
                refine lv_iload_n hx hb (dd_of dX5_passHours_2 18 rfl) rfl (lv_at hl 0 rfl) ?_
                have h66 := hok.1
                replace hok := hok.2
                refine va_aldq hx hb hK hP 8 4 rfl rfl h66 (dd_of dX5_passHours_2 19 rfl) ?_
                refine jo_nm (B := B) (off := 700) (e0 := (op (3) (Int32.toNatClampNeg v3))) (fun o65 eo65 => ?_)
                replace hres := bvE eo65 hres
                replace hok := bvO eo65 hok
                rcases o65 with _ | k67
                · replace hres := omN hres
                  replace hok := opN hok
                  exact False.elim hok
                · replace hres := omS hres
                  replace hok := opS hok
                  have h68 := hok.1
                  replace hok := hok.2
                  obtain ⟨q9, hq9⟩ := lWg_crew (yy := yy) (B := B) (F := F) (G := G) h68
                  refine va_get (D := D) (cl := vwCl) (tys := jT yy) (ci := 2) (v := .int (F 64 k67)) (C := RX2) (T := TX2) (N := 3) hx hb hts (fun w h => List.mem_cons_of_mem _ (inlX2 w h)) hown hK hP q9 hq9 rfl 2 (by decide) (jw hts gw400) (fun _ h9 => h9) rfl (dd_of dX5_passHours_2 20 rfl) ?_
                  rcases o63 with _ | k69
                  · replace hres := omN hres
                    replace hok := opN hok
                    exact False.elim hok
                  · replace hres := omS hres
                    replace hok := opS hok
                    have h70 := hok.1
                    replace hok := hok.2
                    refine jc_q (As := [.int (F 64 k67)]) (rest := [.ref (B (700 + k69))]) (w := (lW yy B F G)) (D := D) (yy := yy) (B := B) (off := 400) ⟨hx, hb, hml, hown, hts⟩ (qX5_dykeAt l D yy B F G  (F 64 k67) h70) (cwV 1 hts (jgV gw408 gw409 gw410 gw15 gw411) rfl rfl rfl (by decide +kernel) ⟨Nat.le_of_ble_eq_true rfl, Nat.le_of_ble_eq_true rfl⟩) hP hK (va_recv hK hP (ci := 5) (q0 := 0) rfl rfl) rfl hl.1 rfl (Nat.le_of_ble_eq_true rfl) (dd_of dX5_passHours_2 21 rfl) ⟨Nat.zero_le _, Nat.zero_le _⟩ (fun o71 eo71 => ?_)
                    replace hres := bvE eo71 hres
                    replace hok := bvO eo71 hok
                    refine lv_aload_n hx hb (dd_of dX5_passHours_2 22 rfl) rfl (lv_at hl 2 rfl) ?_
                    refine va_get (D := D) (cl := vwCl) (tys := jT yy) (ci := 5) (v := .ref (B 7)) (C := RX5) (T := TX5) (N := 10) hx hb hts (fun w h => List.mem_cons_of_mem _ (inlX5 w h)) hown hK hP 0 rfl rfl 9 (by decide) (jw hts gw43) (fun _ h9 => h9) rfl (dd_of dX5_passHours_2 23 rfl) ?_
                    refine lv_aload_n hx hb (dd_of dX5_passHours_2 24 rfl) rfl (lv_at hl 2 rfl) ?_
                    refine va_get (D := D) (cl := vwCl) (tys := jT yy) (ci := 5) (v := .ref (B 1)) (C := RX5) (T := TX5) (N := 10) hx hb hts (fun w h => List.mem_cons_of_mem _ (inlX5 w h)) hown hK hP 0 rfl rfl 0 (by decide) (jw hts gw27) (fun _ h9 => h9) rfl (dd_of dX5_passHours_2 25 rfl) ?_
                    have h72 := hok.1
                    replace hok := hok.2
                    have h73 := hok.1
                    replace hok := hok.2
                    obtain ⟨q9, hq9⟩ := lWg_crew (yy := yy) (B := B) (F := F) (G := G) h72
                    refine jm_v (As := [va_rf (oB B 400 o71), .ref (B 7), .ref (B 1)]) (rest := []) (w := (lW yy B F G)) (w1 := fun u : jS => (lW yy B u.1 u.2)) (D := D) (yy := yy) ⟨hx, hb, hml, hown, hts⟩ (qX2_toil l D yy B F G H.size k69 o71 h73) (cwV 3 hts (jgV gw522 gw523 gw524 gw45 gw525) rfl rfl rfl (by decide +kernel) ⟨Nat.le_of_ble_eq_true rfl, Nat.le_of_ble_eq_true rfl⟩) hP hK hD hS hA (va_recv hK hP (ci := 2) (q0 := q9) rfl hq9) rfl hl.1 rfl (Nat.le_of_ble_eq_true rfl) (dd_of dX5_passHours_2 26 rfl) ⟨Nat.zero_le _, Nat.zero_le _⟩ (fun u9 H locs w76 hP hD hS => ?_)
                    obtain ⟨F74, G75⟩ := u9
                    have hP : va_P D vwCl (lW yy B F74 G75) H := hP
                    have hD : va_D Z (lW yy B F74 G75) := hD
                    replace hres := bsE w76 hres
                    replace hok := bsO w76 hok
                    refine lv_iinc (v := (v3 + 1)) (lv' := [(3, .int (v3 + 1)), (2, .int f2), (0, .ref (B 0)), (1, .int f1)]) hx hb (dd_of dX5_passHours_2 27 rfl) hl (k := 0) rfl rfl (by decide) rfl (fun ls hl => ?_)
                    refine lv_goto (tgt := 151) hx hb (dd_of dX5_passHours_2 28 rfl) (by decide) ?_
                    exact ih (v3 + 1) F74 G75 H locs ls hP hD hS (lv_sub hl [0, 1, 2, 3] rfl) hok hres hexit
        refine LP151 v2 f1 _ _ 80 0 F56 G57 H locs ls hP hD hS (lv_sub hl [0, 1, 2, 3] rfl) hok hres (fun y77 F78 G79 H locs ls hP hD hS hl hok hres => ?_)
        refine lv_aload_n hx hb (dd_of dX5_passHours_2 29 rfl) rfl (lv_at hl 2 rfl) ?_
        refine va_get (D := D) (cl := vwCl) (tys := jT yy) (ci := 5) (v := .ref (B 2)) (C := RX5) (T := TX5) (N := 10) hx hb hts (fun w h => List.mem_cons_of_mem _ (inlX5 w h)) hown hK hP 0 rfl rfl 1 (by decide) (jw hts gw31) (fun _ h9 => h9) rfl (dd_of dX5_passHours_2 30 rfl) ?_
        refine lv_aload_n hx hb (dd_of dX5_passHours_2 31 rfl) rfl (lv_at hl 2 rfl) ?_
        refine va_get (D := D) (cl := vwCl) (tys := jT yy) (ci := 5) (v := .ref (B 1)) (C := RX5) (T := TX5) (N := 10) hx hb hts (fun w h => List.mem_cons_of_mem _ (inlX5 w h)) hown hK hP 0 rfl rfl 0 (by decide) (jw hts gw27) (fun _ h9 => h9) rfl (dd_of dX5_passHours_2 32 rfl) ?_
        refine va_get (D := D) (cl := vwCl) (tys := jT yy) (ci := 10) (v := .long (G79 69 0)) (C := RX10) (T := TX10) (N := 8) hx hb hts (fun w h => List.mem_cons_of_mem _ (inlX10 w h)) hown hK hP 1 rfl rfl 7 (by decide) (jw hts gw420) (fun _ h9 => h9) rfl (dd_of dX5_passHours_2 33 rfl) ?_
        refine jm_v (As := [.long (G79 69 0)]) (rest := []) (w := (lW yy B F78 G79)) (w1 := fun u : jS => (lW yy B u.1 u.2)) (D := D) (yy := yy) ⟨hx, hb, hml, hown, hts⟩ (qX1_noteSea l D yy B F78 G79 H.size  (G79 69 0) ) (cwV 1 hts (jgV gw556 gw557 gw558 gw30 gw559) rfl rfl rfl (by decide +kernel) ⟨Nat.le_of_ble_eq_true rfl, Nat.le_of_ble_eq_true rfl⟩) hP hK hD hS hA (va_recv hK hP (ci := 1) (q0 := 2) rfl rfl) rfl hl.1 rfl (Nat.le_of_ble_eq_true rfl) (dd_of dX5_passHours_2 34 rfl) ⟨Nat.zero_le _, Nat.zero_le _⟩ (fun u9 H locs w82 hP hD hS => ?_)
        obtain ⟨F80, G81⟩ := u9
        have hP : va_P D vwCl (lW yy B F80 G81) H := hP
        have hD : va_D Z (lW yy B F80 G81) := hD
        replace hres := bsE w82 hres
        replace hok := bsO w82 hok
        refine lv_aload_n hx hb (dd_of dX5_passHours_2 35 rfl) rfl (lv_at hl 2 rfl) ?_
        refine va_get (D := D) (cl := vwCl) (tys := jT yy) (ci := 5) (v := .ref (B 1)) (C := RX5) (T := TX5) (N := 10) hx hb hts (fun w h => List.mem_cons_of_mem _ (inlX5 w h)) hown hK hP 0 rfl rfl 0 (by decide) (jw hts gw27) (fun _ h9 => h9) rfl (dd_of dX5_passHours_2 36 rfl) ?_
        have h83 := hok.1
        replace hok := hok.2
        refine jm_v (As := []) (rest := []) (w := (lW yy B F80 G81)) (w1 := fun u : jS => (lW yy B u.1 u.2)) (D := D) (yy := yy) ⟨hx, hb, hml, hown, hts⟩ (qX10_endHour l D yy B F80 G81 H.size   h83) (cwV 0 hts (jgV gw561 gw562 gw563 gw26 gw564) rfl rfl rfl (by decide +kernel) ⟨Nat.le_of_ble_eq_true rfl, Nat.le_of_ble_eq_true rfl⟩) hP hK hD hS hA (va_recv hK hP (ci := 10) (q0 := 1) rfl rfl) rfl hl.1 rfl (Nat.le_of_ble_eq_true rfl) (dd_of dX5_passHours_2 37 rfl) ⟨Nat.zero_le _, Nat.zero_le _⟩ (fun u9 H locs w86 hP hD hS => ?_)
        obtain ⟨F84, G85⟩ := u9
        have hP : va_P D vwCl (lW yy B F84 G85) H := hP
        have hD : va_D Z (lW yy B F84 G85) := hD
        replace hres := bsE w86 hres
        replace hok := bsO w86 hok
        refine lv_iinc (v := (v2 + 1)) (lv' := [(2, .int (v2 + 1)), (3, .int y77), (0, .ref (B 0)), (1, .int f1)]) hx hb (dd_of dX5_passHours_2 38 rfl) hl (k := 1) rfl rfl (by decide) rfl (fun ls hl => ?_)
        refine lv_goto (tgt := 2) hx hb (dd_of dX5_passHours_2 39 rfl) (by decide) ?_
        exact ih (v2 + 1) F84 G85 H locs ls hP hD hS (lv_sub hl [0, 2, 3] rfl) hok hres hexit
  refine LP2 p1 _ _ 80 0 F G H locs ls hP hD hS (lv_sub hl [0, 1, 2] rfl) hok hres (fun y87 F88 G89 H locs ls hP hD hS hl hok hres => ?_)
  refine lv_aload_n hx hb (dd_of dX5_passHours_3 0 rfl) rfl (lv_at hl 1 rfl) ?_
  refine va_get (D := D) (cl := vwCl) (tys := jT yy) (ci := 5) (v := .ref (B 1)) (C := RX5) (T := TX5) (N := 10) hx hb hts (fun w h => List.mem_cons_of_mem _ (inlX5 w h)) hown hK hP 0 rfl rfl 0 (by decide) (jw hts gw27) (fun _ h9 => h9) rfl (dd_of dX5_passHours_3 1 rfl) ?_
  refine va_get (D := D) (cl := vwCl) (tys := jT yy) (ci := 10) (v := .int (F88 0 0)) (C := RX10) (T := TX10) (N := 8) hx hb hts (fun w h => List.mem_cons_of_mem _ (inlX10 w h)) hown hK hP 1 rfl rfl 6 (by decide) (jw hts gw421) (fun _ h9 => h9) rfl (dd_of dX5_passHours_3 2 rfl) ?_
  subst hQ
  exact W.iret (v := (F88 0 0)) hx hb hr (fun t ht hW => ⟨⟨(F88 0 0), (F88, G89), rfl, hres, by rw [ht]; exact hP, va_K.moved hW.alike hK, hD⟩, hS.F ht⟩) hS.2.2 (dd_of dX5_passHours_3 3 rfl) hlk
set_option maxHeartbeats 4000000 in
set_option maxRecDepth 100000 in
theorem qX5_closeYear (l : Launch) (D : va_G) (yy : Nat → ClassId) (B : Nat → Nat) (F : jF) (G : jG) (sz : Nat)  (hok : okX5_closeYear F G ) : Met l yX5_closeYear (Cond.code yX5_closeYear cX5_closeYear 1 (some .int) :: wsL_law) rmX5_closeYear (va_Pc [.ref (B 0)] (jP D yy (lW yy B F G) sz)) (va_Qi (fun r (u : jS) => (r, u) = gX5_closeYear F G ) (fun (u : jS) t => jB D yy (va_A (lW yy B F G) sz) (lW yy B u.1 u.2) t) (va_A (lW yy B F G) sz)) 0 0 (va_A (lW yy B F G) sz) := by
  generalize hres : gX5_closeYear F G  = RES
  refine jM (vs := [.ref (B 0)]) (own := RX5) (by decide +kernel) rfl (Nat.le_of_ble_eq_true rfl) ?_
  intro p e s m args below meth c ls Q hQ hargs S hr hlk hinit hB hl
  obtain ⟨hx, hb, hml, hown, hts⟩ := S
  have hl : lv_has ls 1 [(0, .ref (B 0))] := hl
  obtain ⟨hsz, hP, hK, hD0⟩ := hB
  subst hsz
  have hD := hD0.self (sz := s.heap.size)
  generalize hZ : va_A (lW yy B F G) s.heap.size = Z at hD hQ
  have hA : ∀ q : Nat, s.heap.size ≤ q → Z q := fun q h => by rw [← hZ]; exact Or.inr h
  obtain ⟨H, hH⟩ : ∃ z, z = s.heap := ⟨_, rfl⟩
  obtain ⟨locs, hlocs⟩ : ∃ z : List Loc, z = [] := ⟨_, rfl⟩
  have hS : va_S Z s.heap H locs := by rw [hH, hlocs]; exact va_S.rf
  rw [← hH] at hP
  suffices hgo : W p l e rmX5_closeYear s m args below meth c H locs 0 0 Q (F0 m 0 ls []) by rw [hH, hlocs] at hgo; exact hgo
  unfold gX5_closeYear at hres
  unfold okX5_closeYear at hok
  refine lv_aload_n hx hb (dd_of dX5_closeYear_0 0 rfl) rfl (lv_at hl 0 rfl) ?_
  refine va_get (D := D) (cl := vwCl) (tys := jT yy) (ci := 5) (v := .ref (B 1)) (C := RX5) (T := TX5) (N := 10) hx hb hts (fun w h => List.mem_cons_of_mem _ (inlX5 w h)) hown hK hP 0 rfl rfl 0 (by decide) (jw hts gw27) (fun _ h9 => h9) rfl (dd_of dX5_closeYear_0 1 rfl) ?_
  have h1 := hok.1
  replace hok := hok.2
  refine jm_v (As := []) (rest := []) (w := (lW yy B F G)) (w1 := fun u : jS => (lW yy B u.1 u.2)) (D := D) (yy := yy) ⟨hx, hb, hml, hown, hts⟩ (qX10_sinkAll l D yy B F G H.size   h1) (cwV 0 hts (jgV gw570 gw571 gw572 gw26 gw573) rfl rfl rfl (by decide +kernel) ⟨Nat.le_of_ble_eq_true rfl, Nat.le_of_ble_eq_true rfl⟩) hP hK hD hS hA (va_recv hK hP (ci := 10) (q0 := 1) rfl rfl) rfl hl.1 rfl (Nat.le_of_ble_eq_true rfl) (dd_of dX5_closeYear_0 2 rfl) ⟨Nat.zero_le _, Nat.zero_le _⟩ (fun u9 H locs w4 hP hD hS => ?_)
  obtain ⟨F2, G3⟩ := u9
  have hP : va_P D vwCl (lW yy B F2 G3) H := hP
  have hD : va_D Z (lW yy B F2 G3) := hD
  replace hres := bsE w4 hres
  replace hok := bsO w4 hok
  refine lv_aload_n hx hb (dd_of dX5_closeYear_0 3 rfl) rfl (lv_at hl 0 rfl) ?_
  refine va_get (D := D) (cl := vwCl) (tys := jT yy) (ci := 5) (v := .ref (B 2)) (C := RX5) (T := TX5) (N := 10) hx hb hts (fun w h => List.mem_cons_of_mem _ (inlX5 w h)) hown hK hP 0 rfl rfl 1 (by decide) (jw hts gw31) (fun _ h9 => h9) rfl (dd_of dX5_closeYear_0 4 rfl) ?_
  have h5 := hok
  refine jm_v (As := []) (rest := []) (w := (lW yy B F2 G3)) (w1 := fun u : jS => (lW yy B u.1 u.2)) (D := D) (yy := yy) ⟨hx, hb, hml, hown, hts⟩ (qX1_close l D yy B F2 G3 H.size   h5) (cwV 0 hts (jgV gw575 gw576 gw577 gw30 gw578) rfl rfl rfl (by decide +kernel) ⟨Nat.le_of_ble_eq_true rfl, Nat.le_of_ble_eq_true rfl⟩) hP hK hD hS hA (va_recv hK hP (ci := 1) (q0 := 2) rfl rfl) rfl hl.1 rfl (Nat.le_of_ble_eq_true rfl) (dd_of dX5_closeYear_0 5 rfl) ⟨Nat.zero_le _, Nat.zero_le _⟩ (fun u9 H locs w8 hP hD hS => ?_)
  obtain ⟨F6, G7⟩ := u9
  have hP : va_P D vwCl (lW yy B F6 G7) H := hP
  have hD : va_D Z (lW yy B F6 G7) := hD
  replace hres := bsE w8 hres
  refine lv_aload_n hx hb (dd_of dX5_closeYear_0 6 rfl) rfl (lv_at hl 0 rfl) ?_
  refine va_get (D := D) (cl := vwCl) (tys := jT yy) (ci := 5) (v := .ref (B 2)) (C := RX5) (T := TX5) (N := 10) hx hb hts (fun w h => List.mem_cons_of_mem _ (inlX5 w h)) hown hK hP 0 rfl rfl 1 (by decide) (jw hts gw31) (fun _ h9 => h9) rfl (dd_of dX5_closeYear_0 7 rfl) ?_
  refine va_get (D := D) (cl := vwCl) (tys := jT yy) (ci := 1) (v := .int (F6 1 0)) (C := RX1) (T := TX1) (N := 8) hx hb hts (fun w h => List.mem_cons_of_mem _ (inlX1 w h)) hown hK hP 2 rfl rfl 2 (by decide) (jw hts gw569) (fun _ h9 => h9) rfl (dd_of dX5_closeYear_0 8 rfl) ?_
  subst hQ
  exact W.iret (v := (F6 1 0)) hx hb hr (fun t ht hW => ⟨⟨(F6 1 0), (F6, G7), rfl, hres, by rw [ht]; exact hP, va_K.moved hW.alike hK, hD⟩, hS.F ht⟩) hS.2.2 (dd_of dX5_closeYear_0 9 rfl) hlk
set_option maxHeartbeats 4000000 in
set_option maxRecDepth 100000 in
theorem qX5_hasSeaDyke (l : Launch) (D : va_G) (yy : Nat → ClassId) (B : Nat → Nat) (F : jF) (G : jG) (p1 : Int32) (hok : okX5_hasSeaDyke F G p1) : Met l yX5_hasSeaDyke (Cond.code yX5_hasSeaDyke cX5_hasSeaDyke 3 (some .boolean) :: wsL_law) rmX5_hasSeaDyke (va_Pc [.ref (B 0), .int p1] (jR D yy (lW yy B F G))) (vp_Si (fun r => r = gX5_hasSeaDyke F G p1)) 0 0 (fun _ => False) := by
  generalize hres : gX5_hasSeaDyke F G p1 = RES
  refine jM (vs := [.ref (B 0), .int p1]) (own := RX5) (by decide +kernel) rfl (Nat.le_of_ble_eq_true rfl) ?_
  intro p e s m args below meth c ls Q hQ hargs S hr hlk hinit hB hl
  obtain ⟨hx, hb, hml, hown, hts⟩ := S
  have hl : lv_has ls 3 [(0, .ref (B 0)), (1, .int p1)] := hl
  obtain ⟨hP, hK⟩ := hB
  unfold gX5_hasSeaDyke at hres
  unfold okX5_hasSeaDyke at hok
  refine lv_iconst (v := 0) hx hb (dd_of dX5_hasSeaDyke_0 0 rfl) (by decide) ?_
  refine lv_istore_n (lv' := [(2, .int 0), (0, .ref (B 0)), (1, .int p1)]) hx hb (dd_of dX5_hasSeaDyke_0 1 rfl) rfl hl (by decide) rfl (fun ls hl => ?_)
  have LP2 : ∀ (f1 : Int32), ∀ (K : Int32 → Int32) (okK : Int32 → Prop) (n : Nat), ∀ (v2 : Int32), ∀ (ls : Array Slot), lv_has ls 3 [(2, .int v2), (0, .ref (B 0)), (1, .int f1)] → okX5_hasSeaDyke_L2 F G f1 okK n v2 → gX5_hasSeaDyke_L2 F G f1 K n v2 = RES → (∀ (v2 : Int32), ∀ (ls : Array Slot), lv_has ls 3 [(2, .int v2), (0, .ref (B 0)), (1, .int f1)] → okK v2 → K v2 = RES → W p l e rmX5_hasSeaDyke s m args below meth c s.heap [] 0 0 Q (F0 m 43 ls [])) → W p l e rmX5_hasSeaDyke s m args below meth c s.heap [] 0 0 Q (F0 m 2 ls []) := by
    intro f1 K okK n
    induction n with
    | zero =>
      intro v2 ls hl hok _ _
      exact absurd hok (by unfold okX5_hasSeaDyke_L2; exact id)
    | succ n9 ih =>
      intro v2 ls hl hok hres hexit
      unfold gX5_hasSeaDyke_L2 at hres
      unfold okX5_hasSeaDyke_L2 at hok
      refine lv_iload_n hx hb (dd_of dX5_hasSeaDyke_0 2 rfl) rfl (lv_at hl 0 rfl) ?_
      refine lv_aload_n hx hb (dd_of dX5_hasSeaDyke_0 3 rfl) rfl (lv_at hl 1 rfl) ?_
      refine va_get (D := D) (cl := vwCl) (tys := jT yy) (ci := 5) (v := .ref (B 5)) (C := RX5) (T := TX5) (N := 10) hx hb hts (fun w h => List.mem_cons_of_mem _ (inlX5 w h)) hown hK hP 0 rfl rfl 6 (by decide) (jw hts gw37) (fun _ h9 => h9) rfl (dd_of dX5_hasSeaDyke_0 4 rfl) ?_
      refine va_alen (v := 8) hx hb hK hP 7 5 rfl rfl rfl (dd_of dX5_hasSeaDyke_0 5 rfl) ?_
      refine lv_icmp_ge (tgt := 43) hx hb (dd_of dX5_hasSeaDyke_0 6 rfl) (by decide) (fun c1 => ?_) (fun c1 => ?_)
      · replace hres := ifE c1 hres
        replace hok := hok.1 c1
        exact hexit v2 ls (lv_sub hl [0, 1, 2] rfl) hok hres
      · replace hres := ifN c1 hres
        replace hok := hok.2 c1
        refine lv_aload_n hx hb (dd_of dX5_hasSeaDyke_0 7 rfl) rfl (lv_at hl 1 rfl) ?_
        refine va_get (D := D) (cl := vwCl) (tys := jT yy) (ci := 5) (v := .ref (B 5)) (C := RX5) (T := TX5) (N := 10) hx hb hts (fun w h => List.mem_cons_of_mem _ (inlX5 w h)) hown hK hP 0 rfl rfl 6 (by decide) (jw hts gw37) (fun _ h9 => h9) rfl (dd_of dX5_hasSeaDyke_0 8 rfl) ?_
        refine lv_iload_n hx hb (dd_of dX5_hasSeaDyke_0 9 rfl) rfl (lv_at hl 0 rfl) ?_
        have h3 := hok.1
        replace hok := hok.2
        refine va_aldq hx hb hK hP 7 5 rfl rfl h3 (dd_of dX5_hasSeaDyke_0 10 rfl) ?_
        refine jo_nm (B := B) (off := 400) (e0 := (op (cn F 32) (Int32.toNatClampNeg v2))) (fun o2 eo2 => ?_)
        replace hres := bvE eo2 hres
        replace hok := bvO eo2 hok
        rcases o2 with _ | k4
        · replace hres := omN hres
          replace hok := opN hok
          refine lv_ifnullN (tgt := 37) hx hb (dd_of dX5_hasSeaDyke_0 11 rfl) (by decide) ?_
          refine lv_iinc (v := (v2 + 1)) (lv' := [(2, .int (v2 + 1)), (0, .ref (B 0)), (1, .int f1)]) hx hb (dd_of dX5_hasSeaDyke_0 22 rfl) hl (k := 0) rfl rfl (by decide) rfl (fun ls hl => ?_)
          refine lv_goto (tgt := 2) hx hb (dd_of dX5_hasSeaDyke_0 23 rfl) (by decide) ?_
          exact ih (v2 + 1) ls (lv_sub hl [0, 1, 2] rfl) hok hres hexit
        · replace hres := omS hres
          replace hok := opS hok
          refine lv_ifnull hx hb (dd_of dX5_hasSeaDyke_0 11 rfl) ?_
          refine lv_aload_n hx hb (dd_of dX5_hasSeaDyke_0 12 rfl) rfl (lv_at hl 1 rfl) ?_
          refine va_get (D := D) (cl := vwCl) (tys := jT yy) (ci := 5) (v := .ref (B 5)) (C := RX5) (T := TX5) (N := 10) hx hb hts (fun w h => List.mem_cons_of_mem _ (inlX5 w h)) hown hK hP 0 rfl rfl 6 (by decide) (jw hts gw37) (fun _ h9 => h9) rfl (dd_of dX5_hasSeaDyke_0 13 rfl) ?_
          refine lv_iload_n hx hb (dd_of dX5_hasSeaDyke_0 14 rfl) rfl (lv_at hl 0 rfl) ?_
          have h6 := hok.1
          replace hok := hok.2
          refine va_aldq hx hb hK hP 7 5 rfl rfl h6 (dd_of dX5_hasSeaDyke_0 15 rfl) ?_
          refine jo_nm (B := B) (off := 400) (e0 := (op (cn F 32) (Int32.toNatClampNeg v2))) (fun o5 eo5 => ?_)
          replace hres := bvE eo5 hres
          replace hok := bvO eo5 hok
          refine lv_bipush (v := 20) hx hb (dd_of dX5_hasSeaDyke_0 16 rfl) (by decide) ?_
          refine lv_iload_n hx hb (dd_of dX5_hasSeaDyke_0 17 rfl) rfl (lv_at hl 2 rfl) ?_
          rcases o5 with _ | k7
          · replace hres := omN hres
            replace hok := opN hok
            exact False.elim hok
          · replace hres := omS hres
            replace hok := opS hok
            have h8 := hok.1
            replace hok := hok.2
            have h9 := hok.1
            replace hok := hok.2
            obtain ⟨q9, hq9⟩ := lWg_dyke (yy := yy) (B := B) (F := F) (G := G) h8
            refine jc_i (As := [.int 20, .int f1]) (rest := []) (w := (lW yy B F G)) (D := D) (yy := yy) ⟨hx, hb, hml, hown, hts⟩ (qX3_joins l D yy B F G k7 20 f1 h9) (cwV 2 hts (jgV gw1189 gw1190 gw1191 gw207 gw1192) rfl rfl rfl (by decide +kernel) ⟨Nat.le_of_ble_eq_true rfl, Nat.le_of_ble_eq_true rfl⟩) hP hK (va_recv hK hP (ci := 3) (q0 := q9) rfl hq9) rfl hl.1 rfl (Nat.le_of_ble_eq_true rfl) (dd_of dX5_hasSeaDyke_0 18 rfl) ⟨Nat.zero_le _, Nat.zero_le _⟩ (fun x10 ex10 => ?_)
            replace hres := bvE ex10 hres
            replace hok := bvO ex10 hok
            refine lv_if_eq (tgt := 37) hx hb (dd_of dX5_hasSeaDyke_0 19 rfl) (by decide) (fun c11 => ?_) (fun c11 => ?_)
            · replace hres := ifE c11 hres
              replace hok := hok.1 c11
              refine lv_iinc (v := (v2 + 1)) (lv' := [(2, .int (v2 + 1)), (0, .ref (B 0)), (1, .int f1)]) hx hb (dd_of dX5_hasSeaDyke_0 22 rfl) hl (k := 0) rfl rfl (by decide) rfl (fun ls hl => ?_)
              refine lv_goto (tgt := 2) hx hb (dd_of dX5_hasSeaDyke_0 23 rfl) (by decide) ?_
              exact ih (v2 + 1) ls (lv_sub hl [0, 1, 2] rfl) hok hres hexit
            · replace hres := ifN c11 hres
              refine lv_iconst (v := 1) hx hb (dd_of dX5_hasSeaDyke_0 20 rfl) (by decide) ?_
              subst hQ
              exact W.zret (ty := .boolean) (v := 1) hx hb hr (jb_nz (Or.inr rfl)) (fun t ht _ => ⟨_, rfl, hres, ht⟩) (fun _ h => absurd h List.not_mem_nil) (dd_of dX5_hasSeaDyke_0 21 rfl) hlk
  refine LP2 p1 _ _ 80 0 ls (lv_sub hl [0, 1, 2] rfl) hok hres (fun y12 ls hl hok hres => ?_)
  refine lv_iconst (v := 0) hx hb (dd_of dX5_hasSeaDyke_0 24 rfl) (by decide) ?_
  subst hQ
  exact W.zret (ty := .boolean) (v := 0) hx hb hr (jb_nz (Or.inl rfl)) (fun t ht _ => ⟨_, rfl, hres, ht⟩) (fun _ h => absurd h List.not_mem_nil) (dd_of dX5_hasSeaDyke_0 25 rfl) hlk
set_option maxHeartbeats 4000000 in
set_option maxRecDepth 100000 in
theorem qX5_highSea (l : Launch) (D : va_G) (yy : Nat → ClassId) (B : Nat → Nat) (F : jF) (G : jG)  (hok : okX5_highSea F G ) : Met l yX5_highSea (Cond.code yX5_highSea cX5_highSea 3 (some .long) :: wsL_law) rmX5_highSea (va_Pc [.ref (B 0)] (jR D yy (lW yy B F G))) (vp_Sl (fun r => r = gX5_highSea F G )) 0 0 (fun _ => False) := by
  generalize hres : gX5_highSea F G  = RES
  refine jM (vs := [.ref (B 0)]) (own := RX5) (by decide +kernel) rfl (Nat.le_of_ble_eq_true rfl) ?_
  intro p e s m args below meth c ls Q hQ hargs S hr hlk hinit hB hl
  obtain ⟨hx, hb, hml, hown, hts⟩ := S
  have hl : lv_has ls 3 [(0, .ref (B 0))] := hl
  obtain ⟨hP, hK⟩ := hB
  unfold gX5_highSea at hres
  unfold okX5_highSea at hok
  refine lv_aload_n hx hb (dd_of dX5_highSea_0 0 rfl) rfl (lv_at hl 0 rfl) ?_
  refine va_get (D := D) (cl := vwCl) (tys := jT yy) (ci := 5) (v := .ref (B 2)) (C := RX5) (T := TX5) (N := 10) hx hb hts (fun w h => List.mem_cons_of_mem _ (inlX5 w h)) hown hK hP 0 rfl rfl 1 (by decide) (jw hts gw31) (fun _ h9 => h9) rfl (dd_of dX5_highSea_0 1 rfl) ?_
  have h1 := hok.1
  replace hok := hok.2
  refine jc_l (As := []) (rest := []) (w := (lW yy B F G)) (D := D) (yy := yy) ⟨hx, hb, hml, hown, hts⟩ (qX1_greatestOfAll l D yy B F G   h1) (cwV 0 hts (jgV gw1199 gw1200 gw1201 gw30 gw1202) rfl rfl rfl (by decide +kernel) ⟨Nat.le_of_ble_eq_true rfl, Nat.le_of_ble_eq_true rfl⟩) hP hK (va_recv hK hP (ci := 1) (q0 := 2) rfl rfl) rfl hl.1 rfl (Nat.le_of_ble_eq_true rfl) (dd_of dX5_highSea_0 2 rfl) ⟨Nat.zero_le _, Nat.zero_le _⟩ (fun x2 ex2 => ?_)
  replace hres := bvE ex2 hres
  replace hok := bvO ex2 hok
  refine lv_lstore_n (lv' := [(1, .long x2), (0, .ref (B 0))]) hx hb (dd_of dX5_highSea_0 3 rfl) rfl hl (by decide) rfl (fun ls hl => ?_)
  refine lv_lload_n hx hb (dd_of dX5_highSea_0 4 rfl) rfl (lv_at hl 0 rfl) ?_
  refine lv_ldc2 (v := (-9223372036854775808)) hx hb hown (jw hts gw1197) (dd_of dX5_highSea_0 5 rfl) ?_
  obtain ⟨z9, q8⟩ : ∃ z : Int64, (if x2 = (-9223372036854775808) then bv (gX6_highTide F G  ) (fun x6 : Int64 => x6) else bv (gJ9_floorDiv_f86c9 x2 100) (fun x5 : Int64 => x5)) = z := ⟨_, rfl⟩
  have o11 := hok
  refine jn_l (ls := ls) (v := z9) 36 [] (fun v7 ev7 => ?_) (fun K10 => ?_)
  · replace hres := bvE (ev7.trans q8.symm) hres
    subst hQ
    exact W.lret (v := v7) hx hb hr (fun t ht _ => ⟨_, rfl, hres, ht⟩) (fun _ h => absurd h List.not_mem_nil) (dd_of dX5_highSea_0 16 rfl) hlk
  · skip
    refine jl_ne (tgt := 29) hx hb (dd_of dX5_highSea_0 6 rfl) (dd_of dX5_highSea_0 7 rfl) (by decide) (fun c3 => ?_) (fun c3 => ?_)
    · replace q8 := ifN c3 q8
      replace o11 := o11.2 c3
      refine lv_lload_n hx hb (dd_of dX5_highSea_0 13 rfl) rfl (lv_at hl 0 rfl) ?_
      refine lv_ldc2 (v := 100) hx hb hown (jw hts gw1198) (dd_of dX5_highSea_0 14 rfl) ?_
      have h4 := o11
      refine jc_sl (As := [.long x2, .long 100]) (rest := []) ⟨hx, hb, hml, hown, hts⟩ (qJ9_floorDiv_f86c9 l x2 100 h4) (va_cwS 2 hts (jgSo gw1207 gw1156 gw1157 gw1158) rfl rfl rfl (by decide +kernel) ⟨Nat.le_of_ble_eq_true rfl, Nat.le_of_ble_eq_true rfl⟩) rfl hl.1 rfl (Nat.le_of_ble_eq_true rfl) (dd_of dX5_highSea_0 15 rfl) ⟨Nat.zero_le _, Nat.zero_le _⟩ (fun x5 ex5 => ?_)
      replace q8 := bvE ex5 q8
      exact K10 _ q8
    · replace q8 := ifE c3 q8
      refine lv_aload_n hx hb (dd_of dX5_highSea_0 8 rfl) rfl (lv_at hl 1 rfl) ?_
      refine va_get (D := D) (cl := vwCl) (tys := jT yy) (ci := 5) (v := .ref (B 1)) (C := RX5) (T := TX5) (N := 10) hx hb hts (fun w h => List.mem_cons_of_mem _ (inlX5 w h)) hown hK hP 0 rfl rfl 0 (by decide) (jw hts gw27) (fun _ h9 => h9) rfl (dd_of dX5_highSea_0 9 rfl) ?_
      refine va_get (D := D) (cl := vwCl) (tys := jT yy) (ci := 10) (v := .ref (B 9)) (C := RX10) (T := TX10) (N := 8) hx hb hts (fun w h => List.mem_cons_of_mem _ (inlX10 w h)) hown hK hP 1 rfl rfl 2 (by decide) (jw hts gw208) (fun _ h9 => h9) rfl (dd_of dX5_highSea_0 10 rfl) ?_
      refine jc_l (As := []) (rest := []) (w := (lW yy B F G)) (D := D) (yy := yy) ⟨hx, hb, hml, hown, hts⟩ (qX6_highTide l D yy B F G   ) (cwV 0 hts (jgV gw1203 gw1204 gw1205 gw53 gw1206) rfl rfl rfl (by decide +kernel) ⟨Nat.le_of_ble_eq_true rfl, Nat.le_of_ble_eq_true rfl⟩) hP hK (va_recv hK hP (ci := 6) (q0 := 4) rfl rfl) rfl hl.1 rfl (Nat.le_of_ble_eq_true rfl) (dd_of dX5_highSea_0 11 rfl) ⟨Nat.zero_le _, Nat.zero_le _⟩ (fun x6 ex6 => ?_)
      replace q8 := bvE ex6 q8
      refine lv_goto (tgt := 36) hx hb (dd_of dX5_highSea_0 12 rfl) (by decide) ?_
      exact K10 _ q8
set_option maxHeartbeats 4000000 in
set_option maxRecDepth 100000 in
theorem qX5_keptDry (l : Launch) (D : va_G) (yy : Nat → ClassId) (B : Nat → Nat) (F : jF) (G : jG) (p1 : Int32) (hok : okX5_keptDry F G p1) : Met l yX5_keptDry (Cond.code yX5_keptDry cX5_keptDry 5 (some .long) :: wsL_law) rmX5_keptDry (va_Pc [.ref (B 0), .int p1] (jR D yy (lW yy B F G))) (vp_Sl (fun r => r = gX5_keptDry F G p1)) 0 0 (fun _ => False) := by
  generalize hres : gX5_keptDry F G p1 = RES
  refine jM (vs := [.ref (B 0), .int p1]) (own := RX5) (by decide +kernel) rfl (Nat.le_of_ble_eq_true rfl) ?_
  intro p e s m args below meth c ls Q hQ hargs S hr hlk hinit hB hl
  obtain ⟨hx, hb, hml, hown, hts⟩ := S
  have hl : lv_has ls 5 [(0, .ref (B 0)), (1, .int p1)] := hl
  obtain ⟨hP, hK⟩ := hB
  unfold gX5_keptDry at hres
  unfold okX5_keptDry at hok
  refine lv_aload_n hx hb (dd_of dX5_keptDry_0 0 rfl) rfl (lv_at hl 0 rfl) ?_
  refine va_get (D := D) (cl := vwCl) (tys := jT yy) (ci := 5) (v := .ref (B 1)) (C := RX5) (T := TX5) (N := 10) hx hb hts (fun w h => List.mem_cons_of_mem _ (inlX5 w h)) hown hK hP 0 rfl rfl 0 (by decide) (jw hts gw27) (fun _ h9 => h9) rfl (dd_of dX5_keptDry_0 1 rfl) ?_
  refine lv_iload_n hx hb (dd_of dX5_keptDry_0 2 rfl) rfl (lv_at hl 1 rfl) ?_
  have h1 := hok.1
  replace hok := hok.2
  refine jc_q (As := [.int p1]) (rest := []) (w := (lW yy B F G)) (D := D) (yy := yy) (B := B) (off := 100) ⟨hx, hb, hml, hown, hts⟩ (qX10_basinAt l D yy B F G  p1 h1) (cwV 1 hts (jgV gw1184 gw231 gw232 gw26 gw233) rfl rfl rfl (by decide +kernel) ⟨Nat.le_of_ble_eq_true rfl, Nat.le_of_ble_eq_true rfl⟩) hP hK (va_recv hK hP (ci := 10) (q0 := 1) rfl rfl) rfl hl.1 rfl (Nat.le_of_ble_eq_true rfl) (dd_of dX5_keptDry_0 3 rfl) ⟨Nat.zero_le _, Nat.zero_le _⟩ (fun o2 eo2 => ?_)
  replace hres := bvE eo2 hres
  replace hok := bvO eo2 hok
  rcases o2 with _ | k3
  · replace hres := omN hres
    replace hok := opN hok
    refine lv_astore_nN (lv' := [(2, .null), (0, .ref (B 0)), (1, .int p1)]) hx hb (dd_of dX5_keptDry_0 4 rfl) rfl hl (by decide) rfl (fun ls hl => ?_)
    refine lv_aload_nN hx hb (dd_of dX5_keptDry_0 5 rfl) rfl (lv_at hl 0 rfl) ?_
    refine lv_ifnullN (tgt := 21) hx hb (dd_of dX5_keptDry_0 6 rfl) (by decide) ?_
    refine lv_lconst (v := 0) hx hb (dd_of dX5_keptDry_0 11 rfl) (by decide) ?_
    subst hQ
    exact W.lret (v := 0) hx hb hr (fun t ht _ => ⟨_, rfl, hres, ht⟩) (fun _ h => absurd h List.not_mem_nil) (dd_of dX5_keptDry_0 12 rfl) hlk
  · replace hres := omS hres
    replace hok := opS hok
    refine lv_astore_n (lv' := [(2, .ref (B (100 + k3))), (0, .ref (B 0)), (1, .int p1)]) hx hb (dd_of dX5_keptDry_0 4 rfl) rfl hl (by decide) rfl (fun ls hl => ?_)
    refine lv_aload_n hx hb (dd_of dX5_keptDry_0 5 rfl) rfl (lv_at hl 0 rfl) ?_
    refine lv_ifnull hx hb (dd_of dX5_keptDry_0 6 rfl) ?_
    refine lv_aload_n hx hb (dd_of dX5_keptDry_0 7 rfl) rfl (lv_at hl 1 rfl) ?_
    refine lv_iload_n hx hb (dd_of dX5_keptDry_0 8 rfl) rfl (lv_at hl 2 rfl) ?_
    have h4 := hok.1
    replace hok := hok.2
    refine jc_i (As := [.int p1]) (rest := []) (w := (lW yy B F G)) (D := D) (yy := yy) ⟨hx, hb, hml, hown, hts⟩ (qX5_hasSeaDyke l D yy B F G  p1 h4) (cwV 1 hts (jgV gw1185 gw1186 gw1187 gw15 gw1188) rfl rfl rfl (by decide +kernel) ⟨Nat.le_of_ble_eq_true rfl, Nat.le_of_ble_eq_true rfl⟩) hP hK (va_recv hK hP (ci := 5) (q0 := 0) rfl rfl) rfl hl.1 rfl (Nat.le_of_ble_eq_true rfl) (dd_of dX5_keptDry_0 9 rfl) ⟨Nat.zero_le _, Nat.zero_le _⟩ (fun x5 ex5 => ?_)
    replace hres := bvE ex5 hres
    replace hok := bvO ex5 hok
    refine lv_if_ne (tgt := 23) hx hb (dd_of dX5_keptDry_0 10 rfl) (by decide) (fun c6 => ?_) (fun c6 => ?_)
    · replace hres := ifN c6 hres
      replace hok := hok.2 c6
      refine lv_aload_n hx hb (dd_of dX5_keptDry_0 13 rfl) rfl (lv_at hl 1 rfl) ?_
      have h7 := hok.1
      replace hok := hok.2
      refine jc_l (As := []) (rest := []) (w := (lW yy B F G)) (D := D) (yy := yy) ⟨hx, hb, hml, hown, hts⟩ (qX5_highSea l D yy B F G   h7) (cwV 0 hts (jgV gw1193 gw1194 gw1195 gw15 gw1196) rfl rfl rfl (by decide +kernel) ⟨Nat.le_of_ble_eq_true rfl, Nat.le_of_ble_eq_true rfl⟩) hP hK (va_recv hK hP (ci := 5) (q0 := 0) rfl rfl) rfl hl.1 rfl (Nat.le_of_ble_eq_true rfl) (dd_of dX5_keptDry_0 14 rfl) ⟨Nat.zero_le _, Nat.zero_le _⟩ (fun x8 ex8 => ?_)
      replace hres := bvE ex8 hres
      replace hok := bvO ex8 hok
      refine lv_aload_n hx hb (dd_of dX5_keptDry_0 15 rfl) rfl (lv_at hl 0 rfl) ?_
      have h9 := hok.1
      replace hok := hok.2
      obtain ⟨q9, hq9⟩ := lWg_basin (yy := yy) (B := B) (F := F) (G := G) h9
      refine va_get (D := D) (cl := vwCl) (tys := jT yy) (ci := 0) (v := .int (F 10 k3)) (C := RX0) (T := TX0) (N := 7) hx hb hts (fun w h => List.mem_cons_of_mem _ (inlX0 w h)) hown hK hP q9 hq9 rfl 1 (by decide) (jw hts gw1182) (fun _ h9 => h9) rfl (dd_of dX5_keptDry_0 16 rfl) ?_
      refine lv_i2l (v := (Int32.toInt64 (F 10 k3))) hx hb (dd_of dX5_keptDry_0 17 rfl) rfl ?_
      refine lv_lsub hx hb (dd_of dX5_keptDry_0 18 rfl) ?_
      refine lv_topl (fun x10 ex10 => ?_)
      replace hres := bvE ex10 hres
      replace hok := bvO ex10 hok
      refine lv_lstore_n (lv' := [(3, .long x10), (2, .ref (B (100 + k3))), (0, .ref (B 0)), (1, .int p1)]) hx hb (dd_of dX5_keptDry_0 19 rfl) rfl hl (by decide) rfl (fun ls hl => ?_)
      refine lv_lload_n hx hb (dd_of dX5_keptDry_0 20 rfl) rfl (lv_at hl 0 rfl) ?_
      refine lv_lconst (v := 0) hx hb (dd_of dX5_keptDry_0 21 rfl) (by decide) ?_
      obtain ⟨z15, q14⟩ : ∃ z : Int64, (if 0 < x10 then (x10 * (Int32.toInt64 (F 9 k3))) else 0) = z := ⟨_, rfl⟩
      have o17 := hok
      refine jn_l (ls := ls) (v := z15) 51 [] (fun v13 ev13 => ?_) (fun K16 => ?_)
      · replace hres := bvE (ev13.trans q14.symm) hres
        subst hQ
        exact W.lret (v := v13) hx hb hr (fun t ht _ => ⟨_, rfl, hres, ht⟩) (fun _ h => absurd h List.not_mem_nil) (dd_of dX5_keptDry_0 31 rfl) hlk
      · skip
        refine jl_gt (tgt := 44) hx hb (dd_of dX5_keptDry_0 22 rfl) (dd_of dX5_keptDry_0 23 rfl) (by decide) (fun c11 => ?_) (fun c11 => ?_)
        · replace q14 := ifE c11 q14
          replace o17 := o17.1 c11
          refine lv_lload_n hx hb (dd_of dX5_keptDry_0 26 rfl) rfl (lv_at hl 0 rfl) ?_
          refine lv_aload_n hx hb (dd_of dX5_keptDry_0 27 rfl) rfl (lv_at hl 1 rfl) ?_
          have h12 := o17
          obtain ⟨q9, hq9⟩ := lWg_basin (yy := yy) (B := B) (F := F) (G := G) h12
          refine va_get (D := D) (cl := vwCl) (tys := jT yy) (ci := 0) (v := .int (F 9 k3)) (C := RX0) (T := TX0) (N := 7) hx hb hts (fun w h => List.mem_cons_of_mem _ (inlX0 w h)) hown hK hP q9 hq9 rfl 0 (by decide) (jw hts gw1183) (fun _ h9 => h9) rfl (dd_of dX5_keptDry_0 28 rfl) ?_
          refine lv_i2l (v := (Int32.toInt64 (F 9 k3))) hx hb (dd_of dX5_keptDry_0 29 rfl) rfl ?_
          refine lv_lmul hx hb (dd_of dX5_keptDry_0 30 rfl) ?_
          exact K16 _ q14
        · replace q14 := ifN c11 q14
          refine lv_lconst (v := 0) hx hb (dd_of dX5_keptDry_0 24 rfl) (by decide) ?_
          refine lv_goto (tgt := 51) hx hb (dd_of dX5_keptDry_0 25 rfl) (by decide) ?_
          exact K16 _ q14
    · replace hres := ifE c6 hres
      refine lv_lconst (v := 0) hx hb (dd_of dX5_keptDry_0 11 rfl) (by decide) ?_
      subst hQ
      exact W.lret (v := 0) hx hb hr (fun t ht _ => ⟨_, rfl, hres, ht⟩) (fun _ h => absurd h List.not_mem_nil) (dd_of dX5_keptDry_0 12 rfl) hlk
set_option maxHeartbeats 4000000 in
set_option maxRecDepth 100000 in
theorem qX5_partOf (l : Launch) (D : va_G) (yy : Nat → ClassId) (B : Nat → Nat) (F : jF) (G : jG) (p1 : Int64) (p2 : Int32) (hok : okX5_partOf F G p1 p2) : Met l yX5_partOf (Cond.code yX5_partOf cX5_partOf 15 (some .long) :: wsL_law) rmX5_partOf (va_Pc [.ref (B 0), .long p1, .int p2] (jR D yy (lW yy B F G))) (vp_Sl (fun r => r = gX5_partOf F G p1 p2)) 0 0 (fun _ => False) := by
  generalize hres : gX5_partOf F G p1 p2 = RES
  refine jM (vs := [.ref (B 0), .long p1, .int p2]) (own := RX5) (by decide +kernel) rfl (Nat.le_of_ble_eq_true rfl) ?_
  intro p e s m args below meth c ls Q hQ hargs S hr hlk hinit hB hl
  obtain ⟨hx, hb, hml, hown, hts⟩ := S
  have hl : lv_has ls 15 [(0, .ref (B 0)), (1, .long p1), (3, .int p2)] := hl
  obtain ⟨hP, hK⟩ := hB
  unfold gX5_partOf at hres
  unfold okX5_partOf at hok
  refine lv_lconst (v := 0) hx hb (dd_of dX5_partOf_0 0 rfl) (by decide) ?_
  refine lv_lstore (lv' := [(4, .long 0), (0, .ref (B 0)), (1, .long p1), (3, .int p2)]) hx hb (dd_of dX5_partOf_0 1 rfl) hl (by decide) rfl (fun ls hl => ?_)
  refine lv_iconst (v := 0) hx hb (dd_of dX5_partOf_0 2 rfl) (by decide) ?_
  refine lv_istore (lv' := [(6, .int 0), (4, .long 0), (0, .ref (B 0)), (1, .long p1), (3, .int p2)]) hx hb (dd_of dX5_partOf_0 3 rfl) hl (by decide) rfl (fun ls hl => ?_)
  have LP6 : ∀ (f1 : Int64) (f3 : Int32), ∀ (K : Int32 → Int64 → Int64) (okK : Int32 → Int64 → Prop) (n : Nat), ∀ (v6 : Int32) (v4 : Int64), ∀ (ls : Array Slot), lv_has ls 15 [(6, .int v6), (4, .long v4), (0, .ref (B 0)), (1, .long f1), (3, .int f3)] → okX5_partOf_L6 F G f1 f3 okK n v6 v4 → gX5_partOf_L6 F G f1 f3 K n v6 v4 = RES → (∀ (v6 : Int32) (v4 : Int64), ∀ (ls : Array Slot), lv_has ls 15 [(6, .int v6), (4, .long v4), (0, .ref (B 0)), (1, .long f1), (3, .int f3)] → okK v6 v4 → K v6 v4 = RES → W p l e rmX5_partOf s m args below meth c s.heap [] 0 0 Q (F0 m 30 ls [])) → W p l e rmX5_partOf s m args below meth c s.heap [] 0 0 Q (F0 m 6 ls []) := by
    intro f1 f3 K okK n
    induction n with
    | zero =>
      intro v6 v4 ls hl hok _ _
      exact absurd hok (by unfold okX5_partOf_L6; exact id)
    | succ n9 ih =>
      intro v6 v4 ls hl hok hres hexit
      unfold gX5_partOf_L6 at hres
      unfold okX5_partOf_L6 at hok
      refine lv_iload hx hb (dd_of dX5_partOf_0 4 rfl) (lv_at hl 0 rfl) ?_
      refine lv_bipush (v := 8) hx hb (dd_of dX5_partOf_0 5 rfl) (by decide) ?_
      refine lv_icmp_ge (tgt := 30) hx hb (dd_of dX5_partOf_0 6 rfl) (by decide) (fun c1 => ?_) (fun c1 => ?_)
      · replace hres := ifE c1 hres
        replace hok := hok.1 c1
        exact hexit v6 v4 ls (lv_sub hl [0, 1, 2, 3, 4] rfl) hok hres
      · replace hres := ifN c1 hres
        replace hok := hok.2 c1
        refine lv_lload hx hb (dd_of dX5_partOf_0 7 rfl) (lv_at hl 1 rfl) ?_
        refine lv_aload_n hx hb (dd_of dX5_partOf_0 8 rfl) rfl (lv_at hl 2 rfl) ?_
        refine lv_iload hx hb (dd_of dX5_partOf_0 9 rfl) (lv_at hl 0 rfl) ?_
        have h2 := hok.1
        replace hok := hok.2
        refine jc_l (As := [.int v6]) (rest := [.long v4]) (w := (lW yy B F G)) (D := D) (yy := yy) ⟨hx, hb, hml, hown, hts⟩ (qX5_keptDry l D yy B F G  v6 h2) (cwV 1 hts (jgV gw1178 gw1179 gw1180 gw15 gw1181) rfl rfl rfl (by decide +kernel) ⟨Nat.le_of_ble_eq_true rfl, Nat.le_of_ble_eq_true rfl⟩) hP hK (va_recv hK hP (ci := 5) (q0 := 0) rfl rfl) rfl hl.1 rfl (Nat.le_of_ble_eq_true rfl) (dd_of dX5_partOf_0 10 rfl) ⟨Nat.zero_le _, Nat.zero_le _⟩ (fun x3 ex3 => ?_)
        replace hres := bvE ex3 hres
        replace hok := bvO ex3 hok
        refine lv_ladd hx hb (dd_of dX5_partOf_0 11 rfl) ?_
        refine lv_topl (fun x4 ex4 => ?_)
        replace hres := bvE ex4 hres
        replace hok := bvO ex4 hok
        refine lv_lstore (lv' := [(4, .long x4), (6, .int v6), (0, .ref (B 0)), (1, .long f1), (3, .int f3)]) hx hb (dd_of dX5_partOf_0 12 rfl) hl (by decide) rfl (fun ls hl => ?_)
        refine lv_iinc (v := (v6 + 1)) (lv' := [(6, .int (v6 + 1)), (4, .long x4), (0, .ref (B 0)), (1, .long f1), (3, .int f3)]) hx hb (dd_of dX5_partOf_0 13 rfl) hl (k := 1) rfl rfl (by decide) rfl (fun ls hl => ?_)
        refine lv_goto (tgt := 6) hx hb (dd_of dX5_partOf_0 14 rfl) (by decide) ?_
        exact ih (v6 + 1) x4 ls (lv_sub hl [0, 1, 2, 3, 4] rfl) hok hres hexit
  refine LP6 p1 p2 _ _ 80 0 0 ls (lv_sub hl [0, 1, 2, 3, 4] rfl) hok hres (fun y5 y6 ls hl hok hres => ?_)
  refine lv_lload hx hb (dd_of dX5_partOf_0 15 rfl) (lv_at hl 1 rfl) ?_
  refine lv_lconst (v := 0) hx hb (dd_of dX5_partOf_0 16 rfl) (by decide) ?_
  refine jl_gt (tgt := 39) hx hb (dd_of dX5_partOf_0 17 rfl) (dd_of dX5_partOf_0 18 rfl) (by decide) (fun c7 => ?_) (fun c7 => ?_)
  · replace hres := ifE c7 hres
    replace hok := hok.1 c7
    refine lv_lload_n hx hb (dd_of dX5_partOf_0 21 rfl) rfl (lv_at hl 3 rfl) ?_
    refine lv_lstore (lv' := [(6, .long p1), (4, .long y6), (0, .ref (B 0)), (1, .long p1), (3, .int p2)]) hx hb (dd_of dX5_partOf_0 22 rfl) hl (by decide) rfl (fun ls hl => ?_)
    refine lv_iconst (v := 0) hx hb (dd_of dX5_partOf_0 23 rfl) (by decide) ?_
    refine lv_istore (lv' := [(8, .int 0), (6, .long p1), (4, .long y6), (0, .ref (B 0)), (1, .long p1), (3, .int p2)]) hx hb (dd_of dX5_partOf_0 24 rfl) hl (by decide) rfl (fun ls hl => ?_)
    have LP45 : ∀ (f4 : Int64) (f1 : Int64) (f3 : Int32), ∀ (K : Int32 → Int64 → Int64) (okK : Int32 → Int64 → Prop) (n : Nat), ∀ (v8 : Int32) (v6 : Int64), ∀ (ls : Array Slot), lv_has ls 15 [(8, .int v8), (6, .long v6), (4, .long f4), (0, .ref (B 0)), (1, .long f1), (3, .int f3)] → okX5_partOf_L45 F G f4 f1 f3 okK n v8 v6 → gX5_partOf_L45 F G f4 f1 f3 K n v8 v6 = RES → (∀ (v8 : Int32) (v6 : Int64), ∀ (ls : Array Slot), lv_has ls 15 [(8, .int v8), (6, .long v6), (4, .long f4), (0, .ref (B 0)), (1, .long f1), (3, .int f3)] → okK v8 v6 → K v8 v6 = RES → W p l e rmX5_partOf s m args below meth c s.heap [] 0 0 Q (F0 m 74 ls [])) → W p l e rmX5_partOf s m args below meth c s.heap [] 0 0 Q (F0 m 45 ls []) := by
      intro f4 f1 f3 K okK n
      induction n with
      | zero =>
        intro v8 v6 ls hl hok _ _
        exact absurd hok (by unfold okX5_partOf_L45; exact id)
      | succ n9 ih =>
        intro v8 v6 ls hl hok hres hexit
        unfold gX5_partOf_L45 at hres
        unfold okX5_partOf_L45 at hok
        refine lv_iload hx hb (dd_of dX5_partOf_0 25 rfl) (lv_at hl 0 rfl) ?_
        refine lv_bipush (v := 8) hx hb (dd_of dX5_partOf_0 26 rfl) (by decide) ?_
        refine lv_icmp_ge (tgt := 74) hx hb (dd_of dX5_partOf_0 27 rfl) (by decide) (fun c8 => ?_) (fun c8 => ?_)
        · replace hres := ifE c8 hres
          replace hok := hok.1 c8
          exact hexit v8 v6 ls (lv_sub hl [0, 1, 2, 3, 4, 5] rfl) hok hres
        · replace hres := ifN c8 hres
          replace hok := hok.2 c8
          refine lv_lload hx hb (dd_of dX5_partOf_0 28 rfl) (lv_at hl 1 rfl) ?_
          refine lv_lload_n hx hb (dd_of dX5_partOf_0 29 rfl) rfl (lv_at hl 4 rfl) ?_
          refine lv_aload_n hx hb (dd_of dX5_partOf_0 30 rfl) rfl (lv_at hl 3 rfl) ?_
          refine lv_iload hx hb (dd_of dX5_partOf_0 31 rfl) (lv_at hl 0 rfl) ?_
          have h9 := hok.1
          replace hok := hok.2
          refine jc_l (As := [.int v8]) (rest := [.long f1, .long v6]) (w := (lW yy B F G)) (D := D) (yy := yy) ⟨hx, hb, hml, hown, hts⟩ (qX5_keptDry l D yy B F G  v8 h9) (cwV 1 hts (jgV gw1178 gw1179 gw1180 gw15 gw1181) rfl rfl rfl (by decide +kernel) ⟨Nat.le_of_ble_eq_true rfl, Nat.le_of_ble_eq_true rfl⟩) hP hK (va_recv hK hP (ci := 5) (q0 := 0) rfl rfl) rfl hl.1 rfl (Nat.le_of_ble_eq_true rfl) (dd_of dX5_partOf_0 32 rfl) ⟨Nat.zero_le _, Nat.zero_le _⟩ (fun x10 ex10 => ?_)
          replace hres := bvE ex10 hres
          replace hok := bvO ex10 hok
          refine lv_lmul hx hb (dd_of dX5_partOf_0 33 rfl) ?_
          refine lv_lload hx hb (dd_of dX5_partOf_0 34 rfl) (lv_at hl 2 rfl) ?_
          have h11 := hok.1
          replace hok := hok.2
          refine lv_ldiv hx hb (dd_of dX5_partOf_0 35 rfl) h11 ?_
          refine lv_lsub hx hb (dd_of dX5_partOf_0 36 rfl) ?_
          refine lv_topl (fun x12 ex12 => ?_)
          replace hres := bvE ex12 hres
          replace hok := bvO ex12 hok
          refine lv_lstore (lv' := [(6, .long x12), (8, .int v8), (4, .long f4), (0, .ref (B 0)), (1, .long f1), (3, .int f3)]) hx hb (dd_of dX5_partOf_0 37 rfl) hl (by decide) rfl (fun ls hl => ?_)
          refine lv_iinc (v := (v8 + 1)) (lv' := [(8, .int (v8 + 1)), (6, .long x12), (4, .long f4), (0, .ref (B 0)), (1, .long f1), (3, .int f3)]) hx hb (dd_of dX5_partOf_0 38 rfl) hl (k := 1) rfl rfl (by decide) rfl (fun ls hl => ?_)
          refine lv_goto (tgt := 45) hx hb (dd_of dX5_partOf_0 39 rfl) (by decide) ?_
          exact ih (v8 + 1) x12 ls (lv_sub hl [0, 1, 2, 3, 4, 5] rfl) hok hres hexit
    refine LP45 y6 p1 p2 _ _ 80 0 p1 ls (lv_sub hl [0, 1, 2, 3, 4, 5] rfl) hok hres (fun y13 y14 ls hl hok hres => ?_)
    refine lv_lload_n hx hb (dd_of dX5_partOf_1 0 rfl) rfl (lv_at hl 4 rfl) ?_
    refine lv_aload_n hx hb (dd_of dX5_partOf_1 1 rfl) rfl (lv_at hl 3 rfl) ?_
    refine lv_iload_n hx hb (dd_of dX5_partOf_1 2 rfl) rfl (lv_at hl 5 rfl) ?_
    have h15 := hok.1
    replace hok := hok.2
    refine jc_l (As := [.int p2]) (rest := [.long p1]) (w := (lW yy B F G)) (D := D) (yy := yy) ⟨hx, hb, hml, hown, hts⟩ (qX5_keptDry l D yy B F G  p2 h15) (cwV 1 hts (jgV gw1178 gw1179 gw1180 gw15 gw1181) rfl rfl rfl (by decide +kernel) ⟨Nat.le_of_ble_eq_true rfl, Nat.le_of_ble_eq_true rfl⟩) hP hK (va_recv hK hP (ci := 5) (q0 := 0) rfl rfl) rfl hl.1 rfl (Nat.le_of_ble_eq_true rfl) (dd_of dX5_partOf_1 3 rfl) ⟨Nat.zero_le _, Nat.zero_le _⟩ (fun x16 ex16 => ?_)
    replace hres := bvE ex16 hres
    replace hok := bvO ex16 hok
    refine lv_lmul hx hb (dd_of dX5_partOf_1 4 rfl) ?_
    refine lv_topl (fun x17 ex17 => ?_)
    replace hres := bvE ex17 hres
    replace hok := bvO ex17 hok
    refine lv_lstore (lv' := [(8, .long x17), (6, .long y14), (4, .long y6), (0, .ref (B 0)), (1, .long p1), (3, .int p2)]) hx hb (dd_of dX5_partOf_1 5 rfl) hl (by decide) rfl (fun ls hl => ?_)
    refine lv_lconst (v := 0) hx hb (dd_of dX5_partOf_1 6 rfl) (by decide) ?_
    refine lv_lstore (lv' := [(10, .long 0), (8, .long x17), (6, .long y14), (4, .long y6), (0, .ref (B 0)), (1, .long p1), (3, .int p2)]) hx hb (dd_of dX5_partOf_1 7 rfl) hl (by decide) rfl (fun ls hl => ?_)
    refine lv_iconst (v := 0) hx hb (dd_of dX5_partOf_1 8 rfl) (by decide) ?_
    refine lv_istore (lv' := [(12, .int 0), (10, .long 0), (8, .long x17), (6, .long y14), (4, .long y6), (0, .ref (B 0)), (1, .long p1), (3, .int p2)]) hx hb (dd_of dX5_partOf_1 9 rfl) hl (by decide) rfl (fun ls hl => ?_)
    have LP89 : ∀ (f8 : Int64) (f6 : Int64) (f4 : Int64) (f1 : Int64) (f3 : Int32), ∀ (K : Int32 → Int64 → Int64) (okK : Int32 → Int64 → Prop) (n : Nat), ∀ (v12 : Int32) (v10 : Int64), ∀ (ls : Array Slot), lv_has ls 15 [(12, .int v12), (10, .long v10), (8, .long f8), (6, .long f6), (4, .long f4), (0, .ref (B 0)), (1, .long f1), (3, .int f3)] → okX5_partOf_L89 F G f8 f6 f4 f1 f3 okK n v12 v10 → gX5_partOf_L89 F G f8 f6 f4 f1 f3 K n v12 v10 = RES → (∀ (v12 : Int32) (v10 : Int64), ∀ (ls : Array Slot), lv_has ls 15 [(12, .int v12), (10, .long v10), (8, .long f8), (6, .long f6), (4, .long f4), (0, .ref (B 0)), (1, .long f1), (3, .int f3)] → okK v12 v10 → K v12 v10 = RES → W p l e rmX5_partOf s m args below meth c s.heap [] 0 0 Q (F0 m 149 ls [])) → W p l e rmX5_partOf s m args below meth c s.heap [] 0 0 Q (F0 m 89 ls []) := by
      intro f8 f6 f4 f1 f3 K okK n
      induction n with
      | zero =>
        intro v12 v10 ls hl hok _ _
        exact absurd hok (by unfold okX5_partOf_L89; exact id)
      | succ n9 ih =>
        intro v12 v10 ls hl hok hres hexit
        unfold gX5_partOf_L89 at hres
        unfold okX5_partOf_L89 at hok
        refine lv_iload hx hb (dd_of dX5_partOf_1 10 rfl) (lv_at hl 0 rfl) ?_
        refine lv_bipush (v := 8) hx hb (dd_of dX5_partOf_1 11 rfl) (by decide) ?_
        refine lv_icmp_ge (tgt := 149) hx hb (dd_of dX5_partOf_1 12 rfl) (by decide) (fun c18 => ?_) (fun c18 => ?_)
        · replace hres := ifE c18 hres
          replace hok := hok.1 c18
          exact hexit v12 v10 ls (lv_sub hl [0, 1, 2, 3, 4, 5, 6, 7] rfl) hok hres
        · replace hres := ifN c18 hres
          replace hok := hok.2 c18
          refine lv_lload_n hx hb (dd_of dX5_partOf_1 13 rfl) rfl (lv_at hl 6 rfl) ?_
          refine lv_aload_n hx hb (dd_of dX5_partOf_1 14 rfl) rfl (lv_at hl 5 rfl) ?_
          refine lv_iload hx hb (dd_of dX5_partOf_1 15 rfl) (lv_at hl 0 rfl) ?_
          have h19 := hok.1
          replace hok := hok.2
          refine jc_l (As := [.int v12]) (rest := [.long f1]) (w := (lW yy B F G)) (D := D) (yy := yy) ⟨hx, hb, hml, hown, hts⟩ (qX5_keptDry l D yy B F G  v12 h19) (cwV 1 hts (jgV gw1178 gw1179 gw1180 gw15 gw1181) rfl rfl rfl (by decide +kernel) ⟨Nat.le_of_ble_eq_true rfl, Nat.le_of_ble_eq_true rfl⟩) hP hK (va_recv hK hP (ci := 5) (q0 := 0) rfl rfl) rfl hl.1 rfl (Nat.le_of_ble_eq_true rfl) (dd_of dX5_partOf_1 16 rfl) ⟨Nat.zero_le _, Nat.zero_le _⟩ (fun x20 ex20 => ?_)
          replace hres := bvE ex20 hres
          replace hok := bvO ex20 hok
          refine lv_lmul hx hb (dd_of dX5_partOf_1 17 rfl) ?_
          refine lv_lload hx hb (dd_of dX5_partOf_1 18 rfl) (lv_at hl 4 rfl) ?_
          have h21 := hok.1
          replace hok := hok.2
          refine lv_lrem hx hb (dd_of dX5_partOf_1 19 rfl) h21 ?_
          refine lv_topl (fun x22 ex22 => ?_)
          replace hres := bvE ex22 hres
          replace hok := bvO ex22 hok
          refine lv_lstore (lv' := [(13, .long x22), (12, .int v12), (10, .long v10), (8, .long f8), (6, .long f6), (4, .long f4), (0, .ref (B 0)), (1, .long f1), (3, .int f3)]) hx hb (dd_of dX5_partOf_1 20 rfl) hl (by decide) rfl (fun ls hl => ?_)
          refine lv_lload hx hb (dd_of dX5_partOf_1 21 rfl) (lv_at hl 0 rfl) ?_
          refine lv_lload hx hb (dd_of dX5_partOf_1 22 rfl) (lv_at hl 3 rfl) ?_
          refine lv_lload hx hb (dd_of dX5_partOf_1 23 rfl) (lv_at hl 5 rfl) ?_
          have h23 := hok.1
          replace hok := hok.2
          refine lv_lrem hx hb (dd_of dX5_partOf_1 24 rfl) h23 ?_
          refine jl_gt (tgt := 137) hx hb (dd_of dX5_partOf_1 25 rfl) (dd_of dX5_partOf_1 26 rfl) (by decide) (fun c24 => ?_) (fun c24 => ?_)
          · replace hres := ifE c24 hres
            replace hok := hok.1 c24
            refine lv_lload hx hb (dd_of dX5_partOf_1 36 rfl) (lv_at hl 2 rfl) ?_
            refine lv_lconst (v := 1) hx hb (dd_of dX5_partOf_1 37 rfl) (by decide) ?_
            refine lv_ladd hx hb (dd_of dX5_partOf_1 38 rfl) ?_
            refine lv_topl (fun x25 ex25 => ?_)
            replace hres := bvE ex25 hres
            replace hok := bvO ex25 hok
            refine lv_lstore (lv' := [(10, .long x25), (13, .long x22), (12, .int v12), (8, .long f8), (6, .long f6), (4, .long f4), (0, .ref (B 0)), (1, .long f1), (3, .int f3)]) hx hb (dd_of dX5_partOf_1 39 rfl) hl (by decide) rfl (fun ls hl => ?_)
            refine lv_iinc (v := (v12 + 1)) (lv' := [(12, .int (v12 + 1)), (10, .long x25), (13, .long x22), (8, .long f8), (6, .long f6), (4, .long f4), (0, .ref (B 0)), (1, .long f1), (3, .int f3)]) hx hb (dd_of dX5_partOf_2 0 rfl) hl (k := 2) rfl rfl (by decide) rfl (fun ls hl => ?_)
            refine lv_goto (tgt := 89) hx hb (dd_of dX5_partOf_2 1 rfl) (by decide) ?_
            exact ih (v12 + 1) x25 ls (lv_sub hl [0, 1, 3, 4, 5, 6, 7, 8] rfl) hok hres hexit
          · replace hres := ifN c24 hres
            replace hok := hok.2 c24
            refine lv_lload hx hb (dd_of dX5_partOf_1 27 rfl) (lv_at hl 0 rfl) ?_
            refine lv_lload hx hb (dd_of dX5_partOf_1 28 rfl) (lv_at hl 3 rfl) ?_
            refine lv_lload hx hb (dd_of dX5_partOf_1 29 rfl) (lv_at hl 5 rfl) ?_
            have h26 := hok.1
            replace hok := hok.2
            refine lv_lrem hx hb (dd_of dX5_partOf_1 30 rfl) h26 ?_
            refine jl_ne (tgt := 143) hx hb (dd_of dX5_partOf_1 31 rfl) (dd_of dX5_partOf_1 32 rfl) (by decide) (fun c27 => ?_) (fun c27 => ?_)
            · replace hres := ifN c27 hres
              replace hok := hok.2 c27
              refine lv_iinc (v := (v12 + 1)) (lv' := [(12, .int (v12 + 1)), (13, .long x22), (10, .long v10), (8, .long f8), (6, .long f6), (4, .long f4), (0, .ref (B 0)), (1, .long f1), (3, .int f3)]) hx hb (dd_of dX5_partOf_2 0 rfl) hl (k := 1) rfl rfl (by decide) rfl (fun ls hl => ?_)
              refine lv_goto (tgt := 89) hx hb (dd_of dX5_partOf_2 1 rfl) (by decide) ?_
              exact ih (v12 + 1) v10 ls (lv_sub hl [0, 2, 3, 4, 5, 6, 7, 8] rfl) hok hres hexit
            · replace hres := ifE c27 hres
              replace hok := hok.1 c27
              refine lv_iload hx hb (dd_of dX5_partOf_1 33 rfl) (lv_at hl 1 rfl) ?_
              refine lv_iload_n hx hb (dd_of dX5_partOf_1 34 rfl) rfl (lv_at hl 8 rfl) ?_
              refine lv_icmp_ge (tgt := 143) hx hb (dd_of dX5_partOf_1 35 rfl) (by decide) (fun c28 => ?_) (fun c28 => ?_)
              · replace hres := ifE c28 hres
                replace hok := hok.1 c28
                refine lv_iinc (v := (v12 + 1)) (lv' := [(12, .int (v12 + 1)), (13, .long x22), (10, .long v10), (8, .long f8), (6, .long f6), (4, .long f4), (0, .ref (B 0)), (1, .long f1), (3, .int f3)]) hx hb (dd_of dX5_partOf_2 0 rfl) hl (k := 1) rfl rfl (by decide) rfl (fun ls hl => ?_)
                refine lv_goto (tgt := 89) hx hb (dd_of dX5_partOf_2 1 rfl) (by decide) ?_
                exact ih (v12 + 1) v10 ls (lv_sub hl [0, 2, 3, 4, 5, 6, 7, 8] rfl) hok hres hexit
              · replace hres := ifN c28 hres
                replace hok := hok.2 c28
                refine lv_lload hx hb (dd_of dX5_partOf_1 36 rfl) (lv_at hl 2 rfl) ?_
                refine lv_lconst (v := 1) hx hb (dd_of dX5_partOf_1 37 rfl) (by decide) ?_
                refine lv_ladd hx hb (dd_of dX5_partOf_1 38 rfl) ?_
                refine lv_topl (fun x29 ex29 => ?_)
                replace hres := bvE ex29 hres
                replace hok := bvO ex29 hok
                refine lv_lstore (lv' := [(10, .long x29), (13, .long x22), (12, .int v12), (8, .long f8), (6, .long f6), (4, .long f4), (0, .ref (B 0)), (1, .long f1), (3, .int f3)]) hx hb (dd_of dX5_partOf_1 39 rfl) hl (by decide) rfl (fun ls hl => ?_)
                refine lv_iinc (v := (v12 + 1)) (lv' := [(12, .int (v12 + 1)), (10, .long x29), (13, .long x22), (8, .long f8), (6, .long f6), (4, .long f4), (0, .ref (B 0)), (1, .long f1), (3, .int f3)]) hx hb (dd_of dX5_partOf_2 0 rfl) hl (k := 2) rfl rfl (by decide) rfl (fun ls hl => ?_)
                refine lv_goto (tgt := 89) hx hb (dd_of dX5_partOf_2 1 rfl) (by decide) ?_
                exact ih (v12 + 1) x29 ls (lv_sub hl [0, 1, 3, 4, 5, 6, 7, 8] rfl) hok hres hexit
    refine LP89 x17 y14 y6 p1 p2 _ _ 80 0 0 ls (lv_sub hl [0, 1, 2, 3, 4, 5, 6, 7] rfl) hok hres (fun y30 y31 ls hl hok hres => ?_)
    refine lv_lload hx hb (dd_of dX5_partOf_2 2 rfl) (lv_at hl 2 rfl) ?_
    refine lv_lload hx hb (dd_of dX5_partOf_2 3 rfl) (lv_at hl 4 rfl) ?_
    have h32 := hok
    refine lv_ldiv hx hb (dd_of dX5_partOf_2 4 rfl) h32 ?_
    refine lv_lload hx hb (dd_of dX5_partOf_2 5 rfl) (lv_at hl 1 rfl) ?_
    refine lv_lload hx hb (dd_of dX5_partOf_2 6 rfl) (lv_at hl 3 rfl) ?_
    obtain ⟨z36, q35⟩ : ∃ z : Int32, (if y14 ≤ y31 then 0 else 1) = z := ⟨_, rfl⟩
    refine jn_i (ls := ls) (v := z36) 167 [.long (x17 / y6)] (fun v34 ev34 => ?_) (fun K37 => ?_)
    · replace hres := bvE (ev34.trans q35.symm) hres
      refine lv_i2l (v := (Int32.toInt64 v34)) hx hb (dd_of dX5_partOf_2 12 rfl) rfl ?_
      refine lv_ladd hx hb (dd_of dX5_partOf_2 13 rfl) ?_
      subst hQ
      exact W.lret (v := ((x17 / y6) + (Int32.toInt64 v34))) hx hb hr (fun t ht _ => ⟨_, rfl, hres, ht⟩) (fun _ h => absurd h List.not_mem_nil) (dd_of dX5_partOf_2 14 rfl) hlk
    · skip
      refine jl_ge (tgt := 166) hx hb (dd_of dX5_partOf_2 7 rfl) (dd_of dX5_partOf_2 8 rfl) (by decide) (fun c33 => ?_) (fun c33 => ?_)
      · replace q35 := ifE c33 q35
        refine lv_iconst (v := 0) hx hb (dd_of dX5_partOf_2 11 rfl) (by decide) ?_
        exact K37 _ q35
      · replace q35 := ifN c33 q35
        refine lv_iconst (v := 1) hx hb (dd_of dX5_partOf_2 9 rfl) (by decide) ?_
        refine lv_goto (tgt := 167) hx hb (dd_of dX5_partOf_2 10 rfl) (by decide) ?_
        exact K37 _ q35
  · replace hres := ifN c7 hres
    refine lv_lconst (v := 0) hx hb (dd_of dX5_partOf_0 19 rfl) (by decide) ?_
    subst hQ
    exact W.lret (v := 0) hx hb hr (fun t ht _ => ⟨_, rfl, hres, ht⟩) (fun _ h => absurd h List.not_mem_nil) (dd_of dX5_partOf_0 20 rfl) hlk
set_option maxHeartbeats 4000000 in
set_option maxRecDepth 100000 in
theorem qX5_sumOfAll (l : Launch) (D : va_G) (yy : Nat → ClassId) (B : Nat → Nat) (F : jF) (G : jG)  (hok : okX5_sumOfAll F G ) : Met l yX5_sumOfAll (Cond.code yX5_sumOfAll cX5_sumOfAll 4 (some .long) :: wsL_law) rmX5_sumOfAll (va_Pc [.ref (B 0)] (jR D yy (lW yy B F G))) (vp_Sl (fun r => r = gX5_sumOfAll F G )) 0 0 (fun _ => False) := by
  generalize hres : gX5_sumOfAll F G  = RES
  refine jM (vs := [.ref (B 0)]) (own := RX5) (by decide +kernel) rfl (Nat.le_of_ble_eq_true rfl) ?_
  intro p e s m args below meth c ls Q hQ hargs S hr hlk hinit hB hl
  obtain ⟨hx, hb, hml, hown, hts⟩ := S
  have hl : lv_has ls 4 [(0, .ref (B 0))] := hl
  obtain ⟨hP, hK⟩ := hB
  unfold gX5_sumOfAll at hres
  unfold okX5_sumOfAll at hok
  refine lv_ldc2 (v := 7) hx hb hown (jw hts gw1229) (dd_of dX5_sumOfAll_0 0 rfl) ?_
  refine lv_lstore_n (lv' := [(1, .long 7), (0, .ref (B 0))]) hx hb (dd_of dX5_sumOfAll_0 1 rfl) rfl hl (by decide) rfl (fun ls hl => ?_)
  refine lv_lload_n hx hb (dd_of dX5_sumOfAll_0 2 rfl) rfl (lv_at hl 0 rfl) ?_
  refine lv_ldc2 (v := 31) hx hb hown (jw hts gw1230) (dd_of dX5_sumOfAll_0 3 rfl) ?_
  refine lv_lmul hx hb (dd_of dX5_sumOfAll_0 4 rfl) ?_
  refine lv_aload_n hx hb (dd_of dX5_sumOfAll_0 5 rfl) rfl (lv_at hl 1 rfl) ?_
  refine va_get (D := D) (cl := vwCl) (tys := jT yy) (ci := 5) (v := .ref (B 1)) (C := RX5) (T := TX5) (N := 10) hx hb hts (fun w h => List.mem_cons_of_mem _ (inlX5 w h)) hown hK hP 0 rfl rfl 0 (by decide) (jw hts gw27) (fun _ h9 => h9) rfl (dd_of dX5_sumOfAll_0 6 rfl) ?_
  refine va_get (D := D) (cl := vwCl) (tys := jT yy) (ci := 10) (v := .int (F 0 0)) (C := RX10) (T := TX10) (N := 8) hx hb hts (fun w h => List.mem_cons_of_mem _ (inlX10 w h)) hown hK hP 1 rfl rfl 6 (by decide) (jw hts gw421) (fun _ h9 => h9) rfl (dd_of dX5_sumOfAll_0 7 rfl) ?_
  refine lv_i2l (v := (Int32.toInt64 (F 0 0))) hx hb (dd_of dX5_sumOfAll_0 8 rfl) rfl ?_
  refine lv_ladd hx hb (dd_of dX5_sumOfAll_0 9 rfl) ?_
  refine lv_topl (fun x1 ex1 => ?_)
  replace hres := bvE ex1 hres
  replace hok := bvO ex1 hok
  refine lv_lstore_n (lv' := [(1, .long x1), (0, .ref (B 0))]) hx hb (dd_of dX5_sumOfAll_0 10 rfl) rfl hl (by decide) rfl (fun ls hl => ?_)
  refine lv_lload_n hx hb (dd_of dX5_sumOfAll_0 11 rfl) rfl (lv_at hl 0 rfl) ?_
  refine lv_ldc2 (v := 31) hx hb hown (jw hts gw1230) (dd_of dX5_sumOfAll_0 12 rfl) ?_
  refine lv_lmul hx hb (dd_of dX5_sumOfAll_0 13 rfl) ?_
  refine lv_aload_n hx hb (dd_of dX5_sumOfAll_0 14 rfl) rfl (lv_at hl 1 rfl) ?_
  refine va_get (D := D) (cl := vwCl) (tys := jT yy) (ci := 5) (v := .ref (B 2)) (C := RX5) (T := TX5) (N := 10) hx hb hts (fun w h => List.mem_cons_of_mem _ (inlX5 w h)) hown hK hP 0 rfl rfl 1 (by decide) (jw hts gw31) (fun _ h9 => h9) rfl (dd_of dX5_sumOfAll_0 15 rfl) ?_
  refine va_get (D := D) (cl := vwCl) (tys := jT yy) (ci := 1) (v := .int (F 62 0)) (C := RX1) (T := TX1) (N := 8) hx hb hts (fun w h => List.mem_cons_of_mem _ (inlX1 w h)) hown hK hP 2 rfl rfl 0 (by decide) (jw hts gw384) (fun _ h9 => h9) rfl (dd_of dX5_sumOfAll_0 16 rfl) ?_
  refine lv_i2l (v := (Int32.toInt64 (F 62 0))) hx hb (dd_of dX5_sumOfAll_0 17 rfl) rfl ?_
  refine lv_ladd hx hb (dd_of dX5_sumOfAll_0 18 rfl) ?_
  refine lv_topl (fun x2 ex2 => ?_)
  replace hres := bvE ex2 hres
  replace hok := bvO ex2 hok
  refine lv_lstore_n (lv' := [(1, .long x2), (0, .ref (B 0))]) hx hb (dd_of dX5_sumOfAll_0 19 rfl) rfl hl (by decide) rfl (fun ls hl => ?_)
  refine lv_aload_n hx hb (dd_of dX5_sumOfAll_0 20 rfl) rfl (lv_at hl 1 rfl) ?_
  refine va_get (D := D) (cl := vwCl) (tys := jT yy) (ci := 5) (v := .ref (B 1)) (C := RX5) (T := TX5) (N := 10) hx hb hts (fun w h => List.mem_cons_of_mem _ (inlX5 w h)) hown hK hP 0 rfl rfl 0 (by decide) (jw hts gw27) (fun _ h9 => h9) rfl (dd_of dX5_sumOfAll_0 21 rfl) ?_
  refine lv_lload_n hx hb (dd_of dX5_sumOfAll_0 22 rfl) rfl (lv_at hl 0 rfl) ?_
  have h3 := hok.1
  replace hok := hok.2
  refine jc_l (As := [.long x2]) (rest := []) (w := (lW yy B F G)) (D := D) (yy := yy) ⟨hx, hb, hml, hown, hts⟩ (qX10_sumBasins l D yy B F G  x2 h3) (cwV 1 hts (jgV gw1231 gw1232 gw1233 gw26 gw1234) rfl rfl rfl (by decide +kernel) ⟨Nat.le_of_ble_eq_true rfl, Nat.le_of_ble_eq_true rfl⟩) hP hK (va_recv hK hP (ci := 10) (q0 := 1) rfl rfl) rfl hl.1 rfl (Nat.le_of_ble_eq_true rfl) (dd_of dX5_sumOfAll_0 23 rfl) ⟨Nat.zero_le _, Nat.zero_le _⟩ (fun x4 ex4 => ?_)
  replace hres := bvE ex4 hres
  replace hok := bvO ex4 hok
  refine lv_lstore_n (lv' := [(1, .long x4), (0, .ref (B 0))]) hx hb (dd_of dX5_sumOfAll_0 24 rfl) rfl hl (by decide) rfl (fun ls hl => ?_)
  refine lv_iconst (v := 0) hx hb (dd_of dX5_sumOfAll_0 25 rfl) (by decide) ?_
  refine lv_istore_n (lv' := [(3, .int 0), (1, .long x4), (0, .ref (B 0))]) hx hb (dd_of dX5_sumOfAll_0 26 rfl) rfl hl (by decide) rfl (fun ls hl => ?_)
  have LP45 : ∀ (K : Int32 → Int64 → Int64) (okK : Int32 → Int64 → Prop) (n : Nat), ∀ (v3 : Int32) (v1 : Int64), ∀ (ls : Array Slot), lv_has ls 4 [(3, .int v3), (1, .long v1), (0, .ref (B 0))] → okX5_sumOfAll_L45 F G  okK n v3 v1 → gX5_sumOfAll_L45 F G  K n v3 v1 = RES → (∀ (v3 : Int32) (v1 : Int64), ∀ (ls : Array Slot), lv_has ls 4 [(3, .int v3), (1, .long v1), (0, .ref (B 0))] → okK v3 v1 → K v3 v1 = RES → W p l e rmX5_sumOfAll s m args below meth c s.heap [] 0 0 Q (F0 m 80 ls [])) → W p l e rmX5_sumOfAll s m args below meth c s.heap [] 0 0 Q (F0 m 45 ls []) := by
    intro  K okK n
    induction n with
    | zero =>
      intro v3 v1 ls hl hok _ _
      exact absurd hok (by unfold okX5_sumOfAll_L45; exact id)
    | succ n9 ih =>
      intro v3 v1 ls hl hok hres hexit
      unfold gX5_sumOfAll_L45 at hres
      unfold okX5_sumOfAll_L45 at hok
      refine lv_iload_n hx hb (dd_of dX5_sumOfAll_0 27 rfl) rfl (lv_at hl 0 rfl) ?_
      refine lv_aload_n hx hb (dd_of dX5_sumOfAll_0 28 rfl) rfl (lv_at hl 2 rfl) ?_
      refine va_get (D := D) (cl := vwCl) (tys := jT yy) (ci := 5) (v := .ref (B 5)) (C := RX5) (T := TX5) (N := 10) hx hb hts (fun w h => List.mem_cons_of_mem _ (inlX5 w h)) hown hK hP 0 rfl rfl 6 (by decide) (jw hts gw37) (fun _ h9 => h9) rfl (dd_of dX5_sumOfAll_0 29 rfl) ?_
      refine va_alen (v := 8) hx hb hK hP 7 5 rfl rfl rfl (dd_of dX5_sumOfAll_0 30 rfl) ?_
      refine lv_icmp_ge (tgt := 80) hx hb (dd_of dX5_sumOfAll_0 31 rfl) (by decide) (fun c5 => ?_) (fun c5 => ?_)
      · replace hres := ifE c5 hres
        replace hok := hok.1 c5
        exact hexit v3 v1 ls (lv_sub hl [0, 1, 2] rfl) hok hres
      · replace hres := ifN c5 hres
        replace hok := hok.2 c5
        refine lv_aload_n hx hb (dd_of dX5_sumOfAll_0 32 rfl) rfl (lv_at hl 2 rfl) ?_
        refine va_get (D := D) (cl := vwCl) (tys := jT yy) (ci := 5) (v := .ref (B 5)) (C := RX5) (T := TX5) (N := 10) hx hb hts (fun w h => List.mem_cons_of_mem _ (inlX5 w h)) hown hK hP 0 rfl rfl 6 (by decide) (jw hts gw37) (fun _ h9 => h9) rfl (dd_of dX5_sumOfAll_0 33 rfl) ?_
        refine lv_iload_n hx hb (dd_of dX5_sumOfAll_0 34 rfl) rfl (lv_at hl 0 rfl) ?_
        have h7 := hok.1
        replace hok := hok.2
        refine va_aldq hx hb hK hP 7 5 rfl rfl h7 (dd_of dX5_sumOfAll_0 35 rfl) ?_
        refine jo_nm (B := B) (off := 400) (e0 := (op (cn F 32) (Int32.toNatClampNeg v3))) (fun o6 eo6 => ?_)
        replace hres := bvE eo6 hres
        replace hok := bvO eo6 hok
        rcases o6 with _ | k8
        · replace hres := omN hres
          replace hok := opN hok
          refine lv_ifnullN (tgt := 74) hx hb (dd_of dX5_sumOfAll_0 36 rfl) (by decide) ?_
          refine lv_iinc (v := (v3 + 1)) (lv' := [(3, .int (v3 + 1)), (1, .long v1), (0, .ref (B 0))]) hx hb (dd_of dX5_sumOfAll_1 4 rfl) hl (k := 0) rfl rfl (by decide) rfl (fun ls hl => ?_)
          refine lv_goto (tgt := 45) hx hb (dd_of dX5_sumOfAll_1 5 rfl) (by decide) ?_
          exact ih (v3 + 1) v1 ls (lv_sub hl [0, 1, 2] rfl) hok hres hexit
        · replace hres := omS hres
          replace hok := opS hok
          refine lv_ifnull hx hb (dd_of dX5_sumOfAll_0 36 rfl) ?_
          refine lv_aload_n hx hb (dd_of dX5_sumOfAll_0 37 rfl) rfl (lv_at hl 2 rfl) ?_
          refine va_get (D := D) (cl := vwCl) (tys := jT yy) (ci := 5) (v := .ref (B 5)) (C := RX5) (T := TX5) (N := 10) hx hb hts (fun w h => List.mem_cons_of_mem _ (inlX5 w h)) hown hK hP 0 rfl rfl 6 (by decide) (jw hts gw37) (fun _ h9 => h9) rfl (dd_of dX5_sumOfAll_0 38 rfl) ?_
          refine lv_iload_n hx hb (dd_of dX5_sumOfAll_0 39 rfl) rfl (lv_at hl 0 rfl) ?_
          have h10 := hok.1
          replace hok := hok.2
          refine va_aldq hx hb hK hP 7 5 rfl rfl h10 (dd_of dX5_sumOfAll_1 0 rfl) ?_
          refine jo_nm (B := B) (off := 400) (e0 := (op (cn F 32) (Int32.toNatClampNeg v3))) (fun o9 eo9 => ?_)
          replace hres := bvE eo9 hres
          replace hok := bvO eo9 hok
          refine lv_lload_n hx hb (dd_of dX5_sumOfAll_1 1 rfl) rfl (lv_at hl 1 rfl) ?_
          rcases o9 with _ | k11
          · replace hres := omN hres
            replace hok := opN hok
            exact False.elim hok
          · replace hres := omS hres
            replace hok := opS hok
            have h12 := hok.1
            replace hok := hok.2
            have h13 := hok.1
            replace hok := hok.2
            obtain ⟨q9, hq9⟩ := lWg_dyke (yy := yy) (B := B) (F := F) (G := G) h12
            refine jc_l (As := [.long v1]) (rest := []) (w := (lW yy B F G)) (D := D) (yy := yy) ⟨hx, hb, hml, hown, hts⟩ (qX3_sumDyke l D yy B F G k11 v1 h13) (cwV 1 hts (jgV gw1237 gw1238 gw1239 gw207 gw1240) rfl rfl rfl (by decide +kernel) ⟨Nat.le_of_ble_eq_true rfl, Nat.le_of_ble_eq_true rfl⟩) hP hK (va_recv hK hP (ci := 3) (q0 := q9) rfl hq9) rfl hl.1 rfl (Nat.le_of_ble_eq_true rfl) (dd_of dX5_sumOfAll_1 2 rfl) ⟨Nat.zero_le _, Nat.zero_le _⟩ (fun x14 ex14 => ?_)
            replace hres := bvE ex14 hres
            replace hok := bvO ex14 hok
            refine lv_lstore_n (lv' := [(1, .long x14), (3, .int v3), (0, .ref (B 0))]) hx hb (dd_of dX5_sumOfAll_1 3 rfl) rfl hl (by decide) rfl (fun ls hl => ?_)
            refine lv_iinc (v := (v3 + 1)) (lv' := [(3, .int (v3 + 1)), (1, .long x14), (0, .ref (B 0))]) hx hb (dd_of dX5_sumOfAll_1 4 rfl) hl (k := 1) rfl rfl (by decide) rfl (fun ls hl => ?_)
            refine lv_goto (tgt := 45) hx hb (dd_of dX5_sumOfAll_1 5 rfl) (by decide) ?_
            exact ih (v3 + 1) x14 ls (lv_sub hl [0, 1, 2] rfl) hok hres hexit
  refine LP45  _ _ 80 0 x4 ls (lv_sub hl [0, 1, 2] rfl) hok hres (fun y15 y16 ls hl hok hres => ?_)
  refine lv_iconst (v := 0) hx hb (dd_of dX5_sumOfAll_1 6 rfl) (by decide) ?_
  refine lv_istore_n (lv' := [(3, .int 0), (1, .long y16), (0, .ref (B 0))]) hx hb (dd_of dX5_sumOfAll_1 7 rfl) rfl hl (by decide) rfl (fun ls hl => ?_)
  have LP82 : ∀ (K : Int32 → Int64 → Int64) (okK : Int32 → Int64 → Prop) (n : Nat), ∀ (v3 : Int32) (v1 : Int64), ∀ (ls : Array Slot), lv_has ls 4 [(3, .int v3), (1, .long v1), (0, .ref (B 0))] → okX5_sumOfAll_L82 F G  okK n v3 v1 → gX5_sumOfAll_L82 F G  K n v3 v1 = RES → (∀ (v3 : Int32) (v1 : Int64), ∀ (ls : Array Slot), lv_has ls 4 [(3, .int v3), (1, .long v1), (0, .ref (B 0))] → okK v3 v1 → K v3 v1 = RES → W p l e rmX5_sumOfAll s m args below meth c s.heap [] 0 0 Q (F0 m 117 ls [])) → W p l e rmX5_sumOfAll s m args below meth c s.heap [] 0 0 Q (F0 m 82 ls []) := by
    intro  K okK n
    induction n with
    | zero =>
      intro v3 v1 ls hl hok _ _
      exact absurd hok (by unfold okX5_sumOfAll_L82; exact id)
    | succ n9 ih =>
      intro v3 v1 ls hl hok hres hexit
      unfold gX5_sumOfAll_L82 at hres
      unfold okX5_sumOfAll_L82 at hok
      refine lv_iload_n hx hb (dd_of dX5_sumOfAll_1 8 rfl) rfl (lv_at hl 0 rfl) ?_
      refine lv_aload_n hx hb (dd_of dX5_sumOfAll_1 9 rfl) rfl (lv_at hl 2 rfl) ?_
      refine va_get (D := D) (cl := vwCl) (tys := jT yy) (ci := 5) (v := .ref (B 4)) (C := RX5) (T := TX5) (N := 10) hx hb hts (fun w h => List.mem_cons_of_mem _ (inlX5 w h)) hown hK hP 0 rfl rfl 4 (by decide) (jw hts gw35) (fun _ h9 => h9) rfl (dd_of dX5_sumOfAll_1 10 rfl) ?_
      refine va_alen (v := 8) hx hb hK hP 6 7 rfl rfl rfl (dd_of dX5_sumOfAll_1 11 rfl) ?_
      refine lv_icmp_ge (tgt := 117) hx hb (dd_of dX5_sumOfAll_1 12 rfl) (by decide) (fun c17 => ?_) (fun c17 => ?_)
      · replace hres := ifE c17 hres
        replace hok := hok.1 c17
        exact hexit v3 v1 ls (lv_sub hl [0, 1, 2] rfl) hok hres
      · replace hres := ifN c17 hres
        replace hok := hok.2 c17
        refine lv_aload_n hx hb (dd_of dX5_sumOfAll_1 13 rfl) rfl (lv_at hl 2 rfl) ?_
        refine va_get (D := D) (cl := vwCl) (tys := jT yy) (ci := 5) (v := .ref (B 4)) (C := RX5) (T := TX5) (N := 10) hx hb hts (fun w h => List.mem_cons_of_mem _ (inlX5 w h)) hown hK hP 0 rfl rfl 4 (by decide) (jw hts gw35) (fun _ h9 => h9) rfl (dd_of dX5_sumOfAll_1 14 rfl) ?_
        refine lv_iload_n hx hb (dd_of dX5_sumOfAll_1 15 rfl) rfl (lv_at hl 0 rfl) ?_
        have h19 := hok.1
        replace hok := hok.2
        refine va_aldq hx hb hK hP 6 7 rfl rfl h19 (dd_of dX5_sumOfAll_1 16 rfl) ?_
        refine jo_nm (B := B) (off := 300) (e0 := (op (cn F 23) (Int32.toNatClampNeg v3))) (fun o18 eo18 => ?_)
        replace hres := bvE eo18 hres
        replace hok := bvO eo18 hok
        rcases o18 with _ | k20
        · replace hres := omN hres
          replace hok := opN hok
          refine lv_ifnullN (tgt := 111) hx hb (dd_of dX5_sumOfAll_1 17 rfl) (by decide) ?_
          refine lv_iinc (v := (v3 + 1)) (lv' := [(3, .int (v3 + 1)), (1, .long v1), (0, .ref (B 0))]) hx hb (dd_of dX5_sumOfAll_1 25 rfl) hl (k := 0) rfl rfl (by decide) rfl (fun ls hl => ?_)
          refine lv_goto (tgt := 82) hx hb (dd_of dX5_sumOfAll_1 26 rfl) (by decide) ?_
          exact ih (v3 + 1) v1 ls (lv_sub hl [0, 1, 2] rfl) hok hres hexit
        · replace hres := omS hres
          replace hok := opS hok
          refine lv_ifnull hx hb (dd_of dX5_sumOfAll_1 17 rfl) ?_
          refine lv_aload_n hx hb (dd_of dX5_sumOfAll_1 18 rfl) rfl (lv_at hl 2 rfl) ?_
          refine va_get (D := D) (cl := vwCl) (tys := jT yy) (ci := 5) (v := .ref (B 4)) (C := RX5) (T := TX5) (N := 10) hx hb hts (fun w h => List.mem_cons_of_mem _ (inlX5 w h)) hown hK hP 0 rfl rfl 4 (by decide) (jw hts gw35) (fun _ h9 => h9) rfl (dd_of dX5_sumOfAll_1 19 rfl) ?_
          refine lv_iload_n hx hb (dd_of dX5_sumOfAll_1 20 rfl) rfl (lv_at hl 0 rfl) ?_
          have h22 := hok.1
          replace hok := hok.2
          refine va_aldq hx hb hK hP 6 7 rfl rfl h22 (dd_of dX5_sumOfAll_1 21 rfl) ?_
          refine jo_nm (B := B) (off := 300) (e0 := (op (cn F 23) (Int32.toNatClampNeg v3))) (fun o21 eo21 => ?_)
          replace hres := bvE eo21 hres
          replace hok := bvO eo21 hok
          refine lv_lload_n hx hb (dd_of dX5_sumOfAll_1 22 rfl) rfl (lv_at hl 1 rfl) ?_
          rcases o21 with _ | k23
          · replace hres := omN hres
            replace hok := opN hok
            exact False.elim hok
          · replace hres := omS hres
            replace hok := opS hok
            have h24 := hok.1
            replace hok := hok.2
            have h25 := hok.1
            replace hok := hok.2
            obtain ⟨q9, hq9⟩ := lWg_pump (yy := yy) (B := B) (F := F) (G := G) h24
            refine jc_l (As := [.long v1]) (rest := []) (w := (lW yy B F G)) (D := D) (yy := yy) ⟨hx, hb, hml, hown, hts⟩ (qX7_sumPump l D yy B F G k23 v1 h25) (cwV 1 hts (jgV gw1242 gw1243 gw1244 gw205 gw1245) rfl rfl rfl (by decide +kernel) ⟨Nat.le_of_ble_eq_true rfl, Nat.le_of_ble_eq_true rfl⟩) hP hK (va_recv hK hP (ci := 7) (q0 := q9) rfl hq9) rfl hl.1 rfl (Nat.le_of_ble_eq_true rfl) (dd_of dX5_sumOfAll_1 23 rfl) ⟨Nat.zero_le _, Nat.zero_le _⟩ (fun x26 ex26 => ?_)
            replace hres := bvE ex26 hres
            replace hok := bvO ex26 hok
            refine lv_lstore_n (lv' := [(1, .long x26), (3, .int v3), (0, .ref (B 0))]) hx hb (dd_of dX5_sumOfAll_1 24 rfl) rfl hl (by decide) rfl (fun ls hl => ?_)
            refine lv_iinc (v := (v3 + 1)) (lv' := [(3, .int (v3 + 1)), (1, .long x26), (0, .ref (B 0))]) hx hb (dd_of dX5_sumOfAll_1 25 rfl) hl (k := 1) rfl rfl (by decide) rfl (fun ls hl => ?_)
            refine lv_goto (tgt := 82) hx hb (dd_of dX5_sumOfAll_1 26 rfl) (by decide) ?_
            exact ih (v3 + 1) x26 ls (lv_sub hl [0, 1, 2] rfl) hok hres hexit
  refine LP82  _ _ 80 0 y16 ls (lv_sub hl [0, 1, 2] rfl) hok hres (fun y27 y28 ls hl hok hres => ?_)
  refine lv_lload_n hx hb (dd_of dX5_sumOfAll_1 27 rfl) rfl (lv_at hl 1 rfl) ?_
  subst hQ
  exact W.lret (v := y28) hx hb hr (fun t ht _ => ⟨_, rfl, hres, ht⟩) (fun _ h => absurd h List.not_mem_nil) (dd_of dX5_sumOfAll_1 28 rfl) hlk
