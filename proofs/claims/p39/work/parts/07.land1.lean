def gJ9_floorDiv_f86c9 (p1 : Int64) (p2 : Int64) : Int64 := bv (p1 / p2) (fun x2 : Int64 => (if 0 ≤ (p1 ^^^ p2) then x2 else (if (x2 * p2) = p1 then x2 else (x2 - 1))))
def okJ9_floorDiv_f86c9 (p1 : Int64) (p2 : Int64) : Prop := (¬ p2 = (0 : Int64))
abbrev rmJ9_floorDiv_f86c9 : Room := { frames := 0, cells := 0, slots := 0, locals := 0 }
def gX0_height (F : jF) (G : jG) (k0 : Nat)  : Int64 := bv ((if 1 ≤ (F 9 k0) then ((100 * (G 14 k0)) / (Int32.toInt64 (F 9 k0))) else 0) : Int64) (fun v7 : Int64 => ((100 * (Int32.toInt64 (F 10 k0))) + v7))
def okX0_height (F : jF) (G : jG) (k0 : Nat)  : Prop := (k0 < cn F 8 ∧ (k0 < cn F 8 ∧ ((1 ≤ (F 9 k0) → (k0 < cn F 8 ∧ (k0 < cn F 8 ∧ (¬ (Int32.toInt64 (F 9 k0)) = (0 : Int64))))) ∧ (¬ 1 ≤ (F 9 k0) → True))))
abbrev rmX0_height : Room := { frames := 0, cells := 0, slots := 0, locals := 0 }
def gX0_aboveFloor (F : jF) (G : jG) (k0 : Nat)  : Int64 := bv (gX0_height F G k0 ) (fun x3 : Int64 => ((x3 - (100 * (Int32.toInt64 (F 10 k0)))) - (Int32.toInt64 (F 12 k0))))
def okX0_aboveFloor (F : jF) (G : jG) (k0 : Nat)  : Prop := (k0 < cn F 8 ∧ ((okX0_height F G k0 ) ∧ bv (gX0_height F G k0 ) (fun x3 : Int64 => (k0 < cn F 8 ∧ (k0 < cn F 8)))))
abbrev rmX0_aboveFloor : Room := { frames := 1, cells := 0, slots := 0, locals := 20 }
def gX0_countHarm (F : jF) (G : jG) (k0 : Nat)  : jS := bv (gX0_aboveFloor F G k0 ) (fun x3 : Int64 => (if (F 13 k0) ≤ 0 then (F, G) else (if x3 ≤ 0 then (F, G) else bv (if 9 < (x3 / 50) then 9 else (x3 / 50)) (fun x9 : Int64 => bv (u2 G 15 k0 ((G 15 k0) + ((Int32.toInt64 (F 13 k0)) * (x9 + 1)))) (fun G11 : jG => (F, G11))))))
def okX0_countHarm (F : jF) (G : jG) (k0 : Nat)  : Prop := (k0 < cn F 8 ∧ ((okX0_aboveFloor F G k0 ) ∧ bv (gX0_aboveFloor F G k0 ) (fun x3 : Int64 => (k0 < cn F 8 ∧ (((F 13 k0) ≤ 0 → True) ∧ (¬ (F 13 k0) ≤ 0 → ((x3 ≤ 0 → True) ∧ (¬ x3 ≤ 0 → (k0 < cn F 8 ∧ (k0 < cn F 8 ∧ bv (if 9 < (x3 / 50) then 9 else (x3 / 50)) (fun x9 : Int64 => (k0 < cn F 8))))))))))))
abbrev rmX0_countHarm : Room := { frames := 2, cells := 0, slots := 0, locals := 40 }
def gX9_goesAt (F : jF) (G : jG) (k0 : Nat) (p1 : Int32) : Int32 := (if p1 < (F 46 k0) then 0 else (if (F 47 k0) ≤ (p1 - (F 46 k0)) then 0 else 1))
def okX9_goesAt (F : jF) (G : jG) (k0 : Nat) (p1 : Int32) : Prop := (k0 < cn F 44 ∧ ((p1 < (F 46 k0) → True) ∧ (¬ p1 < (F 46 k0) → (k0 < cn F 44 ∧ (k0 < cn F 44)))))
abbrev rmX9_goesAt : Room := { frames := 0, cells := 0, slots := 0, locals := 0 }
def gX9_surgeAt (F : jF) (G : jG) (k0 : Nat) (p1 : Int32) : Int64 := bv (p1 - (F 41 k0)) (fun x2 : Int32 => bv ((F 42 k0) - x2) (fun x4 : Int32 => (if x2 < 0 then 0 else (if x4 ≤ 0 then 0 else (if 0 ≤ (F 42 k0) then bv (if x4 < (x2 + 1) then x4 else (x2 + 1)) (fun x10 : Int32 => ((((100 * (Int32.toInt64 (F 43 k0))) * (Int32.toInt64 x10)) * 2) / (Int32.toInt64 ((F 42 k0) + 1)))) else 0)))))
def okX9_surgeAt (F : jF) (G : jG) (k0 : Nat) (p1 : Int32) : Prop := (k0 < cn F 40 ∧ bv (p1 - (F 41 k0)) (fun x2 : Int32 => (k0 < cn F 40 ∧ bv ((F 42 k0) - x2) (fun x4 : Int32 => ((x2 < 0 → True) ∧ (¬ x2 < 0 → ((x4 ≤ 0 → True) ∧ (¬ x4 ≤ 0 → (k0 < cn F 40 ∧ ((0 ≤ (F 42 k0) → (k0 < cn F 40 ∧ bv (if x4 < (x2 + 1) then x4 else (x2 + 1)) (fun x10 : Int32 => (k0 < cn F 40 ∧ (¬ (Int32.toInt64 ((F 42 k0) + 1)) = (0 : Int64)))))) ∧ (¬ 0 ≤ (F 42 k0) → True)))))))))))
abbrev rmX9_surgeAt : Room := { frames := 1, cells := 0, slots := 0, locals := 23 }
def gX6_lay (F : jF) (G : jG) (p1 : Int32) (p2 : Int32) (p3 : Int32) : jS := bv (u2 F 5 0 p1) (fun F1 : jF => bv (u2 F1 6 0 p2) (fun F3 : jF => bv (u2 F3 7 0 p3) (fun F5 : jF => (F5, G))))
abbrev rmX6_lay : Room := { frames := 0, cells := 0, slots := 0, locals := 0 }
def gX6_sow (F : jF) (G : jG) (p1 : Int32) : (Int32 × jS) := bv (F 4 0) (fun x1 : Int32 => bv (u2 F 4 0 p1) (fun F2 : jF => (x1, (F2, G))))
abbrev rmX6_sow : Room := { frames := 0, cells := 0, slots := 0, locals := 0 }
def gX6_tideAt (F : jF) (G : jG) (p1 : Int32) : Int32 := bv (p1 - p1 / 12 * 12) (fun x1 : Int32 => bv ((if 6 < x1 then (12 - x1) else x1) : Int32) (fun v3 : Int32 => ((((F 6 0) * v3) / 6) - ((F 6 0) / 2))))
abbrev rmX6_tideAt : Room := { frames := 0, cells := 0, slots := 0, locals := 0 }
def gX6_greatestSurge_L5 (F : jF) (G : jG) (f1 : Int32) (K : Int32 → Int64 → Int64) : Nat → Int32 → Int64 → Int64
  | 0, _, _ => 0
  | n9 + 1, v4, v2 => (if 12 ≤ v4 then (K v4 v2 ) else bv (op (cn F 40) (Int32.toNatClampNeg v4)) (fun o2 : Option Nat => om o2 (gX6_greatestSurge_L5 F G  f1 K n9 (v4 + 1) v2 ) (fun k4 : Nat => bv (op (cn F 40) (Int32.toNatClampNeg v4)) (fun o5 : Option Nat => om o5 0 (fun k7 : Nat => bv (gX9_surgeAt F G k7 f1) (fun x10 : Int64 => bv (if x10 < v2 then v2 else x10) (fun x11 : Int64 => (gX6_greatestSurge_L5 F G  f1 K n9 (v4 + 1) x11 ))))))))
def okX6_greatestSurge_L5 (F : jF) (G : jG) (f1 : Int32) (okK : Int32 → Int64 → Prop) : Nat → Int32 → Int64 → Prop
  | 0, _, _ => False
  | n9 + 1, v4, v2 => ((12 ≤ v4 → (okK v4 v2 )) ∧ (¬ 12 ≤ v4 → (vp_in v4 12 ∧ bv (op (cn F 40) (Int32.toNatClampNeg v4)) (fun o2 : Option Nat => om o2 (okX6_greatestSurge_L5 F G  f1 okK n9 (v4 + 1) v2 ) (fun k4 : Nat => (vp_in v4 12 ∧ bv (op (cn F 40) (Int32.toNatClampNeg v4)) (fun o5 : Option Nat => om o5 False (fun k7 : Nat => (k7 < cn F 40 ∧ ((okX9_surgeAt F G k7 f1) ∧ bv (gX9_surgeAt F G k7 f1) (fun x10 : Int64 => bv (if x10 < v2 then v2 else x10) (fun x11 : Int64 => (okX6_greatestSurge_L5 F G  f1 okK n9 (v4 + 1) x11 )))))))))))))
def gX6_greatestSurge (F : jF) (G : jG) (p1 : Int32) : Int64 := (gX6_greatestSurge_L5 F G  p1 (fun (y12 : Int32) (y13 : Int64) => y13) 80 0 0 )
def okX6_greatestSurge (F : jF) (G : jG) (p1 : Int32) : Prop := (okX6_greatestSurge_L5 F G  p1 (fun (y12 : Int32) (y13 : Int64) => True) 80 0 0 )
abbrev rmX6_greatestSurge : Room := { frames := 2, cells := 0, slots := 0, locals := 46 }
def gX6_seaAt (F : jF) (G : jG) (p1 : Int32) : Int64 := bv (gX6_tideAt F G  p1) (fun x1 : Int32 => bv (gX6_greatestSurge F G  p1) (fun x3 : Int64 => ((100 * (Int32.toInt64 ((F 5 0) + x1))) + x3)))
def okX6_seaAt (F : jF) (G : jG) (p1 : Int32) : Prop := bv (gX6_tideAt F G  p1) (fun x1 : Int32 => (okX6_greatestSurge F G  p1))
abbrev rmX6_seaAt : Room := { frames := 3, cells := 0, slots := 0, locals := 70 }
def gX6_highTide (F : jF) (G : jG)  : Int64 := (Int32.toInt64 ((F 5 0) + (F 6 0)))
abbrev rmX6_highTide : Room := { frames := 0, cells := 0, slots := 0, locals := 0 }
def gX6_foresee (F : jF) (G : jG) (p1 : Int32) (p2 : Int32) : Int64 := bv ((((75 * p1) + (1009 * p2)) + (F 4 0)) - (((75 * p1) + (1009 * p2)) + (F 4 0)) / 65537 * 65537) (fun x1 : Int32 => bv ((2 * p2) + 1) (fun x2 : Int32 => bv ((if 0 < x2 then ((x1 - x1 / x2 * x2) - p2) else 0) : Int32) (fun v5 : Int32 => bv (gX6_seaAt F G  (p1 + p2)) (fun x7 : Int64 => (x7 + (10 * (Int32.toInt64 v5)))))))
def okX6_foresee (F : jF) (G : jG) (p1 : Int32) (p2 : Int32) : Prop := bv ((((75 * p1) + (1009 * p2)) + (F 4 0)) - (((75 * p1) + (1009 * p2)) + (F 4 0)) / 65537 * 65537) (fun x1 : Int32 => bv ((2 * p2) + 1) (fun x2 : Int32 => (((0 < x2 → (¬ x2 = (0 : Int32))) ∧ (¬ 0 < x2 → True)) ∧ bv ((if 0 < x2 then ((x1 - x1 / x2 * x2) - p2) else 0) : Int32) (fun v5 : Int32 => (okX6_seaAt F G  (p1 + p2))))))
abbrev rmX6_foresee : Room := { frames := 4, cells := 0, slots := 0, locals := 91 }
def gX10_basinAt (F : jF) (G : jG) (p1 : Int32) : Option Nat := (if p1 < 0 then none else (if p1 < 8 then bv (op (cn F 8) (Int32.toNatClampNeg p1)) (fun o3 : Option Nat => o3) else none))
def okX10_basinAt (F : jF) (G : jG) (p1 : Int32) : Prop := ((p1 < 0 → True) ∧ (¬ p1 < 0 → ((p1 < 8 → (vp_in p1 8)) ∧ (¬ p1 < 8 → True))))
abbrev rmX10_basinAt : Room := { frames := 0, cells := 0, slots := 0, locals := 0 }
def gX10_isEnd (F : jF) (G : jG) (p1 : Int32) : Int32 := (if p1 = 20 then 1 else (if p1 = 21 then 1 else bv (gX10_basinAt F G  p1) (fun o4 : Option Nat => om o4 0 (fun k5 : Nat => 1))))
def okX10_isEnd (F : jF) (G : jG) (p1 : Int32) : Prop := ((p1 = 20 → True) ∧ (¬ p1 = 20 → ((p1 = 21 → True) ∧ (¬ p1 = 21 → (okX10_basinAt F G  p1)))))
abbrev rmX10_isEnd : Room := { frames := 1, cells := 0, slots := 0, locals := 21 }
def gX10_layOut (F : jF) (G : jG) (p1 : Int32) (p2 : Int32) (p3 : Int32) (p4 : Int32) : (Int32 × jS) := bv (gX10_basinAt F G  p1) (fun o2 : Option Nat => om o2 (0, (F, G)) (fun k3 : Nat => bv (u2 F 11 k3 p2) (fun F5 : jF => bv (u2 F5 12 k3 p3) (fun F8 : jF => bv (u2 F8 13 k3 p4) (fun F11 : jF => (0, (F11, G)))))))
def okX10_layOut (F : jF) (G : jG) (p1 : Int32) (p2 : Int32) (p3 : Int32) (p4 : Int32) : Prop := ((okX10_basinAt F G  p1) ∧ bv (gX10_basinAt F G  p1) (fun o2 : Option Nat => om o2 True (fun k3 : Nat => (k3 < cn F 8 ∧ bv (u2 F 11 k3 p2) (fun F5 : jF => (k3 < cn F5 8 ∧ bv (u2 F5 12 k3 p3) (fun F8 : jF => (k3 < cn F8 8))))))))
abbrev rmX10_layOut : Room := { frames := 1, cells := 0, slots := 0, locals := 21 }
def gX10_count (F : jF) (G : jG) (p1 : Int32) (p2 : Int64) : jS := (if p1 < 0 then (F, G) else (if 4 ≤ p1 then (F, G) else bv (u2 G 56 (Int32.toNatClampNeg p1) ((G 56 (Int32.toNatClampNeg p1)) + p2)) (fun G5 : jG => (F, G5))))
def okX10_count (F : jF) (G : jG) (p1 : Int32) (p2 : Int64) : Prop := ((p1 < 0 → True) ∧ (¬ p1 < 0 → ((4 ≤ p1 → True) ∧ (¬ 4 ≤ p1 → (vp_in p1 4 ∧ (vp_in p1 4))))))
abbrev rmX10_count : Room := { frames := 0, cells := 0, slots := 0, locals := 0 }
def gX10_bring (F : jF) (G : jG) (p1 : Int32) (p2 : Int32) (p3 : Int32) : (Int64 × jS) := bv (gX10_basinAt F G  p1) (fun o2 : Option Nat => om o2 (0, (F, G)) (fun k3 : Nat => bv (u2 G 14 k3 ((G 14 k3) + (Int32.toInt64 p2))) (fun G6 : jG => bs (gX10_count F G6  p3 (Int32.toInt64 p2)) (fun (F9 : jF) (G10 : jG) => ((G10 14 k3), (F9, G10))))))
def okX10_bring (F : jF) (G : jG) (p1 : Int32) (p2 : Int32) (p3 : Int32) : Prop := ((okX10_basinAt F G  p1) ∧ bv (gX10_basinAt F G  p1) (fun o2 : Option Nat => om o2 True (fun k3 : Nat => (k3 < cn F 8 ∧ (k3 < cn F 8 ∧ bv (u2 G 14 k3 ((G 14 k3) + (Int32.toInt64 p2))) (fun G6 : jG => ((okX10_count F G6  p3 (Int32.toInt64 p2)) ∧ bs (gX10_count F G6  p3 (Int32.toInt64 p2)) (fun (F9 : jF) (G10 : jG) => (k3 < cn F9 8)))))))))
abbrev rmX10_bring : Room := { frames := 1, cells := 0, slots := 0, locals := 23 }
def gX10_pourInto (F : jF) (G : jG) (p1 : Int32) (p2 : Int32) : (Int64 × jS) := br (gX10_bring F G  p1 p2 0) (fun (x5 : Int64) (F2 : jF) (G3 : jG) => (x5, (F2, G3)))
def okX10_pourInto (F : jF) (G : jG) (p1 : Int32) (p2 : Int32) : Prop := (okX10_bring F G  p1 p2 0)
abbrev rmX10_pourInto : Room := { frames := 2, cells := 0, slots := 0, locals := 47 }
def gX10_layOutside (F : jF) (G : jG) (p1 : Int32) (p2 : Int32) (p3 : Int32) : (Int32 × jS) := bs (gX6_lay F G  p1 p2 p3) (fun (F1 : jF) (G2 : jG) => bv (gX6_seaAt F1 G2  (F1 0 0)) (fun x5 : Int64 => bv (u2 G2 69 0 x5) (fun G6 : jG => (0, (F1, G6)))))
def okX10_layOutside (F : jF) (G : jG) (p1 : Int32) (p2 : Int32) (p3 : Int32) : Prop := bs (gX6_lay F G  p1 p2 p3) (fun (F1 : jF) (G2 : jG) => (okX6_seaAt F1 G2  (F1 0 0)))
abbrev rmX10_layOutside : Room := { frames := 4, cells := 0, slots := 0, locals := 91 }
def gX10_endHour (F : jF) (G : jG)  : jS := bv (u2 F 0 0 ((F 0 0) + 1)) (fun F1 : jF => bv (gX6_seaAt F1 G  (F1 0 0)) (fun x4 : Int64 => bv (u2 G 69 0 x4) (fun G5 : jG => (F1, G5))))
def okX10_endHour (F : jF) (G : jG)  : Prop := bv (u2 F 0 0 ((F 0 0) + 1)) (fun F1 : jF => (okX6_seaAt F1 G  (F1 0 0)))
abbrev rmX10_endHour : Room := { frames := 4, cells := 0, slots := 0, locals := 91 }
def gX10_fallRain_L2  (K : Int32 → jF → jG → jS) : Nat → Int32 → jF → jG → jS
  | 0, _, F, G => (F, G)
  | n9 + 1, v1, F, G => (if 12 ≤ v1 then (K v1 F G) else bv (op (cn F 44) (Int32.toNatClampNeg v1)) (fun o2 : Option Nat => om o2 (gX10_fallRain_L2   K n9 (v1 + 1) F G) (fun k4 : Nat => bv (op (cn F 44) (Int32.toNatClampNeg v1)) (fun o5 : Option Nat => om o5 (F, G) (fun k7 : Nat => bv (gX9_goesAt F G k7 (F 0 0)) (fun x10 : Int32 => (if x10 = 0 then (gX10_fallRain_L2   K n9 (v1 + 1) F G) else bv (op (cn F 44) (Int32.toNatClampNeg v1)) (fun o12 : Option Nat => om o12 (F, G) (fun k14 : Nat => bv (op (cn F 44) (Int32.toNatClampNeg v1)) (fun o16 : Option Nat => om o16 (F, G) (fun k18 : Nat => br (gX10_bring F G  (F 45 k14) (F 48 k18) 1) (fun (x24 : Int64) (F21 : jF) (G22 : jG) => (gX10_fallRain_L2   K n9 (v1 + 1) F21 G22)))))))))))))
def okX10_fallRain_L2  (okK : Int32 → jF → jG → Prop) : Nat → Int32 → jF → jG → Prop
  | 0, _, _, _ => False
  | n9 + 1, v1, F, G => ((12 ≤ v1 → (okK v1 F G)) ∧ (¬ 12 ≤ v1 → (vp_in v1 12 ∧ bv (op (cn F 44) (Int32.toNatClampNeg v1)) (fun o2 : Option Nat => om o2 (okX10_fallRain_L2   okK n9 (v1 + 1) F G) (fun k4 : Nat => (vp_in v1 12 ∧ bv (op (cn F 44) (Int32.toNatClampNeg v1)) (fun o5 : Option Nat => om o5 False (fun k7 : Nat => (k7 < cn F 44 ∧ ((okX9_goesAt F G k7 (F 0 0)) ∧ bv (gX9_goesAt F G k7 (F 0 0)) (fun x10 : Int32 => ((x10 = 0 → (okX10_fallRain_L2   okK n9 (v1 + 1) F G)) ∧ (¬ x10 = 0 → (vp_in v1 12 ∧ bv (op (cn F 44) (Int32.toNatClampNeg v1)) (fun o12 : Option Nat => om o12 False (fun k14 : Nat => (k14 < cn F 44 ∧ (vp_in v1 12 ∧ bv (op (cn F 44) (Int32.toNatClampNeg v1)) (fun o16 : Option Nat => om o16 False (fun k18 : Nat => (k18 < cn F 44 ∧ ((okX10_bring F G  (F 45 k14) (F 48 k18) 1) ∧ br (gX10_bring F G  (F 45 k14) (F 48 k18) 1) (fun (x24 : Int64) (F21 : jF) (G22 : jG) => (okX10_fallRain_L2   okK n9 (v1 + 1) F21 G22))))))))))))))))))))))))
def gX10_fallRain (F : jF) (G : jG)  : jS := (gX10_fallRain_L2   (fun (y25 : Int32) (F26 : jF) (G27 : jG) => (F26, G27)) 80 0 F G)
def okX10_fallRain (F : jF) (G : jG)  : Prop := (okX10_fallRain_L2   (fun (y25 : Int32) (F26 : jF) (G27 : jG) => True) 80 0 F G)
abbrev rmX10_fallRain : Room := { frames := 2, cells := 0, slots := 0, locals := 47 }
def gX10_came (F : jF) (G : jG) (p1 : Int32) : Int64 := bv ((if p1 < 0 then 0 else (if p1 < 4 then (G 56 (Int32.toNatClampNeg p1)) else 0)) : Int64) (fun v4 : Int64 => v4)
def okX10_came (F : jF) (G : jG) (p1 : Int32) : Prop := ((p1 < 0 → True) ∧ (¬ p1 < 0 → ((p1 < 4 → (vp_in p1 4)) ∧ (¬ p1 < 4 → True))))
abbrev rmX10_came : Room := { frames := 0, cells := 0, slots := 0, locals := 0 }
def gX10_heightOf (F : jF) (G : jG) (p1 : Int32) : Int64 := (if p1 = 20 then (G 69 0) else (if p1 = 21 then (Int32.toInt64 (F 7 0)) else bv (gX10_basinAt F G  p1) (fun o4 : Option Nat => om o4 0 (fun k5 : Nat => bv (gX0_height F G k5 ) (fun x8 : Int64 => x8)))))
def okX10_heightOf (F : jF) (G : jG) (p1 : Int32) : Prop := ((p1 = 20 → True) ∧ (¬ p1 = 20 → ((p1 = 21 → True) ∧ (¬ p1 = 21 → ((okX10_basinAt F G  p1) ∧ bv (gX10_basinAt F G  p1) (fun o4 : Option Nat => om o4 True (fun k5 : Nat => (k5 < cn F 8 ∧ (okX0_height F G k5 )))))))))
abbrev rmX10_heightOf : Room := { frames := 1, cells := 0, slots := 0, locals := 21 }
def gX10_above (F : jF) (G : jG) (p1 : Int32) (p2 : Int32) : Int64 := bv (gX10_heightOf F G  p1) (fun x2 : Int64 => bv (gX10_heightOf F G  p2) (fun x4 : Int64 => (x2 - x4)))
def okX10_above (F : jF) (G : jG) (p1 : Int32) (p2 : Int32) : Prop := ((okX10_heightOf F G  p1) ∧ bv (gX10_heightOf F G  p1) (fun x2 : Int64 => (okX10_heightOf F G  p2)))
abbrev rmX10_above : Room := { frames := 2, cells := 0, slots := 0, locals := 43 }
def gX10_seaPresses (F : jF) (G : jG) (p1 : Int32) (p2 : Int32) : Int32 := (if p1 = 20 then bv (gX10_above F G  p1 p2) (fun x7 : Int64 => (if 0 < x7 then 1 else (if p2 = 20 then bv (gX10_above F G  p2 p1) (fun x11 : Int64 => (if x11 ≤ 0 then 0 else 1)) else 0))) else (if p2 = 20 then bv (gX10_above F G  p2 p1) (fun x4 : Int64 => (if x4 ≤ 0 then 0 else 1)) else 0))
def okX10_seaPresses (F : jF) (G : jG) (p1 : Int32) (p2 : Int32) : Prop := ((p1 = 20 → ((okX10_above F G  p1 p2) ∧ bv (gX10_above F G  p1 p2) (fun x7 : Int64 => ((0 < x7 → True) ∧ (¬ 0 < x7 → ((p2 = 20 → (okX10_above F G  p2 p1)) ∧ (¬ p2 = 20 → True))))))) ∧ (¬ p1 = 20 → ((p2 = 20 → (okX10_above F G  p2 p1)) ∧ (¬ p2 = 20 → True))))
abbrev rmX10_seaPresses : Room := { frames := 3, cells := 0, slots := 0, locals := 65 }
def gX10_stockOf (F : jF) (G : jG) (p1 : Int32) : Int64 := bv (gX10_basinAt F G  p1) (fun o2 : Option Nat => om o2 9223372036854775807 (fun k3 : Nat => (G 14 k3)))
def okX10_stockOf (F : jF) (G : jG) (p1 : Int32) : Prop := ((okX10_basinAt F G  p1) ∧ bv (gX10_basinAt F G  p1) (fun o2 : Option Nat => om o2 True (fun k3 : Nat => (k3 < cn F 8))))
abbrev rmX10_stockOf : Room := { frames := 1, cells := 0, slots := 0, locals := 21 }
def gX10_levelling (F : jF) (G : jG) (p1 : Int32) (p2 : Int32) (p3 : Int64) : Int64 := bv (gX10_basinAt F G  p1) (fun o2 : Option Nat => om o2 (bv (gX10_basinAt F G  p2) (fun o5 : Option Nat => om o5 0 (fun k6 : Nat => ((p3 * (Int32.toInt64 (F 9 k6))) / 100)))) (fun k3 : Nat => bv (gX10_basinAt F G  p2) (fun o9 : Option Nat => om o9 ((p3 * (Int32.toInt64 (F 9 k3))) / 100) (fun k10 : Nat => bv (Int32.toInt64 ((F 9 k3) + (F 9 k10))) (fun x14 : Int64 => bv ((if 0 < x14 then ((((p3 * (Int32.toInt64 (F 9 k3))) * (Int32.toInt64 (F 9 k10))) / x14) / 100) else 0) : Int64) (fun v19 : Int64 => v19))))))
def okX10_levelling (F : jF) (G : jG) (p1 : Int32) (p2 : Int32) (p3 : Int64) : Prop := ((okX10_basinAt F G  p1) ∧ bv (gX10_basinAt F G  p1) (fun o2 : Option Nat => om o2 ((okX10_basinAt F G  p2) ∧ bv (gX10_basinAt F G  p2) (fun o5 : Option Nat => om o5 True (fun k6 : Nat => (k6 < cn F 8)))) (fun k3 : Nat => ((okX10_basinAt F G  p2) ∧ bv (gX10_basinAt F G  p2) (fun o9 : Option Nat => om o9 (k3 < cn F 8) (fun k10 : Nat => (k3 < cn F 8 ∧ (k10 < cn F 8 ∧ bv (Int32.toInt64 ((F 9 k3) + (F 9 k10))) (fun x14 : Int64 => ((0 < x14 → (k3 < cn F 8 ∧ (k10 < cn F 8 ∧ (¬ x14 = (0 : Int64))))) ∧ (¬ 0 < x14 → True)))))))))))
abbrev rmX10_levelling : Room := { frames := 1, cells := 0, slots := 0, locals := 21 }
def gX10_move (F : jF) (G : jG) (p1 : Int32) (p2 : Int32) (p3 : Int64) : jS := bv (gX10_basinAt F G  p1) (fun o2 : Option Nat => om o2 (bv (gX10_basinAt F G  p2) (fun o5 : Option Nat => om o5 (bs (gX10_count F G  2 p3) (fun (F8 : jF) (G9 : jG) => bs (gX10_count F8 G9  3 p3) (fun (F12 : jF) (G13 : jG) => (F12, G13)))) (fun k6 : Nat => bs (gX10_count F G  2 p3) (fun (F16 : jF) (G17 : jG) => bv (u2 G17 14 k6 ((G17 14 k6) + p3)) (fun G21 : jG => (F16, G21)))))) (fun k3 : Nat => bv (gX10_basinAt F G  p2) (fun o24 : Option Nat => om o24 (bv (u2 G 14 k3 ((G 14 k3) - p3)) (fun G28 : jG => bs (gX10_count F G28  3 p3) (fun (F31 : jF) (G32 : jG) => (F31, G32)))) (fun k25 : Nat => bv (u2 G 14 k3 ((G 14 k3) - p3)) (fun G36 : jG => bv (u2 G36 14 k25 ((G36 14 k25) + p3)) (fun G40 : jG => (F, G40)))))))
def okX10_move (F : jF) (G : jG) (p1 : Int32) (p2 : Int32) (p3 : Int64) : Prop := ((okX10_basinAt F G  p1) ∧ bv (gX10_basinAt F G  p1) (fun o2 : Option Nat => om o2 ((okX10_basinAt F G  p2) ∧ bv (gX10_basinAt F G  p2) (fun o5 : Option Nat => om o5 ((okX10_count F G  2 p3) ∧ bs (gX10_count F G  2 p3) (fun (F8 : jF) (G9 : jG) => (okX10_count F8 G9  3 p3))) (fun k6 : Nat => ((okX10_count F G  2 p3) ∧ bs (gX10_count F G  2 p3) (fun (F16 : jF) (G17 : jG) => (k6 < cn F16 8 ∧ (k6 < cn F16 8))))))) (fun k3 : Nat => ((okX10_basinAt F G  p2) ∧ bv (gX10_basinAt F G  p2) (fun o24 : Option Nat => om o24 (k3 < cn F 8 ∧ (k3 < cn F 8 ∧ bv (u2 G 14 k3 ((G 14 k3) - p3)) (fun G28 : jG => (okX10_count F G28  3 p3)))) (fun k25 : Nat => (k3 < cn F 8 ∧ (k3 < cn F 8 ∧ bv (u2 G 14 k3 ((G 14 k3) - p3)) (fun G36 : jG => (k25 < cn F 8 ∧ (k25 < cn F 8)))))))))))
abbrev rmX10_move : Room := { frames := 1, cells := 0, slots := 0, locals := 23 }
def gX10_levelOut (F : jF) (G : jG) (p1 : Int32) (p2 : Int32) (p3 : Int64) : (Int64 × jS) := bv (gX10_heightOf F G  p1) (fun x2 : Int64 => bv (gX10_heightOf F G  p2) (fun x4 : Int64 => bv (x2 - x4) (fun x5 : Int64 => bv ((if x5 < 0 then p2 else p1) : Int32) (fun v7 : Int32 => bv ((if x5 < 0 then p1 else p2) : Int32) (fun v9 : Int32 => bv (if 0 < x5 then x5 else -x5) (fun x10 : Int64 => bv (gX10_levelling F G  v7 v9 x10) (fun x12 : Int64 => bv (if x12 < p3 then x12 else p3) (fun x13 : Int64 => bv (gX10_stockOf F G  v7) (fun x15 : Int64 => bv (if x15 < x13 then x15 else x13) (fun x16 : Int64 => (if 0 < x16 then bs (gX10_move F G  v7 v9 x16) (fun (F19 : jF) (G20 : jG) => (x16, (F19, G20))) else (0, (F, G)))))))))))))
def okX10_levelOut (F : jF) (G : jG) (p1 : Int32) (p2 : Int32) (p3 : Int64) : Prop := ((okX10_heightOf F G  p1) ∧ bv (gX10_heightOf F G  p1) (fun x2 : Int64 => ((okX10_heightOf F G  p2) ∧ bv (gX10_heightOf F G  p2) (fun x4 : Int64 => bv (x2 - x4) (fun x5 : Int64 => bv ((if x5 < 0 then p2 else p1) : Int32) (fun v7 : Int32 => bv ((if x5 < 0 then p1 else p2) : Int32) (fun v9 : Int32 => bv (if 0 < x5 then x5 else -x5) (fun x10 : Int64 => ((okX10_levelling F G  v7 v9 x10) ∧ bv (gX10_levelling F G  v7 v9 x10) (fun x12 : Int64 => bv (if x12 < p3 then x12 else p3) (fun x13 : Int64 => ((okX10_stockOf F G  v7) ∧ bv (gX10_stockOf F G  v7) (fun x15 : Int64 => bv (if x15 < x13 then x15 else x13) (fun x16 : Int64 => ((0 < x16 → (okX10_move F G  v7 v9 x16)) ∧ (¬ 0 < x16 → True))))))))))))))))
abbrev rmX10_levelOut : Room := { frames := 2, cells := 0, slots := 0, locals := 49 }
set_option maxHeartbeats 4000000 in
set_option maxRecDepth 100000 in
theorem qJ9_floorDiv_f86c9 (l : Launch) (p1 : Int64) (p2 : Int64) (hok : okJ9_floorDiv_f86c9 p1 p2) : Met l yJ9_floorDiv_f86c9 (Cond.code yJ9_floorDiv_f86c9 cJ9_floorDiv_f86c9 6 (some .long) :: wsL_law) rmJ9_floorDiv_f86c9 (va_Pc [.long p1, .long p2] jRn) (vp_Sl (fun r => r = gJ9_floorDiv_f86c9 p1 p2)) 0 0 (fun _ => False) := by
  generalize hres : gJ9_floorDiv_f86c9 p1 p2 = RES
  refine jMF (vs := [.long p1, .long p2]) (own := RJ9) (by decide +kernel) rfl (Nat.le_of_ble_eq_true rfl) ?_
  intro p e s m args below meth c ls Q hQ hargs S hr hlk hinit hB hl
  obtain ⟨hx, hb, hml, hown, hts⟩ := S
  have hl : lv_has ls 6 [(0, .long p1), (2, .long p2)] := hl
  unfold gJ9_floorDiv_f86c9 at hres
  unfold okJ9_floorDiv_f86c9 at hok
  refine lv_lload_n hx hb (dd_of dJ9_floorDiv_f86c9_0 0 rfl) rfl (lv_at hl 0 rfl) ?_
  refine lv_lload_n hx hb (dd_of dJ9_floorDiv_f86c9_0 1 rfl) rfl (lv_at hl 1 rfl) ?_
  have h1 := hok
  refine lv_ldiv hx hb (dd_of dJ9_floorDiv_f86c9_0 2 rfl) h1 ?_
  refine lv_topl (fun x2 ex2 => ?_)
  replace hres := bvE ex2 hres
  refine lv_lstore (lv' := [(4, .long x2), (0, .long p1), (2, .long p2)]) hx hb (dd_of dJ9_floorDiv_f86c9_0 3 rfl) hl (by decide) rfl (fun ls hl => ?_)
  refine lv_lload_n hx hb (dd_of dJ9_floorDiv_f86c9_0 4 rfl) rfl (lv_at hl 1 rfl) ?_
  refine lv_lload_n hx hb (dd_of dJ9_floorDiv_f86c9_0 5 rfl) rfl (lv_at hl 2 rfl) ?_
  refine lv_lxor hx hb (dd_of dJ9_floorDiv_f86c9_0 6 rfl) ?_
  refine lv_lconst (v := 0) hx hb (dd_of dJ9_floorDiv_f86c9_0 7 rfl) (by decide) ?_
  refine jl_ge (tgt := 27) hx hb (dd_of dJ9_floorDiv_f86c9_0 8 rfl) (dd_of dJ9_floorDiv_f86c9_0 9 rfl) (by decide) (fun c3 => ?_) (fun c3 => ?_)
  · replace hres := ifE c3 hres
    refine lv_lload hx hb (dd_of dJ9_floorDiv_f86c9_0 20 rfl) (lv_at hl 0 rfl) ?_
    subst hQ
    exact W.lret (v := x2) hx hb hr (fun t ht _ => ⟨_, rfl, hres, ht⟩) (fun _ h => absurd h List.not_mem_nil) (dd_of dJ9_floorDiv_f86c9_0 21 rfl) hlk
  · replace hres := ifN c3 hres
    refine lv_lload hx hb (dd_of dJ9_floorDiv_f86c9_0 10 rfl) (lv_at hl 0 rfl) ?_
    refine lv_lload_n hx hb (dd_of dJ9_floorDiv_f86c9_0 11 rfl) rfl (lv_at hl 2 rfl) ?_
    refine lv_lmul hx hb (dd_of dJ9_floorDiv_f86c9_0 12 rfl) ?_
    refine lv_lload_n hx hb (dd_of dJ9_floorDiv_f86c9_0 13 rfl) rfl (lv_at hl 1 rfl) ?_
    refine jl_eq (tgt := 27) hx hb (dd_of dJ9_floorDiv_f86c9_0 14 rfl) (dd_of dJ9_floorDiv_f86c9_0 15 rfl) (by decide) (fun c4 => ?_) (fun c4 => ?_)
    · replace hres := ifE c4 hres
      refine lv_lload hx hb (dd_of dJ9_floorDiv_f86c9_0 20 rfl) (lv_at hl 0 rfl) ?_
      subst hQ
      exact W.lret (v := x2) hx hb hr (fun t ht _ => ⟨_, rfl, hres, ht⟩) (fun _ h => absurd h List.not_mem_nil) (dd_of dJ9_floorDiv_f86c9_0 21 rfl) hlk
    · replace hres := ifN c4 hres
      refine lv_lload hx hb (dd_of dJ9_floorDiv_f86c9_0 16 rfl) (lv_at hl 0 rfl) ?_
      refine lv_lconst (v := 1) hx hb (dd_of dJ9_floorDiv_f86c9_0 17 rfl) (by decide) ?_
      refine lv_lsub hx hb (dd_of dJ9_floorDiv_f86c9_0 18 rfl) ?_
      subst hQ
      exact W.lret (v := (x2 - 1)) hx hb hr (fun t ht _ => ⟨_, rfl, hres, ht⟩) (fun _ h => absurd h List.not_mem_nil) (dd_of dJ9_floorDiv_f86c9_0 19 rfl) hlk
set_option maxHeartbeats 4000000 in
set_option maxRecDepth 100000 in
theorem qX0_height (l : Launch) (D : va_G) (yy : Nat → ClassId) (B : Nat → Nat) (F : jF) (G : jG) (k0 : Nat)  (hok : okX0_height F G k0 ) : Met l yX0_height (Cond.code yX0_height cX0_height 1 (some .long) :: wsL_law) rmX0_height (va_Pc [.ref (B (100 + k0))] (jR D yy (lW yy B F G))) (vp_Sl (fun r => r = gX0_height F G k0 )) 0 0 (fun _ => False) := by
  generalize hres : gX0_height F G k0  = RES
  refine jM (vs := [.ref (B (100 + k0))]) (own := RX0) (by decide +kernel) rfl (Nat.le_of_ble_eq_true rfl) ?_
  intro p e s m args below meth c ls Q hQ hargs S hr hlk hinit hB hl
  obtain ⟨hx, hb, hml, hown, hts⟩ := S
  have hl : lv_has ls 1 [(0, .ref (B (100 + k0)))] := hl
  obtain ⟨hP, hK⟩ := hB
  unfold gX0_height at hres
  unfold okX0_height at hok
  refine lv_ldc2 (v := 100) hx hb hown (jw hts gw367) (dd_of dX0_height_0 0 rfl) ?_
  refine lv_aload_n hx hb (dd_of dX0_height_0 1 rfl) rfl (lv_at hl 0 rfl) ?_
  have h1 := hok.1
  replace hok := hok.2
  obtain ⟨q9, hq9⟩ := lWg_basin (yy := yy) (B := B) (F := F) (G := G) h1
  refine va_get (D := D) (cl := vwCl) (tys := jT yy) (ci := 0) (v := .int (F 10 k0)) (C := RX0) (T := TX0) (N := 7) hx hb hts (fun w h => List.mem_cons_of_mem _ (inlX0 w h)) hown hK hP q9 hq9 rfl 1 (by decide) (jw hts gw222) (fun _ h9 => h9) rfl (dd_of dX0_height_0 2 rfl) ?_
  refine lv_i2l (v := (Int32.toInt64 (F 10 k0))) hx hb (dd_of dX0_height_0 3 rfl) rfl ?_
  refine lv_lmul hx hb (dd_of dX0_height_0 4 rfl) ?_
  refine lv_aload_n hx hb (dd_of dX0_height_0 5 rfl) rfl (lv_at hl 0 rfl) ?_
  have h2 := hok.1
  replace hok := hok.2
  obtain ⟨q9, hq9⟩ := lWg_basin (yy := yy) (B := B) (F := F) (G := G) h2
  refine va_get (D := D) (cl := vwCl) (tys := jT yy) (ci := 0) (v := .int (F 9 k0)) (C := RX0) (T := TX0) (N := 7) hx hb hts (fun w h => List.mem_cons_of_mem _ (inlX0 w h)) hown hK hP q9 hq9 rfl 0 (by decide) (jw hts gw221) (fun _ h9 => h9) rfl (dd_of dX0_height_0 6 rfl) ?_
  refine lv_iconst (v := 1) hx hb (dd_of dX0_height_0 7 rfl) (by decide) ?_
  obtain ⟨z9, q8⟩ : ∃ z : Int64, (if 1 ≤ (F 9 k0) then ((100 * (G 14 k0)) / (Int32.toInt64 (F 9 k0))) else 0) = z := ⟨_, rfl⟩
  have o11 := hok
  refine jn_l (ls := ls) (v := z9) 35 [.long (100 * (Int32.toInt64 (F 10 k0)))] (fun v7 ev7 => ?_) (fun K10 => ?_)
  · replace hres := bvE (ev7.trans q8.symm) hres
    refine lv_ladd hx hb (dd_of dX0_height_0 19 rfl) ?_
    subst hQ
    exact W.lret (v := ((100 * (Int32.toInt64 (F 10 k0))) + v7)) hx hb hr (fun t ht _ => ⟨_, rfl, hres, ht⟩) (fun _ h => absurd h List.not_mem_nil) (dd_of dX0_height_0 20 rfl) hlk
  · skip
    refine lv_icmp_ge (tgt := 21) hx hb (dd_of dX0_height_0 8 rfl) (by decide) (fun c3 => ?_) (fun c3 => ?_)
    · replace q8 := ifE c3 q8
      replace o11 := o11.1 c3
      refine lv_ldc2 (v := 100) hx hb hown (jw hts gw367) (dd_of dX0_height_0 11 rfl) ?_
      refine lv_aload_n hx hb (dd_of dX0_height_0 12 rfl) rfl (lv_at hl 0 rfl) ?_
      have h4 := o11.1
      replace o11 := o11.2
      obtain ⟨q9, hq9⟩ := lWg_basin (yy := yy) (B := B) (F := F) (G := G) h4
      refine va_get (D := D) (cl := vwCl) (tys := jT yy) (ci := 0) (v := .long (G 14 k0)) (C := RX0) (T := TX0) (N := 7) hx hb hts (fun w h => List.mem_cons_of_mem _ (inlX0 w h)) hown hK hP q9 hq9 rfl 2 (by decide) (jw hts gw368) (fun _ h9 => h9) rfl (dd_of dX0_height_0 13 rfl) ?_
      refine lv_lmul hx hb (dd_of dX0_height_0 14 rfl) ?_
      refine lv_aload_n hx hb (dd_of dX0_height_0 15 rfl) rfl (lv_at hl 0 rfl) ?_
      have h5 := o11.1
      replace o11 := o11.2
      obtain ⟨q9, hq9⟩ := lWg_basin (yy := yy) (B := B) (F := F) (G := G) h5
      refine va_get (D := D) (cl := vwCl) (tys := jT yy) (ci := 0) (v := .int (F 9 k0)) (C := RX0) (T := TX0) (N := 7) hx hb hts (fun w h => List.mem_cons_of_mem _ (inlX0 w h)) hown hK hP q9 hq9 rfl 0 (by decide) (jw hts gw221) (fun _ h9 => h9) rfl (dd_of dX0_height_0 16 rfl) ?_
      refine lv_i2l (v := (Int32.toInt64 (F 9 k0))) hx hb (dd_of dX0_height_0 17 rfl) rfl ?_
      have h6 := o11
      refine lv_ldiv hx hb (dd_of dX0_height_0 18 rfl) h6 ?_
      exact K10 _ q8
    · replace q8 := ifN c3 q8
      refine lv_lconst (v := 0) hx hb (dd_of dX0_height_0 9 rfl) (by decide) ?_
      refine lv_goto (tgt := 35) hx hb (dd_of dX0_height_0 10 rfl) (by decide) ?_
      exact K10 _ q8
set_option maxHeartbeats 4000000 in
set_option maxRecDepth 100000 in
theorem qX0_aboveFloor (l : Launch) (D : va_G) (yy : Nat → ClassId) (B : Nat → Nat) (F : jF) (G : jG) (k0 : Nat)  (hok : okX0_aboveFloor F G k0 ) : Met l yX0_aboveFloor (Cond.code yX0_aboveFloor cX0_aboveFloor 1 (some .long) :: wsL_law) rmX0_aboveFloor (va_Pc [.ref (B (100 + k0))] (jR D yy (lW yy B F G))) (vp_Sl (fun r => r = gX0_aboveFloor F G k0 )) 0 0 (fun _ => False) := by
  generalize hres : gX0_aboveFloor F G k0  = RES
  refine jM (vs := [.ref (B (100 + k0))]) (own := RX0) (by decide +kernel) rfl (Nat.le_of_ble_eq_true rfl) ?_
  intro p e s m args below meth c ls Q hQ hargs S hr hlk hinit hB hl
  obtain ⟨hx, hb, hml, hown, hts⟩ := S
  have hl : lv_has ls 1 [(0, .ref (B (100 + k0)))] := hl
  obtain ⟨hP, hK⟩ := hB
  unfold gX0_aboveFloor at hres
  unfold okX0_aboveFloor at hok
  refine lv_aload_n hx hb (dd_of dX0_aboveFloor_0 0 rfl) rfl (lv_at hl 0 rfl) ?_
  have h1 := hok.1
  replace hok := hok.2
  have h2 := hok.1
  replace hok := hok.2
  obtain ⟨q9, hq9⟩ := lWg_basin (yy := yy) (B := B) (F := F) (G := G) h1
  refine jc_l (As := []) (rest := []) (w := (lW yy B F G)) (D := D) (yy := yy) ⟨hx, hb, hml, hown, hts⟩ (qX0_height l D yy B F G k0  h2) (cwV 0 hts (jgV gw514 gw364 gw365 gw215 gw366) rfl rfl rfl (by decide +kernel) ⟨Nat.le_of_ble_eq_true rfl, Nat.le_of_ble_eq_true rfl⟩) hP hK (va_recv hK hP (ci := 0) (q0 := q9) rfl hq9) rfl hl.1 rfl (Nat.le_of_ble_eq_true rfl) (dd_of dX0_aboveFloor_0 1 rfl) ⟨Nat.zero_le _, Nat.zero_le _⟩ (fun x3 ex3 => ?_)
  replace hres := bvE ex3 hres
  replace hok := bvO ex3 hok
  refine lv_ldc2 (v := 100) hx hb hown (jw hts gw367) (dd_of dX0_aboveFloor_0 2 rfl) ?_
  refine lv_aload_n hx hb (dd_of dX0_aboveFloor_0 3 rfl) rfl (lv_at hl 0 rfl) ?_
  have h4 := hok.1
  replace hok := hok.2
  obtain ⟨q9, hq9⟩ := lWg_basin (yy := yy) (B := B) (F := F) (G := G) h4
  refine va_get (D := D) (cl := vwCl) (tys := jT yy) (ci := 0) (v := .int (F 10 k0)) (C := RX0) (T := TX0) (N := 7) hx hb hts (fun w h => List.mem_cons_of_mem _ (inlX0 w h)) hown hK hP q9 hq9 rfl 1 (by decide) (jw hts gw222) (fun _ h9 => h9) rfl (dd_of dX0_aboveFloor_0 4 rfl) ?_
  refine lv_i2l (v := (Int32.toInt64 (F 10 k0))) hx hb (dd_of dX0_aboveFloor_0 5 rfl) rfl ?_
  refine lv_lmul hx hb (dd_of dX0_aboveFloor_0 6 rfl) ?_
  refine lv_lsub hx hb (dd_of dX0_aboveFloor_0 7 rfl) ?_
  refine lv_aload_n hx hb (dd_of dX0_aboveFloor_0 8 rfl) rfl (lv_at hl 0 rfl) ?_
  have h5 := hok
  obtain ⟨q9, hq9⟩ := lWg_basin (yy := yy) (B := B) (F := F) (G := G) h5
  refine va_get (D := D) (cl := vwCl) (tys := jT yy) (ci := 0) (v := .int (F 12 k0)) (C := RX0) (T := TX0) (N := 7) hx hb hts (fun w h => List.mem_cons_of_mem _ (inlX0 w h)) hown hK hP q9 hq9 rfl 4 (by decide) (jw hts gw220) (fun _ h9 => h9) rfl (dd_of dX0_aboveFloor_0 9 rfl) ?_
  refine lv_i2l (v := (Int32.toInt64 (F 12 k0))) hx hb (dd_of dX0_aboveFloor_0 10 rfl) rfl ?_
  refine lv_lsub hx hb (dd_of dX0_aboveFloor_0 11 rfl) ?_
  subst hQ
  exact W.lret (v := ((x3 - (100 * (Int32.toInt64 (F 10 k0)))) - (Int32.toInt64 (F 12 k0)))) hx hb hr (fun t ht _ => ⟨_, rfl, hres, ht⟩) (fun _ h => absurd h List.not_mem_nil) (dd_of dX0_aboveFloor_0 12 rfl) hlk
set_option maxHeartbeats 4000000 in
set_option maxRecDepth 100000 in
theorem qX0_countHarm (l : Launch) (D : va_G) (yy : Nat → ClassId) (B : Nat → Nat) (F : jF) (G : jG) (sz : Nat) (k0 : Nat)  (hok : okX0_countHarm F G k0 ) : Met l yX0_countHarm (Cond.code yX0_countHarm cX0_countHarm 3 none :: wsL_law) rmX0_countHarm (va_Pc [.ref (B (100 + k0))] (jP D yy (lW yy B F G) sz)) (va_Qv (fun u : jS => u = gX0_countHarm F G k0 ) (fun (u : jS) t => jB D yy (va_A (lW yy B F G) sz) (lW yy B u.1 u.2) t) (va_A (lW yy B F G) sz)) 0 0 (va_A (lW yy B F G) sz) := by
  generalize hres : gX0_countHarm F G k0  = RES
  refine jM (vs := [.ref (B (100 + k0))]) (own := RX0) (by decide +kernel) rfl (Nat.le_of_ble_eq_true rfl) ?_
  intro p e s m args below meth c ls Q hQ hargs S hr hlk hinit hB hl
  obtain ⟨hx, hb, hml, hown, hts⟩ := S
  have hl : lv_has ls 3 [(0, .ref (B (100 + k0)))] := hl
  obtain ⟨hsz, hP, hK, hD0⟩ := hB
  subst hsz
  have hD := hD0.self (sz := s.heap.size)
  generalize hZ : va_A (lW yy B F G) s.heap.size = Z at hD hQ
  have hA : ∀ q : Nat, s.heap.size ≤ q → Z q := fun q h => by rw [← hZ]; exact Or.inr h
  obtain ⟨H, hH⟩ : ∃ z, z = s.heap := ⟨_, rfl⟩
  obtain ⟨locs, hlocs⟩ : ∃ z : List Loc, z = [] := ⟨_, rfl⟩
  have hS : va_S Z s.heap H locs := by rw [hH, hlocs]; exact va_S.rf
  rw [← hH] at hP
  suffices hgo : W p l e rmX0_countHarm s m args below meth c H locs 0 0 Q (F0 m 0 ls []) by rw [hH, hlocs] at hgo; exact hgo
  unfold gX0_countHarm at hres
  unfold okX0_countHarm at hok
  refine lv_aload_n hx hb (dd_of dX0_countHarm_0 0 rfl) rfl (lv_at hl 0 rfl) ?_
  have h1 := hok.1
  replace hok := hok.2
  have h2 := hok.1
  replace hok := hok.2
  obtain ⟨q9, hq9⟩ := lWg_basin (yy := yy) (B := B) (F := F) (G := G) h1
  refine jc_l (As := []) (rest := []) (w := (lW yy B F G)) (D := D) (yy := yy) ⟨hx, hb, hml, hown, hts⟩ (qX0_aboveFloor l D yy B F G k0  h2) (cwV 0 hts (jgV gw510 gw511 gw512 gw215 gw513) rfl rfl rfl (by decide +kernel) ⟨Nat.le_of_ble_eq_true rfl, Nat.le_of_ble_eq_true rfl⟩) hP hK (va_recv hK hP (ci := 0) (q0 := q9) rfl hq9) rfl hl.1 rfl (Nat.le_of_ble_eq_true rfl) (dd_of dX0_countHarm_0 1 rfl) ⟨Nat.zero_le _, Nat.zero_le _⟩ (fun x3 ex3 => ?_)
  replace hres := bvE ex3 hres
  replace hok := bvO ex3 hok
  refine lv_lstore_n (lv' := [(1, .long x3), (0, .ref (B (100 + k0)))]) hx hb (dd_of dX0_countHarm_0 2 rfl) rfl hl (by decide) rfl (fun ls hl => ?_)
  refine lv_aload_n hx hb (dd_of dX0_countHarm_0 3 rfl) rfl (lv_at hl 1 rfl) ?_
  have h4 := hok.1
  replace hok := hok.2
  obtain ⟨q9, hq9⟩ := lWg_basin (yy := yy) (B := B) (F := F) (G := G) h4
  refine va_get (D := D) (cl := vwCl) (tys := jT yy) (ci := 0) (v := .int (F 13 k0)) (C := RX0) (T := TX0) (N := 7) hx hb hts (fun w h => List.mem_cons_of_mem _ (inlX0 w h)) hown hK hP q9 hq9 rfl 5 (by decide) (jw hts gw505) (fun _ h9 => h9) rfl (dd_of dX0_countHarm_0 4 rfl) ?_
  refine lv_if_le (tgt := 46) hx hb (dd_of dX0_countHarm_0 5 rfl) (by decide) (fun c5 => ?_) (fun c5 => ?_)
  · replace hres := ifE c5 hres
    subst hQ
    exact W.vret hx hb hr (fun t ht hW => ⟨⟨(F, G), rfl, hres, by rw [ht]; exact hP, va_K.moved hW.alike hK, hD⟩, hS.F ht⟩) hS.2.2 (dd_of dX0_countHarm_0 26 rfl) hlk
  · replace hres := ifN c5 hres
    replace hok := hok.2 c5
    refine lv_lload_n hx hb (dd_of dX0_countHarm_0 6 rfl) rfl (lv_at hl 0 rfl) ?_
    refine lv_lconst (v := 0) hx hb (dd_of dX0_countHarm_0 7 rfl) (by decide) ?_
    refine jl_le (tgt := 46) hx hb (dd_of dX0_countHarm_0 8 rfl) (dd_of dX0_countHarm_0 9 rfl) (by decide) (fun c6 => ?_) (fun c6 => ?_)
    · replace hres := ifE c6 hres
      subst hQ
      exact W.vret hx hb hr (fun t ht hW => ⟨⟨(F, G), rfl, hres, by rw [ht]; exact hP, va_K.moved hW.alike hK, hD⟩, hS.F ht⟩) hS.2.2 (dd_of dX0_countHarm_0 26 rfl) hlk
    · replace hres := ifN c6 hres
      replace hok := hok.2 c6
      refine lv_aload_n hx hb (dd_of dX0_countHarm_0 10 rfl) rfl (lv_at hl 1 rfl) ?_
      refine lv_dup hx hb (dd_of dX0_countHarm_0 11 rfl) rfl ?_
      have h7 := hok.1
      replace hok := hok.2
      obtain ⟨q9, hq9⟩ := lWg_basin (yy := yy) (B := B) (F := F) (G := G) h7
      refine va_get (D := D) (cl := vwCl) (tys := jT yy) (ci := 0) (v := .long (G 15 k0)) (C := RX0) (T := TX0) (N := 7) hx hb hts (fun w h => List.mem_cons_of_mem _ (inlX0 w h)) hown hK hP q9 hq9 rfl 6 (by decide) (jw hts gw506) (fun _ h9 => h9) rfl (dd_of dX0_countHarm_0 12 rfl) ?_
      refine lv_aload_n hx hb (dd_of dX0_countHarm_0 13 rfl) rfl (lv_at hl 1 rfl) ?_
      have h8 := hok.1
      replace hok := hok.2
      obtain ⟨q9, hq9⟩ := lWg_basin (yy := yy) (B := B) (F := F) (G := G) h8
      refine va_get (D := D) (cl := vwCl) (tys := jT yy) (ci := 0) (v := .int (F 13 k0)) (C := RX0) (T := TX0) (N := 7) hx hb hts (fun w h => List.mem_cons_of_mem _ (inlX0 w h)) hown hK hP q9 hq9 rfl 5 (by decide) (jw hts gw505) (fun _ h9 => h9) rfl (dd_of dX0_countHarm_0 14 rfl) ?_
      refine lv_i2l (v := (Int32.toInt64 (F 13 k0))) hx hb (dd_of dX0_countHarm_0 15 rfl) rfl ?_
      refine lv_lload_n hx hb (dd_of dX0_countHarm_0 16 rfl) rfl (lv_at hl 0 rfl) ?_
      refine lv_ldc2 (v := 50) hx hb hown (jw hts gw507) (dd_of dX0_countHarm_0 17 rfl) ?_
      refine lv_ldiv hx hb (dd_of dX0_countHarm_0 18 rfl) (by decide) ?_
      refine lv_ldc2 (v := 9) hx hb hown (jw hts gw508) (dd_of dX0_countHarm_0 19 rfl) ?_
      refine va_mmin_long hx hb (hml.trans hl.1.symm) hown (jw hts gw509) (jw hts gw444) (jw hts gw82) (jw hts gw445) (Nat.le_of_ble_eq_true rfl) (Nat.le_of_ble_eq_true rfl) (Nat.zero_le _) (Nat.zero_le _) (dd_of dX0_countHarm_0 20 rfl) ?_
      refine lv_topl (fun x9 ex9 => ?_)
      replace hres := bvE ex9 hres
      replace hok := bvO ex9 hok
      refine lv_lconst (v := 1) hx hb (dd_of dX0_countHarm_0 21 rfl) (by decide) ?_
      refine lv_ladd hx hb (dd_of dX0_countHarm_0 22 rfl) ?_
      refine lv_lmul hx hb (dd_of dX0_countHarm_0 23 rfl) ?_
      refine lv_ladd hx hb (dd_of dX0_countHarm_0 24 rfl) ?_
      have h10 := hok
      obtain ⟨q9, hq9, hs9⟩ := lWs_basin_harm (yy := yy) (B := B) (F := F) (G := G) (v := ((G 15 k0) + ((Int32.toInt64 (F 13 k0)) * (x9 + 1)))) h10
      refine va_put (D := D) (cl := vwCl) (tys := jT yy) (ci := 0) (v := .long ((G 15 k0) + ((Int32.toInt64 (F 13 k0)) * (x9 + 1)))) (ty := .long) (C := RX0) (T := TX0) (N := 7) hx hb hts (fun w h => List.mem_cons_of_mem _ (inlX0 w h)) tyX0 tyX0_ok nmX0 hown hK hP hD hS q9 hq9 rfl 6 (by decide) (jw hts gw506) (fun _ h9 => h9) rfl (by decide +kernel) rfl rfl (Nat.le_of_ble_eq_true rfl) (dd_of dX0_countHarm_0 25 rfl) (fun H locs hP hD hS => ?_)
      obtain ⟨G11, e12⟩ : ∃ z : jG, z = u2 G 15 k0 ((G 15 k0) + ((Int32.toInt64 (F 13 k0)) * (x9 + 1))) := ⟨_, rfl⟩
      have hP : va_P D vwCl (lW yy B F G11) H := by rw [e12, ← hs9]; exact hP
      have hD : va_D Z (lW yy B F G11) := by rw [e12, ← hs9]; exact hD
      replace hres := bvE e12 hres
      subst hQ
      exact W.vret hx hb hr (fun t ht hW => ⟨⟨(F, G11), rfl, hres, by rw [ht]; exact hP, va_K.moved hW.alike hK, hD⟩, hS.F ht⟩) hS.2.2 (dd_of dX0_countHarm_0 26 rfl) hlk
set_option maxHeartbeats 4000000 in
set_option maxRecDepth 100000 in
theorem qX9_goesAt (l : Launch) (D : va_G) (yy : Nat → ClassId) (B : Nat → Nat) (F : jF) (G : jG) (k0 : Nat) (p1 : Int32) (hok : okX9_goesAt F G k0 p1) : Met l yX9_goesAt (Cond.code yX9_goesAt cX9_goesAt 2 (some .boolean) :: wsL_law) rmX9_goesAt (va_Pc [.ref (B (600 + k0)), .int p1] (jR D yy (lW yy B F G))) (vp_Si (fun r => r = gX9_goesAt F G k0 p1)) 0 0 (fun _ => False) := by
  generalize hres : gX9_goesAt F G k0 p1 = RES
  refine jM (vs := [.ref (B (600 + k0)), .int p1]) (own := RX9) (by decide +kernel) rfl (Nat.le_of_ble_eq_true rfl) ?_
  intro p e s m args below meth c ls Q hQ hargs S hr hlk hinit hB hl
  obtain ⟨hx, hb, hml, hown, hts⟩ := S
  have hl : lv_has ls 2 [(0, .ref (B (600 + k0))), (1, .int p1)] := hl
  obtain ⟨hP, hK⟩ := hB
  unfold gX9_goesAt at hres
  unfold okX9_goesAt at hok
  refine lv_iload_n hx hb (dd_of dX9_goesAt_0 0 rfl) rfl (lv_at hl 1 rfl) ?_
  refine lv_aload_n hx hb (dd_of dX9_goesAt_0 1 rfl) rfl (lv_at hl 0 rfl) ?_
  have h1 := hok.1
  replace hok := hok.2
  obtain ⟨q9, hq9⟩ := lWg_rain (yy := yy) (B := B) (F := F) (G := G) h1
  refine va_get (D := D) (cl := vwCl) (tys := jT yy) (ci := 9) (v := .int (F 46 k0)) (C := RX9) (T := TX9) (N := 4) hx hb hts (fun w h => List.mem_cons_of_mem _ (inlX9 w h)) hown hK hP q9 hq9 rfl 0 (by decide) (jw hts gw89) (fun _ h9 => h9) rfl (dd_of dX9_goesAt_0 2 rfl) ?_
  refine lv_icmp_lt (tgt := 25) hx hb (dd_of dX9_goesAt_0 3 rfl) (by decide) (fun c2 => ?_) (fun c2 => ?_)
  · replace hres := ifE c2 hres
    refine lv_iconst (v := 0) hx hb (dd_of dX9_goesAt_0 13 rfl) (by decide) ?_
    subst hQ
    exact W.zret (ty := .boolean) (v := 0) hx hb hr (jb_nz (Or.inl rfl)) (fun t ht _ => ⟨_, rfl, hres, ht⟩) (fun _ h => absurd h List.not_mem_nil) (dd_of dX9_goesAt_0 14 rfl) hlk
  · replace hres := ifN c2 hres
    replace hok := hok.2 c2
    refine lv_iload_n hx hb (dd_of dX9_goesAt_0 4 rfl) rfl (lv_at hl 1 rfl) ?_
    refine lv_aload_n hx hb (dd_of dX9_goesAt_0 5 rfl) rfl (lv_at hl 0 rfl) ?_
    have h3 := hok.1
    replace hok := hok.2
    obtain ⟨q9, hq9⟩ := lWg_rain (yy := yy) (B := B) (F := F) (G := G) h3
    refine va_get (D := D) (cl := vwCl) (tys := jT yy) (ci := 9) (v := .int (F 46 k0)) (C := RX9) (T := TX9) (N := 4) hx hb hts (fun w h => List.mem_cons_of_mem _ (inlX9 w h)) hown hK hP q9 hq9 rfl 0 (by decide) (jw hts gw89) (fun _ h9 => h9) rfl (dd_of dX9_goesAt_0 6 rfl) ?_
    refine lv_isub hx hb (dd_of dX9_goesAt_0 7 rfl) ?_
    refine lv_aload_n hx hb (dd_of dX9_goesAt_0 8 rfl) rfl (lv_at hl 0 rfl) ?_
    have h4 := hok
    obtain ⟨q9, hq9⟩ := lWg_rain (yy := yy) (B := B) (F := F) (G := G) h4
    refine va_get (D := D) (cl := vwCl) (tys := jT yy) (ci := 9) (v := .int (F 47 k0)) (C := RX9) (T := TX9) (N := 4) hx hb hts (fun w h => List.mem_cons_of_mem _ (inlX9 w h)) hown hK hP q9 hq9 rfl 1 (by decide) (jw hts gw90) (fun _ h9 => h9) rfl (dd_of dX9_goesAt_0 9 rfl) ?_
    refine lv_icmp_ge (tgt := 25) hx hb (dd_of dX9_goesAt_0 10 rfl) (by decide) (fun c5 => ?_) (fun c5 => ?_)
    · replace hres := ifE c5 hres
      refine lv_iconst (v := 0) hx hb (dd_of dX9_goesAt_0 13 rfl) (by decide) ?_
      subst hQ
      exact W.zret (ty := .boolean) (v := 0) hx hb hr (jb_nz (Or.inl rfl)) (fun t ht _ => ⟨_, rfl, hres, ht⟩) (fun _ h => absurd h List.not_mem_nil) (dd_of dX9_goesAt_0 14 rfl) hlk
    · replace hres := ifN c5 hres
      refine lv_iconst (v := 1) hx hb (dd_of dX9_goesAt_0 11 rfl) (by decide) ?_
      refine lv_goto (tgt := 26) hx hb (dd_of dX9_goesAt_0 12 rfl) (by decide) ?_
      subst hQ
      exact W.zret (ty := .boolean) (v := 1) hx hb hr (jb_nz (Or.inr rfl)) (fun t ht _ => ⟨_, rfl, hres, ht⟩) (fun _ h => absurd h List.not_mem_nil) (dd_of dX9_goesAt_0 14 rfl) hlk
set_option maxHeartbeats 4000000 in
set_option maxRecDepth 100000 in
theorem qX9_surgeAt (l : Launch) (D : va_G) (yy : Nat → ClassId) (B : Nat → Nat) (F : jF) (G : jG) (k0 : Nat) (p1 : Int32) (hok : okX9_surgeAt F G k0 p1) : Met l yX9_surgeAt (Cond.code yX9_surgeAt cX9_surgeAt 4 (some .long) :: wsL_law) rmX9_surgeAt (va_Pc [.ref (B (500 + k0)), .int p1] (jR D yy (lW yy B F G))) (vp_Sl (fun r => r = gX9_surgeAt F G k0 p1)) 0 0 (fun _ => False) := by
  generalize hres : gX9_surgeAt F G k0 p1 = RES
  refine jM (vs := [.ref (B (500 + k0)), .int p1]) (own := RX9) (by decide +kernel) rfl (Nat.le_of_ble_eq_true rfl) ?_
  intro p e s m args below meth c ls Q hQ hargs S hr hlk hinit hB hl
  obtain ⟨hx, hb, hml, hown, hts⟩ := S
  have hl : lv_has ls 4 [(0, .ref (B (500 + k0))), (1, .int p1)] := hl
  obtain ⟨hP, hK⟩ := hB
  unfold gX9_surgeAt at hres
  unfold okX9_surgeAt at hok
  refine lv_iload_n hx hb (dd_of dX9_surgeAt_0 0 rfl) rfl (lv_at hl 1 rfl) ?_
  refine lv_aload_n hx hb (dd_of dX9_surgeAt_0 1 rfl) rfl (lv_at hl 0 rfl) ?_
  have h1 := hok.1
  replace hok := hok.2
  obtain ⟨q9, hq9⟩ := lWg_storm (yy := yy) (B := B) (F := F) (G := G) h1
  refine va_get (D := D) (cl := vwCl) (tys := jT yy) (ci := 9) (v := .int (F 41 k0)) (C := RX9) (T := TX9) (N := 4) hx hb hts (fun w h => List.mem_cons_of_mem _ (inlX9 w h)) hown hK hP q9 hq9 rfl 0 (by decide) (jw hts gw89) (fun _ h9 => h9) rfl (dd_of dX9_surgeAt_0 2 rfl) ?_
  refine lv_isub hx hb (dd_of dX9_surgeAt_0 3 rfl) ?_
  refine lv_topi (fun x2 ex2 => ?_)
  replace hres := bvE ex2 hres
  replace hok := bvO ex2 hok
  refine lv_istore_n (lv' := [(2, .int x2), (0, .ref (B (500 + k0))), (1, .int p1)]) hx hb (dd_of dX9_surgeAt_0 4 rfl) rfl hl (by decide) rfl (fun ls hl => ?_)
  refine lv_aload_n hx hb (dd_of dX9_surgeAt_0 5 rfl) rfl (lv_at hl 1 rfl) ?_
  have h3 := hok.1
  replace hok := hok.2
  obtain ⟨q9, hq9⟩ := lWg_storm (yy := yy) (B := B) (F := F) (G := G) h3
  refine va_get (D := D) (cl := vwCl) (tys := jT yy) (ci := 9) (v := .int (F 42 k0)) (C := RX9) (T := TX9) (N := 4) hx hb hts (fun w h => List.mem_cons_of_mem _ (inlX9 w h)) hown hK hP q9 hq9 rfl 1 (by decide) (jw hts gw90) (fun _ h9 => h9) rfl (dd_of dX9_surgeAt_0 6 rfl) ?_
  refine lv_iload_n hx hb (dd_of dX9_surgeAt_0 7 rfl) rfl (lv_at hl 0 rfl) ?_
  refine lv_isub hx hb (dd_of dX9_surgeAt_0 8 rfl) ?_
  refine lv_topi (fun x4 ex4 => ?_)
  replace hres := bvE ex4 hres
  replace hok := bvO ex4 hok
  refine lv_istore_n (lv' := [(3, .int x4), (2, .int x2), (0, .ref (B (500 + k0))), (1, .int p1)]) hx hb (dd_of dX9_surgeAt_0 9 rfl) rfl hl (by decide) rfl (fun ls hl => ?_)
  refine lv_iload_n hx hb (dd_of dX9_surgeAt_0 10 rfl) rfl (lv_at hl 1 rfl) ?_
  refine lv_if_lt (tgt := 29) hx hb (dd_of dX9_surgeAt_0 11 rfl) (by decide) (fun c5 => ?_) (fun c5 => ?_)
  · replace hres := ifE c5 hres
    refine lv_lconst (v := 0) hx hb (dd_of dX9_surgeAt_0 17 rfl) (by decide) ?_
    subst hQ
    exact W.lret (v := 0) hx hb hr (fun t ht _ => ⟨_, rfl, hres, ht⟩) (fun _ h => absurd h List.not_mem_nil) (dd_of dX9_surgeAt_0 18 rfl) hlk
  · replace hres := ifN c5 hres
    replace hok := hok.2 c5
    refine lv_iload_n hx hb (dd_of dX9_surgeAt_0 12 rfl) rfl (lv_at hl 0 rfl) ?_
    refine lv_if_le (tgt := 29) hx hb (dd_of dX9_surgeAt_0 13 rfl) (by decide) (fun c6 => ?_) (fun c6 => ?_)
    · replace hres := ifE c6 hres
      refine lv_lconst (v := 0) hx hb (dd_of dX9_surgeAt_0 17 rfl) (by decide) ?_
      subst hQ
      exact W.lret (v := 0) hx hb hr (fun t ht _ => ⟨_, rfl, hres, ht⟩) (fun _ h => absurd h List.not_mem_nil) (dd_of dX9_surgeAt_0 18 rfl) hlk
    · replace hres := ifN c6 hres
      replace hok := hok.2 c6
      refine lv_aload_n hx hb (dd_of dX9_surgeAt_0 14 rfl) rfl (lv_at hl 2 rfl) ?_
      have h7 := hok.1
      replace hok := hok.2
      obtain ⟨q9, hq9⟩ := lWg_storm (yy := yy) (B := B) (F := F) (G := G) h7
      refine va_get (D := D) (cl := vwCl) (tys := jT yy) (ci := 9) (v := .int (F 42 k0)) (C := RX9) (T := TX9) (N := 4) hx hb hts (fun w h => List.mem_cons_of_mem _ (inlX9 w h)) hown hK hP q9 hq9 rfl 1 (by decide) (jw hts gw90) (fun _ h9 => h9) rfl (dd_of dX9_surgeAt_0 15 rfl) ?_
      refine lv_if_ge (tgt := 31) hx hb (dd_of dX9_surgeAt_0 16 rfl) (by decide) (fun c8 => ?_) (fun c8 => ?_)
      · replace hres := ifE c8 hres
        replace hok := hok.1 c8
        refine lv_ldc2 (v := 100) hx hb hown (jw hts gw91) (dd_of dX9_surgeAt_0 19 rfl) ?_
        refine lv_aload_n hx hb (dd_of dX9_surgeAt_0 20 rfl) rfl (lv_at hl 2 rfl) ?_
        have h9 := hok.1
        replace hok := hok.2
        obtain ⟨q9, hq9⟩ := lWg_storm (yy := yy) (B := B) (F := F) (G := G) h9
        refine va_get (D := D) (cl := vwCl) (tys := jT yy) (ci := 9) (v := .int (F 43 k0)) (C := RX9) (T := TX9) (N := 4) hx hb hts (fun w h => List.mem_cons_of_mem _ (inlX9 w h)) hown hK hP q9 hq9 rfl 2 (by decide) (jw hts gw92) (fun _ h9 => h9) rfl (dd_of dX9_surgeAt_0 21 rfl) ?_
        refine lv_i2l (v := (Int32.toInt64 (F 43 k0))) hx hb (dd_of dX9_surgeAt_0 22 rfl) rfl ?_
        refine lv_lmul hx hb (dd_of dX9_surgeAt_0 23 rfl) ?_
        refine lv_iload_n hx hb (dd_of dX9_surgeAt_0 24 rfl) rfl (lv_at hl 1 rfl) ?_
        refine lv_iconst (v := 1) hx hb (dd_of dX9_surgeAt_0 25 rfl) (by decide) ?_
        refine lv_iadd hx hb (dd_of dX9_surgeAt_0 26 rfl) ?_
        refine lv_iload_n hx hb (dd_of dX9_surgeAt_0 27 rfl) rfl (lv_at hl 0 rfl) ?_
        refine va_mmin hx hb (hml.trans hl.1.symm) hown (jw hts gw93) (jw hts gw94) (jw hts gw82) (jw hts gw95) (Nat.le_of_ble_eq_true rfl) (Nat.le_of_ble_eq_true rfl) (Nat.zero_le _) (Nat.zero_le _) (dd_of dX9_surgeAt_0 28 rfl) ?_
        refine lv_topi (fun x10 ex10 => ?_)
        replace hres := bvE ex10 hres
        replace hok := bvO ex10 hok
        refine lv_i2l (v := (Int32.toInt64 x10)) hx hb (dd_of dX9_surgeAt_0 29 rfl) rfl ?_
        refine lv_lmul hx hb (dd_of dX9_surgeAt_0 30 rfl) ?_
        refine lv_ldc2 (v := 2) hx hb hown (jw hts gw96) (dd_of dX9_surgeAt_0 31 rfl) ?_
        refine lv_lmul hx hb (dd_of dX9_surgeAt_0 32 rfl) ?_
        refine lv_aload_n hx hb (dd_of dX9_surgeAt_0 33 rfl) rfl (lv_at hl 2 rfl) ?_
        have h11 := hok.1
        replace hok := hok.2
        obtain ⟨q9, hq9⟩ := lWg_storm (yy := yy) (B := B) (F := F) (G := G) h11
        refine va_get (D := D) (cl := vwCl) (tys := jT yy) (ci := 9) (v := .int (F 42 k0)) (C := RX9) (T := TX9) (N := 4) hx hb hts (fun w h => List.mem_cons_of_mem _ (inlX9 w h)) hown hK hP q9 hq9 rfl 1 (by decide) (jw hts gw90) (fun _ h9 => h9) rfl (dd_of dX9_surgeAt_0 34 rfl) ?_
        refine lv_iconst (v := 1) hx hb (dd_of dX9_surgeAt_0 35 rfl) (by decide) ?_
        refine lv_iadd hx hb (dd_of dX9_surgeAt_0 36 rfl) ?_
        refine lv_i2l (v := (Int32.toInt64 ((F 42 k0) + 1))) hx hb (dd_of dX9_surgeAt_0 37 rfl) rfl ?_
        have h12 := hok
        refine lv_ldiv hx hb (dd_of dX9_surgeAt_0 38 rfl) h12 ?_
        subst hQ
        exact W.lret (v := ((((100 * (Int32.toInt64 (F 43 k0))) * (Int32.toInt64 x10)) * 2) / (Int32.toInt64 ((F 42 k0) + 1)))) hx hb hr (fun t ht _ => ⟨_, rfl, hres, ht⟩) (fun _ h => absurd h List.not_mem_nil) (dd_of dX9_surgeAt_0 39 rfl) hlk
      · replace hres := ifN c8 hres
        refine lv_lconst (v := 0) hx hb (dd_of dX9_surgeAt_0 17 rfl) (by decide) ?_
        subst hQ
        exact W.lret (v := 0) hx hb hr (fun t ht _ => ⟨_, rfl, hres, ht⟩) (fun _ h => absurd h List.not_mem_nil) (dd_of dX9_surgeAt_0 18 rfl) hlk
set_option maxHeartbeats 4000000 in
set_option maxRecDepth 100000 in
theorem qX6_lay (l : Launch) (D : va_G) (yy : Nat → ClassId) (B : Nat → Nat) (F : jF) (G : jG) (sz : Nat) (p1 : Int32) (p2 : Int32) (p3 : Int32) : Met l yX6_lay (Cond.code yX6_lay cX6_lay 4 none :: wsL_law) rmX6_lay (va_Pc [.ref (B 9), .int p1, .int p2, .int p3] (jP D yy (lW yy B F G) sz)) (va_Qv (fun u : jS => u = gX6_lay F G p1 p2 p3) (fun (u : jS) t => jB D yy (va_A (lW yy B F G) sz) (lW yy B u.1 u.2) t) (va_A (lW yy B F G) sz)) 0 0 (va_A (lW yy B F G) sz) := by
  generalize hres : gX6_lay F G p1 p2 p3 = RES
  refine jM (vs := [.ref (B 9), .int p1, .int p2, .int p3]) (own := RX6) (by decide +kernel) rfl (Nat.le_of_ble_eq_true rfl) ?_
  intro p e s m args below meth c ls Q hQ hargs S hr hlk hinit hB hl
  obtain ⟨hx, hb, hml, hown, hts⟩ := S
  have hl : lv_has ls 4 [(0, .ref (B 9)), (1, .int p1), (2, .int p2), (3, .int p3)] := hl
  obtain ⟨hsz, hP, hK, hD0⟩ := hB
  subst hsz
  have hD := hD0.self (sz := s.heap.size)
  generalize hZ : va_A (lW yy B F G) s.heap.size = Z at hD hQ
  have hA : ∀ q : Nat, s.heap.size ≤ q → Z q := fun q h => by rw [← hZ]; exact Or.inr h
  obtain ⟨H, hH⟩ : ∃ z, z = s.heap := ⟨_, rfl⟩
  obtain ⟨locs, hlocs⟩ : ∃ z : List Loc, z = [] := ⟨_, rfl⟩
  have hS : va_S Z s.heap H locs := by rw [hH, hlocs]; exact va_S.rf
  rw [← hH] at hP
  suffices hgo : W p l e rmX6_lay s m args below meth c H locs 0 0 Q (F0 m 0 ls []) by rw [hH, hlocs] at hgo; exact hgo
  unfold gX6_lay at hres
  refine lv_aload_n hx hb (dd_of dX6_lay_0 0 rfl) rfl (lv_at hl 0 rfl) ?_
  refine lv_iload_n hx hb (dd_of dX6_lay_0 1 rfl) rfl (lv_at hl 1 rfl) ?_
  refine va_put (D := D) (cl := vwCl) (tys := jT yy) (ci := 6) (v := .int p1) (ty := .int) (C := RX6) (T := TX6) (N := 6) hx hb hts (fun w h => List.mem_cons_of_mem _ (inlX6 w h)) tyX6 tyX6_ok nmX6 hown hK hP hD hS 4 rfl rfl 0 (by decide) (jw hts gw71) (fun _ h9 => h9) rfl (by decide +kernel) rfl rfl (Nat.le_of_ble_eq_true rfl) (dd_of dX6_lay_0 2 rfl) (fun H locs hP hD hS => ?_)
  obtain ⟨F1, e2⟩ : ∃ z : jF, z = u2 F 5 0 p1 := ⟨_, rfl⟩
  have hP : va_P D vwCl (lW yy B F1 G) H := by rw [e2]; exact hP
  have hD : va_D Z (lW yy B F1 G) := by rw [e2]; exact hD
  replace hres := bvE e2 hres
  refine lv_aload_n hx hb (dd_of dX6_lay_0 3 rfl) rfl (lv_at hl 0 rfl) ?_
  refine lv_iload_n hx hb (dd_of dX6_lay_0 4 rfl) rfl (lv_at hl 2 rfl) ?_
  refine va_put (D := D) (cl := vwCl) (tys := jT yy) (ci := 6) (v := .int p2) (ty := .int) (C := RX6) (T := TX6) (N := 6) hx hb hts (fun w h => List.mem_cons_of_mem _ (inlX6 w h)) tyX6 tyX6_ok nmX6 hown hK hP hD hS 4 rfl rfl 1 (by decide) (jw hts gw62) (fun _ h9 => h9) rfl (by decide +kernel) rfl rfl (Nat.le_of_ble_eq_true rfl) (dd_of dX6_lay_0 5 rfl) (fun H locs hP hD hS => ?_)
  obtain ⟨F3, e4⟩ : ∃ z : jF, z = u2 F1 6 0 p2 := ⟨_, rfl⟩
  have hP : va_P D vwCl (lW yy B F3 G) H := by rw [e4]; exact hP
  have hD : va_D Z (lW yy B F3 G) := by rw [e4]; exact hD
  replace hres := bvE e4 hres
  refine lv_aload_n hx hb (dd_of dX6_lay_0 6 rfl) rfl (lv_at hl 0 rfl) ?_
  refine lv_iload_n hx hb (dd_of dX6_lay_0 7 rfl) rfl (lv_at hl 3 rfl) ?_
  refine va_put (D := D) (cl := vwCl) (tys := jT yy) (ci := 6) (v := .int p3) (ty := .int) (C := RX6) (T := TX6) (N := 6) hx hb hts (fun w h => List.mem_cons_of_mem _ (inlX6 w h)) tyX6 tyX6_ok nmX6 hown hK hP hD hS 4 rfl rfl 2 (by decide) (jw hts gw311) (fun _ h9 => h9) rfl (by decide +kernel) rfl rfl (Nat.le_of_ble_eq_true rfl) (dd_of dX6_lay_0 8 rfl) (fun H locs hP hD hS => ?_)
  obtain ⟨F5, e6⟩ : ∃ z : jF, z = u2 F3 7 0 p3 := ⟨_, rfl⟩
  have hP : va_P D vwCl (lW yy B F5 G) H := by rw [e6]; exact hP
  have hD : va_D Z (lW yy B F5 G) := by rw [e6]; exact hD
  replace hres := bvE e6 hres
  subst hQ
  exact W.vret hx hb hr (fun t ht hW => ⟨⟨(F5, G), rfl, hres, by rw [ht]; exact hP, va_K.moved hW.alike hK, hD⟩, hS.F ht⟩) hS.2.2 (dd_of dX6_lay_0 9 rfl) hlk
set_option maxHeartbeats 4000000 in
set_option maxRecDepth 100000 in
theorem qX6_sow (l : Launch) (D : va_G) (yy : Nat → ClassId) (B : Nat → Nat) (F : jF) (G : jG) (sz : Nat) (p1 : Int32) : Met l yX6_sow (Cond.code yX6_sow cX6_sow 3 (some .int) :: wsL_law) rmX6_sow (va_Pc [.ref (B 9), .int p1] (jP D yy (lW yy B F G) sz)) (va_Qi (fun r (u : jS) => (r, u) = gX6_sow F G p1) (fun (u : jS) t => jB D yy (va_A (lW yy B F G) sz) (lW yy B u.1 u.2) t) (va_A (lW yy B F G) sz)) 0 0 (va_A (lW yy B F G) sz) := by
  generalize hres : gX6_sow F G p1 = RES
  refine jM (vs := [.ref (B 9), .int p1]) (own := RX6) (by decide +kernel) rfl (Nat.le_of_ble_eq_true rfl) ?_
  intro p e s m args below meth c ls Q hQ hargs S hr hlk hinit hB hl
  obtain ⟨hx, hb, hml, hown, hts⟩ := S
  have hl : lv_has ls 3 [(0, .ref (B 9)), (1, .int p1)] := hl
  obtain ⟨hsz, hP, hK, hD0⟩ := hB
  subst hsz
  have hD := hD0.self (sz := s.heap.size)
  generalize hZ : va_A (lW yy B F G) s.heap.size = Z at hD hQ
  have hA : ∀ q : Nat, s.heap.size ≤ q → Z q := fun q h => by rw [← hZ]; exact Or.inr h
  obtain ⟨H, hH⟩ : ∃ z, z = s.heap := ⟨_, rfl⟩
  obtain ⟨locs, hlocs⟩ : ∃ z : List Loc, z = [] := ⟨_, rfl⟩
  have hS : va_S Z s.heap H locs := by rw [hH, hlocs]; exact va_S.rf
  rw [← hH] at hP
  suffices hgo : W p l e rmX6_sow s m args below meth c H locs 0 0 Q (F0 m 0 ls []) by rw [hH, hlocs] at hgo; exact hgo
  unfold gX6_sow at hres
  refine lv_aload_n hx hb (dd_of dX6_sow_0 0 rfl) rfl (lv_at hl 0 rfl) ?_
  refine va_get (D := D) (cl := vwCl) (tys := jT yy) (ci := 6) (v := .int (F 4 0)) (C := RX6) (T := TX6) (N := 6) hx hb hts (fun w h => List.mem_cons_of_mem _ (inlX6 w h)) hown hK hP 4 rfl rfl 3 (by decide) (jw hts gw63) (fun _ h9 => h9) rfl (dd_of dX6_sow_0 1 rfl) ?_
  refine lv_topi (fun x1 ex1 => ?_)
  replace hres := bvE ex1 hres
  refine lv_istore_n (lv' := [(2, .int x1), (0, .ref (B 9)), (1, .int p1)]) hx hb (dd_of dX6_sow_0 2 rfl) rfl hl (by decide) rfl (fun ls hl => ?_)
  refine lv_aload_n hx hb (dd_of dX6_sow_0 3 rfl) rfl (lv_at hl 1 rfl) ?_
  refine lv_iload_n hx hb (dd_of dX6_sow_0 4 rfl) rfl (lv_at hl 2 rfl) ?_
  refine va_put (D := D) (cl := vwCl) (tys := jT yy) (ci := 6) (v := .int p1) (ty := .int) (C := RX6) (T := TX6) (N := 6) hx hb hts (fun w h => List.mem_cons_of_mem _ (inlX6 w h)) tyX6 tyX6_ok nmX6 hown hK hP hD hS 4 rfl rfl 3 (by decide) (jw hts gw63) (fun _ h9 => h9) rfl (by decide +kernel) rfl rfl (Nat.le_of_ble_eq_true rfl) (dd_of dX6_sow_0 5 rfl) (fun H locs hP hD hS => ?_)
  obtain ⟨F2, e3⟩ : ∃ z : jF, z = u2 F 4 0 p1 := ⟨_, rfl⟩
  have hP : va_P D vwCl (lW yy B F2 G) H := by rw [e3]; exact hP
  have hD : va_D Z (lW yy B F2 G) := by rw [e3]; exact hD
  replace hres := bvE e3 hres
  refine lv_iload_n hx hb (dd_of dX6_sow_0 6 rfl) rfl (lv_at hl 0 rfl) ?_
  subst hQ
  exact W.iret (v := x1) hx hb hr (fun t ht hW => ⟨⟨x1, (F2, G), rfl, hres, by rw [ht]; exact hP, va_K.moved hW.alike hK, hD⟩, hS.F ht⟩) hS.2.2 (dd_of dX6_sow_0 7 rfl) hlk
set_option maxHeartbeats 4000000 in
set_option maxRecDepth 100000 in
theorem qX6_tideAt (l : Launch) (D : va_G) (yy : Nat → ClassId) (B : Nat → Nat) (F : jF) (G : jG) (p1 : Int32) : Met l yX6_tideAt (Cond.code yX6_tideAt cX6_tideAt 4 (some .int) :: wsL_law) rmX6_tideAt (va_Pc [.ref (B 9), .int p1] (jR D yy (lW yy B F G))) (vp_Si (fun r => r = gX6_tideAt F G p1)) 0 0 (fun _ => False) := by
  generalize hres : gX6_tideAt F G p1 = RES
  refine jM (vs := [.ref (B 9), .int p1]) (own := RX6) (by decide +kernel) rfl (Nat.le_of_ble_eq_true rfl) ?_
  intro p e s m args below meth c ls Q hQ hargs S hr hlk hinit hB hl
  obtain ⟨hx, hb, hml, hown, hts⟩ := S
  have hl : lv_has ls 4 [(0, .ref (B 9)), (1, .int p1)] := hl
  obtain ⟨hP, hK⟩ := hB
  unfold gX6_tideAt at hres
  refine lv_iload_n hx hb (dd_of dX6_tideAt_0 0 rfl) rfl (lv_at hl 1 rfl) ?_
  refine lv_bipush (v := 12) hx hb (dd_of dX6_tideAt_0 1 rfl) (by decide) ?_
  refine lv_irem hx hb (dd_of dX6_tideAt_0 2 rfl) (by decide) ?_
  refine lv_topi (fun x1 ex1 => ?_)
  replace hres := bvE ex1 hres
  refine lv_istore_n (lv' := [(2, .int x1), (0, .ref (B 9)), (1, .int p1)]) hx hb (dd_of dX6_tideAt_0 3 rfl) rfl hl (by decide) rfl (fun ls hl => ?_)
  refine lv_iload_n hx hb (dd_of dX6_tideAt_0 4 rfl) rfl (lv_at hl 0 rfl) ?_
  refine lv_bipush (v := 6) hx hb (dd_of dX6_tideAt_0 5 rfl) (by decide) ?_
  obtain ⟨z5, q4⟩ : ∃ z : Int32, (if 6 < x1 then (12 - x1) else x1) = z := ⟨_, rfl⟩
  refine jn_i (ls := ls) (v := z5) 19 [] (fun v3 ev3 => ?_) (fun K6 => ?_)
  · replace hres := bvE (ev3.trans q4.symm) hres
    refine lv_istore_n (lv' := [(3, .int v3), (2, .int x1), (0, .ref (B 9)), (1, .int p1)]) hx hb (dd_of dX6_tideAt_0 12 rfl) rfl hl (by decide) rfl (fun ls hl => ?_)
    refine lv_aload_n hx hb (dd_of dX6_tideAt_0 13 rfl) rfl (lv_at hl 2 rfl) ?_
    refine va_get (D := D) (cl := vwCl) (tys := jT yy) (ci := 6) (v := .int (F 6 0)) (C := RX6) (T := TX6) (N := 6) hx hb hts (fun w h => List.mem_cons_of_mem _ (inlX6 w h)) hown hK hP 4 rfl rfl 1 (by decide) (jw hts gw62) (fun _ h9 => h9) rfl (dd_of dX6_tideAt_0 14 rfl) ?_
    refine lv_iload_n hx hb (dd_of dX6_tideAt_0 15 rfl) rfl (lv_at hl 0 rfl) ?_
    refine lv_imul hx hb (dd_of dX6_tideAt_0 16 rfl) ?_
    refine lv_bipush (v := 6) hx hb (dd_of dX6_tideAt_0 17 rfl) (by decide) ?_
    refine lv_idiv hx hb (dd_of dX6_tideAt_0 18 rfl) (by decide) ?_
    refine lv_aload_n hx hb (dd_of dX6_tideAt_0 19 rfl) rfl (lv_at hl 2 rfl) ?_
    refine va_get (D := D) (cl := vwCl) (tys := jT yy) (ci := 6) (v := .int (F 6 0)) (C := RX6) (T := TX6) (N := 6) hx hb hts (fun w h => List.mem_cons_of_mem _ (inlX6 w h)) hown hK hP 4 rfl rfl 1 (by decide) (jw hts gw62) (fun _ h9 => h9) rfl (dd_of dX6_tideAt_0 20 rfl) ?_
    refine lv_iconst (v := 2) hx hb (dd_of dX6_tideAt_0 21 rfl) (by decide) ?_
    refine lv_idiv hx hb (dd_of dX6_tideAt_0 22 rfl) (by decide) ?_
    refine lv_isub hx hb (dd_of dX6_tideAt_0 23 rfl) ?_
    subst hQ
    exact W.iret (v := ((((F 6 0) * v3) / 6) - ((F 6 0) / 2))) hx hb hr (fun t ht _ => ⟨_, rfl, hres, ht⟩) (fun _ h => absurd h List.not_mem_nil) (dd_of dX6_tideAt_0 24 rfl) hlk
  · skip
    refine lv_icmp_gt (tgt := 15) hx hb (dd_of dX6_tideAt_0 6 rfl) (by decide) (fun c2 => ?_) (fun c2 => ?_)
    · replace q4 := ifE c2 q4
      refine lv_bipush (v := 12) hx hb (dd_of dX6_tideAt_0 9 rfl) (by decide) ?_
      refine lv_iload_n hx hb (dd_of dX6_tideAt_0 10 rfl) rfl (lv_at hl 0 rfl) ?_
      refine lv_isub hx hb (dd_of dX6_tideAt_0 11 rfl) ?_
      exact K6 _ q4
    · replace q4 := ifN c2 q4
      refine lv_iload_n hx hb (dd_of dX6_tideAt_0 7 rfl) rfl (lv_at hl 0 rfl) ?_
      refine lv_goto (tgt := 19) hx hb (dd_of dX6_tideAt_0 8 rfl) (by decide) ?_
      exact K6 _ q4
set_option maxHeartbeats 4000000 in
set_option maxRecDepth 100000 in
theorem qX6_greatestSurge (l : Launch) (D : va_G) (yy : Nat → ClassId) (B : Nat → Nat) (F : jF) (G : jG) (p1 : Int32) (hok : okX6_greatestSurge F G p1) : Met l yX6_greatestSurge (Cond.code yX6_greatestSurge cX6_greatestSurge 5 (some .long) :: wsL_law) rmX6_greatestSurge (va_Pc [.ref (B 9), .int p1] (jR D yy (lW yy B F G))) (vp_Sl (fun r => r = gX6_greatestSurge F G p1)) 0 0 (fun _ => False) := by
  generalize hres : gX6_greatestSurge F G p1 = RES
  refine jM (vs := [.ref (B 9), .int p1]) (own := RX6) (by decide +kernel) rfl (Nat.le_of_ble_eq_true rfl) ?_
  intro p e s m args below meth c ls Q hQ hargs S hr hlk hinit hB hl
  obtain ⟨hx, hb, hml, hown, hts⟩ := S
  have hl : lv_has ls 5 [(0, .ref (B 9)), (1, .int p1)] := hl
  obtain ⟨hP, hK⟩ := hB
  unfold gX6_greatestSurge at hres
  unfold okX6_greatestSurge at hok
  refine lv_lconst (v := 0) hx hb (dd_of dX6_greatestSurge_0 0 rfl) (by decide) ?_
  refine lv_lstore_n (lv' := [(2, .long 0), (0, .ref (B 9)), (1, .int p1)]) hx hb (dd_of dX6_greatestSurge_0 1 rfl) rfl hl (by decide) rfl (fun ls hl => ?_)
  refine lv_iconst (v := 0) hx hb (dd_of dX6_greatestSurge_0 2 rfl) (by decide) ?_
  refine lv_istore (lv' := [(4, .int 0), (2, .long 0), (0, .ref (B 9)), (1, .int p1)]) hx hb (dd_of dX6_greatestSurge_0 3 rfl) hl (by decide) rfl (fun ls hl => ?_)
  have LP5 : ∀ (f1 : Int32), ∀ (K : Int32 → Int64 → Int64) (okK : Int32 → Int64 → Prop) (n : Nat), ∀ (v4 : Int32) (v2 : Int64), ∀ (ls : Array Slot), lv_has ls 5 [(4, .int v4), (2, .long v2), (0, .ref (B 9)), (1, .int f1)] → okX6_greatestSurge_L5 F G f1 okK n v4 v2 → gX6_greatestSurge_L5 F G f1 K n v4 v2 = RES → (∀ (v4 : Int32) (v2 : Int64), ∀ (ls : Array Slot), lv_has ls 5 [(4, .int v4), (2, .long v2), (0, .ref (B 9)), (1, .int f1)] → okK v4 v2 → K v4 v2 = RES → W p l e rmX6_greatestSurge s m args below meth c s.heap [] 0 0 Q (F0 m 47 ls [])) → W p l e rmX6_greatestSurge s m args below meth c s.heap [] 0 0 Q (F0 m 5 ls []) := by
    intro f1 K okK n
    induction n with
    | zero =>
      intro v4 v2 ls hl hok _ _
      exact absurd hok (by unfold okX6_greatestSurge_L5; exact id)
    | succ n9 ih =>
      intro v4 v2 ls hl hok hres hexit
      unfold gX6_greatestSurge_L5 at hres
      unfold okX6_greatestSurge_L5 at hok
      refine lv_iload hx hb (dd_of dX6_greatestSurge_0 4 rfl) (lv_at hl 0 rfl) ?_
      refine lv_aload_n hx hb (dd_of dX6_greatestSurge_0 5 rfl) rfl (lv_at hl 2 rfl) ?_
      refine va_get (D := D) (cl := vwCl) (tys := jT yy) (ci := 6) (v := .ref (B 19)) (C := RX6) (T := TX6) (N := 6) hx hb hts (fun w h => List.mem_cons_of_mem _ (inlX6 w h)) hown hK hP 4 rfl rfl 4 (by decide) (jw hts gw65) (fun _ h9 => h9) rfl (dd_of dX6_greatestSurge_0 6 rfl) ?_
      refine va_alen (v := 12) hx hb hK hP 19 8 rfl rfl rfl (dd_of dX6_greatestSurge_0 7 rfl) ?_
      refine lv_icmp_ge (tgt := 47) hx hb (dd_of dX6_greatestSurge_0 8 rfl) (by decide) (fun c1 => ?_) (fun c1 => ?_)
      · replace hres := ifE c1 hres
        replace hok := hok.1 c1
        exact hexit v4 v2 ls (lv_sub hl [0, 1, 2, 3] rfl) hok hres
      · replace hres := ifN c1 hres
        replace hok := hok.2 c1
        refine lv_aload_n hx hb (dd_of dX6_greatestSurge_0 9 rfl) rfl (lv_at hl 2 rfl) ?_
        refine va_get (D := D) (cl := vwCl) (tys := jT yy) (ci := 6) (v := .ref (B 19)) (C := RX6) (T := TX6) (N := 6) hx hb hts (fun w h => List.mem_cons_of_mem _ (inlX6 w h)) hown hK hP 4 rfl rfl 4 (by decide) (jw hts gw65) (fun _ h9 => h9) rfl (dd_of dX6_greatestSurge_0 10 rfl) ?_
        refine lv_iload hx hb (dd_of dX6_greatestSurge_0 11 rfl) (lv_at hl 0 rfl) ?_
        have h3 := hok.1
        replace hok := hok.2
        refine va_aldq hx hb hK hP 19 8 rfl rfl h3 (dd_of dX6_greatestSurge_0 12 rfl) ?_
        refine jo_nm (B := B) (off := 500) (e0 := (op (cn F 40) (Int32.toNatClampNeg v4))) (fun o2 eo2 => ?_)
        replace hres := bvE eo2 hres
        replace hok := bvO eo2 hok
        rcases o2 with _ | k4
        · replace hres := omN hres
          replace hok := opN hok
          refine lv_ifnullN (tgt := 41) hx hb (dd_of dX6_greatestSurge_0 13 rfl) (by decide) ?_
          refine lv_iinc (v := (v4 + 1)) (lv' := [(4, .int (v4 + 1)), (2, .long v2), (0, .ref (B 9)), (1, .int f1)]) hx hb (dd_of dX6_greatestSurge_0 23 rfl) hl (k := 0) rfl rfl (by decide) rfl (fun ls hl => ?_)
          refine lv_goto (tgt := 5) hx hb (dd_of dX6_greatestSurge_0 24 rfl) (by decide) ?_
          exact ih (v4 + 1) v2 ls (lv_sub hl [0, 1, 2, 3] rfl) hok hres hexit
        · replace hres := omS hres
          replace hok := opS hok
          refine lv_ifnull hx hb (dd_of dX6_greatestSurge_0 13 rfl) ?_
          refine lv_lload_n hx hb (dd_of dX6_greatestSurge_0 14 rfl) rfl (lv_at hl 1 rfl) ?_
          refine lv_aload_n hx hb (dd_of dX6_greatestSurge_0 15 rfl) rfl (lv_at hl 2 rfl) ?_
          refine va_get (D := D) (cl := vwCl) (tys := jT yy) (ci := 6) (v := .ref (B 19)) (C := RX6) (T := TX6) (N := 6) hx hb hts (fun w h => List.mem_cons_of_mem _ (inlX6 w h)) hown hK hP 4 rfl rfl 4 (by decide) (jw hts gw65) (fun _ h9 => h9) rfl (dd_of dX6_greatestSurge_0 16 rfl) ?_
          refine lv_iload hx hb (dd_of dX6_greatestSurge_0 17 rfl) (lv_at hl 0 rfl) ?_
          have h6 := hok.1
          replace hok := hok.2
          refine va_aldq hx hb hK hP 19 8 rfl rfl h6 (dd_of dX6_greatestSurge_0 18 rfl) ?_
          refine jo_nm (B := B) (off := 500) (e0 := (op (cn F 40) (Int32.toNatClampNeg v4))) (fun o5 eo5 => ?_)
          replace hres := bvE eo5 hres
          replace hok := bvO eo5 hok
          refine lv_iload_n hx hb (dd_of dX6_greatestSurge_0 19 rfl) rfl (lv_at hl 3 rfl) ?_
          rcases o5 with _ | k7
          · replace hres := omN hres
            replace hok := opN hok
            exact False.elim hok
          · replace hres := omS hres
            replace hok := opS hok
            have h8 := hok.1
            replace hok := hok.2
            have h9 := hok.1
            replace hok := hok.2
            obtain ⟨q9, hq9⟩ := lWg_storm (yy := yy) (B := B) (F := F) (G := G) h8
            refine jc_l (As := [.int f1]) (rest := [.long v2]) (w := (lW yy B F G)) (D := D) (yy := yy) ⟨hx, hb, hml, hown, hts⟩ (qX9_surgeAt l D yy B F G k7 f1 h9) (cwV 1 hts (jgV gw84 gw85 gw86 gw87 gw88) rfl rfl rfl (by decide +kernel) ⟨Nat.le_of_ble_eq_true rfl, Nat.le_of_ble_eq_true rfl⟩) hP hK (va_recv hK hP (ci := 9) (q0 := q9) rfl hq9) rfl hl.1 rfl (Nat.le_of_ble_eq_true rfl) (dd_of dX6_greatestSurge_0 20 rfl) ⟨Nat.zero_le _, Nat.zero_le _⟩ (fun x10 ex10 => ?_)
            replace hres := bvE ex10 hres
            replace hok := bvO ex10 hok
            refine va_mmax_long hx hb (hml.trans hl.1.symm) hown (jw hts gw80) (jw hts gw81) (jw hts gw82) (jw hts gw83) (Nat.le_of_ble_eq_true rfl) (Nat.le_of_ble_eq_true rfl) (Nat.zero_le _) (Nat.zero_le _) (dd_of dX6_greatestSurge_0 21 rfl) ?_
            refine lv_topl (fun x11 ex11 => ?_)
            replace hres := bvE ex11 hres
            replace hok := bvO ex11 hok
            refine lv_lstore_n (lv' := [(2, .long x11), (4, .int v4), (0, .ref (B 9)), (1, .int f1)]) hx hb (dd_of dX6_greatestSurge_0 22 rfl) rfl hl (by decide) rfl (fun ls hl => ?_)
            refine lv_iinc (v := (v4 + 1)) (lv' := [(4, .int (v4 + 1)), (2, .long x11), (0, .ref (B 9)), (1, .int f1)]) hx hb (dd_of dX6_greatestSurge_0 23 rfl) hl (k := 1) rfl rfl (by decide) rfl (fun ls hl => ?_)
            refine lv_goto (tgt := 5) hx hb (dd_of dX6_greatestSurge_0 24 rfl) (by decide) ?_
            exact ih (v4 + 1) x11 ls (lv_sub hl [0, 1, 2, 3] rfl) hok hres hexit
  refine LP5 p1 _ _ 80 0 0 ls (lv_sub hl [0, 1, 2, 3] rfl) hok hres (fun y12 y13 ls hl hok hres => ?_)
  refine lv_lload_n hx hb (dd_of dX6_greatestSurge_0 25 rfl) rfl (lv_at hl 1 rfl) ?_
  subst hQ
  exact W.lret (v := y13) hx hb hr (fun t ht _ => ⟨_, rfl, hres, ht⟩) (fun _ h => absurd h List.not_mem_nil) (dd_of dX6_greatestSurge_0 26 rfl) hlk
set_option maxHeartbeats 4000000 in
set_option maxRecDepth 100000 in
theorem qX6_seaAt (l : Launch) (D : va_G) (yy : Nat → ClassId) (B : Nat → Nat) (F : jF) (G : jG) (p1 : Int32) (hok : okX6_seaAt F G p1) : Met l yX6_seaAt (Cond.code yX6_seaAt cX6_seaAt 2 (some .long) :: wsL_law) rmX6_seaAt (va_Pc [.ref (B 9), .int p1] (jR D yy (lW yy B F G))) (vp_Sl (fun r => r = gX6_seaAt F G p1)) 0 0 (fun _ => False) := by
  generalize hres : gX6_seaAt F G p1 = RES
  refine jM (vs := [.ref (B 9), .int p1]) (own := RX6) (by decide +kernel) rfl (Nat.le_of_ble_eq_true rfl) ?_
  intro p e s m args below meth c ls Q hQ hargs S hr hlk hinit hB hl
  obtain ⟨hx, hb, hml, hown, hts⟩ := S
  have hl : lv_has ls 2 [(0, .ref (B 9)), (1, .int p1)] := hl
  obtain ⟨hP, hK⟩ := hB
  unfold gX6_seaAt at hres
  unfold okX6_seaAt at hok
  refine lv_ldc2 (v := 100) hx hb hown (jw hts gw70) (dd_of dX6_seaAt_0 0 rfl) ?_
  refine lv_aload_n hx hb (dd_of dX6_seaAt_0 1 rfl) rfl (lv_at hl 0 rfl) ?_
  refine va_get (D := D) (cl := vwCl) (tys := jT yy) (ci := 6) (v := .int (F 5 0)) (C := RX6) (T := TX6) (N := 6) hx hb hts (fun w h => List.mem_cons_of_mem _ (inlX6 w h)) hown hK hP 4 rfl rfl 0 (by decide) (jw hts gw71) (fun _ h9 => h9) rfl (dd_of dX6_seaAt_0 2 rfl) ?_
  refine lv_aload_n hx hb (dd_of dX6_seaAt_0 3 rfl) rfl (lv_at hl 0 rfl) ?_
  refine lv_iload_n hx hb (dd_of dX6_seaAt_0 4 rfl) rfl (lv_at hl 1 rfl) ?_
  refine jc_i (As := [.int p1]) (rest := [.int (F 5 0), .long 100]) (w := (lW yy B F G)) (D := D) (yy := yy) ⟨hx, hb, hml, hown, hts⟩ (qX6_tideAt l D yy B F G  p1 ) (cwV 1 hts (jgV gw72 gw73 gw74 gw53 gw75) rfl rfl rfl (by decide +kernel) ⟨Nat.le_of_ble_eq_true rfl, Nat.le_of_ble_eq_true rfl⟩) hP hK (va_recv hK hP (ci := 6) (q0 := 4) rfl rfl) rfl hl.1 rfl (Nat.le_of_ble_eq_true rfl) (dd_of dX6_seaAt_0 5 rfl) ⟨Nat.zero_le _, Nat.zero_le _⟩ (fun x1 ex1 => ?_)
  replace hres := bvE ex1 hres
  replace hok := bvO ex1 hok
  refine lv_iadd hx hb (dd_of dX6_seaAt_0 6 rfl) ?_
  refine lv_i2l (v := (Int32.toInt64 ((F 5 0) + x1))) hx hb (dd_of dX6_seaAt_0 7 rfl) rfl ?_
  refine lv_lmul hx hb (dd_of dX6_seaAt_0 8 rfl) ?_
  refine lv_aload_n hx hb (dd_of dX6_seaAt_0 9 rfl) rfl (lv_at hl 0 rfl) ?_
  refine lv_iload_n hx hb (dd_of dX6_seaAt_0 10 rfl) rfl (lv_at hl 1 rfl) ?_
  have h2 := hok
  refine jc_l (As := [.int p1]) (rest := [.long (100 * (Int32.toInt64 ((F 5 0) + x1)))]) (w := (lW yy B F G)) (D := D) (yy := yy) ⟨hx, hb, hml, hown, hts⟩ (qX6_greatestSurge l D yy B F G  p1 h2) (cwV 1 hts (jgV gw76 gw77 gw78 gw53 gw79) rfl rfl rfl (by decide +kernel) ⟨Nat.le_of_ble_eq_true rfl, Nat.le_of_ble_eq_true rfl⟩) hP hK (va_recv hK hP (ci := 6) (q0 := 4) rfl rfl) rfl hl.1 rfl (Nat.le_of_ble_eq_true rfl) (dd_of dX6_seaAt_0 11 rfl) ⟨Nat.zero_le _, Nat.zero_le _⟩ (fun x3 ex3 => ?_)
  replace hres := bvE ex3 hres
  refine lv_ladd hx hb (dd_of dX6_seaAt_0 12 rfl) ?_
  subst hQ
  exact W.lret (v := ((100 * (Int32.toInt64 ((F 5 0) + x1))) + x3)) hx hb hr (fun t ht _ => ⟨_, rfl, hres, ht⟩) (fun _ h => absurd h List.not_mem_nil) (dd_of dX6_seaAt_0 13 rfl) hlk
set_option maxHeartbeats 4000000 in
set_option maxRecDepth 100000 in
theorem qX6_highTide (l : Launch) (D : va_G) (yy : Nat → ClassId) (B : Nat → Nat) (F : jF) (G : jG)  : Met l yX6_highTide (Cond.code yX6_highTide cX6_highTide 1 (some .long) :: wsL_law) rmX6_highTide (va_Pc [.ref (B 9)] (jR D yy (lW yy B F G))) (vp_Sl (fun r => r = gX6_highTide F G )) 0 0 (fun _ => False) := by
  generalize hres : gX6_highTide F G  = RES
  refine jM (vs := [.ref (B 9)]) (own := RX6) (by decide +kernel) rfl (Nat.le_of_ble_eq_true rfl) ?_
  intro p e s m args below meth c ls Q hQ hargs S hr hlk hinit hB hl
  obtain ⟨hx, hb, hml, hown, hts⟩ := S
  have hl : lv_has ls 1 [(0, .ref (B 9))] := hl
  obtain ⟨hP, hK⟩ := hB
  unfold gX6_highTide at hres
  refine lv_aload_n hx hb (dd_of dX6_highTide_0 0 rfl) rfl (lv_at hl 0 rfl) ?_
  refine va_get (D := D) (cl := vwCl) (tys := jT yy) (ci := 6) (v := .int (F 5 0)) (C := RX6) (T := TX6) (N := 6) hx hb hts (fun w h => List.mem_cons_of_mem _ (inlX6 w h)) hown hK hP 4 rfl rfl 0 (by decide) (jw hts gw71) (fun _ h9 => h9) rfl (dd_of dX6_highTide_0 1 rfl) ?_
  refine lv_aload_n hx hb (dd_of dX6_highTide_0 2 rfl) rfl (lv_at hl 0 rfl) ?_
  refine va_get (D := D) (cl := vwCl) (tys := jT yy) (ci := 6) (v := .int (F 6 0)) (C := RX6) (T := TX6) (N := 6) hx hb hts (fun w h => List.mem_cons_of_mem _ (inlX6 w h)) hown hK hP 4 rfl rfl 1 (by decide) (jw hts gw62) (fun _ h9 => h9) rfl (dd_of dX6_highTide_0 3 rfl) ?_
  refine lv_iadd hx hb (dd_of dX6_highTide_0 4 rfl) ?_
  refine lv_i2l (v := (Int32.toInt64 ((F 5 0) + (F 6 0)))) hx hb (dd_of dX6_highTide_0 5 rfl) rfl ?_
  subst hQ
  exact W.lret (v := (Int32.toInt64 ((F 5 0) + (F 6 0)))) hx hb hr (fun t ht _ => ⟨_, rfl, hres, ht⟩) (fun _ h => absurd h List.not_mem_nil) (dd_of dX6_highTide_0 6 rfl) hlk
set_option maxHeartbeats 4000000 in
set_option maxRecDepth 100000 in
theorem qX10_basinAt (l : Launch) (D : va_G) (yy : Nat → ClassId) (B : Nat → Nat) (F : jF) (G : jG) (p1 : Int32) (hok : okX10_basinAt F G p1) : Met l yX10_basinAt (Cond.code yX10_basinAt cX10_basinAt 2 (some (.object "Polderwardens$Basin")) :: wsL_law) rmX10_basinAt (va_Pc [.ref (B 1), .int p1] (jR D yy (lW yy B F G))) (va_Sq (fun r => r = oB B 100 (gX10_basinAt F G p1))) 0 0 (fun _ => False) := by
  generalize hres : gX10_basinAt F G p1 = RES
  refine jM (vs := [.ref (B 1), .int p1]) (own := RX10) (by decide +kernel) rfl (Nat.le_of_ble_eq_true rfl) ?_
  intro p e s m args below meth c ls Q hQ hargs S hr hlk hinit hB hl
  obtain ⟨hx, hb, hml, hown, hts⟩ := S
  have hl : lv_has ls 2 [(0, .ref (B 1)), (1, .int p1)] := hl
  obtain ⟨hP, hK⟩ := hB
  unfold gX10_basinAt at hres
  unfold okX10_basinAt at hok
  refine lv_iload_n hx hb (dd_of dX10_basinAt_0 0 rfl) rfl (lv_at hl 1 rfl) ?_
  refine lv_if_lt (tgt := 13) hx hb (dd_of dX10_basinAt_0 1 rfl) (by decide) (fun c1 => ?_) (fun c1 => ?_)
  · replace hres := ifE c1 hres
    refine lv_null hx hb (dd_of dX10_basinAt_0 7 rfl) ?_
    refine lv_goto (tgt := 23) hx hb (dd_of dX10_basinAt_0 8 rfl) (by decide) ?_
    subst hQ
    exact W.aret (v := va_rf (oB B 100 none)) (rt := .object "Polderwardens$Basin") hx hb hr (Or.inl ⟨_, rfl⟩) (va_rf_or _) (fun t ht _ => ⟨_, rfl, congrArg (oB B 100) hres, ht⟩) (fun _ h => absurd h List.not_mem_nil) (dd_of dX10_basinAt_0 13 rfl) hlk
  · replace hres := ifN c1 hres
    replace hok := hok.2 c1
    refine lv_iload_n hx hb (dd_of dX10_basinAt_0 2 rfl) rfl (lv_at hl 1 rfl) ?_
    refine lv_aload_n hx hb (dd_of dX10_basinAt_0 3 rfl) rfl (lv_at hl 0 rfl) ?_
    refine va_get (D := D) (cl := vwCl) (tys := jT yy) (ci := 10) (v := .ref (B 8)) (C := RX10) (T := TX10) (N := 8) hx hb hts (fun w h => List.mem_cons_of_mem _ (inlX10 w h)) hown hK hP 1 rfl rfl 0 (by decide) (jw hts gw50) (fun _ h9 => h9) rfl (dd_of dX10_basinAt_0 4 rfl) ?_
    refine va_alen (v := 8) hx hb hK hP 9 3 rfl rfl rfl (dd_of dX10_basinAt_0 5 rfl) ?_
    refine lv_icmp_lt (tgt := 17) hx hb (dd_of dX10_basinAt_0 6 rfl) (by decide) (fun c2 => ?_) (fun c2 => ?_)
    · replace hres := ifE c2 hres
      replace hok := hok.1 c2
      refine lv_aload_n hx hb (dd_of dX10_basinAt_0 9 rfl) rfl (lv_at hl 0 rfl) ?_
      refine va_get (D := D) (cl := vwCl) (tys := jT yy) (ci := 10) (v := .ref (B 8)) (C := RX10) (T := TX10) (N := 8) hx hb hts (fun w h => List.mem_cons_of_mem _ (inlX10 w h)) hown hK hP 1 rfl rfl 0 (by decide) (jw hts gw50) (fun _ h9 => h9) rfl (dd_of dX10_basinAt_0 10 rfl) ?_
      refine lv_iload_n hx hb (dd_of dX10_basinAt_0 11 rfl) rfl (lv_at hl 1 rfl) ?_
      have h4 := hok
      refine va_aldq hx hb hK hP 9 3 rfl rfl h4 (dd_of dX10_basinAt_0 12 rfl) ?_
      refine jo_nm (B := B) (off := 100) (e0 := (op (cn F 8) (Int32.toNatClampNeg p1))) (fun o3 eo3 => ?_)
      replace hres := bvE eo3 hres
      subst hQ
      exact W.aret (v := va_rf (oB B 100 o3)) (rt := .object "Polderwardens$Basin") hx hb hr (Or.inl ⟨_, rfl⟩) (va_rf_or _) (fun t ht _ => ⟨_, rfl, congrArg (oB B 100) hres, ht⟩) (fun _ h => absurd h List.not_mem_nil) (dd_of dX10_basinAt_0 13 rfl) hlk
    · replace hres := ifN c2 hres
      refine lv_null hx hb (dd_of dX10_basinAt_0 7 rfl) ?_
      refine lv_goto (tgt := 23) hx hb (dd_of dX10_basinAt_0 8 rfl) (by decide) ?_
      subst hQ
      exact W.aret (v := va_rf (oB B 100 none)) (rt := .object "Polderwardens$Basin") hx hb hr (Or.inl ⟨_, rfl⟩) (va_rf_or _) (fun t ht _ => ⟨_, rfl, congrArg (oB B 100) hres, ht⟩) (fun _ h => absurd h List.not_mem_nil) (dd_of dX10_basinAt_0 13 rfl) hlk
set_option maxHeartbeats 4000000 in
set_option maxRecDepth 100000 in
theorem qX10_isEnd (l : Launch) (D : va_G) (yy : Nat → ClassId) (B : Nat → Nat) (F : jF) (G : jG) (p1 : Int32) (hok : okX10_isEnd F G p1) : Met l yX10_isEnd (Cond.code yX10_isEnd cX10_isEnd 2 (some .boolean) :: wsL_law) rmX10_isEnd (va_Pc [.ref (B 1), .int p1] (jR D yy (lW yy B F G))) (vp_Si (fun r => r = gX10_isEnd F G p1)) 0 0 (fun _ => False) := by
  generalize hres : gX10_isEnd F G p1 = RES
  refine jM (vs := [.ref (B 1), .int p1]) (own := RX10) (by decide +kernel) rfl (Nat.le_of_ble_eq_true rfl) ?_
  intro p e s m args below meth c ls Q hQ hargs S hr hlk hinit hB hl
  obtain ⟨hx, hb, hml, hown, hts⟩ := S
  have hl : lv_has ls 2 [(0, .ref (B 1)), (1, .int p1)] := hl
  obtain ⟨hP, hK⟩ := hB
  unfold gX10_isEnd at hres
  unfold okX10_isEnd at hok
  refine lv_iload_n hx hb (dd_of dX10_isEnd_0 0 rfl) rfl (lv_at hl 1 rfl) ?_
  refine lv_bipush (v := 20) hx hb (dd_of dX10_isEnd_0 1 rfl) (by decide) ?_
  refine lv_icmp_eq (tgt := 20) hx hb (dd_of dX10_isEnd_0 2 rfl) (by decide) (fun c1 => ?_) (fun c1 => ?_)
  · replace hres := ifE c1 hres
    refine lv_iconst (v := 1) hx hb (dd_of dX10_isEnd_0 10 rfl) (by decide) ?_
    refine lv_goto (tgt := 25) hx hb (dd_of dX10_isEnd_0 11 rfl) (by decide) ?_
    subst hQ
    exact W.zret (ty := .boolean) (v := 1) hx hb hr (jb_nz (Or.inr rfl)) (fun t ht _ => ⟨_, rfl, hres, ht⟩) (fun _ h => absurd h List.not_mem_nil) (dd_of dX10_isEnd_0 13 rfl) hlk
  · replace hres := ifN c1 hres
    replace hok := hok.2 c1
    refine lv_iload_n hx hb (dd_of dX10_isEnd_0 3 rfl) rfl (lv_at hl 1 rfl) ?_
    refine lv_bipush (v := 21) hx hb (dd_of dX10_isEnd_0 4 rfl) (by decide) ?_
    refine lv_icmp_eq (tgt := 20) hx hb (dd_of dX10_isEnd_0 5 rfl) (by decide) (fun c2 => ?_) (fun c2 => ?_)
    · replace hres := ifE c2 hres
      refine lv_iconst (v := 1) hx hb (dd_of dX10_isEnd_0 10 rfl) (by decide) ?_
      refine lv_goto (tgt := 25) hx hb (dd_of dX10_isEnd_0 11 rfl) (by decide) ?_
      subst hQ
      exact W.zret (ty := .boolean) (v := 1) hx hb hr (jb_nz (Or.inr rfl)) (fun t ht _ => ⟨_, rfl, hres, ht⟩) (fun _ h => absurd h List.not_mem_nil) (dd_of dX10_isEnd_0 13 rfl) hlk
    · replace hres := ifN c2 hres
      replace hok := hok.2 c2
      refine lv_aload_n hx hb (dd_of dX10_isEnd_0 6 rfl) rfl (lv_at hl 0 rfl) ?_
      refine lv_iload_n hx hb (dd_of dX10_isEnd_0 7 rfl) rfl (lv_at hl 1 rfl) ?_
      have h3 := hok
      refine jc_q (As := [.int p1]) (rest := []) (w := (lW yy B F G)) (D := D) (yy := yy) (B := B) (off := 100) ⟨hx, hb, hml, hown, hts⟩ (qX10_basinAt l D yy B F G  p1 h3) (cwV 1 hts (jgV gw230 gw231 gw232 gw26 gw233) rfl rfl rfl (by decide +kernel) ⟨Nat.le_of_ble_eq_true rfl, Nat.le_of_ble_eq_true rfl⟩) hP hK (va_recv hK hP (ci := 10) (q0 := 1) rfl rfl) rfl hl.1 rfl (Nat.le_of_ble_eq_true rfl) (dd_of dX10_isEnd_0 8 rfl) ⟨Nat.zero_le _, Nat.zero_le _⟩ (fun o4 eo4 => ?_)
      replace hres := bvE eo4 hres
      rcases o4 with _ | k5
      · replace hres := omN hres
        refine lv_ifnullN (tgt := 24) hx hb (dd_of dX10_isEnd_0 9 rfl) (by decide) ?_
        refine lv_iconst (v := 0) hx hb (dd_of dX10_isEnd_0 12 rfl) (by decide) ?_
        subst hQ
        exact W.zret (ty := .boolean) (v := 0) hx hb hr (jb_nz (Or.inl rfl)) (fun t ht _ => ⟨_, rfl, hres, ht⟩) (fun _ h => absurd h List.not_mem_nil) (dd_of dX10_isEnd_0 13 rfl) hlk
      · replace hres := omS hres
        refine lv_ifnull hx hb (dd_of dX10_isEnd_0 9 rfl) ?_
        refine lv_iconst (v := 1) hx hb (dd_of dX10_isEnd_0 10 rfl) (by decide) ?_
        refine lv_goto (tgt := 25) hx hb (dd_of dX10_isEnd_0 11 rfl) (by decide) ?_
        subst hQ
        exact W.zret (ty := .boolean) (v := 1) hx hb hr (jb_nz (Or.inr rfl)) (fun t ht _ => ⟨_, rfl, hres, ht⟩) (fun _ h => absurd h List.not_mem_nil) (dd_of dX10_isEnd_0 13 rfl) hlk
set_option maxHeartbeats 4000000 in
set_option maxRecDepth 100000 in
theorem qX10_layOut (l : Launch) (D : va_G) (yy : Nat → ClassId) (B : Nat → Nat) (F : jF) (G : jG) (sz : Nat) (p1 : Int32) (p2 : Int32) (p3 : Int32) (p4 : Int32) (hok : okX10_layOut F G p1 p2 p3 p4) : Met l yX10_layOut (Cond.code yX10_layOut cX10_layOut 6 (some .int) :: wsL_law) rmX10_layOut (va_Pc [.ref (B 1), .int p1, .int p2, .int p3, .int p4] (jP D yy (lW yy B F G) sz)) (va_Qi (fun r (u : jS) => (r, u) = gX10_layOut F G p1 p2 p3 p4) (fun (u : jS) t => jB D yy (va_A (lW yy B F G) sz) (lW yy B u.1 u.2) t) (va_A (lW yy B F G) sz)) 0 0 (va_A (lW yy B F G) sz) := by
  generalize hres : gX10_layOut F G p1 p2 p3 p4 = RES
  refine jM (vs := [.ref (B 1), .int p1, .int p2, .int p3, .int p4]) (own := RX10) (by decide +kernel) rfl (Nat.le_of_ble_eq_true rfl) ?_
  intro p e s m args below meth c ls Q hQ hargs S hr hlk hinit hB hl
  obtain ⟨hx, hb, hml, hown, hts⟩ := S
  have hl : lv_has ls 6 [(0, .ref (B 1)), (1, .int p1), (2, .int p2), (3, .int p3), (4, .int p4)] := hl
  obtain ⟨hsz, hP, hK, hD0⟩ := hB
  subst hsz
  have hD := hD0.self (sz := s.heap.size)
  generalize hZ : va_A (lW yy B F G) s.heap.size = Z at hD hQ
  have hA : ∀ q : Nat, s.heap.size ≤ q → Z q := fun q h => by rw [← hZ]; exact Or.inr h
  obtain ⟨H, hH⟩ : ∃ z, z = s.heap := ⟨_, rfl⟩
  obtain ⟨locs, hlocs⟩ : ∃ z : List Loc, z = [] := ⟨_, rfl⟩
  have hS : va_S Z s.heap H locs := by rw [hH, hlocs]; exact va_S.rf
  rw [← hH] at hP
  suffices hgo : W p l e rmX10_layOut s m args below meth c H locs 0 0 Q (F0 m 0 ls []) by rw [hH, hlocs] at hgo; exact hgo
  unfold gX10_layOut at hres
  unfold okX10_layOut at hok
  refine lv_aload_n hx hb (dd_of dX10_layOut_0 0 rfl) rfl (lv_at hl 0 rfl) ?_
  refine lv_iload_n hx hb (dd_of dX10_layOut_0 1 rfl) rfl (lv_at hl 1 rfl) ?_
  have h1 := hok.1
  replace hok := hok.2
  refine jc_q (As := [.int p1]) (rest := []) (w := (lW yy B F G)) (D := D) (yy := yy) (B := B) (off := 100) ⟨hx, hb, hml, hown, hts⟩ (qX10_basinAt l D yy B F G  p1 h1) (cwV 1 hts (jgV gw230 gw231 gw232 gw26 gw233) rfl rfl rfl (by decide +kernel) ⟨Nat.le_of_ble_eq_true rfl, Nat.le_of_ble_eq_true rfl⟩) hP hK (va_recv hK hP (ci := 10) (q0 := 1) rfl rfl) rfl hl.1 rfl (Nat.le_of_ble_eq_true rfl) (dd_of dX10_layOut_0 2 rfl) ⟨Nat.zero_le _, Nat.zero_le _⟩ (fun o2 eo2 => ?_)
  replace hres := bvE eo2 hres
  replace hok := bvO eo2 hok
  rcases o2 with _ | k3
  · replace hres := omN hres
    replace hok := opN hok
    refine lv_astoreN (lv' := [(5, .null), (0, .ref (B 1)), (1, .int p1), (2, .int p2), (3, .int p3), (4, .int p4)]) hx hb (dd_of dX10_layOut_0 3 rfl) hl (by decide) rfl (fun ls hl => ?_)
    refine lv_aloadN hx hb (dd_of dX10_layOut_0 4 rfl) (lv_at hl 0 rfl) ?_
    refine lv_ifnullN (tgt := 31) hx hb (dd_of dX10_layOut_0 5 rfl) (by decide) ?_
    refine lv_iconst (v := 0) hx hb (dd_of dX10_layOut_0 15 rfl) (by decide) ?_
    subst hQ
    exact W.iret (v := 0) hx hb hr (fun t ht hW => ⟨⟨0, (F, G), rfl, hres, by rw [ht]; exact hP, va_K.moved hW.alike hK, hD⟩, hS.F ht⟩) hS.2.2 (dd_of dX10_layOut_0 16 rfl) hlk
  · replace hres := omS hres
    replace hok := opS hok
    refine lv_astore (lv' := [(5, .ref (B (100 + k3))), (0, .ref (B 1)), (1, .int p1), (2, .int p2), (3, .int p3), (4, .int p4)]) hx hb (dd_of dX10_layOut_0 3 rfl) hl (by decide) rfl (fun ls hl => ?_)
    refine lv_aload hx hb (dd_of dX10_layOut_0 4 rfl) (lv_at hl 0 rfl) ?_
    refine lv_ifnull hx hb (dd_of dX10_layOut_0 5 rfl) ?_
    refine lv_aload hx hb (dd_of dX10_layOut_0 6 rfl) (lv_at hl 0 rfl) ?_
    refine lv_iload_n hx hb (dd_of dX10_layOut_0 7 rfl) rfl (lv_at hl 3 rfl) ?_
    have h4 := hok.1
    replace hok := hok.2
    obtain ⟨q9, hq9, hs9⟩ := lWs_basin_sinks (yy := yy) (B := B) (F := F) (G := G) (v := p2) h4
    refine va_put (D := D) (cl := vwCl) (tys := jT yy) (ci := 0) (v := .int p2) (ty := .int) (C := RX0) (T := TX0) (N := 7) hx hb hts (fun w h => List.mem_cons_of_mem _ (inlX0 w h)) tyX0 tyX0_ok nmX0 hown hK hP hD hS q9 hq9 rfl 3 (by decide) (jw hts gw227) (fun _ h9 => h9) rfl (by decide +kernel) rfl rfl (Nat.le_of_ble_eq_true rfl) (dd_of dX10_layOut_0 8 rfl) (fun H locs hP hD hS => ?_)
    obtain ⟨F5, e6⟩ : ∃ z : jF, z = u2 F 11 k3 p2 := ⟨_, rfl⟩
    have hP : va_P D vwCl (lW yy B F5 G) H := by rw [e6, ← hs9]; exact hP
    have hD : va_D Z (lW yy B F5 G) := by rw [e6, ← hs9]; exact hD
    replace hres := bvE e6 hres
    replace hok := bvO e6 hok
    refine lv_aload hx hb (dd_of dX10_layOut_0 9 rfl) (lv_at hl 0 rfl) ?_
    refine lv_iload_n hx hb (dd_of dX10_layOut_0 10 rfl) rfl (lv_at hl 4 rfl) ?_
    have h7 := hok.1
    replace hok := hok.2
    obtain ⟨q9, hq9, hs9⟩ := lWs_basin_floor (yy := yy) (B := B) (F := F5) (G := G) (v := p3) h7
    refine va_put (D := D) (cl := vwCl) (tys := jT yy) (ci := 0) (v := .int p3) (ty := .int) (C := RX0) (T := TX0) (N := 7) hx hb hts (fun w h => List.mem_cons_of_mem _ (inlX0 w h)) tyX0 tyX0_ok nmX0 hown hK hP hD hS q9 hq9 rfl 4 (by decide) (jw hts gw228) (fun _ h9 => h9) rfl (by decide +kernel) rfl rfl (Nat.le_of_ble_eq_true rfl) (dd_of dX10_layOut_0 11 rfl) (fun H locs hP hD hS => ?_)
    obtain ⟨F8, e9⟩ : ∃ z : jF, z = u2 F5 12 k3 p3 := ⟨_, rfl⟩
    have hP : va_P D vwCl (lW yy B F8 G) H := by rw [e9, ← hs9]; exact hP
    have hD : va_D Z (lW yy B F8 G) := by rw [e9, ← hs9]; exact hD
    replace hres := bvE e9 hres
    replace hok := bvO e9 hok
    refine lv_aload hx hb (dd_of dX10_layOut_0 12 rfl) (lv_at hl 0 rfl) ?_
    refine lv_iload hx hb (dd_of dX10_layOut_0 13 rfl) (lv_at hl 5 rfl) ?_
    have h10 := hok
    obtain ⟨q9, hq9, hs9⟩ := lWs_basin_worth (yy := yy) (B := B) (F := F8) (G := G) (v := p4) h10
    refine va_put (D := D) (cl := vwCl) (tys := jT yy) (ci := 0) (v := .int p4) (ty := .int) (C := RX0) (T := TX0) (N := 7) hx hb hts (fun w h => List.mem_cons_of_mem _ (inlX0 w h)) tyX0 tyX0_ok nmX0 hown hK hP hD hS q9 hq9 rfl 5 (by decide) (jw hts gw229) (fun _ h9 => h9) rfl (by decide +kernel) rfl rfl (Nat.le_of_ble_eq_true rfl) (dd_of dX10_layOut_0 14 rfl) (fun H locs hP hD hS => ?_)
    obtain ⟨F11, e12⟩ : ∃ z : jF, z = u2 F8 13 k3 p4 := ⟨_, rfl⟩
    have hP : va_P D vwCl (lW yy B F11 G) H := by rw [e12, ← hs9]; exact hP
    have hD : va_D Z (lW yy B F11 G) := by rw [e12, ← hs9]; exact hD
    replace hres := bvE e12 hres
    refine lv_iconst (v := 0) hx hb (dd_of dX10_layOut_0 15 rfl) (by decide) ?_
    subst hQ
    exact W.iret (v := 0) hx hb hr (fun t ht hW => ⟨⟨0, (F11, G), rfl, hres, by rw [ht]; exact hP, va_K.moved hW.alike hK, hD⟩, hS.F ht⟩) hS.2.2 (dd_of dX10_layOut_0 16 rfl) hlk
set_option maxHeartbeats 4000000 in
set_option maxRecDepth 100000 in
theorem qX10_count (l : Launch) (D : va_G) (yy : Nat → ClassId) (B : Nat → Nat) (F : jF) (G : jG) (sz : Nat) (p1 : Int32) (p2 : Int64) (hok : okX10_count F G p1 p2) : Met l yX10_count (Cond.code yX10_count cX10_count 4 none :: wsL_law) rmX10_count (va_Pc [.ref (B 1), .int p1, .long p2] (jP D yy (lW yy B F G) sz)) (va_Qv (fun u : jS => u = gX10_count F G p1 p2) (fun (u : jS) t => jB D yy (va_A (lW yy B F G) sz) (lW yy B u.1 u.2) t) (va_A (lW yy B F G) sz)) 0 0 (va_A (lW yy B F G) sz) := by
  generalize hres : gX10_count F G p1 p2 = RES
  refine jM (vs := [.ref (B 1), .int p1, .long p2]) (own := RX10) (by decide +kernel) rfl (Nat.le_of_ble_eq_true rfl) ?_
  intro p e s m args below meth c ls Q hQ hargs S hr hlk hinit hB hl
  obtain ⟨hx, hb, hml, hown, hts⟩ := S
  have hl : lv_has ls 4 [(0, .ref (B 1)), (1, .int p1), (2, .long p2)] := hl
  obtain ⟨hsz, hP, hK, hD0⟩ := hB
  subst hsz
  have hD := hD0.self (sz := s.heap.size)
  generalize hZ : va_A (lW yy B F G) s.heap.size = Z at hD hQ
  have hA : ∀ q : Nat, s.heap.size ≤ q → Z q := fun q h => by rw [← hZ]; exact Or.inr h
  obtain ⟨H, hH⟩ : ∃ z, z = s.heap := ⟨_, rfl⟩
  obtain ⟨locs, hlocs⟩ : ∃ z : List Loc, z = [] := ⟨_, rfl⟩
  have hS : va_S Z s.heap H locs := by rw [hH, hlocs]; exact va_S.rf
  rw [← hH] at hP
  suffices hgo : W p l e rmX10_count s m args below meth c H locs 0 0 Q (F0 m 0 ls []) by rw [hH, hlocs] at hgo; exact hgo
  unfold gX10_count at hres
  unfold okX10_count at hok
  refine lv_iload_n hx hb (dd_of dX10_count_0 0 rfl) rfl (lv_at hl 1 rfl) ?_
  refine lv_if_lt (tgt := 23) hx hb (dd_of dX10_count_0 1 rfl) (by decide) (fun c1 => ?_) (fun c1 => ?_)
  · replace hres := ifE c1 hres
    subst hQ
    exact W.vret hx hb hr (fun t ht hW => ⟨⟨(F, G), rfl, hres, by rw [ht]; exact hP, va_K.moved hW.alike hK, hD⟩, hS.F ht⟩) hS.2.2 (dd_of dX10_count_0 15 rfl) hlk
  · replace hres := ifN c1 hres
    replace hok := hok.2 c1
    refine lv_iload_n hx hb (dd_of dX10_count_0 2 rfl) rfl (lv_at hl 1 rfl) ?_
    refine lv_aload_n hx hb (dd_of dX10_count_0 3 rfl) rfl (lv_at hl 0 rfl) ?_
    refine va_get (D := D) (cl := vwCl) (tys := jT yy) (ci := 10) (v := .ref (B 11)) (C := RX10) (T := TX10) (N := 8) hx hb hts (fun w h => List.mem_cons_of_mem _ (inlX10 w h)) hown hK hP 1 rfl rfl 5 (by decide) (jw hts gw57) (fun _ h9 => h9) rfl (dd_of dX10_count_0 4 rfl) ?_
    refine va_alen (v := 4) hx hb hK hP 11 1 rfl rfl rfl (dd_of dX10_count_0 5 rfl) ?_
    refine lv_icmp_ge (tgt := 23) hx hb (dd_of dX10_count_0 6 rfl) (by decide) (fun c2 => ?_) (fun c2 => ?_)
    · replace hres := ifE c2 hres
      subst hQ
      exact W.vret hx hb hr (fun t ht hW => ⟨⟨(F, G), rfl, hres, by rw [ht]; exact hP, va_K.moved hW.alike hK, hD⟩, hS.F ht⟩) hS.2.2 (dd_of dX10_count_0 15 rfl) hlk
    · replace hres := ifN c2 hres
      replace hok := hok.2 c2
      refine lv_aload_n hx hb (dd_of dX10_count_0 7 rfl) rfl (lv_at hl 0 rfl) ?_
      refine va_get (D := D) (cl := vwCl) (tys := jT yy) (ci := 10) (v := .ref (B 11)) (C := RX10) (T := TX10) (N := 8) hx hb hts (fun w h => List.mem_cons_of_mem _ (inlX10 w h)) hown hK hP 1 rfl rfl 5 (by decide) (jw hts gw57) (fun _ h9 => h9) rfl (dd_of dX10_count_0 8 rfl) ?_
      refine lv_iload_n hx hb (dd_of dX10_count_0 9 rfl) rfl (lv_at hl 1 rfl) ?_
      refine lv_dup2_11 hx hb (dd_of dX10_count_0 10 rfl) rfl rfl ?_
      have h3 := hok.1
      replace hok := hok.2
      refine va_lald hx hb hK hP 11 1 rfl rfl h3 (dd_of dX10_count_0 11 rfl) ?_
      refine lv_lload_n hx hb (dd_of dX10_count_0 12 rfl) rfl (lv_at hl 2 rfl) ?_
      refine lv_ladd hx hb (dd_of dX10_count_0 13 rfl) ?_
      have h4 := hok
      refine va_last hx hb hK hP hD hS 11 1 rfl rfl h4 (dd_of dX10_count_0 14 rfl) (fun H locs hP hD hS => ?_)
      obtain ⟨G5, e6⟩ : ∃ z : jG, z = u2 G 56 (Int32.toNatClampNeg p1) ((G 56 (Int32.toNatClampNeg p1)) + p2) := ⟨_, rfl⟩
      have hP : va_P D vwCl (lW yy B F G5) H := by rw [e6]; exact hP
      have hD : va_D Z (lW yy B F G5) := by rw [e6]; exact hD
      replace hres := bvE e6 hres
      subst hQ
      exact W.vret hx hb hr (fun t ht hW => ⟨⟨(F, G5), rfl, hres, by rw [ht]; exact hP, va_K.moved hW.alike hK, hD⟩, hS.F ht⟩) hS.2.2 (dd_of dX10_count_0 15 rfl) hlk
set_option maxHeartbeats 4000000 in
set_option maxRecDepth 100000 in
theorem qX10_bring (l : Launch) (D : va_G) (yy : Nat → ClassId) (B : Nat → Nat) (F : jF) (G : jG) (sz : Nat) (p1 : Int32) (p2 : Int32) (p3 : Int32) (hok : okX10_bring F G p1 p2 p3) : Met l yX10_bring (Cond.code yX10_bring cX10_bring 5 (some .long) :: wsL_law) rmX10_bring (va_Pc [.ref (B 1), .int p1, .int p2, .int p3] (jP D yy (lW yy B F G) sz)) (va_Ql (fun r (u : jS) => (r, u) = gX10_bring F G p1 p2 p3) (fun (u : jS) t => jB D yy (va_A (lW yy B F G) sz) (lW yy B u.1 u.2) t) (va_A (lW yy B F G) sz)) 0 0 (va_A (lW yy B F G) sz) := by
  generalize hres : gX10_bring F G p1 p2 p3 = RES
  refine jM (vs := [.ref (B 1), .int p1, .int p2, .int p3]) (own := RX10) (by decide +kernel) rfl (Nat.le_of_ble_eq_true rfl) ?_
  intro p e s m args below meth c ls Q hQ hargs S hr hlk hinit hB hl
  obtain ⟨hx, hb, hml, hown, hts⟩ := S
  have hl : lv_has ls 5 [(0, .ref (B 1)), (1, .int p1), (2, .int p2), (3, .int p3)] := hl
  obtain ⟨hsz, hP, hK, hD0⟩ := hB
  subst hsz
  have hD := hD0.self (sz := s.heap.size)
  generalize hZ : va_A (lW yy B F G) s.heap.size = Z at hD hQ
  have hA : ∀ q : Nat, s.heap.size ≤ q → Z q := fun q h => by rw [← hZ]; exact Or.inr h
  obtain ⟨H, hH⟩ : ∃ z, z = s.heap := ⟨_, rfl⟩
  obtain ⟨locs, hlocs⟩ : ∃ z : List Loc, z = [] := ⟨_, rfl⟩
  have hS : va_S Z s.heap H locs := by rw [hH, hlocs]; exact va_S.rf
  rw [← hH] at hP
  suffices hgo : W p l e rmX10_bring s m args below meth c H locs 0 0 Q (F0 m 0 ls []) by rw [hH, hlocs] at hgo; exact hgo
  unfold gX10_bring at hres
  unfold okX10_bring at hok
  refine lv_aload_n hx hb (dd_of dX10_bring_0 0 rfl) rfl (lv_at hl 0 rfl) ?_
  refine lv_iload_n hx hb (dd_of dX10_bring_0 1 rfl) rfl (lv_at hl 1 rfl) ?_
  have h1 := hok.1
  replace hok := hok.2
  refine jc_q (As := [.int p1]) (rest := []) (w := (lW yy B F G)) (D := D) (yy := yy) (B := B) (off := 100) ⟨hx, hb, hml, hown, hts⟩ (qX10_basinAt l D yy B F G  p1 h1) (cwV 1 hts (jgV gw230 gw231 gw232 gw26 gw233) rfl rfl rfl (by decide +kernel) ⟨Nat.le_of_ble_eq_true rfl, Nat.le_of_ble_eq_true rfl⟩) hP hK (va_recv hK hP (ci := 10) (q0 := 1) rfl rfl) rfl hl.1 rfl (Nat.le_of_ble_eq_true rfl) (dd_of dX10_bring_0 2 rfl) ⟨Nat.zero_le _, Nat.zero_le _⟩ (fun o2 eo2 => ?_)
  replace hres := bvE eo2 hres
  replace hok := bvO eo2 hok
  rcases o2 with _ | k3
  · replace hres := omN hres
    replace hok := opN hok
    refine lv_astoreN (lv' := [(4, .null), (0, .ref (B 1)), (1, .int p1), (2, .int p2), (3, .int p3)]) hx hb (dd_of dX10_bring_0 3 rfl) hl (by decide) rfl (fun ls hl => ?_)
    refine lv_aloadN hx hb (dd_of dX10_bring_0 4 rfl) (lv_at hl 0 rfl) ?_
    refine lv_ifnonnullN hx hb (dd_of dX10_bring_0 5 rfl) ?_
    refine lv_lconst (v := 0) hx hb (dd_of dX10_bring_0 6 rfl) (by decide) ?_
    subst hQ
    exact W.lret (v := 0) hx hb hr (fun t ht hW => ⟨⟨0, (F, G), rfl, hres, by rw [ht]; exact hP, va_K.moved hW.alike hK, hD⟩, hS.F ht⟩) hS.2.2 (dd_of dX10_bring_0 7 rfl) hlk
  · replace hres := omS hres
    replace hok := opS hok
    refine lv_astore (lv' := [(4, .ref (B (100 + k3))), (0, .ref (B 1)), (1, .int p1), (2, .int p2), (3, .int p3)]) hx hb (dd_of dX10_bring_0 3 rfl) hl (by decide) rfl (fun ls hl => ?_)
    refine lv_aload hx hb (dd_of dX10_bring_0 4 rfl) (lv_at hl 0 rfl) ?_
    refine lv_ifnonnull (tgt := 14) hx hb (dd_of dX10_bring_0 5 rfl) (by decide) ?_
    refine lv_aload hx hb (dd_of dX10_bring_0 8 rfl) (lv_at hl 0 rfl) ?_
    refine lv_dup hx hb (dd_of dX10_bring_0 9 rfl) rfl ?_
    have h4 := hok.1
    replace hok := hok.2
    obtain ⟨q9, hq9⟩ := lWg_basin (yy := yy) (B := B) (F := F) (G := G) h4
    refine va_get (D := D) (cl := vwCl) (tys := jT yy) (ci := 0) (v := .long (G 14 k3)) (C := RX0) (T := TX0) (N := 7) hx hb hts (fun w h => List.mem_cons_of_mem _ (inlX0 w h)) hown hK hP q9 hq9 rfl 2 (by decide) (jw hts gw242) (fun _ h9 => h9) rfl (dd_of dX10_bring_0 10 rfl) ?_
    refine lv_iload_n hx hb (dd_of dX10_bring_0 11 rfl) rfl (lv_at hl 3 rfl) ?_
    refine lv_i2l (v := (Int32.toInt64 p2)) hx hb (dd_of dX10_bring_0 12 rfl) rfl ?_
    refine lv_ladd hx hb (dd_of dX10_bring_0 13 rfl) ?_
    have h5 := hok.1
    replace hok := hok.2
    obtain ⟨q9, hq9, hs9⟩ := lWs_basin_water (yy := yy) (B := B) (F := F) (G := G) (v := ((G 14 k3) + (Int32.toInt64 p2))) h5
    refine va_put (D := D) (cl := vwCl) (tys := jT yy) (ci := 0) (v := .long ((G 14 k3) + (Int32.toInt64 p2))) (ty := .long) (C := RX0) (T := TX0) (N := 7) hx hb hts (fun w h => List.mem_cons_of_mem _ (inlX0 w h)) tyX0 tyX0_ok nmX0 hown hK hP hD hS q9 hq9 rfl 2 (by decide) (jw hts gw242) (fun _ h9 => h9) rfl (by decide +kernel) rfl rfl (Nat.le_of_ble_eq_true rfl) (dd_of dX10_bring_0 14 rfl) (fun H locs hP hD hS => ?_)
    obtain ⟨G6, e7⟩ : ∃ z : jG, z = u2 G 14 k3 ((G 14 k3) + (Int32.toInt64 p2)) := ⟨_, rfl⟩
    have hP : va_P D vwCl (lW yy B F G6) H := by rw [e7, ← hs9]; exact hP
    have hD : va_D Z (lW yy B F G6) := by rw [e7, ← hs9]; exact hD
    replace hres := bvE e7 hres
    replace hok := bvO e7 hok
    refine lv_aload_n hx hb (dd_of dX10_bring_0 15 rfl) rfl (lv_at hl 1 rfl) ?_
    refine lv_iload_n hx hb (dd_of dX10_bring_0 16 rfl) rfl (lv_at hl 4 rfl) ?_
    refine lv_iload_n hx hb (dd_of dX10_bring_0 17 rfl) rfl (lv_at hl 3 rfl) ?_
    refine lv_i2l (v := (Int32.toInt64 p2)) hx hb (dd_of dX10_bring_0 18 rfl) rfl ?_
    have h8 := hok.1
    replace hok := hok.2
    refine jm_v (As := [.int p3, .long (Int32.toInt64 p2)]) (rest := []) (w := (lW yy B F G6)) (w1 := fun u : jS => (lW yy B u.1 u.2)) (D := D) (yy := yy) ⟨hx, hb, hml, hown, hts⟩ (qX10_count l D yy B F G6 H.size  p3 (Int32.toInt64 p2) h8) (cwV 2 hts (jgV gw243 gw244 gw245 gw26 gw246) rfl rfl rfl (by decide +kernel) ⟨Nat.le_of_ble_eq_true rfl, Nat.le_of_ble_eq_true rfl⟩) hP hK hD hS hA (va_recv hK hP (ci := 10) (q0 := 1) rfl rfl) rfl hl.1 rfl (Nat.le_of_ble_eq_true rfl) (dd_of dX10_bring_0 19 rfl) ⟨Nat.zero_le _, Nat.zero_le _⟩ (fun u9 H locs w11 hP hD hS => ?_)
    obtain ⟨F9, G10⟩ := u9
    have hP : va_P D vwCl (lW yy B F9 G10) H := hP
    have hD : va_D Z (lW yy B F9 G10) := hD
    replace hres := bsE w11 hres
    replace hok := bsO w11 hok
    refine lv_aload hx hb (dd_of dX10_bring_0 20 rfl) (lv_at hl 0 rfl) ?_
    have h12 := hok
    obtain ⟨q9, hq9⟩ := lWg_basin (yy := yy) (B := B) (F := F9) (G := G10) h12
    refine va_get (D := D) (cl := vwCl) (tys := jT yy) (ci := 0) (v := .long (G10 14 k3)) (C := RX0) (T := TX0) (N := 7) hx hb hts (fun w h => List.mem_cons_of_mem _ (inlX0 w h)) hown hK hP q9 hq9 rfl 2 (by decide) (jw hts gw242) (fun _ h9 => h9) rfl (dd_of dX10_bring_0 21 rfl) ?_
    subst hQ
    exact W.lret (v := (G10 14 k3)) hx hb hr (fun t ht hW => ⟨⟨(G10 14 k3), (F9, G10), rfl, hres, by rw [ht]; exact hP, va_K.moved hW.alike hK, hD⟩, hS.F ht⟩) hS.2.2 (dd_of dX10_bring_0 22 rfl) hlk
set_option maxHeartbeats 4000000 in
set_option maxRecDepth 100000 in
theorem qX10_pourInto (l : Launch) (D : va_G) (yy : Nat → ClassId) (B : Nat → Nat) (F : jF) (G : jG) (sz : Nat) (p1 : Int32) (p2 : Int32) (hok : okX10_pourInto F G p1 p2) : Met l yX10_pourInto (Cond.code yX10_pourInto cX10_pourInto 3 (some .long) :: wsL_law) rmX10_pourInto (va_Pc [.ref (B 1), .int p1, .int p2] (jP D yy (lW yy B F G) sz)) (va_Ql (fun r (u : jS) => (r, u) = gX10_pourInto F G p1 p2) (fun (u : jS) t => jB D yy (va_A (lW yy B F G) sz) (lW yy B u.1 u.2) t) (va_A (lW yy B F G) sz)) 0 0 (va_A (lW yy B F G) sz) := by
  generalize hres : gX10_pourInto F G p1 p2 = RES
  refine jM (vs := [.ref (B 1), .int p1, .int p2]) (own := RX10) (by decide +kernel) rfl (Nat.le_of_ble_eq_true rfl) ?_
  intro p e s m args below meth c ls Q hQ hargs S hr hlk hinit hB hl
  obtain ⟨hx, hb, hml, hown, hts⟩ := S
  have hl : lv_has ls 3 [(0, .ref (B 1)), (1, .int p1), (2, .int p2)] := hl
  obtain ⟨hsz, hP, hK, hD0⟩ := hB
  subst hsz
  have hD := hD0.self (sz := s.heap.size)
  generalize hZ : va_A (lW yy B F G) s.heap.size = Z at hD hQ
  have hA : ∀ q : Nat, s.heap.size ≤ q → Z q := fun q h => by rw [← hZ]; exact Or.inr h
  obtain ⟨H, hH⟩ : ∃ z, z = s.heap := ⟨_, rfl⟩
  obtain ⟨locs, hlocs⟩ : ∃ z : List Loc, z = [] := ⟨_, rfl⟩
  have hS : va_S Z s.heap H locs := by rw [hH, hlocs]; exact va_S.rf
  rw [← hH] at hP
  suffices hgo : W p l e rmX10_pourInto s m args below meth c H locs 0 0 Q (F0 m 0 ls []) by rw [hH, hlocs] at hgo; exact hgo
  unfold gX10_pourInto at hres
  unfold okX10_pourInto at hok
  refine lv_aload_n hx hb (dd_of dX10_pourInto_0 0 rfl) rfl (lv_at hl 0 rfl) ?_
  refine lv_iload_n hx hb (dd_of dX10_pourInto_0 1 rfl) rfl (lv_at hl 1 rfl) ?_
  refine lv_iload_n hx hb (dd_of dX10_pourInto_0 2 rfl) rfl (lv_at hl 2 rfl) ?_
  refine lv_iconst (v := 0) hx hb (dd_of dX10_pourInto_0 3 rfl) (by decide) ?_
  have h1 := hok
  refine jm_l (As := [.int p1, .int p2, .int 0]) (rest := []) (w := (lW yy B F G)) (w1 := fun u : jS => (lW yy B u.1 u.2)) (D := D) (yy := yy) ⟨hx, hb, hml, hown, hts⟩ (qX10_bring l D yy B F G H.size  p1 p2 0 h1) (cwV 3 hts (jgV gw238 gw239 gw240 gw26 gw241) rfl rfl rfl (by decide +kernel) ⟨Nat.le_of_ble_eq_true rfl, Nat.le_of_ble_eq_true rfl⟩) hP hK hD hS hA (va_recv hK hP (ci := 10) (q0 := 1) rfl rfl) rfl hl.1 rfl (Nat.le_of_ble_eq_true rfl) (dd_of dX10_pourInto_0 4 rfl) ⟨Nat.zero_le _, Nat.zero_le _⟩ (fun x5 u9 H locs w4 hP hD hS => ?_)
  obtain ⟨F2, G3⟩ := u9
  have hP : va_P D vwCl (lW yy B F2 G3) H := hP
  have hD : va_D Z (lW yy B F2 G3) := hD
  replace hres := brE w4 hres
  subst hQ
  exact W.lret (v := x5) hx hb hr (fun t ht hW => ⟨⟨x5, (F2, G3), rfl, hres, by rw [ht]; exact hP, va_K.moved hW.alike hK, hD⟩, hS.F ht⟩) hS.2.2 (dd_of dX10_pourInto_0 5 rfl) hlk
set_option maxHeartbeats 4000000 in
set_option maxRecDepth 100000 in
theorem qX10_layOutside (l : Launch) (D : va_G) (yy : Nat → ClassId) (B : Nat → Nat) (F : jF) (G : jG) (sz : Nat) (p1 : Int32) (p2 : Int32) (p3 : Int32) (hok : okX10_layOutside F G p1 p2 p3) : Met l yX10_layOutside (Cond.code yX10_layOutside cX10_layOutside 4 (some .int) :: wsL_law) rmX10_layOutside (va_Pc [.ref (B 1), .int p1, .int p2, .int p3] (jP D yy (lW yy B F G) sz)) (va_Qi (fun r (u : jS) => (r, u) = gX10_layOutside F G p1 p2 p3) (fun (u : jS) t => jB D yy (va_A (lW yy B F G) sz) (lW yy B u.1 u.2) t) (va_A (lW yy B F G) sz)) 0 0 (va_A (lW yy B F G) sz) := by
  generalize hres : gX10_layOutside F G p1 p2 p3 = RES
  refine jM (vs := [.ref (B 1), .int p1, .int p2, .int p3]) (own := RX10) (by decide +kernel) rfl (Nat.le_of_ble_eq_true rfl) ?_
  intro p e s m args below meth c ls Q hQ hargs S hr hlk hinit hB hl
  obtain ⟨hx, hb, hml, hown, hts⟩ := S
  have hl : lv_has ls 4 [(0, .ref (B 1)), (1, .int p1), (2, .int p2), (3, .int p3)] := hl
  obtain ⟨hsz, hP, hK, hD0⟩ := hB
  subst hsz
  have hD := hD0.self (sz := s.heap.size)
  generalize hZ : va_A (lW yy B F G) s.heap.size = Z at hD hQ
  have hA : ∀ q : Nat, s.heap.size ≤ q → Z q := fun q h => by rw [← hZ]; exact Or.inr h
  obtain ⟨H, hH⟩ : ∃ z, z = s.heap := ⟨_, rfl⟩
  obtain ⟨locs, hlocs⟩ : ∃ z : List Loc, z = [] := ⟨_, rfl⟩
  have hS : va_S Z s.heap H locs := by rw [hH, hlocs]; exact va_S.rf
  rw [← hH] at hP
  suffices hgo : W p l e rmX10_layOutside s m args below meth c H locs 0 0 Q (F0 m 0 ls []) by rw [hH, hlocs] at hgo; exact hgo
  unfold gX10_layOutside at hres
  unfold okX10_layOutside at hok
  refine lv_aload_n hx hb (dd_of dX10_layOutside_0 0 rfl) rfl (lv_at hl 0 rfl) ?_
  refine va_get (D := D) (cl := vwCl) (tys := jT yy) (ci := 10) (v := .ref (B 9)) (C := RX10) (T := TX10) (N := 8) hx hb hts (fun w h => List.mem_cons_of_mem _ (inlX10 w h)) hown hK hP 1 rfl rfl 2 (by decide) (jw hts gw54) (fun _ h9 => h9) rfl (dd_of dX10_layOutside_0 1 rfl) ?_
  refine lv_iload_n hx hb (dd_of dX10_layOutside_0 2 rfl) rfl (lv_at hl 1 rfl) ?_
  refine lv_iload_n hx hb (dd_of dX10_layOutside_0 3 rfl) rfl (lv_at hl 2 rfl) ?_
  refine lv_iload_n hx hb (dd_of dX10_layOutside_0 4 rfl) rfl (lv_at hl 3 rfl) ?_
  refine jm_v (As := [.int p1, .int p2, .int p3]) (rest := []) (w := (lW yy B F G)) (w1 := fun u : jS => (lW yy B u.1 u.2)) (D := D) (yy := yy) ⟨hx, hb, hml, hown, hts⟩ (qX6_lay l D yy B F G H.size  p1 p2 p3 ) (cwV 3 hts (jgV gw307 gw308 gw309 gw53 gw310) rfl rfl rfl (by decide +kernel) ⟨Nat.le_of_ble_eq_true rfl, Nat.le_of_ble_eq_true rfl⟩) hP hK hD hS hA (va_recv hK hP (ci := 6) (q0 := 4) rfl rfl) rfl hl.1 rfl (Nat.le_of_ble_eq_true rfl) (dd_of dX10_layOutside_0 5 rfl) ⟨Nat.zero_le _, Nat.zero_le _⟩ (fun u9 H locs w3 hP hD hS => ?_)
  obtain ⟨F1, G2⟩ := u9
  have hP : va_P D vwCl (lW yy B F1 G2) H := hP
  have hD : va_D Z (lW yy B F1 G2) := hD
  replace hres := bsE w3 hres
  replace hok := bsO w3 hok
  refine lv_aload_n hx hb (dd_of dX10_layOutside_0 6 rfl) rfl (lv_at hl 0 rfl) ?_
  refine lv_aload_n hx hb (dd_of dX10_layOutside_0 7 rfl) rfl (lv_at hl 0 rfl) ?_
  refine va_get (D := D) (cl := vwCl) (tys := jT yy) (ci := 10) (v := .ref (B 9)) (C := RX10) (T := TX10) (N := 8) hx hb hts (fun w h => List.mem_cons_of_mem _ (inlX10 w h)) hown hK hP 1 rfl rfl 2 (by decide) (jw hts gw54) (fun _ h9 => h9) rfl (dd_of dX10_layOutside_0 8 rfl) ?_
  refine lv_aload_n hx hb (dd_of dX10_layOutside_0 9 rfl) rfl (lv_at hl 0 rfl) ?_
  refine va_get (D := D) (cl := vwCl) (tys := jT yy) (ci := 10) (v := .int (F1 0 0)) (C := RX10) (T := TX10) (N := 8) hx hb hts (fun w h => List.mem_cons_of_mem _ (inlX10 w h)) hown hK hP 1 rfl rfl 6 (by decide) (jw hts gw306) (fun _ h9 => h9) rfl (dd_of dX10_layOutside_0 10 rfl) ?_
  have h4 := hok
  refine jc_l (As := [.int (F1 0 0)]) (rest := [.ref (B 1)]) (w := (lW yy B F1 G2)) (D := D) (yy := yy) ⟨hx, hb, hml, hown, hts⟩ (qX6_seaAt l D yy B F1 G2  (F1 0 0) h4) (cwV 1 hts (jgV gw66 gw67 gw68 gw53 gw69) rfl rfl rfl (by decide +kernel) ⟨Nat.le_of_ble_eq_true rfl, Nat.le_of_ble_eq_true rfl⟩) hP hK (va_recv hK hP (ci := 6) (q0 := 4) rfl rfl) rfl hl.1 rfl (Nat.le_of_ble_eq_true rfl) (dd_of dX10_layOutside_0 11 rfl) ⟨Nat.zero_le _, Nat.zero_le _⟩ (fun x5 ex5 => ?_)
  replace hres := bvE ex5 hres
  refine va_put (D := D) (cl := vwCl) (tys := jT yy) (ci := 10) (v := .long x5) (ty := .long) (C := RX10) (T := TX10) (N := 8) hx hb hts (fun w h => List.mem_cons_of_mem _ (inlX10 w h)) tyX10 tyX10_ok nmX10 hown hK hP hD hS 1 rfl rfl 7 (by decide) (jw hts gw58) (fun _ h9 => h9) rfl (by decide +kernel) rfl rfl (Nat.le_of_ble_eq_true rfl) (dd_of dX10_layOutside_0 12 rfl) (fun H locs hP hD hS => ?_)
  obtain ⟨G6, e7⟩ : ∃ z : jG, z = u2 G2 69 0 x5 := ⟨_, rfl⟩
  have hP : va_P D vwCl (lW yy B F1 G6) H := by rw [e7]; exact hP
  have hD : va_D Z (lW yy B F1 G6) := by rw [e7]; exact hD
  replace hres := bvE e7 hres
  refine lv_iconst (v := 0) hx hb (dd_of dX10_layOutside_0 13 rfl) (by decide) ?_
  subst hQ
  exact W.iret (v := 0) hx hb hr (fun t ht hW => ⟨⟨0, (F1, G6), rfl, hres, by rw [ht]; exact hP, va_K.moved hW.alike hK, hD⟩, hS.F ht⟩) hS.2.2 (dd_of dX10_layOutside_0 14 rfl) hlk
set_option maxHeartbeats 4000000 in
set_option maxRecDepth 100000 in
theorem qX10_endHour (l : Launch) (D : va_G) (yy : Nat → ClassId) (B : Nat → Nat) (F : jF) (G : jG) (sz : Nat)  (hok : okX10_endHour F G ) : Met l yX10_endHour (Cond.code yX10_endHour cX10_endHour 1 none :: wsL_law) rmX10_endHour (va_Pc [.ref (B 1)] (jP D yy (lW yy B F G) sz)) (va_Qv (fun u : jS => u = gX10_endHour F G ) (fun (u : jS) t => jB D yy (va_A (lW yy B F G) sz) (lW yy B u.1 u.2) t) (va_A (lW yy B F G) sz)) 0 0 (va_A (lW yy B F G) sz) := by
  generalize hres : gX10_endHour F G  = RES
  refine jM (vs := [.ref (B 1)]) (own := RX10) (by decide +kernel) rfl (Nat.le_of_ble_eq_true rfl) ?_
  intro p e s m args below meth c ls Q hQ hargs S hr hlk hinit hB hl
  obtain ⟨hx, hb, hml, hown, hts⟩ := S
  have hl : lv_has ls 1 [(0, .ref (B 1))] := hl
  obtain ⟨hsz, hP, hK, hD0⟩ := hB
  subst hsz
  have hD := hD0.self (sz := s.heap.size)
  generalize hZ : va_A (lW yy B F G) s.heap.size = Z at hD hQ
  have hA : ∀ q : Nat, s.heap.size ≤ q → Z q := fun q h => by rw [← hZ]; exact Or.inr h
  obtain ⟨H, hH⟩ : ∃ z, z = s.heap := ⟨_, rfl⟩
  obtain ⟨locs, hlocs⟩ : ∃ z : List Loc, z = [] := ⟨_, rfl⟩
  have hS : va_S Z s.heap H locs := by rw [hH, hlocs]; exact va_S.rf
  rw [← hH] at hP
  suffices hgo : W p l e rmX10_endHour s m args below meth c H locs 0 0 Q (F0 m 0 ls []) by rw [hH, hlocs] at hgo; exact hgo
  unfold gX10_endHour at hres
  unfold okX10_endHour at hok
  refine lv_aload_n hx hb (dd_of dX10_endHour_0 0 rfl) rfl (lv_at hl 0 rfl) ?_
  refine lv_dup hx hb (dd_of dX10_endHour_0 1 rfl) rfl ?_
  refine va_get (D := D) (cl := vwCl) (tys := jT yy) (ci := 10) (v := .int (F 0 0)) (C := RX10) (T := TX10) (N := 8) hx hb hts (fun w h => List.mem_cons_of_mem _ (inlX10 w h)) hown hK hP 1 rfl rfl 6 (by decide) (jw hts gw306) (fun _ h9 => h9) rfl (dd_of dX10_endHour_0 2 rfl) ?_
  refine lv_iconst (v := 1) hx hb (dd_of dX10_endHour_0 3 rfl) (by decide) ?_
  refine lv_iadd hx hb (dd_of dX10_endHour_0 4 rfl) ?_
  refine va_put (D := D) (cl := vwCl) (tys := jT yy) (ci := 10) (v := .int ((F 0 0) + 1)) (ty := .int) (C := RX10) (T := TX10) (N := 8) hx hb hts (fun w h => List.mem_cons_of_mem _ (inlX10 w h)) tyX10 tyX10_ok nmX10 hown hK hP hD hS 1 rfl rfl 6 (by decide) (jw hts gw306) (fun _ h9 => h9) rfl (by decide +kernel) rfl rfl (Nat.le_of_ble_eq_true rfl) (dd_of dX10_endHour_0 5 rfl) (fun H locs hP hD hS => ?_)
  obtain ⟨F1, e2⟩ : ∃ z : jF, z = u2 F 0 0 ((F 0 0) + 1) := ⟨_, rfl⟩
  have hP : va_P D vwCl (lW yy B F1 G) H := by rw [e2]; exact hP
  have hD : va_D Z (lW yy B F1 G) := by rw [e2]; exact hD
  replace hres := bvE e2 hres
  replace hok := bvO e2 hok
  refine lv_aload_n hx hb (dd_of dX10_endHour_0 6 rfl) rfl (lv_at hl 0 rfl) ?_
  refine lv_aload_n hx hb (dd_of dX10_endHour_0 7 rfl) rfl (lv_at hl 0 rfl) ?_
  refine va_get (D := D) (cl := vwCl) (tys := jT yy) (ci := 10) (v := .ref (B 9)) (C := RX10) (T := TX10) (N := 8) hx hb hts (fun w h => List.mem_cons_of_mem _ (inlX10 w h)) hown hK hP 1 rfl rfl 2 (by decide) (jw hts gw54) (fun _ h9 => h9) rfl (dd_of dX10_endHour_0 8 rfl) ?_
  refine lv_aload_n hx hb (dd_of dX10_endHour_0 9 rfl) rfl (lv_at hl 0 rfl) ?_
  refine va_get (D := D) (cl := vwCl) (tys := jT yy) (ci := 10) (v := .int (F1 0 0)) (C := RX10) (T := TX10) (N := 8) hx hb hts (fun w h => List.mem_cons_of_mem _ (inlX10 w h)) hown hK hP 1 rfl rfl 6 (by decide) (jw hts gw306) (fun _ h9 => h9) rfl (dd_of dX10_endHour_0 10 rfl) ?_
  have h3 := hok
  refine jc_l (As := [.int (F1 0 0)]) (rest := [.ref (B 1)]) (w := (lW yy B F1 G)) (D := D) (yy := yy) ⟨hx, hb, hml, hown, hts⟩ (qX6_seaAt l D yy B F1 G  (F1 0 0) h3) (cwV 1 hts (jgV gw66 gw67 gw68 gw53 gw69) rfl rfl rfl (by decide +kernel) ⟨Nat.le_of_ble_eq_true rfl, Nat.le_of_ble_eq_true rfl⟩) hP hK (va_recv hK hP (ci := 6) (q0 := 4) rfl rfl) rfl hl.1 rfl (Nat.le_of_ble_eq_true rfl) (dd_of dX10_endHour_0 11 rfl) ⟨Nat.zero_le _, Nat.zero_le _⟩ (fun x4 ex4 => ?_)
  replace hres := bvE ex4 hres
  refine va_put (D := D) (cl := vwCl) (tys := jT yy) (ci := 10) (v := .long x4) (ty := .long) (C := RX10) (T := TX10) (N := 8) hx hb hts (fun w h => List.mem_cons_of_mem _ (inlX10 w h)) tyX10 tyX10_ok nmX10 hown hK hP hD hS 1 rfl rfl 7 (by decide) (jw hts gw58) (fun _ h9 => h9) rfl (by decide +kernel) rfl rfl (Nat.le_of_ble_eq_true rfl) (dd_of dX10_endHour_0 12 rfl) (fun H locs hP hD hS => ?_)
  obtain ⟨G5, e6⟩ : ∃ z : jG, z = u2 G 69 0 x4 := ⟨_, rfl⟩
  have hP : va_P D vwCl (lW yy B F1 G5) H := by rw [e6]; exact hP
  have hD : va_D Z (lW yy B F1 G5) := by rw [e6]; exact hD
  replace hres := bvE e6 hres
  subst hQ
  exact W.vret hx hb hr (fun t ht hW => ⟨⟨(F1, G5), rfl, hres, by rw [ht]; exact hP, va_K.moved hW.alike hK, hD⟩, hS.F ht⟩) hS.2.2 (dd_of dX10_endHour_0 13 rfl) hlk
set_option maxHeartbeats 4000000 in
set_option maxRecDepth 100000 in
theorem qX10_fallRain (l : Launch) (D : va_G) (yy : Nat → ClassId) (B : Nat → Nat) (F : jF) (G : jG) (sz : Nat)  (hok : okX10_fallRain F G ) : Met l yX10_fallRain (Cond.code yX10_fallRain cX10_fallRain 2 none :: wsL_law) rmX10_fallRain (va_Pc [.ref (B 1)] (jP D yy (lW yy B F G) sz)) (va_Qv (fun u : jS => u = gX10_fallRain F G ) (fun (u : jS) t => jB D yy (va_A (lW yy B F G) sz) (lW yy B u.1 u.2) t) (va_A (lW yy B F G) sz)) 0 0 (va_A (lW yy B F G) sz) := by
  generalize hres : gX10_fallRain F G  = RES
  refine jM (vs := [.ref (B 1)]) (own := RX10) (by decide +kernel) rfl (Nat.le_of_ble_eq_true rfl) ?_
  intro p e s m args below meth c ls Q hQ hargs S hr hlk hinit hB hl
  obtain ⟨hx, hb, hml, hown, hts⟩ := S
  have hl : lv_has ls 2 [(0, .ref (B 1))] := hl
  obtain ⟨hsz, hP, hK, hD0⟩ := hB
  subst hsz
  have hD := hD0.self (sz := s.heap.size)
  generalize hZ : va_A (lW yy B F G) s.heap.size = Z at hD hQ
  have hA : ∀ q : Nat, s.heap.size ≤ q → Z q := fun q h => by rw [← hZ]; exact Or.inr h
  obtain ⟨H, hH⟩ : ∃ z, z = s.heap := ⟨_, rfl⟩
  obtain ⟨locs, hlocs⟩ : ∃ z : List Loc, z = [] := ⟨_, rfl⟩
  have hS : va_S Z s.heap H locs := by rw [hH, hlocs]; exact va_S.rf
  rw [← hH] at hP
  suffices hgo : W p l e rmX10_fallRain s m args below meth c H locs 0 0 Q (F0 m 0 ls []) by rw [hH, hlocs] at hgo; exact hgo
  unfold gX10_fallRain at hres
  unfold okX10_fallRain at hok
  refine lv_iconst (v := 0) hx hb (dd_of dX10_fallRain_0 0 rfl) (by decide) ?_
  refine lv_istore_n (lv' := [(1, .int 0), (0, .ref (B 1))]) hx hb (dd_of dX10_fallRain_0 1 rfl) rfl hl (by decide) rfl (fun ls hl => ?_)
  have LP2 : ∀ (K : Int32 → jF → jG → jS) (okK : Int32 → jF → jG → Prop) (n : Nat), ∀ (v1 : Int32) (F : jF) (G : jG), ∀ (H : Heap) (locs : List Loc) (ls : Array Slot), va_P D vwCl (lW yy B F G) H → va_D Z (lW yy B F G) → va_S Z s.heap H locs → lv_has ls 2 [(1, .int v1), (0, .ref (B 1))] → okX10_fallRain_L2  okK n v1 F G → gX10_fallRain_L2  K n v1 F G = RES → (∀ (v1 : Int32) (F : jF) (G : jG), ∀ (H : Heap) (locs : List Loc) (ls : Array Slot), va_P D vwCl (lW yy B F G) H → va_D Z (lW yy B F G) → va_S Z s.heap H locs → lv_has ls 2 [(1, .int v1), (0, .ref (B 1))] → okK v1 F G → K v1 F G = RES → W p l e rmX10_fallRain s m args below meth c H locs 0 0 Q (F0 m 66 ls [])) → W p l e rmX10_fallRain s m args below meth c H locs 0 0 Q (F0 m 2 ls []) := by
    intro  K okK n
    induction n with
    | zero =>
      intro v1 F G H locs ls hP hD hS hl hok _ _
      exact absurd hok (by unfold okX10_fallRain_L2; exact id)
    | succ n9 ih =>
      intro v1 F G H locs ls hP hD hS hl hok hres hexit
      unfold gX10_fallRain_L2 at hres
      unfold okX10_fallRain_L2 at hok
      refine lv_iload_n hx hb (dd_of dX10_fallRain_0 2 rfl) rfl (lv_at hl 0 rfl) ?_
      refine lv_aload_n hx hb (dd_of dX10_fallRain_0 3 rfl) rfl (lv_at hl 1 rfl) ?_
      refine va_get (D := D) (cl := vwCl) (tys := jT yy) (ci := 10) (v := .ref (B 10)) (C := RX10) (T := TX10) (N := 8) hx hb hts (fun w h => List.mem_cons_of_mem _ (inlX10 w h)) hown hK hP 1 rfl rfl 3 (by decide) (jw hts gw56) (fun _ h9 => h9) rfl (dd_of dX10_fallRain_0 4 rfl) ?_
      refine va_alen (v := 12) hx hb hK hP 10 8 rfl rfl rfl (dd_of dX10_fallRain_0 5 rfl) ?_
      refine lv_icmp_ge (tgt := 66) hx hb (dd_of dX10_fallRain_0 6 rfl) (by decide) (fun c1 => ?_) (fun c1 => ?_)
      · replace hres := ifE c1 hres
        replace hok := hok.1 c1
        exact hexit v1 F G H locs ls hP hD hS (lv_sub hl [0, 1] rfl) hok hres
      · replace hres := ifN c1 hres
        replace hok := hok.2 c1
        refine lv_aload_n hx hb (dd_of dX10_fallRain_0 7 rfl) rfl (lv_at hl 1 rfl) ?_
        refine va_get (D := D) (cl := vwCl) (tys := jT yy) (ci := 10) (v := .ref (B 10)) (C := RX10) (T := TX10) (N := 8) hx hb hts (fun w h => List.mem_cons_of_mem _ (inlX10 w h)) hown hK hP 1 rfl rfl 3 (by decide) (jw hts gw56) (fun _ h9 => h9) rfl (dd_of dX10_fallRain_0 8 rfl) ?_
        refine lv_iload_n hx hb (dd_of dX10_fallRain_0 9 rfl) rfl (lv_at hl 0 rfl) ?_
        have h3 := hok.1
        replace hok := hok.2
        refine va_aldq hx hb hK hP 10 8 rfl rfl h3 (dd_of dX10_fallRain_0 10 rfl) ?_
        refine jo_nm (B := B) (off := 600) (e0 := (op (cn F 44) (Int32.toNatClampNeg v1))) (fun o2 eo2 => ?_)
        replace hres := bvE eo2 hres
        replace hok := bvO eo2 hok
        rcases o2 with _ | k4
        · replace hres := omN hres
          replace hok := opN hok
          refine lv_ifnullN (tgt := 60) hx hb (dd_of dX10_fallRain_0 11 rfl) (by decide) ?_
          refine lv_iinc (v := (v1 + 1)) (lv' := [(1, .int (v1 + 1)), (0, .ref (B 1))]) hx hb (dd_of dX10_fallRain_0 34 rfl) hl (k := 0) rfl rfl (by decide) rfl (fun ls hl => ?_)
          refine lv_goto (tgt := 2) hx hb (dd_of dX10_fallRain_0 35 rfl) (by decide) ?_
          exact ih (v1 + 1) F G H locs ls hP hD hS (lv_sub hl [0, 1] rfl) hok hres hexit
        · replace hres := omS hres
          replace hok := opS hok
          refine lv_ifnull hx hb (dd_of dX10_fallRain_0 11 rfl) ?_
          refine lv_aload_n hx hb (dd_of dX10_fallRain_0 12 rfl) rfl (lv_at hl 1 rfl) ?_
          refine va_get (D := D) (cl := vwCl) (tys := jT yy) (ci := 10) (v := .ref (B 10)) (C := RX10) (T := TX10) (N := 8) hx hb hts (fun w h => List.mem_cons_of_mem _ (inlX10 w h)) hown hK hP 1 rfl rfl 3 (by decide) (jw hts gw56) (fun _ h9 => h9) rfl (dd_of dX10_fallRain_0 13 rfl) ?_
          refine lv_iload_n hx hb (dd_of dX10_fallRain_0 14 rfl) rfl (lv_at hl 0 rfl) ?_
          have h6 := hok.1
          replace hok := hok.2
          refine va_aldq hx hb hK hP 10 8 rfl rfl h6 (dd_of dX10_fallRain_0 15 rfl) ?_
          refine jo_nm (B := B) (off := 600) (e0 := (op (cn F 44) (Int32.toNatClampNeg v1))) (fun o5 eo5 => ?_)
          replace hres := bvE eo5 hres
          replace hok := bvO eo5 hok
          refine lv_aload_n hx hb (dd_of dX10_fallRain_0 16 rfl) rfl (lv_at hl 1 rfl) ?_
          refine va_get (D := D) (cl := vwCl) (tys := jT yy) (ci := 10) (v := .int (F 0 0)) (C := RX10) (T := TX10) (N := 8) hx hb hts (fun w h => List.mem_cons_of_mem _ (inlX10 w h)) hown hK hP 1 rfl rfl 6 (by decide) (jw hts gw306) (fun _ h9 => h9) rfl (dd_of dX10_fallRain_0 17 rfl) ?_
          rcases o5 with _ | k7
          · replace hres := omN hres
            replace hok := opN hok
            exact False.elim hok
          · replace hres := omS hres
            replace hok := opS hok
            have h8 := hok.1
            replace hok := hok.2
            have h9 := hok.1
            replace hok := hok.2
            obtain ⟨q9, hq9⟩ := lWg_rain (yy := yy) (B := B) (F := F) (G := G) h8
            refine jc_i (As := [.int (F 0 0)]) (rest := []) (w := (lW yy B F G)) (D := D) (yy := yy) ⟨hx, hb, hml, hown, hts⟩ (qX9_goesAt l D yy B F G k7 (F 0 0) h9) (cwV 1 hts (jgV gw428 gw429 gw430 gw87 gw431) rfl rfl rfl (by decide +kernel) ⟨Nat.le_of_ble_eq_true rfl, Nat.le_of_ble_eq_true rfl⟩) hP hK (va_recv hK hP (ci := 9) (q0 := q9) rfl hq9) rfl hl.1 rfl (Nat.le_of_ble_eq_true rfl) (dd_of dX10_fallRain_0 18 rfl) ⟨Nat.zero_le _, Nat.zero_le _⟩ (fun x10 ex10 => ?_)
            replace hres := bvE ex10 hres
            replace hok := bvO ex10 hok
            refine lv_if_eq (tgt := 60) hx hb (dd_of dX10_fallRain_0 19 rfl) (by decide) (fun c11 => ?_) (fun c11 => ?_)
            · replace hres := ifE c11 hres
              replace hok := hok.1 c11
              refine lv_iinc (v := (v1 + 1)) (lv' := [(1, .int (v1 + 1)), (0, .ref (B 1))]) hx hb (dd_of dX10_fallRain_0 34 rfl) hl (k := 0) rfl rfl (by decide) rfl (fun ls hl => ?_)
              refine lv_goto (tgt := 2) hx hb (dd_of dX10_fallRain_0 35 rfl) (by decide) ?_
              exact ih (v1 + 1) F G H locs ls hP hD hS (lv_sub hl [0, 1] rfl) hok hres hexit
            · replace hres := ifN c11 hres
              replace hok := hok.2 c11
              refine lv_aload_n hx hb (dd_of dX10_fallRain_0 20 rfl) rfl (lv_at hl 1 rfl) ?_
              refine lv_aload_n hx hb (dd_of dX10_fallRain_0 21 rfl) rfl (lv_at hl 1 rfl) ?_
              refine va_get (D := D) (cl := vwCl) (tys := jT yy) (ci := 10) (v := .ref (B 10)) (C := RX10) (T := TX10) (N := 8) hx hb hts (fun w h => List.mem_cons_of_mem _ (inlX10 w h)) hown hK hP 1 rfl rfl 3 (by decide) (jw hts gw56) (fun _ h9 => h9) rfl (dd_of dX10_fallRain_0 22 rfl) ?_
              refine lv_iload_n hx hb (dd_of dX10_fallRain_0 23 rfl) rfl (lv_at hl 0 rfl) ?_
              have h13 := hok.1
              replace hok := hok.2
              refine va_aldq hx hb hK hP 10 8 rfl rfl h13 (dd_of dX10_fallRain_0 24 rfl) ?_
              refine jo_nm (B := B) (off := 600) (e0 := (op (cn F 44) (Int32.toNatClampNeg v1))) (fun o12 eo12 => ?_)
              replace hres := bvE eo12 hres
              replace hok := bvO eo12 hok
              rcases o12 with _ | k14
              · replace hres := omN hres
                replace hok := opN hok
                exact False.elim hok
              · replace hres := omS hres
                replace hok := opS hok
                have h15 := hok.1
                replace hok := hok.2
                obtain ⟨q9, hq9⟩ := lWg_rain (yy := yy) (B := B) (F := F) (G := G) h15
                refine va_get (D := D) (cl := vwCl) (tys := jT yy) (ci := 9) (v := .int (F 45 k14)) (C := RX9) (T := TX9) (N := 4) hx hb hts (fun w h => List.mem_cons_of_mem _ (inlX9 w h)) hown hK hP q9 hq9 rfl 3 (by decide) (jw hts gw426) (fun _ h9 => h9) rfl (dd_of dX10_fallRain_0 25 rfl) ?_
                refine lv_aload_n hx hb (dd_of dX10_fallRain_0 26 rfl) rfl (lv_at hl 1 rfl) ?_
                refine va_get (D := D) (cl := vwCl) (tys := jT yy) (ci := 10) (v := .ref (B 10)) (C := RX10) (T := TX10) (N := 8) hx hb hts (fun w h => List.mem_cons_of_mem _ (inlX10 w h)) hown hK hP 1 rfl rfl 3 (by decide) (jw hts gw56) (fun _ h9 => h9) rfl (dd_of dX10_fallRain_0 27 rfl) ?_
                refine lv_iload_n hx hb (dd_of dX10_fallRain_0 28 rfl) rfl (lv_at hl 0 rfl) ?_
                have h17 := hok.1
                replace hok := hok.2
                refine va_aldq hx hb hK hP 10 8 rfl rfl h17 (dd_of dX10_fallRain_0 29 rfl) ?_
                refine jo_nm (B := B) (off := 600) (e0 := (op (cn F 44) (Int32.toNatClampNeg v1))) (fun o16 eo16 => ?_)
                replace hres := bvE eo16 hres
                replace hok := bvO eo16 hok
                rcases o16 with _ | k18
                · replace hres := omN hres
                  replace hok := opN hok
                  exact False.elim hok
                · replace hres := omS hres
                  replace hok := opS hok
                  have h19 := hok.1
                  replace hok := hok.2
                  obtain ⟨q9, hq9⟩ := lWg_rain (yy := yy) (B := B) (F := F) (G := G) h19
                  refine va_get (D := D) (cl := vwCl) (tys := jT yy) (ci := 9) (v := .int (F 48 k18)) (C := RX9) (T := TX9) (N := 4) hx hb hts (fun w h => List.mem_cons_of_mem _ (inlX9 w h)) hown hK hP q9 hq9 rfl 2 (by decide) (jw hts gw427) (fun _ h9 => h9) rfl (dd_of dX10_fallRain_0 30 rfl) ?_
                  refine lv_iconst (v := 1) hx hb (dd_of dX10_fallRain_0 31 rfl) (by decide) ?_
                  have h20 := hok.1
                  replace hok := hok.2
                  refine jm_l (As := [.int (F 45 k14), .int (F 48 k18), .int 1]) (rest := []) (w := (lW yy B F G)) (w1 := fun u : jS => (lW yy B u.1 u.2)) (D := D) (yy := yy) ⟨hx, hb, hml, hown, hts⟩ (qX10_bring l D yy B F G H.size  (F 45 k14) (F 48 k18) 1 h20) (cwV 3 hts (jgV gw238 gw239 gw240 gw26 gw241) rfl rfl rfl (by decide +kernel) ⟨Nat.le_of_ble_eq_true rfl, Nat.le_of_ble_eq_true rfl⟩) hP hK hD hS hA (va_recv hK hP (ci := 10) (q0 := 1) rfl rfl) rfl hl.1 rfl (Nat.le_of_ble_eq_true rfl) (dd_of dX10_fallRain_0 32 rfl) ⟨Nat.zero_le _, Nat.zero_le _⟩ (fun x24 u9 H locs w23 hP hD hS => ?_)
                  obtain ⟨F21, G22⟩ := u9
                  have hP : va_P D vwCl (lW yy B F21 G22) H := hP
                  have hD : va_D Z (lW yy B F21 G22) := hD
                  replace hres := brE w23 hres
                  replace hok := brO w23 hok
                  refine lv_pop2_2 hx hb (dd_of dX10_fallRain_0 33 rfl) rfl ?_
                  refine lv_iinc (v := (v1 + 1)) (lv' := [(1, .int (v1 + 1)), (0, .ref (B 1))]) hx hb (dd_of dX10_fallRain_0 34 rfl) hl (k := 0) rfl rfl (by decide) rfl (fun ls hl => ?_)
                  refine lv_goto (tgt := 2) hx hb (dd_of dX10_fallRain_0 35 rfl) (by decide) ?_
                  exact ih (v1 + 1) F21 G22 H locs ls hP hD hS (lv_sub hl [0, 1] rfl) hok hres hexit
  refine LP2  _ _ 80 0 F G H locs ls hP hD hS (lv_sub hl [0, 1] rfl) hok hres (fun y25 F26 G27 H locs ls hP hD hS hl hok hres => ?_)
  subst hQ
  exact W.vret hx hb hr (fun t ht hW => ⟨⟨(F26, G27), rfl, hres, by rw [ht]; exact hP, va_K.moved hW.alike hK, hD⟩, hS.F ht⟩) hS.2.2 (dd_of dX10_fallRain_0 36 rfl) hlk
set_option maxHeartbeats 4000000 in
set_option maxRecDepth 100000 in
theorem qX10_came (l : Launch) (D : va_G) (yy : Nat → ClassId) (B : Nat → Nat) (F : jF) (G : jG) (p1 : Int32) (hok : okX10_came F G p1) : Met l yX10_came (Cond.code yX10_came cX10_came 2 (some .long) :: wsL_law) rmX10_came (va_Pc [.ref (B 1), .int p1] (jR D yy (lW yy B F G))) (vp_Sl (fun r => r = gX10_came F G p1)) 0 0 (fun _ => False) := by
  generalize hres : gX10_came F G p1 = RES
  refine jM (vs := [.ref (B 1), .int p1]) (own := RX10) (by decide +kernel) rfl (Nat.le_of_ble_eq_true rfl) ?_
  intro p e s m args below meth c ls Q hQ hargs S hr hlk hinit hB hl
  obtain ⟨hx, hb, hml, hown, hts⟩ := S
  have hl : lv_has ls 2 [(0, .ref (B 1)), (1, .int p1)] := hl
  obtain ⟨hP, hK⟩ := hB
  unfold gX10_came at hres
  unfold okX10_came at hok
  refine lv_iload_n hx hb (dd_of dX10_came_0 0 rfl) rfl (lv_at hl 1 rfl) ?_
  obtain ⟨z6, q5⟩ : ∃ z : Int64, (if p1 < 0 then 0 else (if p1 < 4 then (G 56 (Int32.toNatClampNeg p1)) else 0)) = z := ⟨_, rfl⟩
  have o8 := hok
  refine jn_l (ls := ls) (v := z6) 23 [] (fun v4 ev4 => ?_) (fun K7 => ?_)
  · replace hres := bvE (ev4.trans q5.symm) hres
    subst hQ
    exact W.lret (v := v4) hx hb hr (fun t ht _ => ⟨_, rfl, hres, ht⟩) (fun _ h => absurd h List.not_mem_nil) (dd_of dX10_came_0 13 rfl) hlk
  · skip
    refine lv_if_lt (tgt := 13) hx hb (dd_of dX10_came_0 1 rfl) (by decide) (fun c1 => ?_) (fun c1 => ?_)
    · replace q5 := ifE c1 q5
      refine lv_lconst (v := 0) hx hb (dd_of dX10_came_0 7 rfl) (by decide) ?_
      refine lv_goto (tgt := 23) hx hb (dd_of dX10_came_0 8 rfl) (by decide) ?_
      exact K7 _ q5
    · replace q5 := ifN c1 q5
      replace o8 := o8.2 c1
      refine lv_iload_n hx hb (dd_of dX10_came_0 2 rfl) rfl (lv_at hl 1 rfl) ?_
      refine lv_aload_n hx hb (dd_of dX10_came_0 3 rfl) rfl (lv_at hl 0 rfl) ?_
      refine va_get (D := D) (cl := vwCl) (tys := jT yy) (ci := 10) (v := .ref (B 11)) (C := RX10) (T := TX10) (N := 8) hx hb hts (fun w h => List.mem_cons_of_mem _ (inlX10 w h)) hown hK hP 1 rfl rfl 5 (by decide) (jw hts gw57) (fun _ h9 => h9) rfl (dd_of dX10_came_0 4 rfl) ?_
      refine va_alen (v := 4) hx hb hK hP 11 1 rfl rfl rfl (dd_of dX10_came_0 5 rfl) ?_
      refine lv_icmp_lt (tgt := 17) hx hb (dd_of dX10_came_0 6 rfl) (by decide) (fun c2 => ?_) (fun c2 => ?_)
      · replace q5 := ifE c2 q5
        replace o8 := o8.1 c2
        refine lv_aload_n hx hb (dd_of dX10_came_0 9 rfl) rfl (lv_at hl 0 rfl) ?_
        refine va_get (D := D) (cl := vwCl) (tys := jT yy) (ci := 10) (v := .ref (B 11)) (C := RX10) (T := TX10) (N := 8) hx hb hts (fun w h => List.mem_cons_of_mem _ (inlX10 w h)) hown hK hP 1 rfl rfl 5 (by decide) (jw hts gw57) (fun _ h9 => h9) rfl (dd_of dX10_came_0 10 rfl) ?_
        refine lv_iload_n hx hb (dd_of dX10_came_0 11 rfl) rfl (lv_at hl 1 rfl) ?_
        have h3 := o8
        refine va_lald hx hb hK hP 11 1 rfl rfl h3 (dd_of dX10_came_0 12 rfl) ?_
        exact K7 _ q5
      · replace q5 := ifN c2 q5
        refine lv_lconst (v := 0) hx hb (dd_of dX10_came_0 7 rfl) (by decide) ?_
        refine lv_goto (tgt := 23) hx hb (dd_of dX10_came_0 8 rfl) (by decide) ?_
        exact K7 _ q5
set_option maxHeartbeats 4000000 in
set_option maxRecDepth 100000 in
theorem qX10_heightOf (l : Launch) (D : va_G) (yy : Nat → ClassId) (B : Nat → Nat) (F : jF) (G : jG) (p1 : Int32) (hok : okX10_heightOf F G p1) : Met l yX10_heightOf (Cond.code yX10_heightOf cX10_heightOf 3 (some .long) :: wsL_law) rmX10_heightOf (va_Pc [.ref (B 1), .int p1] (jR D yy (lW yy B F G))) (vp_Sl (fun r => r = gX10_heightOf F G p1)) 0 0 (fun _ => False) := by
  generalize hres : gX10_heightOf F G p1 = RES
  refine jM (vs := [.ref (B 1), .int p1]) (own := RX10) (by decide +kernel) rfl (Nat.le_of_ble_eq_true rfl) ?_
  intro p e s m args below meth c ls Q hQ hargs S hr hlk hinit hB hl
  obtain ⟨hx, hb, hml, hown, hts⟩ := S
  have hl : lv_has ls 3 [(0, .ref (B 1)), (1, .int p1)] := hl
  obtain ⟨hP, hK⟩ := hB
  unfold gX10_heightOf at hres
  unfold okX10_heightOf at hok
  refine lv_iload_n hx hb (dd_of dX10_heightOf_0 0 rfl) rfl (lv_at hl 1 rfl) ?_
  refine lv_bipush (v := 20) hx hb (dd_of dX10_heightOf_0 1 rfl) (by decide) ?_
  refine lv_icmp_ne (tgt := 11) hx hb (dd_of dX10_heightOf_0 2 rfl) (by decide) (fun c1 => ?_) (fun c1 => ?_)
  · replace hres := ifN c1 hres
    replace hok := hok.2 c1
    refine lv_iload_n hx hb (dd_of dX10_heightOf_0 6 rfl) rfl (lv_at hl 1 rfl) ?_
    refine lv_bipush (v := 21) hx hb (dd_of dX10_heightOf_0 7 rfl) (by decide) ?_
    refine lv_icmp_ne (tgt := 26) hx hb (dd_of dX10_heightOf_0 8 rfl) (by decide) (fun c2 => ?_) (fun c2 => ?_)
    · replace hres := ifN c2 hres
      replace hok := hok.2 c2
      refine lv_aload_n hx hb (dd_of dX10_heightOf_0 14 rfl) rfl (lv_at hl 0 rfl) ?_
      refine lv_iload_n hx hb (dd_of dX10_heightOf_0 15 rfl) rfl (lv_at hl 1 rfl) ?_
      have h3 := hok.1
      replace hok := hok.2
      refine jc_q (As := [.int p1]) (rest := []) (w := (lW yy B F G)) (D := D) (yy := yy) (B := B) (off := 100) ⟨hx, hb, hml, hown, hts⟩ (qX10_basinAt l D yy B F G  p1 h3) (cwV 1 hts (jgV gw230 gw231 gw232 gw26 gw233) rfl rfl rfl (by decide +kernel) ⟨Nat.le_of_ble_eq_true rfl, Nat.le_of_ble_eq_true rfl⟩) hP hK (va_recv hK hP (ci := 10) (q0 := 1) rfl rfl) rfl hl.1 rfl (Nat.le_of_ble_eq_true rfl) (dd_of dX10_heightOf_0 16 rfl) ⟨Nat.zero_le _, Nat.zero_le _⟩ (fun o4 eo4 => ?_)
      replace hres := bvE eo4 hres
      replace hok := bvO eo4 hok
      rcases o4 with _ | k5
      · replace hres := omN hres
        replace hok := opN hok
        refine lv_astore_nN (lv' := [(2, .null), (0, .ref (B 1)), (1, .int p1)]) hx hb (dd_of dX10_heightOf_0 17 rfl) rfl hl (by decide) rfl (fun ls hl => ?_)
        refine lv_aload_nN hx hb (dd_of dX10_heightOf_0 18 rfl) rfl (lv_at hl 0 rfl) ?_
        refine lv_ifnonnullN hx hb (dd_of dX10_heightOf_0 19 rfl) ?_
        refine lv_lconst (v := 0) hx hb (dd_of dX10_heightOf_0 20 rfl) (by decide) ?_
        refine lv_goto (tgt := 44) hx hb (dd_of dX10_heightOf_0 21 rfl) (by decide) ?_
        subst hQ
        exact W.lret (v := 0) hx hb hr (fun t ht _ => ⟨_, rfl, hres, ht⟩) (fun _ h => absurd h List.not_mem_nil) (dd_of dX10_heightOf_0 24 rfl) hlk
      · replace hres := omS hres
        replace hok := opS hok
        refine lv_astore_n (lv' := [(2, .ref (B (100 + k5))), (0, .ref (B 1)), (1, .int p1)]) hx hb (dd_of dX10_heightOf_0 17 rfl) rfl hl (by decide) rfl (fun ls hl => ?_)
        refine lv_aload_n hx hb (dd_of dX10_heightOf_0 18 rfl) rfl (lv_at hl 0 rfl) ?_
        refine lv_ifnonnull (tgt := 40) hx hb (dd_of dX10_heightOf_0 19 rfl) (by decide) ?_
        refine lv_aload_n hx hb (dd_of dX10_heightOf_0 22 rfl) rfl (lv_at hl 0 rfl) ?_
        have h6 := hok.1
        replace hok := hok.2
        have h7 := hok
        obtain ⟨q9, hq9⟩ := lWg_basin (yy := yy) (B := B) (F := F) (G := G) h6
        refine jc_l (As := []) (rest := []) (w := (lW yy B F G)) (D := D) (yy := yy) ⟨hx, hb, hml, hown, hts⟩ (qX0_height l D yy B F G k5  h7) (cwV 0 hts (jgV gw363 gw364 gw365 gw215 gw366) rfl rfl rfl (by decide +kernel) ⟨Nat.le_of_ble_eq_true rfl, Nat.le_of_ble_eq_true rfl⟩) hP hK (va_recv hK hP (ci := 0) (q0 := q9) rfl hq9) rfl hl.1 rfl (Nat.le_of_ble_eq_true rfl) (dd_of dX10_heightOf_0 23 rfl) ⟨Nat.zero_le _, Nat.zero_le _⟩ (fun x8 ex8 => ?_)
        replace hres := bvE ex8 hres
        subst hQ
        exact W.lret (v := x8) hx hb hr (fun t ht _ => ⟨_, rfl, hres, ht⟩) (fun _ h => absurd h List.not_mem_nil) (dd_of dX10_heightOf_0 24 rfl) hlk
    · replace hres := ifE c2 hres
      refine lv_aload_n hx hb (dd_of dX10_heightOf_0 9 rfl) rfl (lv_at hl 0 rfl) ?_
      refine va_get (D := D) (cl := vwCl) (tys := jT yy) (ci := 10) (v := .ref (B 9)) (C := RX10) (T := TX10) (N := 8) hx hb hts (fun w h => List.mem_cons_of_mem _ (inlX10 w h)) hown hK hP 1 rfl rfl 2 (by decide) (jw hts gw54) (fun _ h9 => h9) rfl (dd_of dX10_heightOf_0 10 rfl) ?_
      refine va_get (D := D) (cl := vwCl) (tys := jT yy) (ci := 6) (v := .int (F 7 0)) (C := RX6) (T := TX6) (N := 6) hx hb hts (fun w h => List.mem_cons_of_mem _ (inlX6 w h)) hown hK hP 4 rfl rfl 2 (by decide) (jw hts gw362) (fun _ h9 => h9) rfl (dd_of dX10_heightOf_0 11 rfl) ?_
      refine lv_i2l (v := (Int32.toInt64 (F 7 0))) hx hb (dd_of dX10_heightOf_0 12 rfl) rfl ?_
      subst hQ
      exact W.lret (v := (Int32.toInt64 (F 7 0))) hx hb hr (fun t ht _ => ⟨_, rfl, hres, ht⟩) (fun _ h => absurd h List.not_mem_nil) (dd_of dX10_heightOf_0 13 rfl) hlk
  · replace hres := ifE c1 hres
    refine lv_aload_n hx hb (dd_of dX10_heightOf_0 3 rfl) rfl (lv_at hl 0 rfl) ?_
    refine va_get (D := D) (cl := vwCl) (tys := jT yy) (ci := 10) (v := .long (G 69 0)) (C := RX10) (T := TX10) (N := 8) hx hb hts (fun w h => List.mem_cons_of_mem _ (inlX10 w h)) hown hK hP 1 rfl rfl 7 (by decide) (jw hts gw58) (fun _ h9 => h9) rfl (dd_of dX10_heightOf_0 4 rfl) ?_
    subst hQ
    exact W.lret (v := (G 69 0)) hx hb hr (fun t ht _ => ⟨_, rfl, hres, ht⟩) (fun _ h => absurd h List.not_mem_nil) (dd_of dX10_heightOf_0 5 rfl) hlk
set_option maxHeartbeats 4000000 in
set_option maxRecDepth 100000 in
theorem qX10_above (l : Launch) (D : va_G) (yy : Nat → ClassId) (B : Nat → Nat) (F : jF) (G : jG) (p1 : Int32) (p2 : Int32) (hok : okX10_above F G p1 p2) : Met l yX10_above (Cond.code yX10_above cX10_above 3 (some .long) :: wsL_law) rmX10_above (va_Pc [.ref (B 1), .int p1, .int p2] (jR D yy (lW yy B F G))) (vp_Sl (fun r => r = gX10_above F G p1 p2)) 0 0 (fun _ => False) := by
  generalize hres : gX10_above F G p1 p2 = RES
  refine jM (vs := [.ref (B 1), .int p1, .int p2]) (own := RX10) (by decide +kernel) rfl (Nat.le_of_ble_eq_true rfl) ?_
  intro p e s m args below meth c ls Q hQ hargs S hr hlk hinit hB hl
  obtain ⟨hx, hb, hml, hown, hts⟩ := S
  have hl : lv_has ls 3 [(0, .ref (B 1)), (1, .int p1), (2, .int p2)] := hl
  obtain ⟨hP, hK⟩ := hB
  unfold gX10_above at hres
  unfold okX10_above at hok
  refine lv_aload_n hx hb (dd_of dX10_above_0 0 rfl) rfl (lv_at hl 0 rfl) ?_
  refine lv_iload_n hx hb (dd_of dX10_above_0 1 rfl) rfl (lv_at hl 1 rfl) ?_
  have h1 := hok.1
  replace hok := hok.2
  refine jc_l (As := [.int p1]) (rest := []) (w := (lW yy B F G)) (D := D) (yy := yy) ⟨hx, hb, hml, hown, hts⟩ (qX10_heightOf l D yy B F G  p1 h1) (cwV 1 hts (jgV gw358 gw359 gw360 gw26 gw361) rfl rfl rfl (by decide +kernel) ⟨Nat.le_of_ble_eq_true rfl, Nat.le_of_ble_eq_true rfl⟩) hP hK (va_recv hK hP (ci := 10) (q0 := 1) rfl rfl) rfl hl.1 rfl (Nat.le_of_ble_eq_true rfl) (dd_of dX10_above_0 2 rfl) ⟨Nat.zero_le _, Nat.zero_le _⟩ (fun x2 ex2 => ?_)
  replace hres := bvE ex2 hres
  replace hok := bvO ex2 hok
  refine lv_aload_n hx hb (dd_of dX10_above_0 3 rfl) rfl (lv_at hl 0 rfl) ?_
  refine lv_iload_n hx hb (dd_of dX10_above_0 4 rfl) rfl (lv_at hl 2 rfl) ?_
  have h3 := hok
  refine jc_l (As := [.int p2]) (rest := [.long x2]) (w := (lW yy B F G)) (D := D) (yy := yy) ⟨hx, hb, hml, hown, hts⟩ (qX10_heightOf l D yy B F G  p2 h3) (cwV 1 hts (jgV gw358 gw359 gw360 gw26 gw361) rfl rfl rfl (by decide +kernel) ⟨Nat.le_of_ble_eq_true rfl, Nat.le_of_ble_eq_true rfl⟩) hP hK (va_recv hK hP (ci := 10) (q0 := 1) rfl rfl) rfl hl.1 rfl (Nat.le_of_ble_eq_true rfl) (dd_of dX10_above_0 5 rfl) ⟨Nat.zero_le _, Nat.zero_le _⟩ (fun x4 ex4 => ?_)
  replace hres := bvE ex4 hres
  refine lv_lsub hx hb (dd_of dX10_above_0 6 rfl) ?_
  subst hQ
  exact W.lret (v := (x2 - x4)) hx hb hr (fun t ht _ => ⟨_, rfl, hres, ht⟩) (fun _ h => absurd h List.not_mem_nil) (dd_of dX10_above_0 7 rfl) hlk
set_option maxHeartbeats 4000000 in
set_option maxRecDepth 100000 in
theorem qX10_seaPresses (l : Launch) (D : va_G) (yy : Nat → ClassId) (B : Nat → Nat) (F : jF) (G : jG) (p1 : Int32) (p2 : Int32) (hok : okX10_seaPresses F G p1 p2) : Met l yX10_seaPresses (Cond.code yX10_seaPresses cX10_seaPresses 3 (some .boolean) :: wsL_law) rmX10_seaPresses (va_Pc [.ref (B 1), .int p1, .int p2] (jR D yy (lW yy B F G))) (vp_Si (fun r => r = gX10_seaPresses F G p1 p2)) 0 0 (fun _ => False) := by
  generalize hres : gX10_seaPresses F G p1 p2 = RES
  refine jM (vs := [.ref (B 1), .int p1, .int p2]) (own := RX10) (by decide +kernel) rfl (Nat.le_of_ble_eq_true rfl) ?_
  intro p e s m args below meth c ls Q hQ hargs S hr hlk hinit hB hl
  obtain ⟨hx, hb, hml, hown, hts⟩ := S
  have hl : lv_has ls 3 [(0, .ref (B 1)), (1, .int p1), (2, .int p2)] := hl
  obtain ⟨hP, hK⟩ := hB
  unfold gX10_seaPresses at hres
  unfold okX10_seaPresses at hok
  refine lv_iload_n hx hb (dd_of dX10_seaPresses_0 0 rfl) rfl (lv_at hl 1 rfl) ?_
  refine lv_bipush (v := 20) hx hb (dd_of dX10_seaPresses_0 1 rfl) (by decide) ?_
  refine lv_icmp_ne (tgt := 17) hx hb (dd_of dX10_seaPresses_0 2 rfl) (by decide) (fun c1 => ?_) (fun c1 => ?_)
  · replace hres := ifN c1 hres
    replace hok := hok.2 c1
    refine lv_iload_n hx hb (dd_of dX10_seaPresses_0 10 rfl) rfl (lv_at hl 2 rfl) ?_
    refine lv_bipush (v := 20) hx hb (dd_of dX10_seaPresses_0 11 rfl) (by decide) ?_
    refine lv_icmp_ne (tgt := 38) hx hb (dd_of dX10_seaPresses_0 12 rfl) (by decide) (fun c2 => ?_) (fun c2 => ?_)
    · replace hres := ifN c2 hres
      refine lv_iconst (v := 0) hx hb (dd_of dX10_seaPresses_0 22 rfl) (by decide) ?_
      subst hQ
      exact W.zret (ty := .boolean) (v := 0) hx hb hr (jb_nz (Or.inl rfl)) (fun t ht _ => ⟨_, rfl, hres, ht⟩) (fun _ h => absurd h List.not_mem_nil) (dd_of dX10_seaPresses_0 23 rfl) hlk
    · replace hres := ifE c2 hres
      replace hok := hok.1 c2
      refine lv_aload_n hx hb (dd_of dX10_seaPresses_0 13 rfl) rfl (lv_at hl 0 rfl) ?_
      refine lv_iload_n hx hb (dd_of dX10_seaPresses_0 14 rfl) rfl (lv_at hl 2 rfl) ?_
      refine lv_iload_n hx hb (dd_of dX10_seaPresses_0 15 rfl) rfl (lv_at hl 1 rfl) ?_
      have h3 := hok
      refine jc_l (As := [.int p2, .int p1]) (rest := []) (w := (lW yy B F G)) (D := D) (yy := yy) ⟨hx, hb, hml, hown, hts⟩ (qX10_above l D yy B F G  p2 p1 h3) (cwV 2 hts (jgV gw354 gw355 gw356 gw26 gw357) rfl rfl rfl (by decide +kernel) ⟨Nat.le_of_ble_eq_true rfl, Nat.le_of_ble_eq_true rfl⟩) hP hK (va_recv hK hP (ci := 10) (q0 := 1) rfl rfl) rfl hl.1 rfl (Nat.le_of_ble_eq_true rfl) (dd_of dX10_seaPresses_0 16 rfl) ⟨Nat.zero_le _, Nat.zero_le _⟩ (fun x4 ex4 => ?_)
      replace hres := bvE ex4 hres
      refine lv_lconst (v := 0) hx hb (dd_of dX10_seaPresses_0 17 rfl) (by decide) ?_
      refine jl_le (tgt := 38) hx hb (dd_of dX10_seaPresses_0 18 rfl) (dd_of dX10_seaPresses_0 19 rfl) (by decide) (fun c5 => ?_) (fun c5 => ?_)
      · replace hres := ifE c5 hres
        refine lv_iconst (v := 0) hx hb (dd_of dX10_seaPresses_0 22 rfl) (by decide) ?_
        subst hQ
        exact W.zret (ty := .boolean) (v := 0) hx hb hr (jb_nz (Or.inl rfl)) (fun t ht _ => ⟨_, rfl, hres, ht⟩) (fun _ h => absurd h List.not_mem_nil) (dd_of dX10_seaPresses_0 23 rfl) hlk
      · replace hres := ifN c5 hres
        refine lv_iconst (v := 1) hx hb (dd_of dX10_seaPresses_0 20 rfl) (by decide) ?_
        refine lv_goto (tgt := 39) hx hb (dd_of dX10_seaPresses_0 21 rfl) (by decide) ?_
        subst hQ
        exact W.zret (ty := .boolean) (v := 1) hx hb hr (jb_nz (Or.inr rfl)) (fun t ht _ => ⟨_, rfl, hres, ht⟩) (fun _ h => absurd h List.not_mem_nil) (dd_of dX10_seaPresses_0 23 rfl) hlk
  · replace hres := ifE c1 hres
    replace hok := hok.1 c1
    refine lv_aload_n hx hb (dd_of dX10_seaPresses_0 3 rfl) rfl (lv_at hl 0 rfl) ?_
    refine lv_iload_n hx hb (dd_of dX10_seaPresses_0 4 rfl) rfl (lv_at hl 1 rfl) ?_
    refine lv_iload_n hx hb (dd_of dX10_seaPresses_0 5 rfl) rfl (lv_at hl 2 rfl) ?_
    have h6 := hok.1
    replace hok := hok.2
    refine jc_l (As := [.int p1, .int p2]) (rest := []) (w := (lW yy B F G)) (D := D) (yy := yy) ⟨hx, hb, hml, hown, hts⟩ (qX10_above l D yy B F G  p1 p2 h6) (cwV 2 hts (jgV gw354 gw355 gw356 gw26 gw357) rfl rfl rfl (by decide +kernel) ⟨Nat.le_of_ble_eq_true rfl, Nat.le_of_ble_eq_true rfl⟩) hP hK (va_recv hK hP (ci := 10) (q0 := 1) rfl rfl) rfl hl.1 rfl (Nat.le_of_ble_eq_true rfl) (dd_of dX10_seaPresses_0 6 rfl) ⟨Nat.zero_le _, Nat.zero_le _⟩ (fun x7 ex7 => ?_)
    replace hres := bvE ex7 hres
    replace hok := bvO ex7 hok
    refine lv_lconst (v := 0) hx hb (dd_of dX10_seaPresses_0 7 rfl) (by decide) ?_
    refine jl_gt (tgt := 34) hx hb (dd_of dX10_seaPresses_0 8 rfl) (dd_of dX10_seaPresses_0 9 rfl) (by decide) (fun c8 => ?_) (fun c8 => ?_)
    · replace hres := ifE c8 hres
      refine lv_iconst (v := 1) hx hb (dd_of dX10_seaPresses_0 20 rfl) (by decide) ?_
      refine lv_goto (tgt := 39) hx hb (dd_of dX10_seaPresses_0 21 rfl) (by decide) ?_
      subst hQ
      exact W.zret (ty := .boolean) (v := 1) hx hb hr (jb_nz (Or.inr rfl)) (fun t ht _ => ⟨_, rfl, hres, ht⟩) (fun _ h => absurd h List.not_mem_nil) (dd_of dX10_seaPresses_0 23 rfl) hlk
    · replace hres := ifN c8 hres
      replace hok := hok.2 c8
      refine lv_iload_n hx hb (dd_of dX10_seaPresses_0 10 rfl) rfl (lv_at hl 2 rfl) ?_
      refine lv_bipush (v := 20) hx hb (dd_of dX10_seaPresses_0 11 rfl) (by decide) ?_
      refine lv_icmp_ne (tgt := 38) hx hb (dd_of dX10_seaPresses_0 12 rfl) (by decide) (fun c9 => ?_) (fun c9 => ?_)
      · replace hres := ifN c9 hres
        refine lv_iconst (v := 0) hx hb (dd_of dX10_seaPresses_0 22 rfl) (by decide) ?_
        subst hQ
        exact W.zret (ty := .boolean) (v := 0) hx hb hr (jb_nz (Or.inl rfl)) (fun t ht _ => ⟨_, rfl, hres, ht⟩) (fun _ h => absurd h List.not_mem_nil) (dd_of dX10_seaPresses_0 23 rfl) hlk
      · replace hres := ifE c9 hres
        replace hok := hok.1 c9
        refine lv_aload_n hx hb (dd_of dX10_seaPresses_0 13 rfl) rfl (lv_at hl 0 rfl) ?_
        refine lv_iload_n hx hb (dd_of dX10_seaPresses_0 14 rfl) rfl (lv_at hl 2 rfl) ?_
        refine lv_iload_n hx hb (dd_of dX10_seaPresses_0 15 rfl) rfl (lv_at hl 1 rfl) ?_
        have h10 := hok
        refine jc_l (As := [.int p2, .int p1]) (rest := []) (w := (lW yy B F G)) (D := D) (yy := yy) ⟨hx, hb, hml, hown, hts⟩ (qX10_above l D yy B F G  p2 p1 h10) (cwV 2 hts (jgV gw354 gw355 gw356 gw26 gw357) rfl rfl rfl (by decide +kernel) ⟨Nat.le_of_ble_eq_true rfl, Nat.le_of_ble_eq_true rfl⟩) hP hK (va_recv hK hP (ci := 10) (q0 := 1) rfl rfl) rfl hl.1 rfl (Nat.le_of_ble_eq_true rfl) (dd_of dX10_seaPresses_0 16 rfl) ⟨Nat.zero_le _, Nat.zero_le _⟩ (fun x11 ex11 => ?_)
        replace hres := bvE ex11 hres
        refine lv_lconst (v := 0) hx hb (dd_of dX10_seaPresses_0 17 rfl) (by decide) ?_
        refine jl_le (tgt := 38) hx hb (dd_of dX10_seaPresses_0 18 rfl) (dd_of dX10_seaPresses_0 19 rfl) (by decide) (fun c12 => ?_) (fun c12 => ?_)
        · replace hres := ifE c12 hres
          refine lv_iconst (v := 0) hx hb (dd_of dX10_seaPresses_0 22 rfl) (by decide) ?_
          subst hQ
          exact W.zret (ty := .boolean) (v := 0) hx hb hr (jb_nz (Or.inl rfl)) (fun t ht _ => ⟨_, rfl, hres, ht⟩) (fun _ h => absurd h List.not_mem_nil) (dd_of dX10_seaPresses_0 23 rfl) hlk
        · replace hres := ifN c12 hres
          refine lv_iconst (v := 1) hx hb (dd_of dX10_seaPresses_0 20 rfl) (by decide) ?_
          refine lv_goto (tgt := 39) hx hb (dd_of dX10_seaPresses_0 21 rfl) (by decide) ?_
          subst hQ
          exact W.zret (ty := .boolean) (v := 1) hx hb hr (jb_nz (Or.inr rfl)) (fun t ht _ => ⟨_, rfl, hres, ht⟩) (fun _ h => absurd h List.not_mem_nil) (dd_of dX10_seaPresses_0 23 rfl) hlk
set_option maxHeartbeats 4000000 in
set_option maxRecDepth 100000 in
theorem qX10_stockOf (l : Launch) (D : va_G) (yy : Nat → ClassId) (B : Nat → Nat) (F : jF) (G : jG) (p1 : Int32) (hok : okX10_stockOf F G p1) : Met l yX10_stockOf (Cond.code yX10_stockOf cX10_stockOf 3 (some .long) :: wsL_law) rmX10_stockOf (va_Pc [.ref (B 1), .int p1] (jR D yy (lW yy B F G))) (vp_Sl (fun r => r = gX10_stockOf F G p1)) 0 0 (fun _ => False) := by
  generalize hres : gX10_stockOf F G p1 = RES
  refine jM (vs := [.ref (B 1), .int p1]) (own := RX10) (by decide +kernel) rfl (Nat.le_of_ble_eq_true rfl) ?_
  intro p e s m args below meth c ls Q hQ hargs S hr hlk hinit hB hl
  obtain ⟨hx, hb, hml, hown, hts⟩ := S
  have hl : lv_has ls 3 [(0, .ref (B 1)), (1, .int p1)] := hl
  obtain ⟨hP, hK⟩ := hB
  unfold gX10_stockOf at hres
  unfold okX10_stockOf at hok
  refine lv_aload_n hx hb (dd_of dX10_stockOf_0 0 rfl) rfl (lv_at hl 0 rfl) ?_
  refine lv_iload_n hx hb (dd_of dX10_stockOf_0 1 rfl) rfl (lv_at hl 1 rfl) ?_
  have h1 := hok.1
  replace hok := hok.2
  refine jc_q (As := [.int p1]) (rest := []) (w := (lW yy B F G)) (D := D) (yy := yy) (B := B) (off := 100) ⟨hx, hb, hml, hown, hts⟩ (qX10_basinAt l D yy B F G  p1 h1) (cwV 1 hts (jgV gw230 gw231 gw232 gw26 gw233) rfl rfl rfl (by decide +kernel) ⟨Nat.le_of_ble_eq_true rfl, Nat.le_of_ble_eq_true rfl⟩) hP hK (va_recv hK hP (ci := 10) (q0 := 1) rfl rfl) rfl hl.1 rfl (Nat.le_of_ble_eq_true rfl) (dd_of dX10_stockOf_0 2 rfl) ⟨Nat.zero_le _, Nat.zero_le _⟩ (fun o2 eo2 => ?_)
  replace hres := bvE eo2 hres
  replace hok := bvO eo2 hok
  rcases o2 with _ | k3
  · replace hres := omN hres
    replace hok := opN hok
    refine lv_astore_nN (lv' := [(2, .null), (0, .ref (B 1)), (1, .int p1)]) hx hb (dd_of dX10_stockOf_0 3 rfl) rfl hl (by decide) rfl (fun ls hl => ?_)
    refine lv_aload_nN hx hb (dd_of dX10_stockOf_0 4 rfl) rfl (lv_at hl 0 rfl) ?_
    refine lv_ifnonnullN hx hb (dd_of dX10_stockOf_0 5 rfl) ?_
    refine lv_ldc2 (v := 9223372036854775807) hx hb hown (jw hts gw456) (dd_of dX10_stockOf_0 6 rfl) ?_
    refine lv_goto (tgt := 20) hx hb (dd_of dX10_stockOf_0 7 rfl) (by decide) ?_
    subst hQ
    exact W.lret (v := 9223372036854775807) hx hb hr (fun t ht _ => ⟨_, rfl, hres, ht⟩) (fun _ h => absurd h List.not_mem_nil) (dd_of dX10_stockOf_0 10 rfl) hlk
  · replace hres := omS hres
    replace hok := opS hok
    refine lv_astore_n (lv' := [(2, .ref (B (100 + k3))), (0, .ref (B 1)), (1, .int p1)]) hx hb (dd_of dX10_stockOf_0 3 rfl) rfl hl (by decide) rfl (fun ls hl => ?_)
    refine lv_aload_n hx hb (dd_of dX10_stockOf_0 4 rfl) rfl (lv_at hl 0 rfl) ?_
    refine lv_ifnonnull (tgt := 16) hx hb (dd_of dX10_stockOf_0 5 rfl) (by decide) ?_
    refine lv_aload_n hx hb (dd_of dX10_stockOf_0 8 rfl) rfl (lv_at hl 0 rfl) ?_
    have h4 := hok
    obtain ⟨q9, hq9⟩ := lWg_basin (yy := yy) (B := B) (F := F) (G := G) h4
    refine va_get (D := D) (cl := vwCl) (tys := jT yy) (ci := 0) (v := .long (G 14 k3)) (C := RX0) (T := TX0) (N := 7) hx hb hts (fun w h => List.mem_cons_of_mem _ (inlX0 w h)) hown hK hP q9 hq9 rfl 2 (by decide) (jw hts gw242) (fun _ h9 => h9) rfl (dd_of dX10_stockOf_0 9 rfl) ?_
    subst hQ
    exact W.lret (v := (G 14 k3)) hx hb hr (fun t ht _ => ⟨_, rfl, hres, ht⟩) (fun _ h => absurd h List.not_mem_nil) (dd_of dX10_stockOf_0 10 rfl) hlk
set_option maxHeartbeats 4000000 in
set_option maxRecDepth 100000 in
theorem qX10_levelling (l : Launch) (D : va_G) (yy : Nat → ClassId) (B : Nat → Nat) (F : jF) (G : jG) (p1 : Int32) (p2 : Int32) (p3 : Int64) (hok : okX10_levelling F G p1 p2 p3) : Met l yX10_levelling (Cond.code yX10_levelling cX10_levelling 9 (some .long) :: wsL_law) rmX10_levelling (va_Pc [.ref (B 1), .int p1, .int p2, .long p3] (jR D yy (lW yy B F G))) (vp_Sl (fun r => r = gX10_levelling F G p1 p2 p3)) 0 0 (fun _ => False) := by
  generalize hres : gX10_levelling F G p1 p2 p3 = RES
  refine jM (vs := [.ref (B 1), .int p1, .int p2, .long p3]) (own := RX10) (by decide +kernel) rfl (Nat.le_of_ble_eq_true rfl) ?_
  intro p e s m args below meth c ls Q hQ hargs S hr hlk hinit hB hl
  obtain ⟨hx, hb, hml, hown, hts⟩ := S
  have hl : lv_has ls 9 [(0, .ref (B 1)), (1, .int p1), (2, .int p2), (3, .long p3)] := hl
  obtain ⟨hP, hK⟩ := hB
  unfold gX10_levelling at hres
  unfold okX10_levelling at hok
  refine lv_aload_n hx hb (dd_of dX10_levelling_0 0 rfl) rfl (lv_at hl 0 rfl) ?_
  refine lv_iload_n hx hb (dd_of dX10_levelling_0 1 rfl) rfl (lv_at hl 1 rfl) ?_
  have h1 := hok.1
  replace hok := hok.2
  refine jc_q (As := [.int p1]) (rest := []) (w := (lW yy B F G)) (D := D) (yy := yy) (B := B) (off := 100) ⟨hx, hb, hml, hown, hts⟩ (qX10_basinAt l D yy B F G  p1 h1) (cwV 1 hts (jgV gw230 gw231 gw232 gw26 gw233) rfl rfl rfl (by decide +kernel) ⟨Nat.le_of_ble_eq_true rfl, Nat.le_of_ble_eq_true rfl⟩) hP hK (va_recv hK hP (ci := 10) (q0 := 1) rfl rfl) rfl hl.1 rfl (Nat.le_of_ble_eq_true rfl) (dd_of dX10_levelling_0 2 rfl) ⟨Nat.zero_le _, Nat.zero_le _⟩ (fun o2 eo2 => ?_)
  replace hres := bvE eo2 hres
  replace hok := bvO eo2 hok
  rcases o2 with _ | k3
  · replace hres := omN hres
    replace hok := opN hok
    refine lv_astoreN (lv' := [(5, .null), (0, .ref (B 1)), (1, .int p1), (2, .int p2), (3, .long p3)]) hx hb (dd_of dX10_levelling_0 3 rfl) hl (by decide) rfl (fun ls hl => ?_)
    refine lv_aload_n hx hb (dd_of dX10_levelling_0 4 rfl) rfl (lv_at hl 1 rfl) ?_
    refine lv_iload_n hx hb (dd_of dX10_levelling_0 5 rfl) rfl (lv_at hl 3 rfl) ?_
    have h4 := hok.1
    replace hok := hok.2
    refine jc_q (As := [.int p2]) (rest := []) (w := (lW yy B F G)) (D := D) (yy := yy) (B := B) (off := 100) ⟨hx, hb, hml, hown, hts⟩ (qX10_basinAt l D yy B F G  p2 h4) (cwV 1 hts (jgV gw230 gw231 gw232 gw26 gw233) rfl rfl rfl (by decide +kernel) ⟨Nat.le_of_ble_eq_true rfl, Nat.le_of_ble_eq_true rfl⟩) hP hK (va_recv hK hP (ci := 10) (q0 := 1) rfl rfl) rfl hl.1 rfl (Nat.le_of_ble_eq_true rfl) (dd_of dX10_levelling_0 6 rfl) ⟨Nat.zero_le _, Nat.zero_le _⟩ (fun o5 eo5 => ?_)
    replace hres := bvE eo5 hres
    replace hok := bvO eo5 hok
    rcases o5 with _ | k6
    · replace hres := omN hres
      replace hok := opN hok
      refine lv_astoreN (lv' := [(6, .null), (5, .null), (0, .ref (B 1)), (1, .int p1), (2, .int p2), (3, .long p3)]) hx hb (dd_of dX10_levelling_0 7 rfl) hl (by decide) rfl (fun ls hl => ?_)
      refine lv_aloadN hx hb (dd_of dX10_levelling_0 8 rfl) (lv_at hl 1 rfl) ?_
      refine lv_ifnonnullN hx hb (dd_of dX10_levelling_0 9 rfl) ?_
      refine lv_aloadN hx hb (dd_of dX10_levelling_0 10 rfl) (lv_at hl 0 rfl) ?_
      refine lv_ifnonnullN hx hb (dd_of dX10_levelling_0 11 rfl) ?_
      refine lv_lconst (v := 0) hx hb (dd_of dX10_levelling_0 12 rfl) (by decide) ?_
      refine lv_goto (tgt := 40) hx hb (dd_of dX10_levelling_0 13 rfl) (by decide) ?_
      subst hQ
      exact W.lret (v := 0) hx hb hr (fun t ht _ => ⟨_, rfl, hres, ht⟩) (fun _ h => absurd h List.not_mem_nil) (dd_of dX10_levelling_0 21 rfl) hlk
    · replace hres := omS hres
      replace hok := opS hok
      refine lv_astore (lv' := [(6, .ref (B (100 + k6))), (5, .null), (0, .ref (B 1)), (1, .int p1), (2, .int p2), (3, .long p3)]) hx hb (dd_of dX10_levelling_0 7 rfl) hl (by decide) rfl (fun ls hl => ?_)
      refine lv_aloadN hx hb (dd_of dX10_levelling_0 8 rfl) (lv_at hl 1 rfl) ?_
      refine lv_ifnonnullN hx hb (dd_of dX10_levelling_0 9 rfl) ?_
      refine lv_aload hx hb (dd_of dX10_levelling_0 10 rfl) (lv_at hl 0 rfl) ?_
      refine lv_ifnonnull (tgt := 28) hx hb (dd_of dX10_levelling_0 11 rfl) (by decide) ?_
      refine lv_lload_n hx hb (dd_of dX10_levelling_0 14 rfl) rfl (lv_at hl 5 rfl) ?_
      refine lv_aload hx hb (dd_of dX10_levelling_0 15 rfl) (lv_at hl 0 rfl) ?_
      have h7 := hok
      obtain ⟨q9, hq9⟩ := lWg_basin (yy := yy) (B := B) (F := F) (G := G) h7
      refine va_get (D := D) (cl := vwCl) (tys := jT yy) (ci := 0) (v := .int (F 9 k6)) (C := RX0) (T := TX0) (N := 7) hx hb hts (fun w h => List.mem_cons_of_mem _ (inlX0 w h)) hown hK hP q9 hq9 rfl 0 (by decide) (jw hts gw450) (fun _ h9 => h9) rfl (dd_of dX10_levelling_0 16 rfl) ?_
      refine lv_i2l (v := (Int32.toInt64 (F 9 k6))) hx hb (dd_of dX10_levelling_0 17 rfl) rfl ?_
      refine lv_lmul hx hb (dd_of dX10_levelling_0 18 rfl) ?_
      refine lv_ldc2 (v := 100) hx hb hown (jw hts gw451) (dd_of dX10_levelling_0 19 rfl) ?_
      refine lv_ldiv hx hb (dd_of dX10_levelling_0 20 rfl) (by decide) ?_
      subst hQ
      exact W.lret (v := ((p3 * (Int32.toInt64 (F 9 k6))) / 100)) hx hb hr (fun t ht _ => ⟨_, rfl, hres, ht⟩) (fun _ h => absurd h List.not_mem_nil) (dd_of dX10_levelling_0 21 rfl) hlk
  · replace hres := omS hres
    replace hok := opS hok
    refine lv_astore (lv' := [(5, .ref (B (100 + k3))), (0, .ref (B 1)), (1, .int p1), (2, .int p2), (3, .long p3)]) hx hb (dd_of dX10_levelling_0 3 rfl) hl (by decide) rfl (fun ls hl => ?_)
    refine lv_aload_n hx hb (dd_of dX10_levelling_0 4 rfl) rfl (lv_at hl 1 rfl) ?_
    refine lv_iload_n hx hb (dd_of dX10_levelling_0 5 rfl) rfl (lv_at hl 3 rfl) ?_
    have h8 := hok.1
    replace hok := hok.2
    refine jc_q (As := [.int p2]) (rest := []) (w := (lW yy B F G)) (D := D) (yy := yy) (B := B) (off := 100) ⟨hx, hb, hml, hown, hts⟩ (qX10_basinAt l D yy B F G  p2 h8) (cwV 1 hts (jgV gw230 gw231 gw232 gw26 gw233) rfl rfl rfl (by decide +kernel) ⟨Nat.le_of_ble_eq_true rfl, Nat.le_of_ble_eq_true rfl⟩) hP hK (va_recv hK hP (ci := 10) (q0 := 1) rfl rfl) rfl hl.1 rfl (Nat.le_of_ble_eq_true rfl) (dd_of dX10_levelling_0 6 rfl) ⟨Nat.zero_le _, Nat.zero_le _⟩ (fun o9 eo9 => ?_)
    replace hres := bvE eo9 hres
    replace hok := bvO eo9 hok
    rcases o9 with _ | k10
    · replace hres := omN hres
      replace hok := opN hok
      refine lv_astoreN (lv' := [(6, .null), (5, .ref (B (100 + k3))), (0, .ref (B 1)), (1, .int p1), (2, .int p2), (3, .long p3)]) hx hb (dd_of dX10_levelling_0 7 rfl) hl (by decide) rfl (fun ls hl => ?_)
      refine lv_aload hx hb (dd_of dX10_levelling_0 8 rfl) (lv_at hl 1 rfl) ?_
      refine lv_ifnonnull (tgt := 41) hx hb (dd_of dX10_levelling_0 9 rfl) (by decide) ?_
      refine lv_aloadN hx hb (dd_of dX10_levelling_0 22 rfl) (lv_at hl 0 rfl) ?_
      refine lv_ifnonnullN hx hb (dd_of dX10_levelling_0 23 rfl) ?_
      refine lv_lload_n hx hb (dd_of dX10_levelling_0 24 rfl) rfl (lv_at hl 5 rfl) ?_
      refine lv_aload hx hb (dd_of dX10_levelling_0 25 rfl) (lv_at hl 1 rfl) ?_
      have h11 := hok
      obtain ⟨q9, hq9⟩ := lWg_basin (yy := yy) (B := B) (F := F) (G := G) h11
      refine va_get (D := D) (cl := vwCl) (tys := jT yy) (ci := 0) (v := .int (F 9 k3)) (C := RX0) (T := TX0) (N := 7) hx hb hts (fun w h => List.mem_cons_of_mem _ (inlX0 w h)) hown hK hP q9 hq9 rfl 0 (by decide) (jw hts gw450) (fun _ h9 => h9) rfl (dd_of dX10_levelling_0 26 rfl) ?_
      refine lv_i2l (v := (Int32.toInt64 (F 9 k3))) hx hb (dd_of dX10_levelling_0 27 rfl) rfl ?_
      refine lv_lmul hx hb (dd_of dX10_levelling_0 28 rfl) ?_
      refine lv_ldc2 (v := 100) hx hb hown (jw hts gw451) (dd_of dX10_levelling_0 29 rfl) ?_
      refine lv_ldiv hx hb (dd_of dX10_levelling_0 30 rfl) (by decide) ?_
      subst hQ
      exact W.lret (v := ((p3 * (Int32.toInt64 (F 9 k3))) / 100)) hx hb hr (fun t ht _ => ⟨_, rfl, hres, ht⟩) (fun _ h => absurd h List.not_mem_nil) (dd_of dX10_levelling_0 31 rfl) hlk
    · replace hres := omS hres
      replace hok := opS hok
      refine lv_astore (lv' := [(6, .ref (B (100 + k10))), (5, .ref (B (100 + k3))), (0, .ref (B 1)), (1, .int p1), (2, .int p2), (3, .long p3)]) hx hb (dd_of dX10_levelling_0 7 rfl) hl (by decide) rfl (fun ls hl => ?_)
      refine lv_aload hx hb (dd_of dX10_levelling_0 8 rfl) (lv_at hl 1 rfl) ?_
      refine lv_ifnonnull (tgt := 41) hx hb (dd_of dX10_levelling_0 9 rfl) (by decide) ?_
      refine lv_aload hx hb (dd_of dX10_levelling_0 22 rfl) (lv_at hl 0 rfl) ?_
      refine lv_ifnonnull (tgt := 59) hx hb (dd_of dX10_levelling_0 23 rfl) (by decide) ?_
      refine lv_aload hx hb (dd_of dX10_levelling_0 32 rfl) (lv_at hl 1 rfl) ?_
      have h12 := hok.1
      replace hok := hok.2
      obtain ⟨q9, hq9⟩ := lWg_basin (yy := yy) (B := B) (F := F) (G := G) h12
      refine va_get (D := D) (cl := vwCl) (tys := jT yy) (ci := 0) (v := .int (F 9 k3)) (C := RX0) (T := TX0) (N := 7) hx hb hts (fun w h => List.mem_cons_of_mem _ (inlX0 w h)) hown hK hP q9 hq9 rfl 0 (by decide) (jw hts gw450) (fun _ h9 => h9) rfl (dd_of dX10_levelling_0 33 rfl) ?_
      refine lv_aload hx hb (dd_of dX10_levelling_0 34 rfl) (lv_at hl 0 rfl) ?_
      have h13 := hok.1
      replace hok := hok.2
      obtain ⟨q9, hq9⟩ := lWg_basin (yy := yy) (B := B) (F := F) (G := G) h13
      refine va_get (D := D) (cl := vwCl) (tys := jT yy) (ci := 0) (v := .int (F 9 k10)) (C := RX0) (T := TX0) (N := 7) hx hb hts (fun w h => List.mem_cons_of_mem _ (inlX0 w h)) hown hK hP q9 hq9 rfl 0 (by decide) (jw hts gw450) (fun _ h9 => h9) rfl (dd_of dX10_levelling_0 35 rfl) ?_
      refine lv_iadd hx hb (dd_of dX10_levelling_0 36 rfl) ?_
      refine lv_i2l (v := (Int32.toInt64 ((F 9 k3) + (F 9 k10)))) hx hb (dd_of dX10_levelling_0 37 rfl) rfl ?_
      refine lv_topl (fun x14 ex14 => ?_)
      replace hres := bvE ex14 hres
      replace hok := bvO ex14 hok
      refine lv_lstore (lv' := [(7, .long x14), (6, .ref (B (100 + k10))), (5, .ref (B (100 + k3))), (0, .ref (B 1)), (1, .int p1), (2, .int p2), (3, .long p3)]) hx hb (dd_of dX10_levelling_0 38 rfl) hl (by decide) rfl (fun ls hl => ?_)
      refine lv_lload hx hb (dd_of dX10_levelling_0 39 rfl) (lv_at hl 0 rfl) ?_
      refine lv_lconst (v := 0) hx hb (dd_of dX10_levelling_1 0 rfl) (by decide) ?_
      obtain ⟨z21, q20⟩ : ∃ z : Int64, (if 0 < x14 then ((((p3 * (Int32.toInt64 (F 9 k3))) * (Int32.toInt64 (F 9 k10))) / x14) / 100) else 0) = z := ⟨_, rfl⟩
      have o23 := hok
      refine jn_l (ls := ls) (v := z21) 106 [] (fun v19 ev19 => ?_) (fun K22 => ?_)
      · replace hres := bvE (ev19.trans q20.symm) hres
        subst hQ
        exact W.lret (v := v19) hx hb hr (fun t ht _ => ⟨_, rfl, hres, ht⟩) (fun _ h => absurd h List.not_mem_nil) (dd_of dX10_levelling_1 18 rfl) hlk
      · skip
        refine jl_gt (tgt := 84) hx hb (dd_of dX10_levelling_1 1 rfl) (dd_of dX10_levelling_1 2 rfl) (by decide) (fun c15 => ?_) (fun c15 => ?_)
        · replace q20 := ifE c15 q20
          replace o23 := o23.1 c15
          refine lv_lload_n hx hb (dd_of dX10_levelling_1 5 rfl) rfl (lv_at hl 6 rfl) ?_
          refine lv_aload hx hb (dd_of dX10_levelling_1 6 rfl) (lv_at hl 2 rfl) ?_
          have h16 := o23.1
          replace o23 := o23.2
          obtain ⟨q9, hq9⟩ := lWg_basin (yy := yy) (B := B) (F := F) (G := G) h16
          refine va_get (D := D) (cl := vwCl) (tys := jT yy) (ci := 0) (v := .int (F 9 k3)) (C := RX0) (T := TX0) (N := 7) hx hb hts (fun w h => List.mem_cons_of_mem _ (inlX0 w h)) hown hK hP q9 hq9 rfl 0 (by decide) (jw hts gw450) (fun _ h9 => h9) rfl (dd_of dX10_levelling_1 7 rfl) ?_
          refine lv_i2l (v := (Int32.toInt64 (F 9 k3))) hx hb (dd_of dX10_levelling_1 8 rfl) rfl ?_
          refine lv_lmul hx hb (dd_of dX10_levelling_1 9 rfl) ?_
          refine lv_aload hx hb (dd_of dX10_levelling_1 10 rfl) (lv_at hl 1 rfl) ?_
          have h17 := o23.1
          replace o23 := o23.2
          obtain ⟨q9, hq9⟩ := lWg_basin (yy := yy) (B := B) (F := F) (G := G) h17
          refine va_get (D := D) (cl := vwCl) (tys := jT yy) (ci := 0) (v := .int (F 9 k10)) (C := RX0) (T := TX0) (N := 7) hx hb hts (fun w h => List.mem_cons_of_mem _ (inlX0 w h)) hown hK hP q9 hq9 rfl 0 (by decide) (jw hts gw450) (fun _ h9 => h9) rfl (dd_of dX10_levelling_1 11 rfl) ?_
          refine lv_i2l (v := (Int32.toInt64 (F 9 k10))) hx hb (dd_of dX10_levelling_1 12 rfl) rfl ?_
          refine lv_lmul hx hb (dd_of dX10_levelling_1 13 rfl) ?_
          refine lv_lload hx hb (dd_of dX10_levelling_1 14 rfl) (lv_at hl 0 rfl) ?_
          have h18 := o23
          refine lv_ldiv hx hb (dd_of dX10_levelling_1 15 rfl) h18 ?_
          refine lv_ldc2 (v := 100) hx hb hown (jw hts gw451) (dd_of dX10_levelling_1 16 rfl) ?_
          refine lv_ldiv hx hb (dd_of dX10_levelling_1 17 rfl) (by decide) ?_
          exact K22 _ q20
        · replace q20 := ifN c15 q20
          refine lv_lconst (v := 0) hx hb (dd_of dX10_levelling_1 3 rfl) (by decide) ?_
          refine lv_goto (tgt := 106) hx hb (dd_of dX10_levelling_1 4 rfl) (by decide) ?_
          exact K22 _ q20
set_option maxHeartbeats 4000000 in
set_option maxRecDepth 100000 in
theorem qX10_move (l : Launch) (D : va_G) (yy : Nat → ClassId) (B : Nat → Nat) (F : jF) (G : jG) (sz : Nat) (p1 : Int32) (p2 : Int32) (p3 : Int64) (hok : okX10_move F G p1 p2 p3) : Met l yX10_move (Cond.code yX10_move cX10_move 7 none :: wsL_law) rmX10_move (va_Pc [.ref (B 1), .int p1, .int p2, .long p3] (jP D yy (lW yy B F G) sz)) (va_Qv (fun u : jS => u = gX10_move F G p1 p2 p3) (fun (u : jS) t => jB D yy (va_A (lW yy B F G) sz) (lW yy B u.1 u.2) t) (va_A (lW yy B F G) sz)) 0 0 (va_A (lW yy B F G) sz) := by
  generalize hres : gX10_move F G p1 p2 p3 = RES
  refine jM (vs := [.ref (B 1), .int p1, .int p2, .long p3]) (own := RX10) (by decide +kernel) rfl (Nat.le_of_ble_eq_true rfl) ?_
  intro p e s m args below meth c ls Q hQ hargs S hr hlk hinit hB hl
  obtain ⟨hx, hb, hml, hown, hts⟩ := S
  have hl : lv_has ls 7 [(0, .ref (B 1)), (1, .int p1), (2, .int p2), (3, .long p3)] := hl
  obtain ⟨hsz, hP, hK, hD0⟩ := hB
  subst hsz
  have hD := hD0.self (sz := s.heap.size)
  generalize hZ : va_A (lW yy B F G) s.heap.size = Z at hD hQ
  have hA : ∀ q : Nat, s.heap.size ≤ q → Z q := fun q h => by rw [← hZ]; exact Or.inr h
  obtain ⟨H, hH⟩ : ∃ z, z = s.heap := ⟨_, rfl⟩
  obtain ⟨locs, hlocs⟩ : ∃ z : List Loc, z = [] := ⟨_, rfl⟩
  have hS : va_S Z s.heap H locs := by rw [hH, hlocs]; exact va_S.rf
  rw [← hH] at hP
  suffices hgo : W p l e rmX10_move s m args below meth c H locs 0 0 Q (F0 m 0 ls []) by rw [hH, hlocs] at hgo; exact hgo
  unfold gX10_move at hres
  unfold okX10_move at hok
  refine lv_aload_n hx hb (dd_of dX10_move_0 0 rfl) rfl (lv_at hl 0 rfl) ?_
  refine lv_iload_n hx hb (dd_of dX10_move_0 1 rfl) rfl (lv_at hl 1 rfl) ?_
  have h1 := hok.1
  replace hok := hok.2
  refine jc_q (As := [.int p1]) (rest := []) (w := (lW yy B F G)) (D := D) (yy := yy) (B := B) (off := 100) ⟨hx, hb, hml, hown, hts⟩ (qX10_basinAt l D yy B F G  p1 h1) (cwV 1 hts (jgV gw230 gw231 gw232 gw26 gw233) rfl rfl rfl (by decide +kernel) ⟨Nat.le_of_ble_eq_true rfl, Nat.le_of_ble_eq_true rfl⟩) hP hK (va_recv hK hP (ci := 10) (q0 := 1) rfl rfl) rfl hl.1 rfl (Nat.le_of_ble_eq_true rfl) (dd_of dX10_move_0 2 rfl) ⟨Nat.zero_le _, Nat.zero_le _⟩ (fun o2 eo2 => ?_)
  replace hres := bvE eo2 hres
  replace hok := bvO eo2 hok
  rcases o2 with _ | k3
  · replace hres := omN hres
    replace hok := opN hok
    refine lv_astoreN (lv' := [(5, .null), (0, .ref (B 1)), (1, .int p1), (2, .int p2), (3, .long p3)]) hx hb (dd_of dX10_move_0 3 rfl) hl (by decide) rfl (fun ls hl => ?_)
    refine lv_aload_n hx hb (dd_of dX10_move_0 4 rfl) rfl (lv_at hl 1 rfl) ?_
    refine lv_iload_n hx hb (dd_of dX10_move_0 5 rfl) rfl (lv_at hl 3 rfl) ?_
    have h4 := hok.1
    replace hok := hok.2
    refine jc_q (As := [.int p2]) (rest := []) (w := (lW yy B F G)) (D := D) (yy := yy) (B := B) (off := 100) ⟨hx, hb, hml, hown, hts⟩ (qX10_basinAt l D yy B F G  p2 h4) (cwV 1 hts (jgV gw230 gw231 gw232 gw26 gw233) rfl rfl rfl (by decide +kernel) ⟨Nat.le_of_ble_eq_true rfl, Nat.le_of_ble_eq_true rfl⟩) hP hK (va_recv hK hP (ci := 10) (q0 := 1) rfl rfl) rfl hl.1 rfl (Nat.le_of_ble_eq_true rfl) (dd_of dX10_move_0 6 rfl) ⟨Nat.zero_le _, Nat.zero_le _⟩ (fun o5 eo5 => ?_)
    replace hres := bvE eo5 hres
    replace hok := bvO eo5 hok
    rcases o5 with _ | k6
    · replace hres := omN hres
      replace hok := opN hok
      refine lv_astoreN (lv' := [(6, .null), (5, .null), (0, .ref (B 1)), (1, .int p1), (2, .int p2), (3, .long p3)]) hx hb (dd_of dX10_move_0 7 rfl) hl (by decide) rfl (fun ls hl => ?_)
      refine lv_aloadN hx hb (dd_of dX10_move_0 8 rfl) (lv_at hl 1 rfl) ?_
      refine lv_ifnonnullN hx hb (dd_of dX10_move_0 9 rfl) ?_
      refine lv_aload_n hx hb (dd_of dX10_move_0 10 rfl) rfl (lv_at hl 2 rfl) ?_
      refine lv_iconst (v := 2) hx hb (dd_of dX10_move_0 11 rfl) (by decide) ?_
      refine lv_lload_n hx hb (dd_of dX10_move_0 12 rfl) rfl (lv_at hl 5 rfl) ?_
      have h7 := hok.1
      replace hok := hok.2
      refine jm_v (As := [.int 2, .long p3]) (rest := []) (w := (lW yy B F G)) (w1 := fun u : jS => (lW yy B u.1 u.2)) (D := D) (yy := yy) ⟨hx, hb, hml, hown, hts⟩ (qX10_count l D yy B F G H.size  2 p3 h7) (cwV 2 hts (jgV gw243 gw244 gw245 gw26 gw246) rfl rfl rfl (by decide +kernel) ⟨Nat.le_of_ble_eq_true rfl, Nat.le_of_ble_eq_true rfl⟩) hP hK hD hS hA (va_recv hK hP (ci := 10) (q0 := 1) rfl rfl) rfl hl.1 rfl (Nat.le_of_ble_eq_true rfl) (dd_of dX10_move_0 13 rfl) ⟨Nat.zero_le _, Nat.zero_le _⟩ (fun u9 H locs w10 hP hD hS => ?_)
      obtain ⟨F8, G9⟩ := u9
      have hP : va_P D vwCl (lW yy B F8 G9) H := hP
      have hD : va_D Z (lW yy B F8 G9) := hD
      replace hres := bsE w10 hres
      replace hok := bsO w10 hok
      refine lv_goto (tgt := 39) hx hb (dd_of dX10_move_0 14 rfl) (by decide) ?_
      refine lv_aloadN hx hb (dd_of dX10_move_0 21 rfl) (lv_at hl 0 rfl) ?_
      refine lv_ifnonnullN hx hb (dd_of dX10_move_0 22 rfl) ?_
      refine lv_aload_n hx hb (dd_of dX10_move_0 23 rfl) rfl (lv_at hl 2 rfl) ?_
      refine lv_iconst (v := 3) hx hb (dd_of dX10_move_0 24 rfl) (by decide) ?_
      refine lv_lload_n hx hb (dd_of dX10_move_0 25 rfl) rfl (lv_at hl 5 rfl) ?_
      have h11 := hok
      refine jm_v (As := [.int 3, .long p3]) (rest := []) (w := (lW yy B F8 G9)) (w1 := fun u : jS => (lW yy B u.1 u.2)) (D := D) (yy := yy) ⟨hx, hb, hml, hown, hts⟩ (qX10_count l D yy B F8 G9 H.size  3 p3 h11) (cwV 2 hts (jgV gw243 gw244 gw245 gw26 gw246) rfl rfl rfl (by decide +kernel) ⟨Nat.le_of_ble_eq_true rfl, Nat.le_of_ble_eq_true rfl⟩) hP hK hD hS hA (va_recv hK hP (ci := 10) (q0 := 1) rfl rfl) rfl hl.1 rfl (Nat.le_of_ble_eq_true rfl) (dd_of dX10_move_0 26 rfl) ⟨Nat.zero_le _, Nat.zero_le _⟩ (fun u9 H locs w14 hP hD hS => ?_)
      obtain ⟨F12, G13⟩ := u9
      have hP : va_P D vwCl (lW yy B F12 G13) H := hP
      have hD : va_D Z (lW yy B F12 G13) := hD
      replace hres := bsE w14 hres
      refine lv_goto (tgt := 64) hx hb (dd_of dX10_move_0 27 rfl) (by decide) ?_
      subst hQ
      exact W.vret hx hb hr (fun t ht hW => ⟨⟨(F12, G13), rfl, hres, by rw [ht]; exact hP, va_K.moved hW.alike hK, hD⟩, hS.F ht⟩) hS.2.2 (dd_of dX10_move_0 34 rfl) hlk
    · replace hres := omS hres
      replace hok := opS hok
      refine lv_astore (lv' := [(6, .ref (B (100 + k6))), (5, .null), (0, .ref (B 1)), (1, .int p1), (2, .int p2), (3, .long p3)]) hx hb (dd_of dX10_move_0 7 rfl) hl (by decide) rfl (fun ls hl => ?_)
      refine lv_aloadN hx hb (dd_of dX10_move_0 8 rfl) (lv_at hl 1 rfl) ?_
      refine lv_ifnonnullN hx hb (dd_of dX10_move_0 9 rfl) ?_
      refine lv_aload_n hx hb (dd_of dX10_move_0 10 rfl) rfl (lv_at hl 2 rfl) ?_
      refine lv_iconst (v := 2) hx hb (dd_of dX10_move_0 11 rfl) (by decide) ?_
      refine lv_lload_n hx hb (dd_of dX10_move_0 12 rfl) rfl (lv_at hl 5 rfl) ?_
      have h15 := hok.1
      replace hok := hok.2
      refine jm_v (As := [.int 2, .long p3]) (rest := []) (w := (lW yy B F G)) (w1 := fun u : jS => (lW yy B u.1 u.2)) (D := D) (yy := yy) ⟨hx, hb, hml, hown, hts⟩ (qX10_count l D yy B F G H.size  2 p3 h15) (cwV 2 hts (jgV gw243 gw244 gw245 gw26 gw246) rfl rfl rfl (by decide +kernel) ⟨Nat.le_of_ble_eq_true rfl, Nat.le_of_ble_eq_true rfl⟩) hP hK hD hS hA (va_recv hK hP (ci := 10) (q0 := 1) rfl rfl) rfl hl.1 rfl (Nat.le_of_ble_eq_true rfl) (dd_of dX10_move_0 13 rfl) ⟨Nat.zero_le _, Nat.zero_le _⟩ (fun u9 H locs w18 hP hD hS => ?_)
      obtain ⟨F16, G17⟩ := u9
      have hP : va_P D vwCl (lW yy B F16 G17) H := hP
      have hD : va_D Z (lW yy B F16 G17) := hD
      replace hres := bsE w18 hres
      replace hok := bsO w18 hok
      refine lv_goto (tgt := 39) hx hb (dd_of dX10_move_0 14 rfl) (by decide) ?_
      refine lv_aload hx hb (dd_of dX10_move_0 21 rfl) (lv_at hl 0 rfl) ?_
      refine lv_ifnonnull (tgt := 53) hx hb (dd_of dX10_move_0 22 rfl) (by decide) ?_
      refine lv_aload hx hb (dd_of dX10_move_0 28 rfl) (lv_at hl 0 rfl) ?_
      refine lv_dup hx hb (dd_of dX10_move_0 29 rfl) rfl ?_
      have h19 := hok.1
      replace hok := hok.2
      obtain ⟨q9, hq9⟩ := lWg_basin (yy := yy) (B := B) (F := F16) (G := G17) h19
      refine va_get (D := D) (cl := vwCl) (tys := jT yy) (ci := 0) (v := .long (G17 14 k6)) (C := RX0) (T := TX0) (N := 7) hx hb hts (fun w h => List.mem_cons_of_mem _ (inlX0 w h)) hown hK hP q9 hq9 rfl 2 (by decide) (jw hts gw242) (fun _ h9 => h9) rfl (dd_of dX10_move_0 30 rfl) ?_
      refine lv_lload_n hx hb (dd_of dX10_move_0 31 rfl) rfl (lv_at hl 5 rfl) ?_
      refine lv_ladd hx hb (dd_of dX10_move_0 32 rfl) ?_
      have h20 := hok
      obtain ⟨q9, hq9, hs9⟩ := lWs_basin_water (yy := yy) (B := B) (F := F16) (G := G17) (v := ((G17 14 k6) + p3)) h20
      refine va_put (D := D) (cl := vwCl) (tys := jT yy) (ci := 0) (v := .long ((G17 14 k6) + p3)) (ty := .long) (C := RX0) (T := TX0) (N := 7) hx hb hts (fun w h => List.mem_cons_of_mem _ (inlX0 w h)) tyX0 tyX0_ok nmX0 hown hK hP hD hS q9 hq9 rfl 2 (by decide) (jw hts gw242) (fun _ h9 => h9) rfl (by decide +kernel) rfl rfl (Nat.le_of_ble_eq_true rfl) (dd_of dX10_move_0 33 rfl) (fun H locs hP hD hS => ?_)
      obtain ⟨G21, e22⟩ : ∃ z : jG, z = u2 G17 14 k6 ((G17 14 k6) + p3) := ⟨_, rfl⟩
      have hP : va_P D vwCl (lW yy B F16 G21) H := by rw [e22, ← hs9]; exact hP
      have hD : va_D Z (lW yy B F16 G21) := by rw [e22, ← hs9]; exact hD
      replace hres := bvE e22 hres
      subst hQ
      exact W.vret hx hb hr (fun t ht hW => ⟨⟨(F16, G21), rfl, hres, by rw [ht]; exact hP, va_K.moved hW.alike hK, hD⟩, hS.F ht⟩) hS.2.2 (dd_of dX10_move_0 34 rfl) hlk
  · replace hres := omS hres
    replace hok := opS hok
    refine lv_astore (lv' := [(5, .ref (B (100 + k3))), (0, .ref (B 1)), (1, .int p1), (2, .int p2), (3, .long p3)]) hx hb (dd_of dX10_move_0 3 rfl) hl (by decide) rfl (fun ls hl => ?_)
    refine lv_aload_n hx hb (dd_of dX10_move_0 4 rfl) rfl (lv_at hl 1 rfl) ?_
    refine lv_iload_n hx hb (dd_of dX10_move_0 5 rfl) rfl (lv_at hl 3 rfl) ?_
    have h23 := hok.1
    replace hok := hok.2
    refine jc_q (As := [.int p2]) (rest := []) (w := (lW yy B F G)) (D := D) (yy := yy) (B := B) (off := 100) ⟨hx, hb, hml, hown, hts⟩ (qX10_basinAt l D yy B F G  p2 h23) (cwV 1 hts (jgV gw230 gw231 gw232 gw26 gw233) rfl rfl rfl (by decide +kernel) ⟨Nat.le_of_ble_eq_true rfl, Nat.le_of_ble_eq_true rfl⟩) hP hK (va_recv hK hP (ci := 10) (q0 := 1) rfl rfl) rfl hl.1 rfl (Nat.le_of_ble_eq_true rfl) (dd_of dX10_move_0 6 rfl) ⟨Nat.zero_le _, Nat.zero_le _⟩ (fun o24 eo24 => ?_)
    replace hres := bvE eo24 hres
    replace hok := bvO eo24 hok
    rcases o24 with _ | k25
    · replace hres := omN hres
      replace hok := opN hok
      refine lv_astoreN (lv' := [(6, .null), (5, .ref (B (100 + k3))), (0, .ref (B 1)), (1, .int p1), (2, .int p2), (3, .long p3)]) hx hb (dd_of dX10_move_0 7 rfl) hl (by decide) rfl (fun ls hl => ?_)
      refine lv_aload hx hb (dd_of dX10_move_0 8 rfl) (lv_at hl 1 rfl) ?_
      refine lv_ifnonnull (tgt := 28) hx hb (dd_of dX10_move_0 9 rfl) (by decide) ?_
      refine lv_aload hx hb (dd_of dX10_move_0 15 rfl) (lv_at hl 1 rfl) ?_
      refine lv_dup hx hb (dd_of dX10_move_0 16 rfl) rfl ?_
      have h26 := hok.1
      replace hok := hok.2
      obtain ⟨q9, hq9⟩ := lWg_basin (yy := yy) (B := B) (F := F) (G := G) h26
      refine va_get (D := D) (cl := vwCl) (tys := jT yy) (ci := 0) (v := .long (G 14 k3)) (C := RX0) (T := TX0) (N := 7) hx hb hts (fun w h => List.mem_cons_of_mem _ (inlX0 w h)) hown hK hP q9 hq9 rfl 2 (by decide) (jw hts gw242) (fun _ h9 => h9) rfl (dd_of dX10_move_0 17 rfl) ?_
      refine lv_lload_n hx hb (dd_of dX10_move_0 18 rfl) rfl (lv_at hl 5 rfl) ?_
      refine lv_lsub hx hb (dd_of dX10_move_0 19 rfl) ?_
      have h27 := hok.1
      replace hok := hok.2
      obtain ⟨q9, hq9, hs9⟩ := lWs_basin_water (yy := yy) (B := B) (F := F) (G := G) (v := ((G 14 k3) - p3)) h27
      refine va_put (D := D) (cl := vwCl) (tys := jT yy) (ci := 0) (v := .long ((G 14 k3) - p3)) (ty := .long) (C := RX0) (T := TX0) (N := 7) hx hb hts (fun w h => List.mem_cons_of_mem _ (inlX0 w h)) tyX0 tyX0_ok nmX0 hown hK hP hD hS q9 hq9 rfl 2 (by decide) (jw hts gw242) (fun _ h9 => h9) rfl (by decide +kernel) rfl rfl (Nat.le_of_ble_eq_true rfl) (dd_of dX10_move_0 20 rfl) (fun H locs hP hD hS => ?_)
      obtain ⟨G28, e29⟩ : ∃ z : jG, z = u2 G 14 k3 ((G 14 k3) - p3) := ⟨_, rfl⟩
      have hP : va_P D vwCl (lW yy B F G28) H := by rw [e29, ← hs9]; exact hP
      have hD : va_D Z (lW yy B F G28) := by rw [e29, ← hs9]; exact hD
      replace hres := bvE e29 hres
      replace hok := bvO e29 hok
      refine lv_aloadN hx hb (dd_of dX10_move_0 21 rfl) (lv_at hl 0 rfl) ?_
      refine lv_ifnonnullN hx hb (dd_of dX10_move_0 22 rfl) ?_
      refine lv_aload_n hx hb (dd_of dX10_move_0 23 rfl) rfl (lv_at hl 2 rfl) ?_
      refine lv_iconst (v := 3) hx hb (dd_of dX10_move_0 24 rfl) (by decide) ?_
      refine lv_lload_n hx hb (dd_of dX10_move_0 25 rfl) rfl (lv_at hl 5 rfl) ?_
      have h30 := hok
      refine jm_v (As := [.int 3, .long p3]) (rest := []) (w := (lW yy B F G28)) (w1 := fun u : jS => (lW yy B u.1 u.2)) (D := D) (yy := yy) ⟨hx, hb, hml, hown, hts⟩ (qX10_count l D yy B F G28 H.size  3 p3 h30) (cwV 2 hts (jgV gw243 gw244 gw245 gw26 gw246) rfl rfl rfl (by decide +kernel) ⟨Nat.le_of_ble_eq_true rfl, Nat.le_of_ble_eq_true rfl⟩) hP hK hD hS hA (va_recv hK hP (ci := 10) (q0 := 1) rfl rfl) rfl hl.1 rfl (Nat.le_of_ble_eq_true rfl) (dd_of dX10_move_0 26 rfl) ⟨Nat.zero_le _, Nat.zero_le _⟩ (fun u9 H locs w33 hP hD hS => ?_)
      obtain ⟨F31, G32⟩ := u9
      have hP : va_P D vwCl (lW yy B F31 G32) H := hP
      have hD : va_D Z (lW yy B F31 G32) := hD
      replace hres := bsE w33 hres
      refine lv_goto (tgt := 64) hx hb (dd_of dX10_move_0 27 rfl) (by decide) ?_
      subst hQ
      exact W.vret hx hb hr (fun t ht hW => ⟨⟨(F31, G32), rfl, hres, by rw [ht]; exact hP, va_K.moved hW.alike hK, hD⟩, hS.F ht⟩) hS.2.2 (dd_of dX10_move_0 34 rfl) hlk
    · replace hres := omS hres
      replace hok := opS hok
      refine lv_astore (lv' := [(6, .ref (B (100 + k25))), (5, .ref (B (100 + k3))), (0, .ref (B 1)), (1, .int p1), (2, .int p2), (3, .long p3)]) hx hb (dd_of dX10_move_0 7 rfl) hl (by decide) rfl (fun ls hl => ?_)
      refine lv_aload hx hb (dd_of dX10_move_0 8 rfl) (lv_at hl 1 rfl) ?_
      refine lv_ifnonnull (tgt := 28) hx hb (dd_of dX10_move_0 9 rfl) (by decide) ?_
      refine lv_aload hx hb (dd_of dX10_move_0 15 rfl) (lv_at hl 1 rfl) ?_
      refine lv_dup hx hb (dd_of dX10_move_0 16 rfl) rfl ?_
      have h34 := hok.1
      replace hok := hok.2
      obtain ⟨q9, hq9⟩ := lWg_basin (yy := yy) (B := B) (F := F) (G := G) h34
      refine va_get (D := D) (cl := vwCl) (tys := jT yy) (ci := 0) (v := .long (G 14 k3)) (C := RX0) (T := TX0) (N := 7) hx hb hts (fun w h => List.mem_cons_of_mem _ (inlX0 w h)) hown hK hP q9 hq9 rfl 2 (by decide) (jw hts gw242) (fun _ h9 => h9) rfl (dd_of dX10_move_0 17 rfl) ?_
      refine lv_lload_n hx hb (dd_of dX10_move_0 18 rfl) rfl (lv_at hl 5 rfl) ?_
      refine lv_lsub hx hb (dd_of dX10_move_0 19 rfl) ?_
      have h35 := hok.1
      replace hok := hok.2
      obtain ⟨q9, hq9, hs9⟩ := lWs_basin_water (yy := yy) (B := B) (F := F) (G := G) (v := ((G 14 k3) - p3)) h35
      refine va_put (D := D) (cl := vwCl) (tys := jT yy) (ci := 0) (v := .long ((G 14 k3) - p3)) (ty := .long) (C := RX0) (T := TX0) (N := 7) hx hb hts (fun w h => List.mem_cons_of_mem _ (inlX0 w h)) tyX0 tyX0_ok nmX0 hown hK hP hD hS q9 hq9 rfl 2 (by decide) (jw hts gw242) (fun _ h9 => h9) rfl (by decide +kernel) rfl rfl (Nat.le_of_ble_eq_true rfl) (dd_of dX10_move_0 20 rfl) (fun H locs hP hD hS => ?_)
      obtain ⟨G36, e37⟩ : ∃ z : jG, z = u2 G 14 k3 ((G 14 k3) - p3) := ⟨_, rfl⟩
      have hP : va_P D vwCl (lW yy B F G36) H := by rw [e37, ← hs9]; exact hP
      have hD : va_D Z (lW yy B F G36) := by rw [e37, ← hs9]; exact hD
      replace hres := bvE e37 hres
      replace hok := bvO e37 hok
      refine lv_aload hx hb (dd_of dX10_move_0 21 rfl) (lv_at hl 0 rfl) ?_
      refine lv_ifnonnull (tgt := 53) hx hb (dd_of dX10_move_0 22 rfl) (by decide) ?_
      refine lv_aload hx hb (dd_of dX10_move_0 28 rfl) (lv_at hl 0 rfl) ?_
      refine lv_dup hx hb (dd_of dX10_move_0 29 rfl) rfl ?_
      have h38 := hok.1
      replace hok := hok.2
      obtain ⟨q9, hq9⟩ := lWg_basin (yy := yy) (B := B) (F := F) (G := G36) h38
      refine va_get (D := D) (cl := vwCl) (tys := jT yy) (ci := 0) (v := .long (G36 14 k25)) (C := RX0) (T := TX0) (N := 7) hx hb hts (fun w h => List.mem_cons_of_mem _ (inlX0 w h)) hown hK hP q9 hq9 rfl 2 (by decide) (jw hts gw242) (fun _ h9 => h9) rfl (dd_of dX10_move_0 30 rfl) ?_
      refine lv_lload_n hx hb (dd_of dX10_move_0 31 rfl) rfl (lv_at hl 5 rfl) ?_
      refine lv_ladd hx hb (dd_of dX10_move_0 32 rfl) ?_
      have h39 := hok
      obtain ⟨q9, hq9, hs9⟩ := lWs_basin_water (yy := yy) (B := B) (F := F) (G := G36) (v := ((G36 14 k25) + p3)) h39
      refine va_put (D := D) (cl := vwCl) (tys := jT yy) (ci := 0) (v := .long ((G36 14 k25) + p3)) (ty := .long) (C := RX0) (T := TX0) (N := 7) hx hb hts (fun w h => List.mem_cons_of_mem _ (inlX0 w h)) tyX0 tyX0_ok nmX0 hown hK hP hD hS q9 hq9 rfl 2 (by decide) (jw hts gw242) (fun _ h9 => h9) rfl (by decide +kernel) rfl rfl (Nat.le_of_ble_eq_true rfl) (dd_of dX10_move_0 33 rfl) (fun H locs hP hD hS => ?_)
      obtain ⟨G40, e41⟩ : ∃ z : jG, z = u2 G36 14 k25 ((G36 14 k25) + p3) := ⟨_, rfl⟩
      have hP : va_P D vwCl (lW yy B F G40) H := by rw [e41, ← hs9]; exact hP
      have hD : va_D Z (lW yy B F G40) := by rw [e41, ← hs9]; exact hD
      replace hres := bvE e41 hres
      subst hQ
      exact W.vret hx hb hr (fun t ht hW => ⟨⟨(F, G40), rfl, hres, by rw [ht]; exact hP, va_K.moved hW.alike hK, hD⟩, hS.F ht⟩) hS.2.2 (dd_of dX10_move_0 34 rfl) hlk
set_option maxHeartbeats 4000000 in
set_option maxRecDepth 100000 in
theorem qX10_levelOut (l : Launch) (D : va_G) (yy : Nat → ClassId) (B : Nat → Nat) (F : jF) (G : jG) (sz : Nat) (p1 : Int32) (p2 : Int32) (p3 : Int64) (hok : okX10_levelOut F G p1 p2 p3) : Met l yX10_levelOut (Cond.code yX10_levelOut cX10_levelOut 13 (some .long) :: wsL_law) rmX10_levelOut (va_Pc [.ref (B 1), .int p1, .int p2, .long p3] (jP D yy (lW yy B F G) sz)) (va_Ql (fun r (u : jS) => (r, u) = gX10_levelOut F G p1 p2 p3) (fun (u : jS) t => jB D yy (va_A (lW yy B F G) sz) (lW yy B u.1 u.2) t) (va_A (lW yy B F G) sz)) 0 0 (va_A (lW yy B F G) sz) := by
  generalize hres : gX10_levelOut F G p1 p2 p3 = RES
  refine jM (vs := [.ref (B 1), .int p1, .int p2, .long p3]) (own := RX10) (by decide +kernel) rfl (Nat.le_of_ble_eq_true rfl) ?_
  intro p e s m args below meth c ls Q hQ hargs S hr hlk hinit hB hl
  obtain ⟨hx, hb, hml, hown, hts⟩ := S
  have hl : lv_has ls 13 [(0, .ref (B 1)), (1, .int p1), (2, .int p2), (3, .long p3)] := hl
  obtain ⟨hsz, hP, hK, hD0⟩ := hB
  subst hsz
  have hD := hD0.self (sz := s.heap.size)
  generalize hZ : va_A (lW yy B F G) s.heap.size = Z at hD hQ
  have hA : ∀ q : Nat, s.heap.size ≤ q → Z q := fun q h => by rw [← hZ]; exact Or.inr h
  obtain ⟨H, hH⟩ : ∃ z, z = s.heap := ⟨_, rfl⟩
  obtain ⟨locs, hlocs⟩ : ∃ z : List Loc, z = [] := ⟨_, rfl⟩
  have hS : va_S Z s.heap H locs := by rw [hH, hlocs]; exact va_S.rf
  rw [← hH] at hP
  suffices hgo : W p l e rmX10_levelOut s m args below meth c H locs 0 0 Q (F0 m 0 ls []) by rw [hH, hlocs] at hgo; exact hgo
  unfold gX10_levelOut at hres
  unfold okX10_levelOut at hok
  refine lv_aload_n hx hb (dd_of dX10_levelOut_0 0 rfl) rfl (lv_at hl 0 rfl) ?_
  refine lv_iload_n hx hb (dd_of dX10_levelOut_0 1 rfl) rfl (lv_at hl 1 rfl) ?_
  have h1 := hok.1
  replace hok := hok.2
  refine jc_l (As := [.int p1]) (rest := []) (w := (lW yy B F G)) (D := D) (yy := yy) ⟨hx, hb, hml, hown, hts⟩ (qX10_heightOf l D yy B F G  p1 h1) (cwV 1 hts (jgV gw358 gw359 gw360 gw26 gw361) rfl rfl rfl (by decide +kernel) ⟨Nat.le_of_ble_eq_true rfl, Nat.le_of_ble_eq_true rfl⟩) hP hK (va_recv hK hP (ci := 10) (q0 := 1) rfl rfl) rfl hl.1 rfl (Nat.le_of_ble_eq_true rfl) (dd_of dX10_levelOut_0 2 rfl) ⟨Nat.zero_le _, Nat.zero_le _⟩ (fun x2 ex2 => ?_)
  replace hres := bvE ex2 hres
  replace hok := bvO ex2 hok
  refine lv_aload_n hx hb (dd_of dX10_levelOut_0 3 rfl) rfl (lv_at hl 0 rfl) ?_
  refine lv_iload_n hx hb (dd_of dX10_levelOut_0 4 rfl) rfl (lv_at hl 2 rfl) ?_
  have h3 := hok.1
  replace hok := hok.2
  refine jc_l (As := [.int p2]) (rest := [.long x2]) (w := (lW yy B F G)) (D := D) (yy := yy) ⟨hx, hb, hml, hown, hts⟩ (qX10_heightOf l D yy B F G  p2 h3) (cwV 1 hts (jgV gw358 gw359 gw360 gw26 gw361) rfl rfl rfl (by decide +kernel) ⟨Nat.le_of_ble_eq_true rfl, Nat.le_of_ble_eq_true rfl⟩) hP hK (va_recv hK hP (ci := 10) (q0 := 1) rfl rfl) rfl hl.1 rfl (Nat.le_of_ble_eq_true rfl) (dd_of dX10_levelOut_0 5 rfl) ⟨Nat.zero_le _, Nat.zero_le _⟩ (fun x4 ex4 => ?_)
  replace hres := bvE ex4 hres
  replace hok := bvO ex4 hok
  refine lv_lsub hx hb (dd_of dX10_levelOut_0 6 rfl) ?_
  refine lv_topl (fun x5 ex5 => ?_)
  replace hres := bvE ex5 hres
  replace hok := bvO ex5 hok
  refine lv_lstore (lv' := [(5, .long x5), (0, .ref (B 1)), (1, .int p1), (2, .int p2), (3, .long p3)]) hx hb (dd_of dX10_levelOut_0 7 rfl) hl (by decide) rfl (fun ls hl => ?_)
  refine lv_lload hx hb (dd_of dX10_levelOut_0 8 rfl) (lv_at hl 0 rfl) ?_
  refine lv_lconst (v := 0) hx hb (dd_of dX10_levelOut_0 9 rfl) (by decide) ?_
  obtain ⟨z23, q22⟩ : ∃ z : Int32, (if x5 < 0 then p2 else p1) = z := ⟨_, rfl⟩
  refine jn_i (ls := ls) (v := z23) 25 [] (fun v7 ev7 => ?_) (fun K24 => ?_)
  · replace hres := bvE (ev7.trans q22.symm) hres
    replace hok := bvO (ev7.trans q22.symm) hok
    refine lv_istore (lv' := [(7, .int v7), (5, .long x5), (0, .ref (B 1)), (1, .int p1), (2, .int p2), (3, .long p3)]) hx hb (dd_of dX10_levelOut_0 15 rfl) hl (by decide) rfl (fun ls hl => ?_)
    refine lv_lload hx hb (dd_of dX10_levelOut_0 16 rfl) (lv_at hl 1 rfl) ?_
    refine lv_lconst (v := 0) hx hb (dd_of dX10_levelOut_0 17 rfl) (by decide) ?_
    obtain ⟨z26, q25⟩ : ∃ z : Int32, (if x5 < 0 then p1 else p2) = z := ⟨_, rfl⟩
    refine jn_i (ls := ls) (v := z26) 39 [] (fun v9 ev9 => ?_) (fun K27 => ?_)
    · replace hres := bvE (ev9.trans q25.symm) hres
      replace hok := bvO (ev9.trans q25.symm) hok
      refine lv_istore (lv' := [(8, .int v9), (7, .int v7), (5, .long x5), (0, .ref (B 1)), (1, .int p1), (2, .int p2), (3, .long p3)]) hx hb (dd_of dX10_levelOut_0 23 rfl) hl (by decide) rfl (fun ls hl => ?_)
      refine lv_lload_n hx hb (dd_of dX10_levelOut_0 24 rfl) rfl (lv_at hl 6 rfl) ?_
      refine lv_aload_n hx hb (dd_of dX10_levelOut_0 25 rfl) rfl (lv_at hl 3 rfl) ?_
      refine lv_iload hx hb (dd_of dX10_levelOut_0 26 rfl) (lv_at hl 1 rfl) ?_
      refine lv_iload hx hb (dd_of dX10_levelOut_0 27 rfl) (lv_at hl 0 rfl) ?_
      refine lv_lload hx hb (dd_of dX10_levelOut_0 28 rfl) (lv_at hl 2 rfl) ?_
      refine va_mabs_long hx hb (hml.trans hl.1.symm) hown (jw hts gw440) (jw hts gw441) (jw hts gw82) (jw hts gw442) (Nat.le_of_ble_eq_true rfl) (Nat.le_of_ble_eq_true rfl) (Nat.zero_le _) (Nat.zero_le _) (dd_of dX10_levelOut_0 29 rfl) ?_
      refine lv_topl (fun x10 ex10 => ?_)
      replace hres := bvE ex10 hres
      replace hok := bvO ex10 hok
      have h11 := hok.1
      replace hok := hok.2
      refine jc_l (As := [.int v7, .int v9, .long x10]) (rest := [.long p3]) (w := (lW yy B F G)) (D := D) (yy := yy) ⟨hx, hb, hml, hown, hts⟩ (qX10_levelling l D yy B F G  v7 v9 x10 h11) (cwV 3 hts (jgV gw446 gw447 gw448 gw26 gw449) rfl rfl rfl (by decide +kernel) ⟨Nat.le_of_ble_eq_true rfl, Nat.le_of_ble_eq_true rfl⟩) hP hK (va_recv hK hP (ci := 10) (q0 := 1) rfl rfl) rfl hl.1 rfl (Nat.le_of_ble_eq_true rfl) (dd_of dX10_levelOut_0 30 rfl) ⟨Nat.zero_le _, Nat.zero_le _⟩ (fun x12 ex12 => ?_)
      replace hres := bvE ex12 hres
      replace hok := bvO ex12 hok
      refine va_mmin_long hx hb (hml.trans hl.1.symm) hown (jw hts gw443) (jw hts gw444) (jw hts gw82) (jw hts gw445) (Nat.le_of_ble_eq_true rfl) (Nat.le_of_ble_eq_true rfl) (Nat.zero_le _) (Nat.zero_le _) (dd_of dX10_levelOut_0 31 rfl) ?_
      refine lv_topl (fun x13 ex13 => ?_)
      replace hres := bvE ex13 hres
      replace hok := bvO ex13 hok
      refine lv_lstore (lv' := [(9, .long x13), (8, .int v9), (7, .int v7), (5, .long x5), (0, .ref (B 1)), (1, .int p1), (2, .int p2), (3, .long p3)]) hx hb (dd_of dX10_levelOut_0 32 rfl) hl (by decide) rfl (fun ls hl => ?_)
      refine lv_lload hx hb (dd_of dX10_levelOut_0 33 rfl) (lv_at hl 0 rfl) ?_
      refine lv_aload_n hx hb (dd_of dX10_levelOut_0 34 rfl) rfl (lv_at hl 4 rfl) ?_
      refine lv_iload hx hb (dd_of dX10_levelOut_0 35 rfl) (lv_at hl 2 rfl) ?_
      have h14 := hok.1
      replace hok := hok.2
      refine jc_l (As := [.int v7]) (rest := [.long x13]) (w := (lW yy B F G)) (D := D) (yy := yy) ⟨hx, hb, hml, hown, hts⟩ (qX10_stockOf l D yy B F G  v7 h14) (cwV 1 hts (jgV gw452 gw453 gw454 gw26 gw455) rfl rfl rfl (by decide +kernel) ⟨Nat.le_of_ble_eq_true rfl, Nat.le_of_ble_eq_true rfl⟩) hP hK (va_recv hK hP (ci := 10) (q0 := 1) rfl rfl) rfl hl.1 rfl (Nat.le_of_ble_eq_true rfl) (dd_of dX10_levelOut_0 36 rfl) ⟨Nat.zero_le _, Nat.zero_le _⟩ (fun x15 ex15 => ?_)
      replace hres := bvE ex15 hres
      replace hok := bvO ex15 hok
      refine va_mmin_long hx hb (hml.trans hl.1.symm) hown (jw hts gw443) (jw hts gw444) (jw hts gw82) (jw hts gw445) (Nat.le_of_ble_eq_true rfl) (Nat.le_of_ble_eq_true rfl) (Nat.zero_le _) (Nat.zero_le _) (dd_of dX10_levelOut_0 37 rfl) ?_
      refine lv_topl (fun x16 ex16 => ?_)
      replace hres := bvE ex16 hres
      replace hok := bvO ex16 hok
      refine lv_lstore (lv' := [(11, .long x16), (9, .long x13), (8, .int v9), (7, .int v7), (5, .long x5), (0, .ref (B 1)), (1, .int p1), (2, .int p2), (3, .long p3)]) hx hb (dd_of dX10_levelOut_0 38 rfl) hl (by decide) rfl (fun ls hl => ?_)
      refine lv_lload hx hb (dd_of dX10_levelOut_0 39 rfl) (lv_at hl 0 rfl) ?_
      refine lv_lconst (v := 0) hx hb (dd_of dX10_levelOut_1 0 rfl) (by decide) ?_
      refine jl_gt (tgt := 82) hx hb (dd_of dX10_levelOut_1 1 rfl) (dd_of dX10_levelOut_1 2 rfl) (by decide) (fun c17 => ?_) (fun c17 => ?_)
      · replace hres := ifE c17 hres
        replace hok := hok.1 c17
        refine lv_aload_n hx hb (dd_of dX10_levelOut_1 5 rfl) rfl (lv_at hl 5 rfl) ?_
        refine lv_iload hx hb (dd_of dX10_levelOut_1 6 rfl) (lv_at hl 3 rfl) ?_
        refine lv_iload hx hb (dd_of dX10_levelOut_1 7 rfl) (lv_at hl 2 rfl) ?_
        refine lv_lload hx hb (dd_of dX10_levelOut_1 8 rfl) (lv_at hl 0 rfl) ?_
        have h18 := hok
        refine jm_v (As := [.int v7, .int v9, .long x16]) (rest := []) (w := (lW yy B F G)) (w1 := fun u : jS => (lW yy B u.1 u.2)) (D := D) (yy := yy) ⟨hx, hb, hml, hown, hts⟩ (qX10_move l D yy B F G H.size  v7 v9 x16 h18) (cwV 3 hts (jgV gw457 gw458 gw459 gw26 gw460) rfl rfl rfl (by decide +kernel) ⟨Nat.le_of_ble_eq_true rfl, Nat.le_of_ble_eq_true rfl⟩) hP hK hD hS hA (va_recv hK hP (ci := 10) (q0 := 1) rfl rfl) rfl hl.1 rfl (Nat.le_of_ble_eq_true rfl) (dd_of dX10_levelOut_1 9 rfl) ⟨Nat.zero_le _, Nat.zero_le _⟩ (fun u9 H locs w21 hP hD hS => ?_)
        obtain ⟨F19, G20⟩ := u9
        have hP : va_P D vwCl (lW yy B F19 G20) H := hP
        have hD : va_D Z (lW yy B F19 G20) := hD
        replace hres := bsE w21 hres
        refine lv_lload hx hb (dd_of dX10_levelOut_1 10 rfl) (lv_at hl 0 rfl) ?_
        subst hQ
        exact W.lret (v := x16) hx hb hr (fun t ht hW => ⟨⟨x16, (F19, G20), rfl, hres, by rw [ht]; exact hP, va_K.moved hW.alike hK, hD⟩, hS.F ht⟩) hS.2.2 (dd_of dX10_levelOut_1 11 rfl) hlk
      · replace hres := ifN c17 hres
        refine lv_lconst (v := 0) hx hb (dd_of dX10_levelOut_1 3 rfl) (by decide) ?_
        subst hQ
        exact W.lret (v := 0) hx hb hr (fun t ht hW => ⟨⟨0, (F, G), rfl, hres, by rw [ht]; exact hP, va_K.moved hW.alike hK, hD⟩, hS.F ht⟩) hS.2.2 (dd_of dX10_levelOut_1 4 rfl) hlk
    · skip
      refine jl_lt (tgt := 38) hx hb (dd_of dX10_levelOut_0 18 rfl) (dd_of dX10_levelOut_0 19 rfl) (by decide) (fun c8 => ?_) (fun c8 => ?_)
      · replace q25 := ifE c8 q25
        refine lv_iload_n hx hb (dd_of dX10_levelOut_0 22 rfl) rfl (lv_at hl 3 rfl) ?_
        exact K27 _ q25
      · replace q25 := ifN c8 q25
        refine lv_iload_n hx hb (dd_of dX10_levelOut_0 20 rfl) rfl (lv_at hl 4 rfl) ?_
        refine lv_goto (tgt := 39) hx hb (dd_of dX10_levelOut_0 21 rfl) (by decide) ?_
        exact K27 _ q25
  · skip
    refine jl_lt (tgt := 24) hx hb (dd_of dX10_levelOut_0 10 rfl) (dd_of dX10_levelOut_0 11 rfl) (by decide) (fun c6 => ?_) (fun c6 => ?_)
    · replace q22 := ifE c6 q22
      refine lv_iload_n hx hb (dd_of dX10_levelOut_0 14 rfl) rfl (lv_at hl 3 rfl) ?_
      exact K24 _ q22
    · replace q22 := ifN c6 q22
      refine lv_iload_n hx hb (dd_of dX10_levelOut_0 12 rfl) rfl (lv_at hl 2 rfl) ?_
      refine lv_goto (tgt := 25) hx hb (dd_of dX10_levelOut_0 13 rfl) (by decide) ?_
      exact K24 _ q22
