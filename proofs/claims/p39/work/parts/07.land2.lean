def gX10_countHarms_L2  (K : Int32 → jF → jG → jS) : Nat → Int32 → jF → jG → jS
  | 0, _, F, G => (F, G)
  | n9 + 1, v1, F, G => (if 8 ≤ v1 then (K v1 F G) else bv (op (cn F 8) (Int32.toNatClampNeg v1)) (fun o2 : Option Nat => om o2 (gX10_countHarms_L2   K n9 (v1 + 1) F G) (fun k4 : Nat => bv (op (cn F 8) (Int32.toNatClampNeg v1)) (fun o5 : Option Nat => om o5 (F, G) (fun k7 : Nat => bs (gX0_countHarm F G k7 ) (fun (F10 : jF) (G11 : jG) => (gX10_countHarms_L2   K n9 (v1 + 1) F10 G11)))))))
def okX10_countHarms_L2  (okK : Int32 → jF → jG → Prop) : Nat → Int32 → jF → jG → Prop
  | 0, _, _, _ => False
  | n9 + 1, v1, F, G => ((8 ≤ v1 → (okK v1 F G)) ∧ (¬ 8 ≤ v1 → (vp_in v1 8 ∧ bv (op (cn F 8) (Int32.toNatClampNeg v1)) (fun o2 : Option Nat => om o2 (okX10_countHarms_L2   okK n9 (v1 + 1) F G) (fun k4 : Nat => (vp_in v1 8 ∧ bv (op (cn F 8) (Int32.toNatClampNeg v1)) (fun o5 : Option Nat => om o5 False (fun k7 : Nat => (k7 < cn F 8 ∧ ((okX0_countHarm F G k7 ) ∧ bs (gX0_countHarm F G k7 ) (fun (F10 : jF) (G11 : jG) => (okX10_countHarms_L2   okK n9 (v1 + 1) F10 G11))))))))))))
def gX10_countHarms (F : jF) (G : jG)  : jS := (gX10_countHarms_L2   (fun (y13 : Int32) (F14 : jF) (G15 : jG) => (F14, G15)) 80 0 F G)
def okX10_countHarms (F : jF) (G : jG)  : Prop := (okX10_countHarms_L2   (fun (y13 : Int32) (F14 : jF) (G15 : jG) => True) 80 0 F G)
abbrev rmX10_countHarms : Room := { frames := 3, cells := 0, slots := 0, locals := 62 }
def gX10_sinkAll_L2  (K : Int32 → jF → jG → jS) : Nat → Int32 → jF → jG → jS
  | 0, _, F, G => (F, G)
  | n9 + 1, v1, F, G => (if 8 ≤ v1 then (K v1 F G) else bv (op (cn F 8) (Int32.toNatClampNeg v1)) (fun o2 : Option Nat => om o2 (gX10_sinkAll_L2   K n9 (v1 + 1) F G) (fun k4 : Nat => bv (op (cn F 8) (Int32.toNatClampNeg v1)) (fun o5 : Option Nat => om o5 (F, G) (fun k7 : Nat => bv (op (cn F 8) (Int32.toNatClampNeg v1)) (fun o9 : Option Nat => om o9 (F, G) (fun k11 : Nat => bv (u2 F 10 k7 ((F 10 k7) - (F 11 k11))) (fun F14 : jF => (gX10_sinkAll_L2   K n9 (v1 + 1) F14 G)))))))))
def okX10_sinkAll_L2  (okK : Int32 → jF → jG → Prop) : Nat → Int32 → jF → jG → Prop
  | 0, _, _, _ => False
  | n9 + 1, v1, F, G => ((8 ≤ v1 → (okK v1 F G)) ∧ (¬ 8 ≤ v1 → (vp_in v1 8 ∧ bv (op (cn F 8) (Int32.toNatClampNeg v1)) (fun o2 : Option Nat => om o2 (okX10_sinkAll_L2   okK n9 (v1 + 1) F G) (fun k4 : Nat => (vp_in v1 8 ∧ bv (op (cn F 8) (Int32.toNatClampNeg v1)) (fun o5 : Option Nat => om o5 False (fun k7 : Nat => (k7 < cn F 8 ∧ (vp_in v1 8 ∧ bv (op (cn F 8) (Int32.toNatClampNeg v1)) (fun o9 : Option Nat => om o9 False (fun k11 : Nat => (k11 < cn F 8 ∧ (k7 < cn F 8 ∧ bv (u2 F 10 k7 ((F 10 k7) - (F 11 k11))) (fun F14 : jF => (okX10_sinkAll_L2   okK n9 (v1 + 1) F14 G))))))))))))))))
def gX10_sinkAll (F : jF) (G : jG)  : jS := (gX10_sinkAll_L2   (fun (y16 : Int32) (F17 : jF) (G18 : jG) => (F17, G18)) 80 0 F G)
def okX10_sinkAll (F : jF) (G : jG)  : Prop := (okX10_sinkAll_L2   (fun (y16 : Int32) (F17 : jF) (G18 : jG) => True) 80 0 F G)
abbrev rmX10_sinkAll : Room := { frames := 0, cells := 0, slots := 0, locals := 0 }
def gX10_sumBasins_L5 (F : jF) (G : jG)  (K : Int32 → Int64 → Int64) : Nat → Int32 → Int64 → Int64
  | 0, _, _ => 0
  | n9 + 1, v5, v3 => (if 8 ≤ v5 then (K v5 v3 ) else bv (op (cn F 8) (Int32.toNatClampNeg v5)) (fun o2 : Option Nat => om o2 (gX10_sumBasins_L5 F G   K n9 (v5 + 1) v3 ) (fun k4 : Nat => bv (op (cn F 8) (Int32.toNatClampNeg v5)) (fun o5 : Option Nat => om o5 0 (fun k7 : Nat => bv ((v3 * 31) + (G 14 k7)) (fun x9 : Int64 => bv (op (cn F 8) (Int32.toNatClampNeg v5)) (fun o10 : Option Nat => om o10 0 (fun k12 : Nat => bv (gX0_height F G k12 ) (fun x15 : Int64 => bv ((x9 * 31) + x15) (fun x16 : Int64 => bv (op (cn F 8) (Int32.toNatClampNeg v5)) (fun o17 : Option Nat => om o17 0 (fun k19 : Nat => bv ((x16 * 31) + (G 15 k19)) (fun x21 : Int64 => (gX10_sumBasins_L5 F G   K n9 (v5 + 1) x21 ))))))))))))))
def okX10_sumBasins_L5 (F : jF) (G : jG)  (okK : Int32 → Int64 → Prop) : Nat → Int32 → Int64 → Prop
  | 0, _, _ => False
  | n9 + 1, v5, v3 => ((8 ≤ v5 → (okK v5 v3 )) ∧ (¬ 8 ≤ v5 → (vp_in v5 8 ∧ bv (op (cn F 8) (Int32.toNatClampNeg v5)) (fun o2 : Option Nat => om o2 (okX10_sumBasins_L5 F G   okK n9 (v5 + 1) v3 ) (fun k4 : Nat => (vp_in v5 8 ∧ bv (op (cn F 8) (Int32.toNatClampNeg v5)) (fun o5 : Option Nat => om o5 False (fun k7 : Nat => (k7 < cn F 8 ∧ bv ((v3 * 31) + (G 14 k7)) (fun x9 : Int64 => (vp_in v5 8 ∧ bv (op (cn F 8) (Int32.toNatClampNeg v5)) (fun o10 : Option Nat => om o10 False (fun k12 : Nat => (k12 < cn F 8 ∧ ((okX0_height F G k12 ) ∧ bv (gX0_height F G k12 ) (fun x15 : Int64 => bv ((x9 * 31) + x15) (fun x16 : Int64 => (vp_in v5 8 ∧ bv (op (cn F 8) (Int32.toNatClampNeg v5)) (fun o17 : Option Nat => om o17 False (fun k19 : Nat => (k19 < cn F 8 ∧ bv ((x16 * 31) + (G 15 k19)) (fun x21 : Int64 => (okX10_sumBasins_L5 F G   okK n9 (v5 + 1) x21 )))))))))))))))))))))))
def gX10_sumBasins (F : jF) (G : jG) (p1 : Int64) : Int64 := (gX10_sumBasins_L5 F G   (fun (y22 : Int32) (y23 : Int64) => y23) 80 0 p1 )
def okX10_sumBasins (F : jF) (G : jG) (p1 : Int64) : Prop := (okX10_sumBasins_L5 F G   (fun (y22 : Int32) (y23 : Int64) => True) 80 0 p1 )
abbrev rmX10_sumBasins : Room := { frames := 1, cells := 0, slots := 0, locals := 20 }
def gX3_joins (F : jF) (G : jG) (k0 : Nat) (p1 : Int32) (p2 : Int32) : Int32 := (if (F 33 k0) = p1 then (if (F 34 k0) = p2 then 1 else (if (F 33 k0) = p2 then (if (F 34 k0) = p1 then 1 else 0) else 0)) else (if (F 33 k0) = p2 then (if (F 34 k0) = p1 then 1 else 0) else 0))
def okX3_joins (F : jF) (G : jG) (k0 : Nat) (p1 : Int32) (p2 : Int32) : Prop := (k0 < cn F 32 ∧ (((F 33 k0) = p1 → (k0 < cn F 32 ∧ (((F 34 k0) = p2 → True) ∧ (¬ (F 34 k0) = p2 → (k0 < cn F 32 ∧ (((F 33 k0) = p2 → (k0 < cn F 32)) ∧ (¬ (F 33 k0) = p2 → True))))))) ∧ (¬ (F 33 k0) = p1 → (k0 < cn F 32 ∧ (((F 33 k0) = p2 → (k0 < cn F 32)) ∧ (¬ (F 33 k0) = p2 → True))))))
abbrev rmX3_joins : Room := { frames := 0, cells := 0, slots := 0, locals := 0 }
def gX3_workplace (F : jF) (G : jG) (k0 : Nat)  : Int32 := bv (gX10_basinAt F G  (F 33 k0)) (fun o3 : Option Nat => bv (om o3 (F 34 k0) (fun k4 : Nat => (F 33 k0)) : Int32) (fun v7 : Int32 => v7))
def okX3_workplace (F : jF) (G : jG) (k0 : Nat)  : Prop := (k0 < cn F 32 ∧ ((okX10_basinAt F G  (F 33 k0)) ∧ bv (gX10_basinAt F G  (F 33 k0)) (fun o3 : Option Nat => om o3 (k0 < cn F 32) (fun k4 : Nat => (k0 < cn F 32)))))
abbrev rmX3_workplace : Room := { frames := 1, cells := 0, slots := 0, locals := 21 }
def gX3_flowsOver (F : jF) (G : jG) (k0 : Nat)  : (Int32 × jS) := bv (gX10_above F G  (F 33 k0) (F 34 k0)) (fun x4 : Int64 => bv ((if x4 < 0 then (F 34 k0) else (F 33 k0)) : Int32) (fun v8 : Int32 => bv (gX10_heightOf F G  v8) (fun x10 : Int64 => bv (x10 - (100 * (Int32.toInt64 (F 35 k0)))) (fun x12 : Int64 => (if 0 < x12 then bv (gX10_basinAt F G  v8) (fun o15 : Option Nat => om o15 (br (gX10_levelOut F G  (F 33 k0) (F 34 k0) 500) (fun (x23 : Int64) (F20 : jF) (G21 : jG) => (if x23 ≤ 0 then (0, (F20, G21)) else (1, (F20, G21))))) (fun k16 : Nat => bv (if ((x12 * (Int32.toInt64 (F 9 k16))) / 100) < 500 then ((x12 * (Int32.toInt64 (F 9 k16))) / 100) else 500) (fun x26 : Int64 => br (gX10_levelOut F G  (F 33 k0) (F 34 k0) x26) (fun (x33 : Int64) (F30 : jF) (G31 : jG) => (if x33 ≤ 0 then (0, (F30, G31)) else (1, (F30, G31))))))) else (0, (F, G)))))))
def okX3_flowsOver (F : jF) (G : jG) (k0 : Nat)  : Prop := (k0 < cn F 32 ∧ (k0 < cn F 32 ∧ ((okX10_above F G  (F 33 k0) (F 34 k0)) ∧ bv (gX10_above F G  (F 33 k0) (F 34 k0)) (fun x4 : Int64 => (((x4 < 0 → (k0 < cn F 32)) ∧ (¬ x4 < 0 → (k0 < cn F 32))) ∧ bv ((if x4 < 0 then (F 34 k0) else (F 33 k0)) : Int32) (fun v8 : Int32 => ((okX10_heightOf F G  v8) ∧ bv (gX10_heightOf F G  v8) (fun x10 : Int64 => (k0 < cn F 32 ∧ bv (x10 - (100 * (Int32.toInt64 (F 35 k0)))) (fun x12 : Int64 => ((0 < x12 → ((okX10_basinAt F G  v8) ∧ bv (gX10_basinAt F G  v8) (fun o15 : Option Nat => om o15 (k0 < cn F 32 ∧ (k0 < cn F 32 ∧ (okX10_levelOut F G  (F 33 k0) (F 34 k0) 500))) (fun k16 : Nat => (k16 < cn F 8 ∧ bv (if ((x12 * (Int32.toInt64 (F 9 k16))) / 100) < 500 then ((x12 * (Int32.toInt64 (F 9 k16))) / 100) else 500) (fun x26 : Int64 => (k0 < cn F 32 ∧ (k0 < cn F 32 ∧ (okX10_levelOut F G  (F 33 k0) (F 34 k0) x26))))))))) ∧ (¬ 0 < x12 → True))))))))))))
abbrev rmX3_flowsOver : Room := { frames := 3, cells := 0, slots := 0, locals := 81 }
def gX3_hold (F : jF) (G : jG) (k0 : Nat)  : jS := (if (F 39 k0) ≤ 0 then bv (gX10_above F G  (F 33 k0) (F 34 k0)) (fun x6 : Int64 => bv (if 0 < x6 then x6 else -x6) (fun x7 : Int64 => br (gX10_levelOut F G  (F 33 k0) (F 34 k0) ((x7 * (Int32.toInt64 (F 37 k0))) / 1000)) (fun (x15 : Int64) (F12 : jF) (G13 : jG) => br (gX3_flowsOver F12 G13 k0 ) (fun (x21 : Int32) (F18 : jF) (G19 : jG) => (if x21 = 0 then (if x7 < 200 then (if (G19 61 k0) < (Int32.toInt64 (F18 36 k0)) then (F18, G19) else bv (u2 F18 39 k0 1) (fun F28 : jF => (F28, G19))) else bv (u2 G19 61 k0 ((G19 61 k0) + (x7 / 100))) (fun G32 : jG => (if (G32 61 k0) < (Int32.toInt64 (F18 36 k0)) then (F18, G32) else bv (u2 F18 39 k0 1) (fun F38 : jF => (F38, G32))))) else bv (u2 G19 61 k0 ((G19 61 k0) + 20)) (fun G42 : jG => (if x7 < 200 then (if (G42 61 k0) < (Int32.toInt64 (F18 36 k0)) then (F18, G42) else bv (u2 F18 39 k0 1) (fun F49 : jF => (F49, G42))) else bv (u2 G42 61 k0 ((G42 61 k0) + (x7 / 100))) (fun G53 : jG => (if (G53 61 k0) < (Int32.toInt64 (F18 36 k0)) then (F18, G53) else bv (u2 F18 39 k0 1) (fun F59 : jF => (F59, G53))))))))))) else br (gX10_levelOut F G  (F 33 k0) (F 34 k0) (50 * (Int32.toInt64 (F 39 k0)))) (fun (x68 : Int64) (F65 : jF) (G66 : jG) => bv (if 10 < ((F65 39 k0) + 1) then 10 else ((F65 39 k0) + 1)) (fun x70 : Int32 => bv (u2 F65 39 k0 x70) (fun F72 : jF => (F72, G66)))))
def okX3_hold (F : jF) (G : jG) (k0 : Nat)  : Prop := (k0 < cn F 32 ∧ (((F 39 k0) ≤ 0 → (k0 < cn F 32 ∧ (k0 < cn F 32 ∧ ((okX10_above F G  (F 33 k0) (F 34 k0)) ∧ bv (gX10_above F G  (F 33 k0) (F 34 k0)) (fun x6 : Int64 => bv (if 0 < x6 then x6 else -x6) (fun x7 : Int64 => (k0 < cn F 32 ∧ (k0 < cn F 32 ∧ (k0 < cn F 32 ∧ ((okX10_levelOut F G  (F 33 k0) (F 34 k0) ((x7 * (Int32.toInt64 (F 37 k0))) / 1000)) ∧ br (gX10_levelOut F G  (F 33 k0) (F 34 k0) ((x7 * (Int32.toInt64 (F 37 k0))) / 1000)) (fun (x15 : Int64) (F12 : jF) (G13 : jG) => (k0 < cn F12 32 ∧ ((okX3_flowsOver F12 G13 k0 ) ∧ br (gX3_flowsOver F12 G13 k0 ) (fun (x21 : Int32) (F18 : jF) (G19 : jG) => ((x21 = 0 → ((x7 < 200 → (k0 < cn F18 32 ∧ (k0 < cn F18 32 ∧ (((G19 61 k0) < (Int32.toInt64 (F18 36 k0)) → True) ∧ (¬ (G19 61 k0) < (Int32.toInt64 (F18 36 k0)) → (k0 < cn F18 32)))))) ∧ (¬ x7 < 200 → (k0 < cn F18 32 ∧ (k0 < cn F18 32 ∧ bv (u2 G19 61 k0 ((G19 61 k0) + (x7 / 100))) (fun G32 : jG => (k0 < cn F18 32 ∧ (k0 < cn F18 32 ∧ (((G32 61 k0) < (Int32.toInt64 (F18 36 k0)) → True) ∧ (¬ (G32 61 k0) < (Int32.toInt64 (F18 36 k0)) → (k0 < cn F18 32))))))))))) ∧ (¬ x21 = 0 → (k0 < cn F18 32 ∧ (k0 < cn F18 32 ∧ bv (u2 G19 61 k0 ((G19 61 k0) + 20)) (fun G42 : jG => ((x7 < 200 → (k0 < cn F18 32 ∧ (k0 < cn F18 32 ∧ (((G42 61 k0) < (Int32.toInt64 (F18 36 k0)) → True) ∧ (¬ (G42 61 k0) < (Int32.toInt64 (F18 36 k0)) → (k0 < cn F18 32)))))) ∧ (¬ x7 < 200 → (k0 < cn F18 32 ∧ (k0 < cn F18 32 ∧ bv (u2 G42 61 k0 ((G42 61 k0) + (x7 / 100))) (fun G53 : jG => (k0 < cn F18 32 ∧ (k0 < cn F18 32 ∧ (((G53 61 k0) < (Int32.toInt64 (F18 36 k0)) → True) ∧ (¬ (G53 61 k0) < (Int32.toInt64 (F18 36 k0)) → (k0 < cn F18 32))))))))))))))))))))))))))))) ∧ (¬ (F 39 k0) ≤ 0 → (k0 < cn F 32 ∧ (k0 < cn F 32 ∧ (k0 < cn F 32 ∧ ((okX10_levelOut F G  (F 33 k0) (F 34 k0) (50 * (Int32.toInt64 (F 39 k0)))) ∧ br (gX10_levelOut F G  (F 33 k0) (F 34 k0) (50 * (Int32.toInt64 (F 39 k0)))) (fun (x68 : Int64) (F65 : jF) (G66 : jG) => (k0 < cn F65 32 ∧ bv (if 10 < ((F65 39 k0) + 1) then 10 else ((F65 39 k0) + 1)) (fun x70 : Int32 => (k0 < cn F65 32)))))))))))
abbrev rmX3_hold : Room := { frames := 4, cells := 0, slots := 0, locals := 108 }
def gX3_isHurt (F : jF) (G : jG) (k0 : Nat)  : Int32 := (if 0 < (F 39 k0) then 1 else (if (G 61 k0) ≤ 0 then 0 else 1))
def okX3_isHurt (F : jF) (G : jG) (k0 : Nat)  : Prop := (k0 < cn F 32 ∧ ((0 < (F 39 k0) → True) ∧ (¬ 0 < (F 39 k0) → (k0 < cn F 32))))
abbrev rmX3_isHurt : Room := { frames := 0, cells := 0, slots := 0, locals := 0 }
def gX3_bag (F : jF) (G : jG) (k0 : Nat)  : jS := (if 0 < (F 39 k0) then bv (if 0 < ((F 39 k0) - 3) then ((F 39 k0) - 3) else 0) (fun x4 : Int32 => bv (u2 F 39 k0 x4) (fun F6 : jF => (if (F6 39 k0) = 0 then bv (u2 G 61 k0 0) (fun G11 : jG => (F6, G11)) else (F6, G)))) else bv (if ((G 61 k0) - 15) < 0 then 0 else ((G 61 k0) - 15)) (fun x14 : Int64 => bv (u2 G 61 k0 x14) (fun G16 : jG => (F, G16))))
def okX3_bag (F : jF) (G : jG) (k0 : Nat)  : Prop := (k0 < cn F 32 ∧ ((0 < (F 39 k0) → (k0 < cn F 32 ∧ bv (if 0 < ((F 39 k0) - 3) then ((F 39 k0) - 3) else 0) (fun x4 : Int32 => (k0 < cn F 32 ∧ bv (u2 F 39 k0 x4) (fun F6 : jF => (k0 < cn F6 32 ∧ (((F6 39 k0) = 0 → (k0 < cn F6 32)) ∧ (¬ (F6 39 k0) = 0 → True)))))))) ∧ (¬ 0 < (F 39 k0) → (k0 < cn F 32 ∧ bv (if ((G 61 k0) - 15) < 0 then 0 else ((G 61 k0) - 15)) (fun x14 : Int64 => (k0 < cn F 32))))))
abbrev rmX3_bag : Room := { frames := 1, cells := 0, slots := 0, locals := 23 }
def gX3_sumDyke (F : jF) (G : jG) (k0 : Nat) (p1 : Int64) : Int64 := ((((((p1 * 31) + (Int32.toInt64 (F 35 k0))) * 31) + (G 61 k0)) * 31) + (Int32.toInt64 (F 39 k0)))
def okX3_sumDyke (F : jF) (G : jG) (k0 : Nat) (p1 : Int64) : Prop := (k0 < cn F 32 ∧ (k0 < cn F 32 ∧ (k0 < cn F 32)))
abbrev rmX3_sumDyke : Room := { frames := 0, cells := 0, slots := 0, locals := 0 }
def gX4_lowerHasWorth (F : jF) (G : jG) (k0 : Nat)  : Int32 := bv (gX10_above F G  (F 18 k0) (F 19 k0)) (fun x4 : Int64 => (if x4 = 0 then 0 else bv ((if x4 ≤ 0 then (F 18 k0) else (F 19 k0)) : Int32) (fun v9 : Int32 => bv (gX10_basinAt F G  v9) (fun o11 : Option Nat => om o11 0 (fun k12 : Nat => (if (F 13 k12) ≤ 0 then 0 else 1))))))
def okX4_lowerHasWorth (F : jF) (G : jG) (k0 : Nat)  : Prop := (k0 < cn F 17 ∧ (k0 < cn F 17 ∧ ((okX10_above F G  (F 18 k0) (F 19 k0)) ∧ bv (gX10_above F G  (F 18 k0) (F 19 k0)) (fun x4 : Int64 => ((x4 = 0 → True) ∧ (¬ x4 = 0 → (((x4 ≤ 0 → (k0 < cn F 17)) ∧ (¬ x4 ≤ 0 → (k0 < cn F 17))) ∧ bv ((if x4 ≤ 0 then (F 18 k0) else (F 19 k0)) : Int32) (fun v9 : Int32 => ((okX10_basinAt F G  v9) ∧ bv (gX10_basinAt F G  v9) (fun o11 : Option Nat => om o11 True (fun k12 : Nat => (k12 < cn F 8))))))))))))
abbrev rmX4_lowerHasWorth : Room := { frames := 3, cells := 0, slots := 0, locals := 65 }
def gX4_obey (F : jF) (G : jG) (k0 : Nat) (p2 : Int32) (p3 : Int32) : (Int32 × jS) := (if (F 21 k0) ≤ p3 then (if p2 = 0 then (if p2 = 0 then bv (u2 F 22 k0 p2) (fun F7 : jF => (0, (F7, G))) else (if 3 ≤ p3 then bv (u2 F 22 k0 p2) (fun F12 : jF => (0, (F12, G))) else bv (gX4_lowerHasWorth F G k0 ) (fun x16 : Int32 => (if x16 = 0 then bv (u2 F 22 k0 p2) (fun F20 : jF => (0, (F20, G))) else (3, (F, G)))))) else bv (gX10_seaPresses F G  (F 18 k0) (F 19 k0)) (fun x25 : Int32 => (if x25 = 0 then (if p2 = 0 then bv (u2 F 22 k0 p2) (fun F30 : jF => (0, (F30, G))) else (if 3 ≤ p3 then bv (u2 F 22 k0 p2) (fun F35 : jF => (0, (F35, G))) else bv (gX4_lowerHasWorth F G k0 ) (fun x39 : Int32 => (if x39 = 0 then bv (u2 F 22 k0 p2) (fun F43 : jF => (0, (F43, G))) else (3, (F, G)))))) else (2, (F, G))))) else (1, (F, G)))
def okX4_obey (F : jF) (G : jG) (k0 : Nat) (p2 : Int32) (p3 : Int32) : Prop := (k0 < cn F 17 ∧ (((F 21 k0) ≤ p3 → ((p2 = 0 → ((p2 = 0 → (jb p2 ∧ (k0 < cn F 17))) ∧ (¬ p2 = 0 → ((3 ≤ p3 → (jb p2 ∧ (k0 < cn F 17))) ∧ (¬ 3 ≤ p3 → (k0 < cn F 17 ∧ ((okX4_lowerHasWorth F G k0 ) ∧ bv (gX4_lowerHasWorth F G k0 ) (fun x16 : Int32 => ((x16 = 0 → (jb p2 ∧ (k0 < cn F 17))) ∧ (¬ x16 = 0 → True)))))))))) ∧ (¬ p2 = 0 → (k0 < cn F 17 ∧ (k0 < cn F 17 ∧ ((okX10_seaPresses F G  (F 18 k0) (F 19 k0)) ∧ bv (gX10_seaPresses F G  (F 18 k0) (F 19 k0)) (fun x25 : Int32 => ((x25 = 0 → ((p2 = 0 → (jb p2 ∧ (k0 < cn F 17))) ∧ (¬ p2 = 0 → ((3 ≤ p3 → (jb p2 ∧ (k0 < cn F 17))) ∧ (¬ 3 ≤ p3 → (k0 < cn F 17 ∧ ((okX4_lowerHasWorth F G k0 ) ∧ bv (gX4_lowerHasWorth F G k0 ) (fun x39 : Int32 => ((x39 = 0 → (jb p2 ∧ (k0 < cn F 17))) ∧ (¬ x39 = 0 → True)))))))))) ∧ (¬ x25 = 0 → True))))))))) ∧ (¬ (F 21 k0) ≤ p3 → True)))
abbrev rmX4_obey : Room := { frames := 4, cells := 0, slots := 0, locals := 89 }
def gX4_pass (F : jF) (G : jG) (k0 : Nat)  : jS := (if (F 22 k0) = 0 then (if (F 22 k0) = 0 then (F, G) else br (gX10_levelOut F G  (F 18 k0) (F 19 k0) (Int32.toInt64 (F 20 k0))) (fun (x12 : Int64) (F9 : jF) (G10 : jG) => (F9, G10))) else bv (gX10_seaPresses F G  (F 18 k0) (F 19 k0)) (fun x16 : Int32 => (if x16 = 0 then (if (F 22 k0) = 0 then (F, G) else br (gX10_levelOut F G  (F 18 k0) (F 19 k0) (Int32.toInt64 (F 20 k0))) (fun (x27 : Int64) (F24 : jF) (G25 : jG) => (F24, G25))) else bv (u2 F 22 k0 0) (fun F29 : jF => (if (F29 22 k0) = 0 then (F29, G) else br (gX10_levelOut F29 G  (F29 18 k0) (F29 19 k0) (Int32.toInt64 (F29 20 k0))) (fun (x40 : Int64) (F37 : jF) (G38 : jG) => (F37, G38)))))))
def okX4_pass (F : jF) (G : jG) (k0 : Nat)  : Prop := (k0 < cn F 17 ∧ (((F 22 k0) = 0 → (k0 < cn F 17 ∧ (((F 22 k0) = 0 → True) ∧ (¬ (F 22 k0) = 0 → (k0 < cn F 17 ∧ (k0 < cn F 17 ∧ (k0 < cn F 17 ∧ (okX10_levelOut F G  (F 18 k0) (F 19 k0) (Int32.toInt64 (F 20 k0)))))))))) ∧ (¬ (F 22 k0) = 0 → (k0 < cn F 17 ∧ (k0 < cn F 17 ∧ ((okX10_seaPresses F G  (F 18 k0) (F 19 k0)) ∧ bv (gX10_seaPresses F G  (F 18 k0) (F 19 k0)) (fun x16 : Int32 => ((x16 = 0 → (k0 < cn F 17 ∧ (((F 22 k0) = 0 → True) ∧ (¬ (F 22 k0) = 0 → (k0 < cn F 17 ∧ (k0 < cn F 17 ∧ (k0 < cn F 17 ∧ (okX10_levelOut F G  (F 18 k0) (F 19 k0) (Int32.toInt64 (F 20 k0)))))))))) ∧ (¬ x16 = 0 → (k0 < cn F 17 ∧ bv (u2 F 22 k0 0) (fun F29 : jF => (k0 < cn F29 17 ∧ (((F29 22 k0) = 0 → True) ∧ (¬ (F29 22 k0) = 0 → (k0 < cn F29 17 ∧ (k0 < cn F29 17 ∧ (k0 < cn F29 17 ∧ (okX10_levelOut F29 G  (F29 18 k0) (F29 19 k0) (Int32.toInt64 (F29 20 k0))))))))))))))))))))
abbrev rmX4_pass : Room := { frames := 4, cells := 0, slots := 0, locals := 87 }
def gX7_work (F : jF) (G : jG) (k0 : Nat)  : jS := (if (F 29 k0) = 0 then (F, G) else (if (F 30 k0) ≤ 0 then (F, G) else (if (F 31 k0) < (F 28 k0) then bv (gX10_stockOf F G  (F 24 k0)) (fun x11 : Int64 => bv (if x11 < (Int32.toInt64 (F 26 k0)) then x11 else (Int32.toInt64 (F 26 k0))) (fun x12 : Int64 => (if x12 ≤ 0 then (F, G) else bv (gX10_above F G  (F 25 k0) (F 24 k0)) (fun x17 : Int64 => (if x17 ≤ (100 * (Int32.toInt64 (F 27 k0))) then bs (gX10_move F G  (F 24 k0) (F 25 k0) x12) (fun (F23 : jF) (G24 : jG) => bv (u2 F23 30 k0 ((F23 30 k0) - 1)) (fun F28 : jF => bv (u2 F28 31 k0 ((F28 31 k0) + 1)) (fun F32 : jF => (F32, G24)))) else (F, G)))))) else (F, G))))
def okX7_work (F : jF) (G : jG) (k0 : Nat)  : Prop := (k0 < cn F 23 ∧ (((F 29 k0) = 0 → True) ∧ (¬ (F 29 k0) = 0 → (k0 < cn F 23 ∧ (((F 30 k0) ≤ 0 → True) ∧ (¬ (F 30 k0) ≤ 0 → (k0 < cn F 23 ∧ (k0 < cn F 23 ∧ (((F 31 k0) < (F 28 k0) → (k0 < cn F 23 ∧ (k0 < cn F 23 ∧ ((okX10_stockOf F G  (F 24 k0)) ∧ bv (gX10_stockOf F G  (F 24 k0)) (fun x11 : Int64 => bv (if x11 < (Int32.toInt64 (F 26 k0)) then x11 else (Int32.toInt64 (F 26 k0))) (fun x12 : Int64 => ((x12 ≤ 0 → True) ∧ (¬ x12 ≤ 0 → (k0 < cn F 23 ∧ (k0 < cn F 23 ∧ ((okX10_above F G  (F 25 k0) (F 24 k0)) ∧ bv (gX10_above F G  (F 25 k0) (F 24 k0)) (fun x17 : Int64 => (k0 < cn F 23 ∧ ((x17 ≤ (100 * (Int32.toInt64 (F 27 k0))) → (k0 < cn F 23 ∧ (k0 < cn F 23 ∧ ((okX10_move F G  (F 24 k0) (F 25 k0) x12) ∧ bs (gX10_move F G  (F 24 k0) (F 25 k0) x12) (fun (F23 : jF) (G24 : jG) => (k0 < cn F23 23 ∧ (k0 < cn F23 23 ∧ bv (u2 F23 30 k0 ((F23 30 k0) - 1)) (fun F28 : jF => (k0 < cn F28 23 ∧ (k0 < cn F28 23)))))))))) ∧ (¬ x17 ≤ (100 * (Int32.toInt64 (F 27 k0))) → True))))))))))))))) ∧ (¬ (F 31 k0) < (F 28 k0) → True))))))))))
abbrev rmX7_work : Room := { frames := 3, cells := 0, slots := 0, locals := 65 }
def gX7_sumPump (F : jF) (G : jG) (k0 : Nat) (p1 : Int64) : Int64 := ((((p1 * 31) + (Int32.toInt64 (F 30 k0))) * 31) + (Int32.toInt64 (F 31 k0)))
def okX7_sumPump (F : jF) (G : jG) (k0 : Nat) (p1 : Int64) : Prop := (k0 < cn F 23 ∧ (k0 < cn F 23))
abbrev rmX7_sumPump : Room := { frames := 0, cells := 0, slots := 0, locals := 0 }
def gX8_isBuilt (F : jF) (G : jG) (p1 : Int32) (p2 : Int32) : Int32 := bv ((p1 * 8) + p2) (fun x1 : Int32 => (if x1 < 0 then 0 else (if 64 ≤ x1 then 0 else (if (F 16 (Int32.toNatClampNeg x1)) = 0 then 0 else 1))))
def okX8_isBuilt (F : jF) (G : jG) (p1 : Int32) (p2 : Int32) : Prop := bv ((p1 * 8) + p2) (fun x1 : Int32 => ((x1 < 0 → True) ∧ (¬ x1 < 0 → ((64 ≤ x1 → True) ∧ (¬ 64 ≤ x1 → (vp_in x1 64))))))
abbrev rmX8_isBuilt : Room := { frames := 0, cells := 0, slots := 0, locals := 0 }
def gX8_put (F : jF) (G : jG) (p1 : Int32) (p2 : Int32) : jS := (if p1 < 0 then (F, G) else (if 64 ≤ p1 then (F, G) else bv (u2 F 16 (Int32.toNatClampNeg p1) p2) (fun F5 : jF => (F5, G))))
def okX8_put (F : jF) (G : jG) (p1 : Int32) (p2 : Int32) : Prop := ((p1 < 0 → True) ∧ (¬ p1 < 0 → ((64 ≤ p1 → True) ∧ (¬ 64 ≤ p1 → (jb p2 ∧ (vp_in p1 64))))))
abbrev rmX8_put : Room := { frames := 0, cells := 0, slots := 0, locals := 0 }
def gX8_build (F : jF) (G : jG) (p1 : Int32) (p2 : Int32) (p3 : Int32) : (Int32 × jS) := bv (gX8_isBuilt F G  p1 p2) (fun x2 : Int32 => bs (gX8_put F G  ((p1 * 8) + p2) p3) (fun (F4 : jF) (G5 : jG) => bs (gX8_put F4 G5  ((p2 * 8) + p1) p3) (fun (F8 : jF) (G9 : jG) => (x2, (F8, G9)))))
def okX8_build (F : jF) (G : jG) (p1 : Int32) (p2 : Int32) (p3 : Int32) : Prop := ((okX8_isBuilt F G  p1 p2) ∧ bv (gX8_isBuilt F G  p1 p2) (fun x2 : Int32 => ((okX8_put F G  ((p1 * 8) + p2) p3) ∧ bs (gX8_put F G  ((p1 * 8) + p2) p3) (fun (F4 : jF) (G5 : jG) => ((okX8_put F4 G5  ((p2 * 8) + p1) p3) ∧ bs (gX8_put F4 G5  ((p2 * 8) + p1) p3) (fun (F8 : jF) (G9 : jG) => (jb x2)))))))
abbrev rmX8_build : Room := { frames := 1, cells := 0, slots := 0, locals := 23 }
def gX8_lookAt_L2  (K : Int32 → jF → jG → jS) : Nat → Int32 → jF → jG → jS
  | 0, _, F, G => (F, G)
  | n9 + 1, v2, F, G => (if 8 ≤ v2 then (K v2 F G) else bv (gX10_basinAt F G  v2) (fun o3 : Option Nat => om o3 (bv (u2 F 70 (Int32.toNatClampNeg v2) 0) (fun F6 : jF => (gX8_lookAt_L2   K n9 (v2 + 1) F6 G))) (fun k4 : Nat => bv (gX0_aboveFloor F G k4 ) (fun x10 : Int64 => bv ((if 100 ≤ x10 then 0 else 1) : Int32) (fun v12 : Int32 => bv (u2 F 70 (Int32.toNatClampNeg v2) v12) (fun F15 : jF => (gX8_lookAt_L2   K n9 (v2 + 1) F15 G)))))))
def okX8_lookAt_L2  (okK : Int32 → jF → jG → Prop) : Nat → Int32 → jF → jG → Prop
  | 0, _, _, _ => False
  | n9 + 1, v2, F, G => ((8 ≤ v2 → (okK v2 F G)) ∧ (¬ 8 ≤ v2 → ((okX10_basinAt F G  v2) ∧ bv (gX10_basinAt F G  v2) (fun o3 : Option Nat => om o3 (vp_in v2 8 ∧ bv (u2 F 70 (Int32.toNatClampNeg v2) 0) (fun F6 : jF => (okX8_lookAt_L2   okK n9 (v2 + 1) F6 G))) (fun k4 : Nat => (k4 < cn F 8 ∧ ((okX0_aboveFloor F G k4 ) ∧ bv (gX0_aboveFloor F G k4 ) (fun x10 : Int64 => bv ((if 100 ≤ x10 then 0 else 1) : Int32) (fun v12 : Int32 => (jb v12 ∧ (vp_in v2 8 ∧ bv (u2 F 70 (Int32.toNatClampNeg v2) v12) (fun F15 : jF => (okX8_lookAt_L2   okK n9 (v2 + 1) F15 G)))))))))))))
def gX8_lookAt (F : jF) (G : jG)  : jS := (gX8_lookAt_L2   (fun (y17 : Int32) (F18 : jF) (G19 : jG) => (F18, G19)) 80 0 F G)
def okX8_lookAt (F : jF) (G : jG)  : Prop := (okX8_lookAt_L2   (fun (y17 : Int32) (F18 : jF) (G19 : jG) => True) 80 0 F G)
abbrev rmX8_lookAt : Room := { frames := 2, cells := 0, slots := 0, locals := 40 }
def gX8_isFree (F : jF) (G : jG) (p1 : Int32) (p2 : Int32) : Int32 := (if p1 < 0 then 0 else (if 8 ≤ p1 then 0 else (if p2 < 0 then 0 else (if p2 < 8 then (if (F 70 (Int32.toNatClampNeg p1)) = 0 then 0 else (if (F 70 (Int32.toNatClampNeg p2)) = 0 then 0 else bv (gX8_isBuilt F G  p1 p2) (fun x10 : Int32 => (if x10 = 0 then 0 else 1)))) else 0))))
def okX8_isFree (F : jF) (G : jG) (p1 : Int32) (p2 : Int32) : Prop := ((p1 < 0 → True) ∧ (¬ p1 < 0 → ((8 ≤ p1 → True) ∧ (¬ 8 ≤ p1 → ((p2 < 0 → True) ∧ (¬ p2 < 0 → ((p2 < 8 → (vp_in p1 8 ∧ (((F 70 (Int32.toNatClampNeg p1)) = 0 → True) ∧ (¬ (F 70 (Int32.toNatClampNeg p1)) = 0 → (vp_in p2 8 ∧ (((F 70 (Int32.toNatClampNeg p2)) = 0 → True) ∧ (¬ (F 70 (Int32.toNatClampNeg p2)) = 0 → (okX8_isBuilt F G  p1 p2)))))))) ∧ (¬ p2 < 8 → True))))))))
abbrev rmX8_isFree : Room := { frames := 1, cells := 0, slots := 0, locals := 23 }
def gX8_measure_L2 (f1 : Int32) (K : Int32 → jF → jG → jS) : Nat → Int32 → jF → jG → jS
  | 0, _, F, G => (F, G)
  | n9 + 1, v2, F, G => (if 8 ≤ v2 then (K v2 F G) else bv ((if v2 = f1 then 0 else (-1)) : Int32) (fun v3 : Int32 => bv (u2 F 68 (Int32.toNatClampNeg v2) v3) (fun F5 : jF => (gX8_measure_L2  f1 K n9 (v2 + 1) F5 G))))
def okX8_measure_L2 (f1 : Int32) (okK : Int32 → jF → jG → Prop) : Nat → Int32 → jF → jG → Prop
  | 0, _, _, _ => False
  | n9 + 1, v2, F, G => ((8 ≤ v2 → (okK v2 F G)) ∧ (¬ 8 ≤ v2 → bv ((if v2 = f1 then 0 else (-1)) : Int32) (fun v3 : Int32 => (vp_in v2 8 ∧ bv (u2 F 68 (Int32.toNatClampNeg v2) v3) (fun F5 : jF => (okX8_measure_L2  f1 okK n9 (v2 + 1) F5 G))))))
def gX8_measure_L58 (f3 : Int32) (f2 : Int32) (K : Int32 → jF → jG → jS) : Nat → Int32 → jF → jG → jS
  | 0, _, F, G => (F, G)
  | n9 + 1, v4, F, G => (if 8 ≤ v4 then (K v4 F G) else (if (F 68 (Int32.toNatClampNeg f3)) = f2 then (if 0 ≤ (F 68 (Int32.toNatClampNeg v4)) then (gX8_measure_L58  f3 f2 K n9 (v4 + 1) F G) else bv (gX8_isFree F G  f3 v4) (fun x18 : Int32 => (if x18 = 0 then (gX8_measure_L58  f3 f2 K n9 (v4 + 1) F G) else bv (u2 F 68 (Int32.toNatClampNeg v4) (f2 + 1)) (fun F21 : jF => (gX8_measure_L58  f3 f2 K n9 (v4 + 1) F21 G))))) else (gX8_measure_L58  f3 f2 K n9 (v4 + 1) F G)))
def okX8_measure_L58 (f3 : Int32) (f2 : Int32) (okK : Int32 → jF → jG → Prop) : Nat → Int32 → jF → jG → Prop
  | 0, _, _, _ => False
  | n9 + 1, v4, F, G => ((8 ≤ v4 → (okK v4 F G)) ∧ (¬ 8 ≤ v4 → (vp_in f3 8 ∧ (((F 68 (Int32.toNatClampNeg f3)) = f2 → (vp_in v4 8 ∧ ((0 ≤ (F 68 (Int32.toNatClampNeg v4)) → (okX8_measure_L58  f3 f2 okK n9 (v4 + 1) F G)) ∧ (¬ 0 ≤ (F 68 (Int32.toNatClampNeg v4)) → ((okX8_isFree F G  f3 v4) ∧ bv (gX8_isFree F G  f3 v4) (fun x18 : Int32 => ((x18 = 0 → (okX8_measure_L58  f3 f2 okK n9 (v4 + 1) F G)) ∧ (¬ x18 = 0 → (vp_in v4 8 ∧ bv (u2 F 68 (Int32.toNatClampNeg v4) (f2 + 1)) (fun F21 : jF => (okX8_measure_L58  f3 f2 okK n9 (v4 + 1) F21 G))))))))))) ∧ (¬ (F 68 (Int32.toNatClampNeg f3)) = f2 → (okX8_measure_L58  f3 f2 okK n9 (v4 + 1) F G))))))
def gX8_measure_L46 (f2 : Int32) (K : Int32 → jF → jG → jS) : Nat → Int32 → jF → jG → jS
  | 0, _, F, G => (F, G)
  | n9 + 1, v3, F, G => (if 8 ≤ v3 then (K v3 F G) else (gX8_measure_L58  v3 f2 (fun (y23 : Int32) (F24 : jF) (G25 : jG) => (gX8_measure_L46  f2 K n9 (v3 + 1) F24 G25)) 80 0 F G))
def okX8_measure_L46 (f2 : Int32) (okK : Int32 → jF → jG → Prop) : Nat → Int32 → jF → jG → Prop
  | 0, _, _, _ => False
  | n9 + 1, v3, F, G => ((8 ≤ v3 → (okK v3 F G)) ∧ (¬ 8 ≤ v3 → (okX8_measure_L58  v3 f2 (fun (y23 : Int32) (F24 : jF) (G25 : jG) => (okX8_measure_L46  f2 okK n9 (v3 + 1) F24 G25)) 80 0 F G)))
def gX8_measure_L35  (K : Int32 → jF → jG → jS) : Nat → Int32 → jF → jG → jS
  | 0, _, F, G => (F, G)
  | n9 + 1, v2, F, G => (if 8 ≤ v2 then (K v2 F G) else (gX8_measure_L46  v2 (fun (y26 : Int32) (F27 : jF) (G28 : jG) => (gX8_measure_L35   K n9 (v2 + 1) F27 G28)) 80 0 F G))
def okX8_measure_L35  (okK : Int32 → jF → jG → Prop) : Nat → Int32 → jF → jG → Prop
  | 0, _, _, _ => False
  | n9 + 1, v2, F, G => ((8 ≤ v2 → (okK v2 F G)) ∧ (¬ 8 ≤ v2 → (okX8_measure_L46  v2 (fun (y26 : Int32) (F27 : jF) (G28 : jG) => (okX8_measure_L35   okK n9 (v2 + 1) F27 G28)) 80 0 F G)))
def gX8_measure (F : jF) (G : jG) (p1 : Int32) : jS := (gX8_measure_L2  p1 (fun (y7 : Int32) (F8 : jF) (G9 : jG) => (gX8_measure_L35   (fun (y29 : Int32) (F30 : jF) (G31 : jG) => (F30, G31)) 80 0 F8 G9)) 80 0 F G)
def okX8_measure (F : jF) (G : jG) (p1 : Int32) : Prop := (okX8_measure_L2  p1 (fun (y7 : Int32) (F8 : jF) (G9 : jG) => (okX8_measure_L35   (fun (y29 : Int32) (F30 : jF) (G31 : jG) => True) 80 0 F8 G9)) 80 0 F G)
abbrev rmX8_measure : Room := { frames := 2, cells := 0, slots := 0, locals := 45 }
def gX8_nextFrom_L22 (F4 : jF) (G5 : jG) (f1 : Int32) (K : Int32 → (Int32 × jS)) : Nat → Int32 → (Int32 × jS)
  | 0, _ => (0, (F4, G5))
  | n9 + 1, v3 => (if 8 ≤ v3 then (K v3 ) else (if (F4 68 (Int32.toNatClampNeg v3)) < 0 then (gX8_nextFrom_L22 F4 G5  f1 K n9 (v3 + 1) ) else (if (F4 68 (Int32.toNatClampNeg v3)) = ((F4 68 (Int32.toNatClampNeg f1)) - 1) then bv (gX8_isFree F4 G5  f1 v3) (fun x14 : Int32 => (if x14 = 0 then (gX8_nextFrom_L22 F4 G5  f1 K n9 (v3 + 1) ) else (v3, (F4, G5)))) else (gX8_nextFrom_L22 F4 G5  f1 K n9 (v3 + 1) ))))
def okX8_nextFrom_L22 (F4 : jF) (G5 : jG) (f1 : Int32) (okK : Int32 → Prop) : Nat → Int32 → Prop
  | 0, _ => False
  | n9 + 1, v3 => ((8 ≤ v3 → (okK v3 )) ∧ (¬ 8 ≤ v3 → (vp_in v3 8 ∧ (((F4 68 (Int32.toNatClampNeg v3)) < 0 → (okX8_nextFrom_L22 F4 G5  f1 okK n9 (v3 + 1) )) ∧ (¬ (F4 68 (Int32.toNatClampNeg v3)) < 0 → (vp_in v3 8 ∧ (vp_in f1 8 ∧ (((F4 68 (Int32.toNatClampNeg v3)) = ((F4 68 (Int32.toNatClampNeg f1)) - 1) → ((okX8_isFree F4 G5  f1 v3) ∧ bv (gX8_isFree F4 G5  f1 v3) (fun x14 : Int32 => ((x14 = 0 → (okX8_nextFrom_L22 F4 G5  f1 okK n9 (v3 + 1) )) ∧ (¬ x14 = 0 → True))))) ∧ (¬ (F4 68 (Int32.toNatClampNeg v3)) = ((F4 68 (Int32.toNatClampNeg f1)) - 1) → (okX8_nextFrom_L22 F4 G5  f1 okK n9 (v3 + 1) ))))))))))
def gX8_nextFrom (F : jF) (G : jG) (p1 : Int32) (p2 : Int32) : (Int32 × jS) := (if p1 < 0 then (p1, (F, G)) else (if p1 < 8 then bs (gX8_measure F G  p2) (fun (F4 : jF) (G5 : jG) => (gX8_nextFrom_L22 F4 G5  p1 (fun (y16 : Int32) => (p1, (F4, G5))) 80 0 )) else (p1, (F, G))))
def okX8_nextFrom (F : jF) (G : jG) (p1 : Int32) (p2 : Int32) : Prop := ((p1 < 0 → True) ∧ (¬ p1 < 0 → ((p1 < 8 → ((okX8_measure F G  p2) ∧ bs (gX8_measure F G  p2) (fun (F4 : jF) (G5 : jG) => (okX8_nextFrom_L22 F4 G5  p1 (fun (y16 : Int32) => True) 80 0 )))) ∧ (¬ p1 < 8 → True))))
abbrev rmX8_nextFrom : Room := { frames := 3, cells := 0, slots := 0, locals := 69 }
def gX2_toil (F : jF) (G : jG) (k0 : Nat) (p1 : Option Nat) : jS := om p1 (F, G) (fun k9 : Nat => bv (gX3_workplace F G k9 ) (fun x3 : Int32 => (if (F 49 k0) = x3 then (if (F 50 k0) ≤ 0 then (F, G) else bv (gX3_isHurt F G k9 ) (fun x10 : Int32 => (if x10 = 0 then (F, G) else bv (u2 F 50 k0 ((F 50 k0) - 1)) (fun F14 : jF => bs (gX3_bag F14 G k9 ) (fun (F18 : jF) (G19 : jG) => (F18, G19)))))) else br (gX8_nextFrom F G  (F 49 k0) x3) (fun (x26 : Int32) (F23 : jF) (G24 : jG) => bv (u2 F23 49 k0 x26) (fun F28 : jF => (F28, G24))))))
def okX2_toil (F : jF) (G : jG) (k0 : Nat) (p1 : Option Nat) : Prop := om p1 True (fun k9 : Nat => (k9 < cn F 32 ∧ ((okX3_workplace F G k9 ) ∧ bv (gX3_workplace F G k9 ) (fun x3 : Int32 => (k0 < 3 ∧ (((F 49 k0) = x3 → (k0 < 3 ∧ (((F 50 k0) ≤ 0 → True) ∧ (¬ (F 50 k0) ≤ 0 → (k9 < cn F 32 ∧ ((okX3_isHurt F G k9 ) ∧ bv (gX3_isHurt F G k9 ) (fun x10 : Int32 => ((x10 = 0 → True) ∧ (¬ x10 = 0 → (k0 < 3 ∧ (k0 < 3 ∧ bv (u2 F 50 k0 ((F 50 k0) - 1)) (fun F14 : jF => (k9 < cn F14 32 ∧ (okX3_bag F14 G k9 )))))))))))))) ∧ (¬ (F 49 k0) = x3 → (k0 < 3 ∧ ((okX8_nextFrom F G  (F 49 k0) x3) ∧ br (gX8_nextFrom F G  (F 49 k0) x3) (fun (x26 : Int32) (F23 : jF) (G24 : jG) => (k0 < 3)))))))))))
abbrev rmX2_toil : Room := { frames := 4, cells := 0, slots := 0, locals := 92 }
def gX1_grant (F : jF) (G : jG) (p1 : Int32) (p2 : Int32) : (Int32 × jS) := bv (u2 F 3 0 p1) (fun F1 : jF => bv (u2 F1 62 0 ((F1 62 0) + p2)) (fun F3 : jF => ((F3 62 0), (F3, G))))
abbrev rmX1_grant : Room := { frames := 0, cells := 0, slots := 0, locals := 0 }
def gX1_countWorks_L4 (F : jF) (G : jG)  (K : Int32 → Int32 → Int32) : Nat → Int32 → Int32 → Int32
  | 0, _, _ => 0
  | n9 + 1, v2, v1 => (if 6 ≤ v2 then (K v2 v1 ) else bv (opi (F 65 (Int32.toNatClampNeg v2))) (fun o2 : Option Nat => om o2 (gX1_countWorks_L4 F G   K n9 (v2 + 1) v1 ) (fun k4 : Nat => (gX1_countWorks_L4 F G   K n9 (v2 + 1) (v1 + 1) ))))
def okX1_countWorks_L4 (F : jF) (G : jG)  (okK : Int32 → Int32 → Prop) : Nat → Int32 → Int32 → Prop
  | 0, _, _ => False
  | n9 + 1, v2, v1 => ((6 ≤ v2 → (okK v2 v1 )) ∧ (¬ 6 ≤ v2 → (vp_in v2 6 ∧ bv (opi (F 65 (Int32.toNatClampNeg v2))) (fun o2 : Option Nat => om o2 (okX1_countWorks_L4 F G   okK n9 (v2 + 1) v1 ) (fun k4 : Nat => (okX1_countWorks_L4 F G   okK n9 (v2 + 1) (v1 + 1) ))))))
def gX1_countWorks (F : jF) (G : jG)  : Int32 := (gX1_countWorks_L4 F G   (fun (y5 : Int32) (y6 : Int32) => y6) 80 0 0 )
def okX1_countWorks (F : jF) (G : jG)  : Prop := (okX1_countWorks_L4 F G   (fun (y5 : Int32) (y6 : Int32) => True) 80 0 0 )
abbrev rmX1_countWorks : Room := { frames := 0, cells := 0, slots := 0, locals := 0 }
def gX1_beginWork_L3 (f2 : Int32) (f3 : Int32) (K : Int32 → jF → jG → (Int32 × jS)) : Nat → Int32 → jF → jG → (Int32 × jS)
  | 0, _, F, G => (0, (F, G))
  | n9 + 1, v4, F, G => (if 6 ≤ v4 then (K v4 F G) else bv (opi (F 65 (Int32.toNatClampNeg v4))) (fun o2 : Option Nat => om o2 (gX1_beginWork_L3  f2 f3 K n9 (v4 + 1) F G) (fun k4 : Nat => (gX1_beginWork_L3  f2 f3 K n9 (v4 + 1) F G))))
def okX1_beginWork_L3 (f2 : Int32) (f3 : Int32) (okK : Int32 → jF → jG → Prop) : Nat → Int32 → jF → jG → Prop
  | 0, _, _, _ => False
  | n9 + 1, v4, F, G => ((6 ≤ v4 → (okK v4 F G)) ∧ (¬ 6 ≤ v4 → (vp_in v4 6 ∧ bv (opi (F 65 (Int32.toNatClampNeg v4))) (fun o2 : Option Nat => om o2 (okX1_beginWork_L3  f2 f3 okK n9 (v4 + 1) F G) (fun k4 : Nat => (okX1_beginWork_L3  f2 f3 okK n9 (v4 + 1) F G))))))
def gX1_beginWork_L3s (k9 : Nat) (f2 : Int32) (f3 : Int32) (K : Int32 → jF → jG → (Int32 × jS)) : Nat → Int32 → jF → jG → (Int32 × jS)
  | 0, _, F, G => (0, (F, G))
  | n9 + 1, v4, F, G => (if 6 ≤ v4 then (K v4 F G) else bv (opi (F 65 (Int32.toNatClampNeg v4))) (fun o9 : Option Nat => om o9 (bv (u2 F 65 (Int32.toNatClampNeg v4) (nI k9)) (fun F14 : jF => bv (u2 F14 66 (Int32.toNatClampNeg v4) f2) (fun F17 : jF => bv (u2 F17 67 (Int32.toNatClampNeg v4) f3) (fun F20 : jF => bv (u2 F20 62 0 ((F20 62 0) - (f2 * 10))) (fun F22 : jF => ((F22 62 0), (F22, G))))))) (fun k11 : Nat => (gX1_beginWork_L3s k9 f2 f3 K n9 (v4 + 1) F G))))
def okX1_beginWork_L3s (k9 : Nat) (f2 : Int32) (f3 : Int32) (okK : Int32 → jF → jG → Prop) : Nat → Int32 → jF → jG → Prop
  | 0, _, _, _ => False
  | n9 + 1, v4, F, G => ((6 ≤ v4 → (okK v4 F G)) ∧ (¬ 6 ≤ v4 → (vp_in v4 6 ∧ bv (opi (F 65 (Int32.toNatClampNeg v4))) (fun o9 : Option Nat => om o9 (vp_in v4 6 ∧ (k9 < cn F 32 ∧ bv (u2 F 65 (Int32.toNatClampNeg v4) (nI k9)) (fun F14 : jF => (vp_in v4 6 ∧ bv (u2 F14 66 (Int32.toNatClampNeg v4) f2) (fun F17 : jF => (vp_in v4 6)))))) (fun k11 : Nat => (okX1_beginWork_L3s k9 f2 f3 okK n9 (v4 + 1) F G))))))
def gX1_beginWork (F : jF) (G : jG) (p1 : Option Nat) (p2 : Int32) (p3 : Int32) : (Int32 × jS) := om p1 (gX1_beginWork_L3  p2 p3 (fun (y5 : Int32) (F6 : jF) (G7 : jG) => ((F6 62 0), (F6, G7))) 80 0 F G) (fun k9 : Nat => (gX1_beginWork_L3s k9 p2 p3 (fun (y24 : Int32) (F25 : jF) (G26 : jG) => ((F25 62 0), (F25, G26))) 80 0 F G))
def okX1_beginWork (F : jF) (G : jG) (p1 : Option Nat) (p2 : Int32) (p3 : Int32) : Prop := om p1 (okX1_beginWork_L3  p2 p3 (fun (y5 : Int32) (F6 : jF) (G7 : jG) => True) 80 0 F G) (fun k9 : Nat => (okX1_beginWork_L3s k9 p2 p3 (fun (y24 : Int32) (F25 : jF) (G26 : jG) => True) 80 0 F G))
abbrev rmX1_beginWork : Room := { frames := 0, cells := 0, slots := 0, locals := 0 }
def gX1_goOnWithWorks_L2  (K : Int32 → jF → jG → jS) : Nat → Int32 → jF → jG → jS
  | 0, _, F, G => (F, G)
  | n9 + 1, v1, F, G => (if 6 ≤ v1 then (K v1 F G) else bv (opi (F 65 (Int32.toNatClampNeg v1))) (fun o2 : Option Nat => om o2 (gX1_goOnWithWorks_L2   K n9 (v1 + 1) F G) (fun k4 : Nat => bv (u2 F 67 (Int32.toNatClampNeg v1) ((F 67 (Int32.toNatClampNeg v1)) - 1)) (fun F7 : jF => (if 0 < (F7 67 (Int32.toNatClampNeg v1)) then (gX1_goOnWithWorks_L2   K n9 (v1 + 1) F7 G) else bv (opi (F7 65 (Int32.toNatClampNeg v1))) (fun o11 : Option Nat => om o11 (F, G) (fun k13 : Nat => bv (u2 F7 35 k13 ((F7 35 k13) + (F7 66 (Int32.toNatClampNeg v1)))) (fun F17 : jF => bv (u2 F17 65 (Int32.toNatClampNeg v1) (-1)) (fun F20 : jF => (gX1_goOnWithWorks_L2   K n9 (v1 + 1) F20 G))))))))))
def okX1_goOnWithWorks_L2  (okK : Int32 → jF → jG → Prop) : Nat → Int32 → jF → jG → Prop
  | 0, _, _, _ => False
  | n9 + 1, v1, F, G => ((6 ≤ v1 → (okK v1 F G)) ∧ (¬ 6 ≤ v1 → (vp_in v1 6 ∧ bv (opi (F 65 (Int32.toNatClampNeg v1))) (fun o2 : Option Nat => om o2 (okX1_goOnWithWorks_L2   okK n9 (v1 + 1) F G) (fun k4 : Nat => (vp_in v1 6 ∧ (vp_in v1 6 ∧ bv (u2 F 67 (Int32.toNatClampNeg v1) ((F 67 (Int32.toNatClampNeg v1)) - 1)) (fun F7 : jF => (vp_in v1 6 ∧ ((0 < (F7 67 (Int32.toNatClampNeg v1)) → (okX1_goOnWithWorks_L2   okK n9 (v1 + 1) F7 G)) ∧ (¬ 0 < (F7 67 (Int32.toNatClampNeg v1)) → (vp_in v1 6 ∧ bv (opi (F7 65 (Int32.toNatClampNeg v1))) (fun o11 : Option Nat => om o11 False (fun k13 : Nat => (k13 < cn F7 32 ∧ (vp_in v1 6 ∧ (k13 < cn F7 32 ∧ bv (u2 F7 35 k13 ((F7 35 k13) + (F7 66 (Int32.toNatClampNeg v1)))) (fun F17 : jF => (vp_in v1 6 ∧ bv (u2 F17 65 (Int32.toNatClampNeg v1) (-1)) (fun F20 : jF => (okX1_goOnWithWorks_L2   okK n9 (v1 + 1) F20 G)))))))))))))))))))))
def gX1_goOnWithWorks (F : jF) (G : jG)  : jS := (gX1_goOnWithWorks_L2   (fun (y22 : Int32) (F23 : jF) (G24 : jG) => (F23, G24)) 80 0 F G)
def okX1_goOnWithWorks (F : jF) (G : jG)  : Prop := (okX1_goOnWithWorks_L2   (fun (y22 : Int32) (F23 : jF) (G24 : jG) => True) 80 0 F G)
abbrev rmX1_goOnWithWorks : Room := { frames := 0, cells := 0, slots := 0, locals := 0 }
def gX1_noteSea (F : jF) (G : jG) (p1 : Int64) : jS := bv (if p1 < (G 58 0) then (G 58 0) else p1) (fun x1 : Int64 => bv (u2 G 58 0 x1) (fun G2 : jG => (F, G2)))
abbrev rmX1_noteSea : Room := { frames := 1, cells := 0, slots := 0, locals := 23 }
def gX1_close (F : jF) (G : jG)  : jS := (if (F 1 0) < 0 then (F, G) else (if (F 1 0) < 20 then bv (u2 F 62 0 ((F 62 0) + (F 3 0))) (fun F3 : jF => bs (gX1_goOnWithWorks F3 G  ) (fun (F6 : jF) (G7 : jG) => bv (u2 G7 57 (Int32.toNatClampNeg (F6 1 0)) (G7 58 0)) (fun G10 : jG => bv (u2 G10 58 0 (-9223372036854775808)) (fun G12 : jG => bv (u2 F6 1 0 ((F6 1 0) + 1)) (fun F14 : jF => (F14, G12)))))) else (F, G)))
def okX1_close (F : jF) (G : jG)  : Prop := (((F 1 0) < 0 → True) ∧ (¬ (F 1 0) < 0 → (((F 1 0) < 20 → bv (u2 F 62 0 ((F 62 0) + (F 3 0))) (fun F3 : jF => ((okX1_goOnWithWorks F3 G  ) ∧ bs (gX1_goOnWithWorks F3 G  ) (fun (F6 : jF) (G7 : jG) => (vp_in (F6 1 0) 20))))) ∧ (¬ (F 1 0) < 20 → True))))
abbrev rmX1_close : Room := { frames := 1, cells := 0, slots := 0, locals := 21 }
def gX1_greatestIn (F : jF) (G : jG) (p1 : Int32) : Int64 := bv ((if p1 < 0 then (-9223372036854775808) else (if p1 < 20 then (G 57 (Int32.toNatClampNeg p1)) else (-9223372036854775808))) : Int64) (fun v4 : Int64 => v4)
def okX1_greatestIn (F : jF) (G : jG) (p1 : Int32) : Prop := ((p1 < 0 → True) ∧ (¬ p1 < 0 → ((p1 < 20 → (vp_in p1 20)) ∧ (¬ p1 < 20 → True))))
abbrev rmX1_greatestIn : Room := { frames := 0, cells := 0, slots := 0, locals := 0 }
set_option maxHeartbeats 4000000 in
set_option maxRecDepth 100000 in
theorem qX10_countHarms (l : Launch) (D : va_G) (yy : Nat → ClassId) (B : Nat → Nat) (F : jF) (G : jG) (sz : Nat)  (hok : okX10_countHarms F G ) : Met l yX10_countHarms (Cond.code yX10_countHarms cX10_countHarms 2 none :: wsL_law) rmX10_countHarms (va_Pc [.ref (B 1)] (jP D yy (lW yy B F G) sz)) (va_Qv (fun u : jS => u = gX10_countHarms F G ) (fun (u : jS) t => jB D yy (va_A (lW yy B F G) sz) (lW yy B u.1 u.2) t) (va_A (lW yy B F G) sz)) 0 0 (va_A (lW yy B F G) sz) := by
  generalize hres : gX10_countHarms F G  = RES
  refine jM (vs := [.ref (B 1)]) (own := RX10) (by decide +kernel) rfl (Nat.le_of_ble_eq_true rfl) ?_
  intro p e s m args below meth c ls Q hQ hargs S hr hlk hinit hB hl
  obtain ⟨hx, hb, hml, hown, hts⟩ := S
  have hl : lv_has ls 2 [(0, .ref (B 1))] := hl
  obtain ⟨hsz, hP, hK, hD0⟩ := hB
  subst hsz
  have hD := hD0.self (sz := s.heap.size)
  generalize hZ : va_A (lW yy B F G) s.heap.size = Z at hD hQ
  have hA : ∀ q : Nat, s.heap.size ≤ q → Z q := fun q h => by rw [← hZ]; exact Or.inr h
  obtain ⟨H, hH⟩ : ∃ z, z = s.heap := ⟨_, rfl⟩
  obtain ⟨locs, hlocs⟩ : ∃ z : List Loc, z = [] := ⟨_, rfl⟩
  have hS : va_S Z s.heap H locs := by rw [hH, hlocs]; exact va_S.rf
  rw [← hH] at hP
  suffices hgo : W p l e rmX10_countHarms s m args below meth c H locs 0 0 Q (F0 m 0 ls []) by rw [hH, hlocs] at hgo; exact hgo
  unfold gX10_countHarms at hres
  unfold okX10_countHarms at hok
  refine lv_iconst (v := 0) hx hb (dd_of dX10_countHarms_0 0 rfl) (by decide) ?_
  refine lv_istore_n (lv' := [(1, .int 0), (0, .ref (B 1))]) hx hb (dd_of dX10_countHarms_0 1 rfl) rfl hl (by decide) rfl (fun ls hl => ?_)
  have LP2 : ∀ (K : Int32 → jF → jG → jS) (okK : Int32 → jF → jG → Prop) (n : Nat), ∀ (v1 : Int32) (F : jF) (G : jG), ∀ (H : Heap) (locs : List Loc) (ls : Array Slot), va_P D vwCl (lW yy B F G) H → va_D Z (lW yy B F G) → va_S Z s.heap H locs → lv_has ls 2 [(1, .int v1), (0, .ref (B 1))] → okX10_countHarms_L2  okK n v1 F G → gX10_countHarms_L2  K n v1 F G = RES → (∀ (v1 : Int32) (F : jF) (G : jG), ∀ (H : Heap) (locs : List Loc) (ls : Array Slot), va_P D vwCl (lW yy B F G) H → va_D Z (lW yy B F G) → va_S Z s.heap H locs → lv_has ls 2 [(1, .int v1), (0, .ref (B 1))] → okK v1 F G → K v1 F G = RES → W p l e rmX10_countHarms s m args below meth c H locs 0 0 Q (F0 m 35 ls [])) → W p l e rmX10_countHarms s m args below meth c H locs 0 0 Q (F0 m 2 ls []) := by
    intro  K okK n
    induction n with
    | zero =>
      intro v1 F G H locs ls hP hD hS hl hok _ _
      exact absurd hok (by unfold okX10_countHarms_L2; exact id)
    | succ n9 ih =>
      intro v1 F G H locs ls hP hD hS hl hok hres hexit
      unfold gX10_countHarms_L2 at hres
      unfold okX10_countHarms_L2 at hok
      refine lv_iload_n hx hb (dd_of dX10_countHarms_0 2 rfl) rfl (lv_at hl 0 rfl) ?_
      refine lv_aload_n hx hb (dd_of dX10_countHarms_0 3 rfl) rfl (lv_at hl 1 rfl) ?_
      refine va_get (D := D) (cl := vwCl) (tys := jT yy) (ci := 10) (v := .ref (B 8)) (C := RX10) (T := TX10) (N := 8) hx hb hts (fun w h => List.mem_cons_of_mem _ (inlX10 w h)) hown hK hP 1 rfl rfl 0 (by decide) (jw hts gw50) (fun _ h9 => h9) rfl (dd_of dX10_countHarms_0 4 rfl) ?_
      refine va_alen (v := 8) hx hb hK hP 9 3 rfl rfl rfl (dd_of dX10_countHarms_0 5 rfl) ?_
      refine lv_icmp_ge (tgt := 35) hx hb (dd_of dX10_countHarms_0 6 rfl) (by decide) (fun c1 => ?_) (fun c1 => ?_)
      · replace hres := ifE c1 hres
        replace hok := hok.1 c1
        exact hexit v1 F G H locs ls hP hD hS (lv_sub hl [0, 1] rfl) hok hres
      · replace hres := ifN c1 hres
        replace hok := hok.2 c1
        refine lv_aload_n hx hb (dd_of dX10_countHarms_0 7 rfl) rfl (lv_at hl 1 rfl) ?_
        refine va_get (D := D) (cl := vwCl) (tys := jT yy) (ci := 10) (v := .ref (B 8)) (C := RX10) (T := TX10) (N := 8) hx hb hts (fun w h => List.mem_cons_of_mem _ (inlX10 w h)) hown hK hP 1 rfl rfl 0 (by decide) (jw hts gw50) (fun _ h9 => h9) rfl (dd_of dX10_countHarms_0 8 rfl) ?_
        refine lv_iload_n hx hb (dd_of dX10_countHarms_0 9 rfl) rfl (lv_at hl 0 rfl) ?_
        have h3 := hok.1
        replace hok := hok.2
        refine va_aldq hx hb hK hP 9 3 rfl rfl h3 (dd_of dX10_countHarms_0 10 rfl) ?_
        refine jo_nm (B := B) (off := 100) (e0 := (op (cn F 8) (Int32.toNatClampNeg v1))) (fun o2 eo2 => ?_)
        replace hres := bvE eo2 hres
        replace hok := bvO eo2 hok
        rcases o2 with _ | k4
        · replace hres := omN hres
          replace hok := opN hok
          refine lv_ifnullN (tgt := 29) hx hb (dd_of dX10_countHarms_0 11 rfl) (by decide) ?_
          refine lv_iinc (v := (v1 + 1)) (lv' := [(1, .int (v1 + 1)), (0, .ref (B 1))]) hx hb (dd_of dX10_countHarms_0 17 rfl) hl (k := 0) rfl rfl (by decide) rfl (fun ls hl => ?_)
          refine lv_goto (tgt := 2) hx hb (dd_of dX10_countHarms_0 18 rfl) (by decide) ?_
          exact ih (v1 + 1) F G H locs ls hP hD hS (lv_sub hl [0, 1] rfl) hok hres hexit
        · replace hres := omS hres
          replace hok := opS hok
          refine lv_ifnull hx hb (dd_of dX10_countHarms_0 11 rfl) ?_
          refine lv_aload_n hx hb (dd_of dX10_countHarms_0 12 rfl) rfl (lv_at hl 1 rfl) ?_
          refine va_get (D := D) (cl := vwCl) (tys := jT yy) (ci := 10) (v := .ref (B 8)) (C := RX10) (T := TX10) (N := 8) hx hb hts (fun w h => List.mem_cons_of_mem _ (inlX10 w h)) hown hK hP 1 rfl rfl 0 (by decide) (jw hts gw50) (fun _ h9 => h9) rfl (dd_of dX10_countHarms_0 13 rfl) ?_
          refine lv_iload_n hx hb (dd_of dX10_countHarms_0 14 rfl) rfl (lv_at hl 0 rfl) ?_
          have h6 := hok.1
          replace hok := hok.2
          refine va_aldq hx hb hK hP 9 3 rfl rfl h6 (dd_of dX10_countHarms_0 15 rfl) ?_
          refine jo_nm (B := B) (off := 100) (e0 := (op (cn F 8) (Int32.toNatClampNeg v1))) (fun o5 eo5 => ?_)
          replace hres := bvE eo5 hres
          replace hok := bvO eo5 hok
          rcases o5 with _ | k7
          · replace hres := omN hres
            replace hok := opN hok
            exact False.elim hok
          · replace hres := omS hres
            replace hok := opS hok
            have h8 := hok.1
            replace hok := hok.2
            have h9 := hok.1
            replace hok := hok.2
            obtain ⟨q9, hq9⟩ := lWg_basin (yy := yy) (B := B) (F := F) (G := G) h8
            refine jm_v (As := []) (rest := []) (w := (lW yy B F G)) (w1 := fun u : jS => (lW yy B u.1 u.2)) (D := D) (yy := yy) ⟨hx, hb, hml, hown, hts⟩ (qX0_countHarm l D yy B F G H.size k7  h9) (cwV 0 hts (jgV gw501 gw502 gw503 gw215 gw504) rfl rfl rfl (by decide +kernel) ⟨Nat.le_of_ble_eq_true rfl, Nat.le_of_ble_eq_true rfl⟩) hP hK hD hS hA (va_recv hK hP (ci := 0) (q0 := q9) rfl hq9) rfl hl.1 rfl (Nat.le_of_ble_eq_true rfl) (dd_of dX10_countHarms_0 16 rfl) ⟨Nat.zero_le _, Nat.zero_le _⟩ (fun u9 H locs w12 hP hD hS => ?_)
            obtain ⟨F10, G11⟩ := u9
            have hP : va_P D vwCl (lW yy B F10 G11) H := hP
            have hD : va_D Z (lW yy B F10 G11) := hD
            replace hres := bsE w12 hres
            replace hok := bsO w12 hok
            refine lv_iinc (v := (v1 + 1)) (lv' := [(1, .int (v1 + 1)), (0, .ref (B 1))]) hx hb (dd_of dX10_countHarms_0 17 rfl) hl (k := 0) rfl rfl (by decide) rfl (fun ls hl => ?_)
            refine lv_goto (tgt := 2) hx hb (dd_of dX10_countHarms_0 18 rfl) (by decide) ?_
            exact ih (v1 + 1) F10 G11 H locs ls hP hD hS (lv_sub hl [0, 1] rfl) hok hres hexit
  refine LP2  _ _ 80 0 F G H locs ls hP hD hS (lv_sub hl [0, 1] rfl) hok hres (fun y13 F14 G15 H locs ls hP hD hS hl hok hres => ?_)
  subst hQ
  exact W.vret hx hb hr (fun t ht hW => ⟨⟨(F14, G15), rfl, hres, by rw [ht]; exact hP, va_K.moved hW.alike hK, hD⟩, hS.F ht⟩) hS.2.2 (dd_of dX10_countHarms_0 19 rfl) hlk
set_option maxHeartbeats 4000000 in
set_option maxRecDepth 100000 in
theorem qX10_sinkAll (l : Launch) (D : va_G) (yy : Nat → ClassId) (B : Nat → Nat) (F : jF) (G : jG) (sz : Nat)  (hok : okX10_sinkAll F G ) : Met l yX10_sinkAll (Cond.code yX10_sinkAll cX10_sinkAll 2 none :: wsL_law) rmX10_sinkAll (va_Pc [.ref (B 1)] (jP D yy (lW yy B F G) sz)) (va_Qv (fun u : jS => u = gX10_sinkAll F G ) (fun (u : jS) t => jB D yy (va_A (lW yy B F G) sz) (lW yy B u.1 u.2) t) (va_A (lW yy B F G) sz)) 0 0 (va_A (lW yy B F G) sz) := by
  generalize hres : gX10_sinkAll F G  = RES
  refine jM (vs := [.ref (B 1)]) (own := RX10) (by decide +kernel) rfl (Nat.le_of_ble_eq_true rfl) ?_
  intro p e s m args below meth c ls Q hQ hargs S hr hlk hinit hB hl
  obtain ⟨hx, hb, hml, hown, hts⟩ := S
  have hl : lv_has ls 2 [(0, .ref (B 1))] := hl
  obtain ⟨hsz, hP, hK, hD0⟩ := hB
  subst hsz
  have hD := hD0.self (sz := s.heap.size)
  generalize hZ : va_A (lW yy B F G) s.heap.size = Z at hD hQ
  have hA : ∀ q : Nat, s.heap.size ≤ q → Z q := fun q h => by rw [← hZ]; exact Or.inr h
  obtain ⟨H, hH⟩ : ∃ z, z = s.heap := ⟨_, rfl⟩
  obtain ⟨locs, hlocs⟩ : ∃ z : List Loc, z = [] := ⟨_, rfl⟩
  have hS : va_S Z s.heap H locs := by rw [hH, hlocs]; exact va_S.rf
  rw [← hH] at hP
  suffices hgo : W p l e rmX10_sinkAll s m args below meth c H locs 0 0 Q (F0 m 0 ls []) by rw [hH, hlocs] at hgo; exact hgo
  unfold gX10_sinkAll at hres
  unfold okX10_sinkAll at hok
  refine lv_iconst (v := 0) hx hb (dd_of dX10_sinkAll_0 0 rfl) (by decide) ?_
  refine lv_istore_n (lv' := [(1, .int 0), (0, .ref (B 1))]) hx hb (dd_of dX10_sinkAll_0 1 rfl) rfl hl (by decide) rfl (fun ls hl => ?_)
  have LP2 : ∀ (K : Int32 → jF → jG → jS) (okK : Int32 → jF → jG → Prop) (n : Nat), ∀ (v1 : Int32) (F : jF) (G : jG), ∀ (H : Heap) (locs : List Loc) (ls : Array Slot), va_P D vwCl (lW yy B F G) H → va_D Z (lW yy B F G) → va_S Z s.heap H locs → lv_has ls 2 [(1, .int v1), (0, .ref (B 1))] → okX10_sinkAll_L2  okK n v1 F G → gX10_sinkAll_L2  K n v1 F G = RES → (∀ (v1 : Int32) (F : jF) (G : jG), ∀ (H : Heap) (locs : List Loc) (ls : Array Slot), va_P D vwCl (lW yy B F G) H → va_D Z (lW yy B F G) → va_S Z s.heap H locs → lv_has ls 2 [(1, .int v1), (0, .ref (B 1))] → okK v1 F G → K v1 F G = RES → W p l e rmX10_sinkAll s m args below meth c H locs 0 0 Q (F0 m 49 ls [])) → W p l e rmX10_sinkAll s m args below meth c H locs 0 0 Q (F0 m 2 ls []) := by
    intro  K okK n
    induction n with
    | zero =>
      intro v1 F G H locs ls hP hD hS hl hok _ _
      exact absurd hok (by unfold okX10_sinkAll_L2; exact id)
    | succ n9 ih =>
      intro v1 F G H locs ls hP hD hS hl hok hres hexit
      unfold gX10_sinkAll_L2 at hres
      unfold okX10_sinkAll_L2 at hok
      refine lv_iload_n hx hb (dd_of dX10_sinkAll_0 2 rfl) rfl (lv_at hl 0 rfl) ?_
      refine lv_aload_n hx hb (dd_of dX10_sinkAll_0 3 rfl) rfl (lv_at hl 1 rfl) ?_
      refine va_get (D := D) (cl := vwCl) (tys := jT yy) (ci := 10) (v := .ref (B 8)) (C := RX10) (T := TX10) (N := 8) hx hb hts (fun w h => List.mem_cons_of_mem _ (inlX10 w h)) hown hK hP 1 rfl rfl 0 (by decide) (jw hts gw50) (fun _ h9 => h9) rfl (dd_of dX10_sinkAll_0 4 rfl) ?_
      refine va_alen (v := 8) hx hb hK hP 9 3 rfl rfl rfl (dd_of dX10_sinkAll_0 5 rfl) ?_
      refine lv_icmp_ge (tgt := 49) hx hb (dd_of dX10_sinkAll_0 6 rfl) (by decide) (fun c1 => ?_) (fun c1 => ?_)
      · replace hres := ifE c1 hres
        replace hok := hok.1 c1
        exact hexit v1 F G H locs ls hP hD hS (lv_sub hl [0, 1] rfl) hok hres
      · replace hres := ifN c1 hres
        replace hok := hok.2 c1
        refine lv_aload_n hx hb (dd_of dX10_sinkAll_0 7 rfl) rfl (lv_at hl 1 rfl) ?_
        refine va_get (D := D) (cl := vwCl) (tys := jT yy) (ci := 10) (v := .ref (B 8)) (C := RX10) (T := TX10) (N := 8) hx hb hts (fun w h => List.mem_cons_of_mem _ (inlX10 w h)) hown hK hP 1 rfl rfl 0 (by decide) (jw hts gw50) (fun _ h9 => h9) rfl (dd_of dX10_sinkAll_0 8 rfl) ?_
        refine lv_iload_n hx hb (dd_of dX10_sinkAll_0 9 rfl) rfl (lv_at hl 0 rfl) ?_
        have h3 := hok.1
        replace hok := hok.2
        refine va_aldq hx hb hK hP 9 3 rfl rfl h3 (dd_of dX10_sinkAll_0 10 rfl) ?_
        refine jo_nm (B := B) (off := 100) (e0 := (op (cn F 8) (Int32.toNatClampNeg v1))) (fun o2 eo2 => ?_)
        replace hres := bvE eo2 hres
        replace hok := bvO eo2 hok
        rcases o2 with _ | k4
        · replace hres := omN hres
          replace hok := opN hok
          refine lv_ifnullN (tgt := 43) hx hb (dd_of dX10_sinkAll_0 11 rfl) (by decide) ?_
          refine lv_iinc (v := (v1 + 1)) (lv' := [(1, .int (v1 + 1)), (0, .ref (B 1))]) hx hb (dd_of dX10_sinkAll_0 25 rfl) hl (k := 0) rfl rfl (by decide) rfl (fun ls hl => ?_)
          refine lv_goto (tgt := 2) hx hb (dd_of dX10_sinkAll_0 26 rfl) (by decide) ?_
          exact ih (v1 + 1) F G H locs ls hP hD hS (lv_sub hl [0, 1] rfl) hok hres hexit
        · replace hres := omS hres
          replace hok := opS hok
          refine lv_ifnull hx hb (dd_of dX10_sinkAll_0 11 rfl) ?_
          refine lv_aload_n hx hb (dd_of dX10_sinkAll_0 12 rfl) rfl (lv_at hl 1 rfl) ?_
          refine va_get (D := D) (cl := vwCl) (tys := jT yy) (ci := 10) (v := .ref (B 8)) (C := RX10) (T := TX10) (N := 8) hx hb hts (fun w h => List.mem_cons_of_mem _ (inlX10 w h)) hown hK hP 1 rfl rfl 0 (by decide) (jw hts gw50) (fun _ h9 => h9) rfl (dd_of dX10_sinkAll_0 13 rfl) ?_
          refine lv_iload_n hx hb (dd_of dX10_sinkAll_0 14 rfl) rfl (lv_at hl 0 rfl) ?_
          have h6 := hok.1
          replace hok := hok.2
          refine va_aldq hx hb hK hP 9 3 rfl rfl h6 (dd_of dX10_sinkAll_0 15 rfl) ?_
          refine jo_nm (B := B) (off := 100) (e0 := (op (cn F 8) (Int32.toNatClampNeg v1))) (fun o5 eo5 => ?_)
          replace hres := bvE eo5 hres
          replace hok := bvO eo5 hok
          refine lv_dup hx hb (dd_of dX10_sinkAll_0 16 rfl) (cat_o _) ?_
          rcases o5 with _ | k7
          · replace hres := omN hres
            replace hok := opN hok
            exact False.elim hok
          · replace hres := omS hres
            replace hok := opS hok
            have h8 := hok.1
            replace hok := hok.2
            obtain ⟨q9, hq9⟩ := lWg_basin (yy := yy) (B := B) (F := F) (G := G) h8
            refine va_get (D := D) (cl := vwCl) (tys := jT yy) (ci := 0) (v := .int (F 10 k7)) (C := RX0) (T := TX0) (N := 7) hx hb hts (fun w h => List.mem_cons_of_mem _ (inlX0 w h)) hown hK hP q9 hq9 rfl 1 (by decide) (jw hts gw574) (fun _ h9 => h9) rfl (dd_of dX10_sinkAll_0 17 rfl) ?_
            refine lv_aload_n hx hb (dd_of dX10_sinkAll_0 18 rfl) rfl (lv_at hl 1 rfl) ?_
            refine va_get (D := D) (cl := vwCl) (tys := jT yy) (ci := 10) (v := .ref (B 8)) (C := RX10) (T := TX10) (N := 8) hx hb hts (fun w h => List.mem_cons_of_mem _ (inlX10 w h)) hown hK hP 1 rfl rfl 0 (by decide) (jw hts gw50) (fun _ h9 => h9) rfl (dd_of dX10_sinkAll_0 19 rfl) ?_
            refine lv_iload_n hx hb (dd_of dX10_sinkAll_0 20 rfl) rfl (lv_at hl 0 rfl) ?_
            have h10 := hok.1
            replace hok := hok.2
            refine va_aldq hx hb hK hP 9 3 rfl rfl h10 (dd_of dX10_sinkAll_0 21 rfl) ?_
            refine jo_nm (B := B) (off := 100) (e0 := (op (cn F 8) (Int32.toNatClampNeg v1))) (fun o9 eo9 => ?_)
            replace hres := bvE eo9 hres
            replace hok := bvO eo9 hok
            rcases o9 with _ | k11
            · replace hres := omN hres
              replace hok := opN hok
              exact False.elim hok
            · replace hres := omS hres
              replace hok := opS hok
              have h12 := hok.1
              replace hok := hok.2
              obtain ⟨q9, hq9⟩ := lWg_basin (yy := yy) (B := B) (F := F) (G := G) h12
              refine va_get (D := D) (cl := vwCl) (tys := jT yy) (ci := 0) (v := .int (F 11 k11)) (C := RX0) (T := TX0) (N := 7) hx hb hts (fun w h => List.mem_cons_of_mem _ (inlX0 w h)) hown hK hP q9 hq9 rfl 3 (by decide) (jw hts gw227) (fun _ h9 => h9) rfl (dd_of dX10_sinkAll_0 22 rfl) ?_
              refine lv_isub hx hb (dd_of dX10_sinkAll_0 23 rfl) ?_
              have h13 := hok.1
              replace hok := hok.2
              obtain ⟨q9, hq9, hs9⟩ := lWs_basin_ground (yy := yy) (B := B) (F := F) (G := G) (v := ((F 10 k7) - (F 11 k11))) h13
              refine va_put (D := D) (cl := vwCl) (tys := jT yy) (ci := 0) (v := .int ((F 10 k7) - (F 11 k11))) (ty := .int) (C := RX0) (T := TX0) (N := 7) hx hb hts (fun w h => List.mem_cons_of_mem _ (inlX0 w h)) tyX0 tyX0_ok nmX0 hown hK hP hD hS q9 hq9 rfl 1 (by decide) (jw hts gw574) (fun _ h9 => h9) rfl (by decide +kernel) rfl rfl (Nat.le_of_ble_eq_true rfl) (dd_of dX10_sinkAll_0 24 rfl) (fun H locs hP hD hS => ?_)
              obtain ⟨F14, e15⟩ : ∃ z : jF, z = u2 F 10 k7 ((F 10 k7) - (F 11 k11)) := ⟨_, rfl⟩
              have hP : va_P D vwCl (lW yy B F14 G) H := by rw [e15, ← hs9]; exact hP
              have hD : va_D Z (lW yy B F14 G) := by rw [e15, ← hs9]; exact hD
              replace hres := bvE e15 hres
              replace hok := bvO e15 hok
              refine lv_iinc (v := (v1 + 1)) (lv' := [(1, .int (v1 + 1)), (0, .ref (B 1))]) hx hb (dd_of dX10_sinkAll_0 25 rfl) hl (k := 0) rfl rfl (by decide) rfl (fun ls hl => ?_)
              refine lv_goto (tgt := 2) hx hb (dd_of dX10_sinkAll_0 26 rfl) (by decide) ?_
              exact ih (v1 + 1) F14 G H locs ls hP hD hS (lv_sub hl [0, 1] rfl) hok hres hexit
  refine LP2  _ _ 80 0 F G H locs ls hP hD hS (lv_sub hl [0, 1] rfl) hok hres (fun y16 F17 G18 H locs ls hP hD hS hl hok hres => ?_)
  subst hQ
  exact W.vret hx hb hr (fun t ht hW => ⟨⟨(F17, G18), rfl, hres, by rw [ht]; exact hP, va_K.moved hW.alike hK, hD⟩, hS.F ht⟩) hS.2.2 (dd_of dX10_sinkAll_0 27 rfl) hlk
set_option maxHeartbeats 4000000 in
set_option maxRecDepth 100000 in
theorem qX10_sumBasins (l : Launch) (D : va_G) (yy : Nat → ClassId) (B : Nat → Nat) (F : jF) (G : jG) (p1 : Int64) (hok : okX10_sumBasins F G p1) : Met l yX10_sumBasins (Cond.code yX10_sumBasins cX10_sumBasins 6 (some .long) :: wsL_law) rmX10_sumBasins (va_Pc [.ref (B 1), .long p1] (jR D yy (lW yy B F G))) (vp_Sl (fun r => r = gX10_sumBasins F G p1)) 0 0 (fun _ => False) := by
  generalize hres : gX10_sumBasins F G p1 = RES
  refine jM (vs := [.ref (B 1), .long p1]) (own := RX10) (by decide +kernel) rfl (Nat.le_of_ble_eq_true rfl) ?_
  intro p e s m args below meth c ls Q hQ hargs S hr hlk hinit hB hl
  obtain ⟨hx, hb, hml, hown, hts⟩ := S
  have hl : lv_has ls 6 [(0, .ref (B 1)), (1, .long p1)] := hl
  obtain ⟨hP, hK⟩ := hB
  unfold gX10_sumBasins at hres
  unfold okX10_sumBasins at hok
  refine lv_lload_n hx hb (dd_of dX10_sumBasins_0 0 rfl) rfl (lv_at hl 1 rfl) ?_
  refine lv_lstore_n (lv' := [(3, .long p1), (0, .ref (B 1)), (1, .long p1)]) hx hb (dd_of dX10_sumBasins_0 1 rfl) rfl hl (by decide) rfl (fun ls hl => ?_)
  refine lv_iconst (v := 0) hx hb (dd_of dX10_sumBasins_0 2 rfl) (by decide) ?_
  refine lv_istore (lv' := [(5, .int 0), (3, .long p1), (0, .ref (B 1)), (1, .long p1)]) hx hb (dd_of dX10_sumBasins_0 3 rfl) hl (by decide) rfl (fun ls hl => ?_)
  have LP5 : ∀ (K : Int32 → Int64 → Int64) (okK : Int32 → Int64 → Prop) (n : Nat), ∀ (v5 : Int32) (v3 : Int64), ∀ (ls : Array Slot), lv_has ls 6 [(5, .int v5), (3, .long v3), (0, .ref (B 1))] → okX10_sumBasins_L5 F G  okK n v5 v3 → gX10_sumBasins_L5 F G  K n v5 v3 = RES → (∀ (v5 : Int32) (v3 : Int64), ∀ (ls : Array Slot), lv_has ls 6 [(5, .int v5), (3, .long v3), (0, .ref (B 1))] → okK v5 v3 → K v5 v3 = RES → W p l e rmX10_sumBasins s m args below meth c s.heap [] 0 0 Q (F0 m 82 ls [])) → W p l e rmX10_sumBasins s m args below meth c s.heap [] 0 0 Q (F0 m 5 ls []) := by
    intro  K okK n
    induction n with
    | zero =>
      intro v5 v3 ls hl hok _ _
      exact absurd hok (by unfold okX10_sumBasins_L5; exact id)
    | succ n9 ih =>
      intro v5 v3 ls hl hok hres hexit
      unfold gX10_sumBasins_L5 at hres
      unfold okX10_sumBasins_L5 at hok
      refine lv_iload hx hb (dd_of dX10_sumBasins_0 4 rfl) (lv_at hl 0 rfl) ?_
      refine lv_aload_n hx hb (dd_of dX10_sumBasins_0 5 rfl) rfl (lv_at hl 2 rfl) ?_
      refine va_get (D := D) (cl := vwCl) (tys := jT yy) (ci := 10) (v := .ref (B 8)) (C := RX10) (T := TX10) (N := 8) hx hb hts (fun w h => List.mem_cons_of_mem _ (inlX10 w h)) hown hK hP 1 rfl rfl 0 (by decide) (jw hts gw50) (fun _ h9 => h9) rfl (dd_of dX10_sumBasins_0 6 rfl) ?_
      refine va_alen (v := 8) hx hb hK hP 9 3 rfl rfl rfl (dd_of dX10_sumBasins_0 7 rfl) ?_
      refine lv_icmp_ge (tgt := 82) hx hb (dd_of dX10_sumBasins_0 8 rfl) (by decide) (fun c1 => ?_) (fun c1 => ?_)
      · replace hres := ifE c1 hres
        replace hok := hok.1 c1
        exact hexit v5 v3 ls (lv_sub hl [0, 1, 2] rfl) hok hres
      · replace hres := ifN c1 hres
        replace hok := hok.2 c1
        refine lv_aload_n hx hb (dd_of dX10_sumBasins_0 9 rfl) rfl (lv_at hl 2 rfl) ?_
        refine va_get (D := D) (cl := vwCl) (tys := jT yy) (ci := 10) (v := .ref (B 8)) (C := RX10) (T := TX10) (N := 8) hx hb hts (fun w h => List.mem_cons_of_mem _ (inlX10 w h)) hown hK hP 1 rfl rfl 0 (by decide) (jw hts gw50) (fun _ h9 => h9) rfl (dd_of dX10_sumBasins_0 10 rfl) ?_
        refine lv_iload hx hb (dd_of dX10_sumBasins_0 11 rfl) (lv_at hl 0 rfl) ?_
        have h3 := hok.1
        replace hok := hok.2
        refine va_aldq hx hb hK hP 9 3 rfl rfl h3 (dd_of dX10_sumBasins_0 12 rfl) ?_
        refine jo_nm (B := B) (off := 100) (e0 := (op (cn F 8) (Int32.toNatClampNeg v5))) (fun o2 eo2 => ?_)
        replace hres := bvE eo2 hres
        replace hok := bvO eo2 hok
        rcases o2 with _ | k4
        · replace hres := omN hres
          replace hok := opN hok
          refine lv_ifnullN (tgt := 76) hx hb (dd_of dX10_sumBasins_0 13 rfl) (by decide) ?_
          refine lv_iinc (v := (v5 + 1)) (lv' := [(5, .int (v5 + 1)), (3, .long v3), (0, .ref (B 1))]) hx hb (dd_of dX10_sumBasins_1 4 rfl) hl (k := 0) rfl rfl (by decide) rfl (fun ls hl => ?_)
          refine lv_goto (tgt := 5) hx hb (dd_of dX10_sumBasins_1 5 rfl) (by decide) ?_
          exact ih (v5 + 1) v3 ls (lv_sub hl [0, 1, 2] rfl) hok hres hexit
        · replace hres := omS hres
          replace hok := opS hok
          refine lv_ifnull hx hb (dd_of dX10_sumBasins_0 13 rfl) ?_
          refine lv_lload_n hx hb (dd_of dX10_sumBasins_0 14 rfl) rfl (lv_at hl 1 rfl) ?_
          refine lv_ldc2 (v := 31) hx hb hown (jw hts gw1235) (dd_of dX10_sumBasins_0 15 rfl) ?_
          refine lv_lmul hx hb (dd_of dX10_sumBasins_0 16 rfl) ?_
          refine lv_aload_n hx hb (dd_of dX10_sumBasins_0 17 rfl) rfl (lv_at hl 2 rfl) ?_
          refine va_get (D := D) (cl := vwCl) (tys := jT yy) (ci := 10) (v := .ref (B 8)) (C := RX10) (T := TX10) (N := 8) hx hb hts (fun w h => List.mem_cons_of_mem _ (inlX10 w h)) hown hK hP 1 rfl rfl 0 (by decide) (jw hts gw50) (fun _ h9 => h9) rfl (dd_of dX10_sumBasins_0 18 rfl) ?_
          refine lv_iload hx hb (dd_of dX10_sumBasins_0 19 rfl) (lv_at hl 0 rfl) ?_
          have h6 := hok.1
          replace hok := hok.2
          refine va_aldq hx hb hK hP 9 3 rfl rfl h6 (dd_of dX10_sumBasins_0 20 rfl) ?_
          refine jo_nm (B := B) (off := 100) (e0 := (op (cn F 8) (Int32.toNatClampNeg v5))) (fun o5 eo5 => ?_)
          replace hres := bvE eo5 hres
          replace hok := bvO eo5 hok
          rcases o5 with _ | k7
          · replace hres := omN hres
            replace hok := opN hok
            exact False.elim hok
          · replace hres := omS hres
            replace hok := opS hok
            have h8 := hok.1
            replace hok := hok.2
            obtain ⟨q9, hq9⟩ := lWg_basin (yy := yy) (B := B) (F := F) (G := G) h8
            refine va_get (D := D) (cl := vwCl) (tys := jT yy) (ci := 0) (v := .long (G 14 k7)) (C := RX0) (T := TX0) (N := 7) hx hb hts (fun w h => List.mem_cons_of_mem _ (inlX0 w h)) hown hK hP q9 hq9 rfl 2 (by decide) (jw hts gw242) (fun _ h9 => h9) rfl (dd_of dX10_sumBasins_0 21 rfl) ?_
            refine lv_ladd hx hb (dd_of dX10_sumBasins_0 22 rfl) ?_
            refine lv_topl (fun x9 ex9 => ?_)
            replace hres := bvE ex9 hres
            replace hok := bvO ex9 hok
            refine lv_lstore_n (lv' := [(3, .long x9), (5, .int v5), (0, .ref (B 1))]) hx hb (dd_of dX10_sumBasins_0 23 rfl) rfl hl (by decide) rfl (fun ls hl => ?_)
            refine lv_lload_n hx hb (dd_of dX10_sumBasins_0 24 rfl) rfl (lv_at hl 0 rfl) ?_
            refine lv_ldc2 (v := 31) hx hb hown (jw hts gw1235) (dd_of dX10_sumBasins_0 25 rfl) ?_
            refine lv_lmul hx hb (dd_of dX10_sumBasins_0 26 rfl) ?_
            refine lv_aload_n hx hb (dd_of dX10_sumBasins_0 27 rfl) rfl (lv_at hl 2 rfl) ?_
            refine va_get (D := D) (cl := vwCl) (tys := jT yy) (ci := 10) (v := .ref (B 8)) (C := RX10) (T := TX10) (N := 8) hx hb hts (fun w h => List.mem_cons_of_mem _ (inlX10 w h)) hown hK hP 1 rfl rfl 0 (by decide) (jw hts gw50) (fun _ h9 => h9) rfl (dd_of dX10_sumBasins_0 28 rfl) ?_
            refine lv_iload hx hb (dd_of dX10_sumBasins_0 29 rfl) (lv_at hl 1 rfl) ?_
            have h11 := hok.1
            replace hok := hok.2
            refine va_aldq hx hb hK hP 9 3 rfl rfl h11 (dd_of dX10_sumBasins_0 30 rfl) ?_
            refine jo_nm (B := B) (off := 100) (e0 := (op (cn F 8) (Int32.toNatClampNeg v5))) (fun o10 eo10 => ?_)
            replace hres := bvE eo10 hres
            replace hok := bvO eo10 hok
            rcases o10 with _ | k12
            · replace hres := omN hres
              replace hok := opN hok
              exact False.elim hok
            · replace hres := omS hres
              replace hok := opS hok
              have h13 := hok.1
              replace hok := hok.2
              have h14 := hok.1
              replace hok := hok.2
              obtain ⟨q9, hq9⟩ := lWg_basin (yy := yy) (B := B) (F := F) (G := G) h13
              refine jc_l (As := []) (rest := [.long (x9 * 31)]) (w := (lW yy B F G)) (D := D) (yy := yy) ⟨hx, hb, hml, hown, hts⟩ (qX0_height l D yy B F G k12  h14) (cwV 0 hts (jgV gw363 gw364 gw365 gw215 gw366) rfl rfl rfl (by decide +kernel) ⟨Nat.le_of_ble_eq_true rfl, Nat.le_of_ble_eq_true rfl⟩) hP hK (va_recv hK hP (ci := 0) (q0 := q9) rfl hq9) rfl hl.1 rfl (Nat.le_of_ble_eq_true rfl) (dd_of dX10_sumBasins_0 31 rfl) ⟨Nat.zero_le _, Nat.zero_le _⟩ (fun x15 ex15 => ?_)
              replace hres := bvE ex15 hres
              replace hok := bvO ex15 hok
              refine lv_ladd hx hb (dd_of dX10_sumBasins_0 32 rfl) ?_
              refine lv_topl (fun x16 ex16 => ?_)
              replace hres := bvE ex16 hres
              replace hok := bvO ex16 hok
              refine lv_lstore_n (lv' := [(3, .long x16), (5, .int v5), (0, .ref (B 1))]) hx hb (dd_of dX10_sumBasins_0 33 rfl) rfl hl (by decide) rfl (fun ls hl => ?_)
              refine lv_lload_n hx hb (dd_of dX10_sumBasins_0 34 rfl) rfl (lv_at hl 0 rfl) ?_
              refine lv_ldc2 (v := 31) hx hb hown (jw hts gw1235) (dd_of dX10_sumBasins_0 35 rfl) ?_
              refine lv_lmul hx hb (dd_of dX10_sumBasins_0 36 rfl) ?_
              refine lv_aload_n hx hb (dd_of dX10_sumBasins_0 37 rfl) rfl (lv_at hl 2 rfl) ?_
              refine va_get (D := D) (cl := vwCl) (tys := jT yy) (ci := 10) (v := .ref (B 8)) (C := RX10) (T := TX10) (N := 8) hx hb hts (fun w h => List.mem_cons_of_mem _ (inlX10 w h)) hown hK hP 1 rfl rfl 0 (by decide) (jw hts gw50) (fun _ h9 => h9) rfl (dd_of dX10_sumBasins_0 38 rfl) ?_
              refine lv_iload hx hb (dd_of dX10_sumBasins_0 39 rfl) (lv_at hl 1 rfl) ?_
              have h18 := hok.1
              replace hok := hok.2
              refine va_aldq hx hb hK hP 9 3 rfl rfl h18 (dd_of dX10_sumBasins_1 0 rfl) ?_
              refine jo_nm (B := B) (off := 100) (e0 := (op (cn F 8) (Int32.toNatClampNeg v5))) (fun o17 eo17 => ?_)
              replace hres := bvE eo17 hres
              replace hok := bvO eo17 hok
              rcases o17 with _ | k19
              · replace hres := omN hres
                replace hok := opN hok
                exact False.elim hok
              · replace hres := omS hres
                replace hok := opS hok
                have h20 := hok.1
                replace hok := hok.2
                obtain ⟨q9, hq9⟩ := lWg_basin (yy := yy) (B := B) (F := F) (G := G) h20
                refine va_get (D := D) (cl := vwCl) (tys := jT yy) (ci := 0) (v := .long (G 15 k19)) (C := RX0) (T := TX0) (N := 7) hx hb hts (fun w h => List.mem_cons_of_mem _ (inlX0 w h)) hown hK hP q9 hq9 rfl 6 (by decide) (jw hts gw1236) (fun _ h9 => h9) rfl (dd_of dX10_sumBasins_1 1 rfl) ?_
                refine lv_ladd hx hb (dd_of dX10_sumBasins_1 2 rfl) ?_
                refine lv_topl (fun x21 ex21 => ?_)
                replace hres := bvE ex21 hres
                replace hok := bvO ex21 hok
                refine lv_lstore_n (lv' := [(3, .long x21), (5, .int v5), (0, .ref (B 1))]) hx hb (dd_of dX10_sumBasins_1 3 rfl) rfl hl (by decide) rfl (fun ls hl => ?_)
                refine lv_iinc (v := (v5 + 1)) (lv' := [(5, .int (v5 + 1)), (3, .long x21), (0, .ref (B 1))]) hx hb (dd_of dX10_sumBasins_1 4 rfl) hl (k := 1) rfl rfl (by decide) rfl (fun ls hl => ?_)
                refine lv_goto (tgt := 5) hx hb (dd_of dX10_sumBasins_1 5 rfl) (by decide) ?_
                exact ih (v5 + 1) x21 ls (lv_sub hl [0, 1, 2] rfl) hok hres hexit
  refine LP5  _ _ 80 0 p1 ls (lv_sub hl [0, 1, 2] rfl) hok hres (fun y22 y23 ls hl hok hres => ?_)
  refine lv_lload_n hx hb (dd_of dX10_sumBasins_1 6 rfl) rfl (lv_at hl 1 rfl) ?_
  subst hQ
  exact W.lret (v := y23) hx hb hr (fun t ht _ => ⟨_, rfl, hres, ht⟩) (fun _ h => absurd h List.not_mem_nil) (dd_of dX10_sumBasins_1 7 rfl) hlk
set_option maxHeartbeats 4000000 in
set_option maxRecDepth 100000 in
theorem qX3_joins (l : Launch) (D : va_G) (yy : Nat → ClassId) (B : Nat → Nat) (F : jF) (G : jG) (k0 : Nat) (p1 : Int32) (p2 : Int32) (hok : okX3_joins F G k0 p1 p2) : Met l yX3_joins (Cond.code yX3_joins cX3_joins 3 (some .boolean) :: wsL_law) rmX3_joins (va_Pc [.ref (B (400 + k0)), .int p1, .int p2] (jR D yy (lW yy B F G))) (vp_Si (fun r => r = gX3_joins F G k0 p1 p2)) 0 0 (fun _ => False) := by
  generalize hres : gX3_joins F G k0 p1 p2 = RES
  refine jM (vs := [.ref (B (400 + k0)), .int p1, .int p2]) (own := RX3) (by decide +kernel) rfl (Nat.le_of_ble_eq_true rfl) ?_
  intro p e s m args below meth c ls Q hQ hargs S hr hlk hinit hB hl
  obtain ⟨hx, hb, hml, hown, hts⟩ := S
  have hl : lv_has ls 3 [(0, .ref (B (400 + k0))), (1, .int p1), (2, .int p2)] := hl
  obtain ⟨hP, hK⟩ := hB
  unfold gX3_joins at hres
  unfold okX3_joins at hok
  refine lv_aload_n hx hb (dd_of dX3_joins_0 0 rfl) rfl (lv_at hl 0 rfl) ?_
  have h1 := hok.1
  replace hok := hok.2
  obtain ⟨q9, hq9⟩ := lWg_dyke (yy := yy) (B := B) (F := F) (G := G) h1
  refine va_get (D := D) (cl := vwCl) (tys := jT yy) (ci := 3) (v := .int (F 33 k0)) (C := RX3) (T := TX3) (N := 7) hx hb hts (fun w h => List.mem_cons_of_mem _ (inlX3 w h)) hown hK hP q9 hq9 rfl 0 (by decide) (jw hts gw292) (fun _ h9 => h9) rfl (dd_of dX3_joins_0 1 rfl) ?_
  refine lv_iload_n hx hb (dd_of dX3_joins_0 2 rfl) rfl (lv_at hl 1 rfl) ?_
  refine lv_icmp_ne (tgt := 16) hx hb (dd_of dX3_joins_0 3 rfl) (by decide) (fun c2 => ?_) (fun c2 => ?_)
  · replace hres := ifN c2 hres
    replace hok := hok.2 c2
    refine lv_aload_n hx hb (dd_of dX3_joins_0 8 rfl) rfl (lv_at hl 0 rfl) ?_
    have h3 := hok.1
    replace hok := hok.2
    obtain ⟨q9, hq9⟩ := lWg_dyke (yy := yy) (B := B) (F := F) (G := G) h3
    refine va_get (D := D) (cl := vwCl) (tys := jT yy) (ci := 3) (v := .int (F 33 k0)) (C := RX3) (T := TX3) (N := 7) hx hb hts (fun w h => List.mem_cons_of_mem _ (inlX3 w h)) hown hK hP q9 hq9 rfl 0 (by decide) (jw hts gw292) (fun _ h9 => h9) rfl (dd_of dX3_joins_0 9 rfl) ?_
    refine lv_iload_n hx hb (dd_of dX3_joins_0 10 rfl) rfl (lv_at hl 2 rfl) ?_
    refine lv_icmp_ne (tgt := 36) hx hb (dd_of dX3_joins_0 11 rfl) (by decide) (fun c4 => ?_) (fun c4 => ?_)
    · replace hres := ifN c4 hres
      refine lv_iconst (v := 0) hx hb (dd_of dX3_joins_0 18 rfl) (by decide) ?_
      subst hQ
      exact W.zret (ty := .boolean) (v := 0) hx hb hr (jb_nz (Or.inl rfl)) (fun t ht _ => ⟨_, rfl, hres, ht⟩) (fun _ h => absurd h List.not_mem_nil) (dd_of dX3_joins_0 19 rfl) hlk
    · replace hres := ifE c4 hres
      replace hok := hok.1 c4
      refine lv_aload_n hx hb (dd_of dX3_joins_0 12 rfl) rfl (lv_at hl 0 rfl) ?_
      have h5 := hok
      obtain ⟨q9, hq9⟩ := lWg_dyke (yy := yy) (B := B) (F := F) (G := G) h5
      refine va_get (D := D) (cl := vwCl) (tys := jT yy) (ci := 3) (v := .int (F 34 k0)) (C := RX3) (T := TX3) (N := 7) hx hb hts (fun w h => List.mem_cons_of_mem _ (inlX3 w h)) hown hK hP q9 hq9 rfl 1 (by decide) (jw hts gw293) (fun _ h9 => h9) rfl (dd_of dX3_joins_0 13 rfl) ?_
      refine lv_iload_n hx hb (dd_of dX3_joins_0 14 rfl) rfl (lv_at hl 1 rfl) ?_
      refine lv_icmp_ne (tgt := 36) hx hb (dd_of dX3_joins_0 15 rfl) (by decide) (fun c6 => ?_) (fun c6 => ?_)
      · replace hres := ifN c6 hres
        refine lv_iconst (v := 0) hx hb (dd_of dX3_joins_0 18 rfl) (by decide) ?_
        subst hQ
        exact W.zret (ty := .boolean) (v := 0) hx hb hr (jb_nz (Or.inl rfl)) (fun t ht _ => ⟨_, rfl, hres, ht⟩) (fun _ h => absurd h List.not_mem_nil) (dd_of dX3_joins_0 19 rfl) hlk
      · replace hres := ifE c6 hres
        refine lv_iconst (v := 1) hx hb (dd_of dX3_joins_0 16 rfl) (by decide) ?_
        refine lv_goto (tgt := 37) hx hb (dd_of dX3_joins_0 17 rfl) (by decide) ?_
        subst hQ
        exact W.zret (ty := .boolean) (v := 1) hx hb hr (jb_nz (Or.inr rfl)) (fun t ht _ => ⟨_, rfl, hres, ht⟩) (fun _ h => absurd h List.not_mem_nil) (dd_of dX3_joins_0 19 rfl) hlk
  · replace hres := ifE c2 hres
    replace hok := hok.1 c2
    refine lv_aload_n hx hb (dd_of dX3_joins_0 4 rfl) rfl (lv_at hl 0 rfl) ?_
    have h7 := hok.1
    replace hok := hok.2
    obtain ⟨q9, hq9⟩ := lWg_dyke (yy := yy) (B := B) (F := F) (G := G) h7
    refine va_get (D := D) (cl := vwCl) (tys := jT yy) (ci := 3) (v := .int (F 34 k0)) (C := RX3) (T := TX3) (N := 7) hx hb hts (fun w h => List.mem_cons_of_mem _ (inlX3 w h)) hown hK hP q9 hq9 rfl 1 (by decide) (jw hts gw293) (fun _ h9 => h9) rfl (dd_of dX3_joins_0 5 rfl) ?_
    refine lv_iload_n hx hb (dd_of dX3_joins_0 6 rfl) rfl (lv_at hl 2 rfl) ?_
    refine lv_icmp_eq (tgt := 32) hx hb (dd_of dX3_joins_0 7 rfl) (by decide) (fun c8 => ?_) (fun c8 => ?_)
    · replace hres := ifE c8 hres
      refine lv_iconst (v := 1) hx hb (dd_of dX3_joins_0 16 rfl) (by decide) ?_
      refine lv_goto (tgt := 37) hx hb (dd_of dX3_joins_0 17 rfl) (by decide) ?_
      subst hQ
      exact W.zret (ty := .boolean) (v := 1) hx hb hr (jb_nz (Or.inr rfl)) (fun t ht _ => ⟨_, rfl, hres, ht⟩) (fun _ h => absurd h List.not_mem_nil) (dd_of dX3_joins_0 19 rfl) hlk
    · replace hres := ifN c8 hres
      replace hok := hok.2 c8
      refine lv_aload_n hx hb (dd_of dX3_joins_0 8 rfl) rfl (lv_at hl 0 rfl) ?_
      have h9 := hok.1
      replace hok := hok.2
      obtain ⟨q9, hq9⟩ := lWg_dyke (yy := yy) (B := B) (F := F) (G := G) h9
      refine va_get (D := D) (cl := vwCl) (tys := jT yy) (ci := 3) (v := .int (F 33 k0)) (C := RX3) (T := TX3) (N := 7) hx hb hts (fun w h => List.mem_cons_of_mem _ (inlX3 w h)) hown hK hP q9 hq9 rfl 0 (by decide) (jw hts gw292) (fun _ h9 => h9) rfl (dd_of dX3_joins_0 9 rfl) ?_
      refine lv_iload_n hx hb (dd_of dX3_joins_0 10 rfl) rfl (lv_at hl 2 rfl) ?_
      refine lv_icmp_ne (tgt := 36) hx hb (dd_of dX3_joins_0 11 rfl) (by decide) (fun c10 => ?_) (fun c10 => ?_)
      · replace hres := ifN c10 hres
        refine lv_iconst (v := 0) hx hb (dd_of dX3_joins_0 18 rfl) (by decide) ?_
        subst hQ
        exact W.zret (ty := .boolean) (v := 0) hx hb hr (jb_nz (Or.inl rfl)) (fun t ht _ => ⟨_, rfl, hres, ht⟩) (fun _ h => absurd h List.not_mem_nil) (dd_of dX3_joins_0 19 rfl) hlk
      · replace hres := ifE c10 hres
        replace hok := hok.1 c10
        refine lv_aload_n hx hb (dd_of dX3_joins_0 12 rfl) rfl (lv_at hl 0 rfl) ?_
        have h11 := hok
        obtain ⟨q9, hq9⟩ := lWg_dyke (yy := yy) (B := B) (F := F) (G := G) h11
        refine va_get (D := D) (cl := vwCl) (tys := jT yy) (ci := 3) (v := .int (F 34 k0)) (C := RX3) (T := TX3) (N := 7) hx hb hts (fun w h => List.mem_cons_of_mem _ (inlX3 w h)) hown hK hP q9 hq9 rfl 1 (by decide) (jw hts gw293) (fun _ h9 => h9) rfl (dd_of dX3_joins_0 13 rfl) ?_
        refine lv_iload_n hx hb (dd_of dX3_joins_0 14 rfl) rfl (lv_at hl 1 rfl) ?_
        refine lv_icmp_ne (tgt := 36) hx hb (dd_of dX3_joins_0 15 rfl) (by decide) (fun c12 => ?_) (fun c12 => ?_)
        · replace hres := ifN c12 hres
          refine lv_iconst (v := 0) hx hb (dd_of dX3_joins_0 18 rfl) (by decide) ?_
          subst hQ
          exact W.zret (ty := .boolean) (v := 0) hx hb hr (jb_nz (Or.inl rfl)) (fun t ht _ => ⟨_, rfl, hres, ht⟩) (fun _ h => absurd h List.not_mem_nil) (dd_of dX3_joins_0 19 rfl) hlk
        · replace hres := ifE c12 hres
          refine lv_iconst (v := 1) hx hb (dd_of dX3_joins_0 16 rfl) (by decide) ?_
          refine lv_goto (tgt := 37) hx hb (dd_of dX3_joins_0 17 rfl) (by decide) ?_
          subst hQ
          exact W.zret (ty := .boolean) (v := 1) hx hb hr (jb_nz (Or.inr rfl)) (fun t ht _ => ⟨_, rfl, hres, ht⟩) (fun _ h => absurd h List.not_mem_nil) (dd_of dX3_joins_0 19 rfl) hlk
set_option maxHeartbeats 4000000 in
set_option maxRecDepth 100000 in
theorem qX3_workplace (l : Launch) (D : va_G) (yy : Nat → ClassId) (B : Nat → Nat) (F : jF) (G : jG) (k0 : Nat)  (hok : okX3_workplace F G k0 ) : Met l yX3_workplace (Cond.code yX3_workplace cX3_workplace 2 (some .int) :: wsL_law) rmX3_workplace (va_Pc [.ref (B (400 + k0)), .ref (B 1)] (jR D yy (lW yy B F G))) (vp_Si (fun r => r = gX3_workplace F G k0 )) 0 0 (fun _ => False) := by
  generalize hres : gX3_workplace F G k0  = RES
  refine jM (vs := [.ref (B (400 + k0)), .ref (B 1)]) (own := RX3) (by decide +kernel) rfl (Nat.le_of_ble_eq_true rfl) ?_
  intro p e s m args below meth c ls Q hQ hargs S hr hlk hinit hB hl
  obtain ⟨hx, hb, hml, hown, hts⟩ := S
  have hl : lv_has ls 2 [(0, .ref (B (400 + k0))), (1, .ref (B 1))] := hl
  obtain ⟨hP, hK⟩ := hB
  unfold gX3_workplace at hres
  unfold okX3_workplace at hok
  refine lv_aload_n hx hb (dd_of dX3_workplace_0 0 rfl) rfl (lv_at hl 1 rfl) ?_
  refine lv_aload_n hx hb (dd_of dX3_workplace_0 1 rfl) rfl (lv_at hl 0 rfl) ?_
  have h1 := hok.1
  replace hok := hok.2
  obtain ⟨q9, hq9⟩ := lWg_dyke (yy := yy) (B := B) (F := F) (G := G) h1
  refine va_get (D := D) (cl := vwCl) (tys := jT yy) (ci := 3) (v := .int (F 33 k0)) (C := RX3) (T := TX3) (N := 7) hx hb hts (fun w h => List.mem_cons_of_mem _ (inlX3 w h)) hown hK hP q9 hq9 rfl 0 (by decide) (jw hts gw292) (fun _ h9 => h9) rfl (dd_of dX3_workplace_0 2 rfl) ?_
  have h2 := hok.1
  replace hok := hok.2
  refine jc_q (As := [.int (F 33 k0)]) (rest := []) (w := (lW yy B F G)) (D := D) (yy := yy) (B := B) (off := 100) ⟨hx, hb, hml, hown, hts⟩ (qX10_basinAt l D yy B F G  (F 33 k0) h2) (cwV 1 hts (jgV gw496 gw231 gw232 gw26 gw233) rfl rfl rfl (by decide +kernel) ⟨Nat.le_of_ble_eq_true rfl, Nat.le_of_ble_eq_true rfl⟩) hP hK (va_recv hK hP (ci := 10) (q0 := 1) rfl rfl) rfl hl.1 rfl (Nat.le_of_ble_eq_true rfl) (dd_of dX3_workplace_0 3 rfl) ⟨Nat.zero_le _, Nat.zero_le _⟩ (fun o3 eo3 => ?_)
  replace hres := bvE eo3 hres
  replace hok := bvO eo3 hok
  obtain ⟨z9, q8⟩ : ∃ z : Int32, om o3 (F 34 k0) (fun k4 : Nat => (F 33 k0)) = z := ⟨_, rfl⟩
  have o11 := hok
  refine jn_i (ls := ls) (v := z9) 22 [] (fun v7 ev7 => ?_) (fun K10 => ?_)
  · replace hres := bvE (ev7.trans q8.symm) hres
    subst hQ
    exact W.iret (v := v7) hx hb hr (fun t ht _ => ⟨_, rfl, hres, ht⟩) (fun _ h => absurd h List.not_mem_nil) (dd_of dX3_workplace_0 10 rfl) hlk
  · skip
    rcases o3 with _ | k4
    · replace q8 := omN q8
      replace o11 := opN o11
      refine lv_ifnullN (tgt := 18) hx hb (dd_of dX3_workplace_0 4 rfl) (by decide) ?_
      refine lv_aload_n hx hb (dd_of dX3_workplace_0 8 rfl) rfl (lv_at hl 0 rfl) ?_
      have h5 := o11
      obtain ⟨q9, hq9⟩ := lWg_dyke (yy := yy) (B := B) (F := F) (G := G) h5
      refine va_get (D := D) (cl := vwCl) (tys := jT yy) (ci := 3) (v := .int (F 34 k0)) (C := RX3) (T := TX3) (N := 7) hx hb hts (fun w h => List.mem_cons_of_mem _ (inlX3 w h)) hown hK hP q9 hq9 rfl 1 (by decide) (jw hts gw293) (fun _ h9 => h9) rfl (dd_of dX3_workplace_0 9 rfl) ?_
      exact K10 _ q8
    · replace q8 := omS q8
      replace o11 := opS o11
      refine lv_ifnull hx hb (dd_of dX3_workplace_0 4 rfl) ?_
      refine lv_aload_n hx hb (dd_of dX3_workplace_0 5 rfl) rfl (lv_at hl 0 rfl) ?_
      have h6 := o11
      obtain ⟨q9, hq9⟩ := lWg_dyke (yy := yy) (B := B) (F := F) (G := G) h6
      refine va_get (D := D) (cl := vwCl) (tys := jT yy) (ci := 3) (v := .int (F 33 k0)) (C := RX3) (T := TX3) (N := 7) hx hb hts (fun w h => List.mem_cons_of_mem _ (inlX3 w h)) hown hK hP q9 hq9 rfl 0 (by decide) (jw hts gw292) (fun _ h9 => h9) rfl (dd_of dX3_workplace_0 6 rfl) ?_
      refine lv_goto (tgt := 22) hx hb (dd_of dX3_workplace_0 7 rfl) (by decide) ?_
      exact K10 _ q8
set_option maxHeartbeats 4000000 in
set_option maxRecDepth 100000 in
theorem qX3_flowsOver (l : Launch) (D : va_G) (yy : Nat → ClassId) (B : Nat → Nat) (F : jF) (G : jG) (sz : Nat) (k0 : Nat)  (hok : okX3_flowsOver F G k0 ) : Met l yX3_flowsOver (Cond.code yX3_flowsOver cX3_flowsOver 8 (some .boolean) :: wsL_law) rmX3_flowsOver (va_Pc [.ref (B (400 + k0)), .ref (B 1)] (jP D yy (lW yy B F G) sz)) (va_Qi (fun r (u : jS) => (r, u) = gX3_flowsOver F G k0 ) (fun (u : jS) t => jB D yy (va_A (lW yy B F G) sz) (lW yy B u.1 u.2) t) (va_A (lW yy B F G) sz)) 0 0 (va_A (lW yy B F G) sz) := by
  generalize hres : gX3_flowsOver F G k0  = RES
  refine jM (vs := [.ref (B (400 + k0)), .ref (B 1)]) (own := RX3) (by decide +kernel) rfl (Nat.le_of_ble_eq_true rfl) ?_
  intro p e s m args below meth c ls Q hQ hargs S hr hlk hinit hB hl
  obtain ⟨hx, hb, hml, hown, hts⟩ := S
  have hl : lv_has ls 8 [(0, .ref (B (400 + k0))), (1, .ref (B 1))] := hl
  obtain ⟨hsz, hP, hK, hD0⟩ := hB
  subst hsz
  have hD := hD0.self (sz := s.heap.size)
  generalize hZ : va_A (lW yy B F G) s.heap.size = Z at hD hQ
  have hA : ∀ q : Nat, s.heap.size ≤ q → Z q := fun q h => by rw [← hZ]; exact Or.inr h
  obtain ⟨H, hH⟩ : ∃ z, z = s.heap := ⟨_, rfl⟩
  obtain ⟨locs, hlocs⟩ : ∃ z : List Loc, z = [] := ⟨_, rfl⟩
  have hS : va_S Z s.heap H locs := by rw [hH, hlocs]; exact va_S.rf
  rw [← hH] at hP
  suffices hgo : W p l e rmX3_flowsOver s m args below meth c H locs 0 0 Q (F0 m 0 ls []) by rw [hH, hlocs] at hgo; exact hgo
  unfold gX3_flowsOver at hres
  unfold okX3_flowsOver at hok
  refine lv_aload_n hx hb (dd_of dX3_flowsOver_0 0 rfl) rfl (lv_at hl 1 rfl) ?_
  refine lv_aload_n hx hb (dd_of dX3_flowsOver_0 1 rfl) rfl (lv_at hl 0 rfl) ?_
  have h1 := hok.1
  replace hok := hok.2
  obtain ⟨q9, hq9⟩ := lWg_dyke (yy := yy) (B := B) (F := F) (G := G) h1
  refine va_get (D := D) (cl := vwCl) (tys := jT yy) (ci := 3) (v := .int (F 33 k0)) (C := RX3) (T := TX3) (N := 7) hx hb hts (fun w h => List.mem_cons_of_mem _ (inlX3 w h)) hown hK hP q9 hq9 rfl 0 (by decide) (jw hts gw292) (fun _ h9 => h9) rfl (dd_of dX3_flowsOver_0 2 rfl) ?_
  refine lv_aload_n hx hb (dd_of dX3_flowsOver_0 3 rfl) rfl (lv_at hl 0 rfl) ?_
  have h2 := hok.1
  replace hok := hok.2
  obtain ⟨q9, hq9⟩ := lWg_dyke (yy := yy) (B := B) (F := F) (G := G) h2
  refine va_get (D := D) (cl := vwCl) (tys := jT yy) (ci := 3) (v := .int (F 34 k0)) (C := RX3) (T := TX3) (N := 7) hx hb hts (fun w h => List.mem_cons_of_mem _ (inlX3 w h)) hown hK hP q9 hq9 rfl 1 (by decide) (jw hts gw293) (fun _ h9 => h9) rfl (dd_of dX3_flowsOver_0 4 rfl) ?_
  have h3 := hok.1
  replace hok := hok.2
  refine jc_l (As := [.int (F 33 k0), .int (F 34 k0)]) (rest := []) (w := (lW yy B F G)) (D := D) (yy := yy) ⟨hx, hb, hml, hown, hts⟩ (qX10_above l D yy B F G  (F 33 k0) (F 34 k0) h3) (cwV 2 hts (jgV gw487 gw355 gw356 gw26 gw357) rfl rfl rfl (by decide +kernel) ⟨Nat.le_of_ble_eq_true rfl, Nat.le_of_ble_eq_true rfl⟩) hP hK (va_recv hK hP (ci := 10) (q0 := 1) rfl rfl) rfl hl.1 rfl (Nat.le_of_ble_eq_true rfl) (dd_of dX3_flowsOver_0 5 rfl) ⟨Nat.zero_le _, Nat.zero_le _⟩ (fun x4 ex4 => ?_)
  replace hres := bvE ex4 hres
  replace hok := bvO ex4 hok
  refine lv_lconst (v := 0) hx hb (dd_of dX3_flowsOver_0 6 rfl) (by decide) ?_
  obtain ⟨z36, q35⟩ : ∃ z : Int32, (if x4 < 0 then (F 34 k0) else (F 33 k0)) = z := ⟨_, rfl⟩
  have o38 := hok.1
  replace hok := hok.2
  refine jn_i (ls := ls) (v := z36) 28 [] (fun v8 ev8 => ?_) (fun K37 => ?_)
  · replace hres := bvE (ev8.trans q35.symm) hres
    replace hok := bvO (ev8.trans q35.symm) hok
    refine lv_istore_n (lv' := [(2, .int v8), (0, .ref (B (400 + k0))), (1, .ref (B 1))]) hx hb (dd_of dX3_flowsOver_0 14 rfl) rfl hl (by decide) rfl (fun ls hl => ?_)
    refine lv_aload_n hx hb (dd_of dX3_flowsOver_0 15 rfl) rfl (lv_at hl 2 rfl) ?_
    refine lv_iload_n hx hb (dd_of dX3_flowsOver_0 16 rfl) rfl (lv_at hl 0 rfl) ?_
    have h9 := hok.1
    replace hok := hok.2
    refine jc_l (As := [.int v8]) (rest := []) (w := (lW yy B F G)) (D := D) (yy := yy) ⟨hx, hb, hml, hown, hts⟩ (qX10_heightOf l D yy B F G  v8 h9) (cwV 1 hts (jgV gw495 gw359 gw360 gw26 gw361) rfl rfl rfl (by decide +kernel) ⟨Nat.le_of_ble_eq_true rfl, Nat.le_of_ble_eq_true rfl⟩) hP hK (va_recv hK hP (ci := 10) (q0 := 1) rfl rfl) rfl hl.1 rfl (Nat.le_of_ble_eq_true rfl) (dd_of dX3_flowsOver_0 17 rfl) ⟨Nat.zero_le _, Nat.zero_le _⟩ (fun x10 ex10 => ?_)
    replace hres := bvE ex10 hres
    replace hok := bvO ex10 hok
    refine lv_ldc2 (v := 100) hx hb hown (jw hts gw485) (dd_of dX3_flowsOver_0 18 rfl) ?_
    refine lv_aload_n hx hb (dd_of dX3_flowsOver_0 19 rfl) rfl (lv_at hl 1 rfl) ?_
    have h11 := hok.1
    replace hok := hok.2
    obtain ⟨q9, hq9⟩ := lWg_dyke (yy := yy) (B := B) (F := F) (G := G) h11
    refine va_get (D := D) (cl := vwCl) (tys := jT yy) (ci := 3) (v := .int (F 35 k0)) (C := RX3) (T := TX3) (N := 7) hx hb hts (fun w h => List.mem_cons_of_mem _ (inlX3 w h)) hown hK hP q9 hq9 rfl 2 (by decide) (jw hts gw294) (fun _ h9 => h9) rfl (dd_of dX3_flowsOver_0 20 rfl) ?_
    refine lv_i2l (v := (Int32.toInt64 (F 35 k0))) hx hb (dd_of dX3_flowsOver_0 21 rfl) rfl ?_
    refine lv_lmul hx hb (dd_of dX3_flowsOver_0 22 rfl) ?_
    refine lv_lsub hx hb (dd_of dX3_flowsOver_0 23 rfl) ?_
    refine lv_topl (fun x12 ex12 => ?_)
    replace hres := bvE ex12 hres
    replace hok := bvO ex12 hok
    refine lv_lstore_n (lv' := [(3, .long x12), (2, .int v8), (0, .ref (B (400 + k0))), (1, .ref (B 1))]) hx hb (dd_of dX3_flowsOver_0 24 rfl) rfl hl (by decide) rfl (fun ls hl => ?_)
    refine lv_lload_n hx hb (dd_of dX3_flowsOver_0 25 rfl) rfl (lv_at hl 0 rfl) ?_
    refine lv_lconst (v := 0) hx hb (dd_of dX3_flowsOver_0 26 rfl) (by decide) ?_
    refine jl_gt (tgt := 53) hx hb (dd_of dX3_flowsOver_0 27 rfl) (dd_of dX3_flowsOver_0 28 rfl) (by decide) (fun c13 => ?_) (fun c13 => ?_)
    · replace hres := ifE c13 hres
      replace hok := hok.1 c13
      refine lv_aload_n hx hb (dd_of dX3_flowsOver_0 31 rfl) rfl (lv_at hl 3 rfl) ?_
      refine lv_iload_n hx hb (dd_of dX3_flowsOver_0 32 rfl) rfl (lv_at hl 1 rfl) ?_
      have h14 := hok.1
      replace hok := hok.2
      refine jc_q (As := [.int v8]) (rest := []) (w := (lW yy B F G)) (D := D) (yy := yy) (B := B) (off := 100) ⟨hx, hb, hml, hown, hts⟩ (qX10_basinAt l D yy B F G  v8 h14) (cwV 1 hts (jgV gw496 gw231 gw232 gw26 gw233) rfl rfl rfl (by decide +kernel) ⟨Nat.le_of_ble_eq_true rfl, Nat.le_of_ble_eq_true rfl⟩) hP hK (va_recv hK hP (ci := 10) (q0 := 1) rfl rfl) rfl hl.1 rfl (Nat.le_of_ble_eq_true rfl) (dd_of dX3_flowsOver_0 33 rfl) ⟨Nat.zero_le _, Nat.zero_le _⟩ (fun o15 eo15 => ?_)
      replace hres := bvE eo15 hres
      replace hok := bvO eo15 hok
      rcases o15 with _ | k16
      · replace hres := omN hres
        replace hok := opN hok
        refine lv_astoreN (lv' := [(5, .null), (3, .long x12), (2, .int v8), (0, .ref (B (400 + k0))), (1, .ref (B 1))]) hx hb (dd_of dX3_flowsOver_0 34 rfl) hl (by decide) rfl (fun ls hl => ?_)
        refine lv_aloadN hx hb (dd_of dX3_flowsOver_0 35 rfl) (lv_at hl 0 rfl) ?_
        refine lv_ifnonnullN hx hb (dd_of dX3_flowsOver_0 36 rfl) ?_
        refine lv_ldc2 (v := 500) hx hb hown (jw hts gw492) (dd_of dX3_flowsOver_0 37 rfl) ?_
        refine lv_goto (tgt := 89) hx hb (dd_of dX3_flowsOver_0 38 rfl) (by decide) ?_
        refine lv_lstore (lv' := [(6, .long 500), (5, .null), (3, .long x12), (2, .int v8), (0, .ref (B (400 + k0))), (1, .ref (B 1))]) hx hb (dd_of dX3_flowsOver_1 8 rfl) hl (by decide) rfl (fun ls hl => ?_)
        refine lv_aload_n hx hb (dd_of dX3_flowsOver_1 9 rfl) rfl (lv_at hl 5 rfl) ?_
        refine lv_aload_n hx hb (dd_of dX3_flowsOver_1 10 rfl) rfl (lv_at hl 4 rfl) ?_
        have h17 := hok.1
        replace hok := hok.2
        obtain ⟨q9, hq9⟩ := lWg_dyke (yy := yy) (B := B) (F := F) (G := G) h17
        refine va_get (D := D) (cl := vwCl) (tys := jT yy) (ci := 3) (v := .int (F 33 k0)) (C := RX3) (T := TX3) (N := 7) hx hb hts (fun w h => List.mem_cons_of_mem _ (inlX3 w h)) hown hK hP q9 hq9 rfl 0 (by decide) (jw hts gw292) (fun _ h9 => h9) rfl (dd_of dX3_flowsOver_1 11 rfl) ?_
        refine lv_aload_n hx hb (dd_of dX3_flowsOver_1 12 rfl) rfl (lv_at hl 4 rfl) ?_
        have h18 := hok.1
        replace hok := hok.2
        obtain ⟨q9, hq9⟩ := lWg_dyke (yy := yy) (B := B) (F := F) (G := G) h18
        refine va_get (D := D) (cl := vwCl) (tys := jT yy) (ci := 3) (v := .int (F 34 k0)) (C := RX3) (T := TX3) (N := 7) hx hb hts (fun w h => List.mem_cons_of_mem _ (inlX3 w h)) hown hK hP q9 hq9 rfl 1 (by decide) (jw hts gw293) (fun _ h9 => h9) rfl (dd_of dX3_flowsOver_1 13 rfl) ?_
        refine lv_lload hx hb (dd_of dX3_flowsOver_1 14 rfl) (lv_at hl 0 rfl) ?_
        have h19 := hok
        refine jm_l (As := [.int (F 33 k0), .int (F 34 k0), .long 500]) (rest := []) (w := (lW yy B F G)) (w1 := fun u : jS => (lW yy B u.1 u.2)) (D := D) (yy := yy) ⟨hx, hb, hml, hown, hts⟩ (qX10_levelOut l D yy B F G H.size  (F 33 k0) (F 34 k0) 500 h19) (cwV 3 hts (jgV gw486 gw437 gw438 gw26 gw439) rfl rfl rfl (by decide +kernel) ⟨Nat.le_of_ble_eq_true rfl, Nat.le_of_ble_eq_true rfl⟩) hP hK hD hS hA (va_recv hK hP (ci := 10) (q0 := 1) rfl rfl) rfl hl.1 rfl (Nat.le_of_ble_eq_true rfl) (dd_of dX3_flowsOver_1 15 rfl) ⟨Nat.zero_le _, Nat.zero_le _⟩ (fun x23 u9 H locs w22 hP hD hS => ?_)
        obtain ⟨F20, G21⟩ := u9
        have hP : va_P D vwCl (lW yy B F20 G21) H := hP
        have hD : va_D Z (lW yy B F20 G21) := hD
        replace hres := brE w22 hres
        refine lv_lconst (v := 0) hx hb (dd_of dX3_flowsOver_1 16 rfl) (by decide) ?_
        refine jl_le (tgt := 114) hx hb (dd_of dX3_flowsOver_1 17 rfl) (dd_of dX3_flowsOver_1 18 rfl) (by decide) (fun c24 => ?_) (fun c24 => ?_)
        · replace hres := ifE c24 hres
          refine lv_iconst (v := 0) hx hb (dd_of dX3_flowsOver_1 21 rfl) (by decide) ?_
          subst hQ
          exact W.zret (ty := .boolean) (v := 0) hx hb hr (jb_nz (Or.inl rfl)) (fun t ht hW => ⟨⟨0, (F20, G21), rfl, hres, by rw [ht]; exact hP, va_K.moved hW.alike hK, hD⟩, hS.F ht⟩) hS.2.2 (dd_of dX3_flowsOver_1 22 rfl) hlk
        · replace hres := ifN c24 hres
          refine lv_iconst (v := 1) hx hb (dd_of dX3_flowsOver_1 19 rfl) (by decide) ?_
          refine lv_goto (tgt := 115) hx hb (dd_of dX3_flowsOver_1 20 rfl) (by decide) ?_
          subst hQ
          exact W.zret (ty := .boolean) (v := 1) hx hb hr (jb_nz (Or.inr rfl)) (fun t ht hW => ⟨⟨1, (F20, G21), rfl, hres, by rw [ht]; exact hP, va_K.moved hW.alike hK, hD⟩, hS.F ht⟩) hS.2.2 (dd_of dX3_flowsOver_1 22 rfl) hlk
      · replace hres := omS hres
        replace hok := opS hok
        refine lv_astore (lv' := [(5, .ref (B (100 + k16))), (3, .long x12), (2, .int v8), (0, .ref (B (400 + k0))), (1, .ref (B 1))]) hx hb (dd_of dX3_flowsOver_0 34 rfl) hl (by decide) rfl (fun ls hl => ?_)
        refine lv_aload hx hb (dd_of dX3_flowsOver_0 35 rfl) (lv_at hl 0 rfl) ?_
        refine lv_ifnonnull (tgt := 71) hx hb (dd_of dX3_flowsOver_0 36 rfl) (by decide) ?_
        refine lv_ldc2 (v := 500) hx hb hown (jw hts gw492) (dd_of dX3_flowsOver_0 39 rfl) ?_
        refine lv_lload_n hx hb (dd_of dX3_flowsOver_1 0 rfl) rfl (lv_at hl 1 rfl) ?_
        refine lv_aload hx hb (dd_of dX3_flowsOver_1 1 rfl) (lv_at hl 0 rfl) ?_
        have h25 := hok.1
        replace hok := hok.2
        obtain ⟨q9, hq9⟩ := lWg_basin (yy := yy) (B := B) (F := F) (G := G) h25
        refine va_get (D := D) (cl := vwCl) (tys := jT yy) (ci := 0) (v := .int (F 9 k16)) (C := RX0) (T := TX0) (N := 7) hx hb hts (fun w h => List.mem_cons_of_mem _ (inlX0 w h)) hown hK hP q9 hq9 rfl 0 (by decide) (jw hts gw493) (fun _ h9 => h9) rfl (dd_of dX3_flowsOver_1 2 rfl) ?_
        refine lv_i2l (v := (Int32.toInt64 (F 9 k16))) hx hb (dd_of dX3_flowsOver_1 3 rfl) rfl ?_
        refine lv_lmul hx hb (dd_of dX3_flowsOver_1 4 rfl) ?_
        refine lv_ldc2 (v := 100) hx hb hown (jw hts gw485) (dd_of dX3_flowsOver_1 5 rfl) ?_
        refine lv_ldiv hx hb (dd_of dX3_flowsOver_1 6 rfl) (by decide) ?_
        refine va_mmin_long hx hb (hml.trans hl.1.symm) hown (jw hts gw494) (jw hts gw444) (jw hts gw82) (jw hts gw445) (Nat.le_of_ble_eq_true rfl) (Nat.le_of_ble_eq_true rfl) (Nat.zero_le _) (Nat.zero_le _) (dd_of dX3_flowsOver_1 7 rfl) ?_
        refine lv_topl (fun x26 ex26 => ?_)
        replace hres := bvE ex26 hres
        replace hok := bvO ex26 hok
        refine lv_lstore (lv' := [(6, .long x26), (5, .ref (B (100 + k16))), (3, .long x12), (2, .int v8), (0, .ref (B (400 + k0))), (1, .ref (B 1))]) hx hb (dd_of dX3_flowsOver_1 8 rfl) hl (by decide) rfl (fun ls hl => ?_)
        refine lv_aload_n hx hb (dd_of dX3_flowsOver_1 9 rfl) rfl (lv_at hl 5 rfl) ?_
        refine lv_aload_n hx hb (dd_of dX3_flowsOver_1 10 rfl) rfl (lv_at hl 4 rfl) ?_
        have h27 := hok.1
        replace hok := hok.2
        obtain ⟨q9, hq9⟩ := lWg_dyke (yy := yy) (B := B) (F := F) (G := G) h27
        refine va_get (D := D) (cl := vwCl) (tys := jT yy) (ci := 3) (v := .int (F 33 k0)) (C := RX3) (T := TX3) (N := 7) hx hb hts (fun w h => List.mem_cons_of_mem _ (inlX3 w h)) hown hK hP q9 hq9 rfl 0 (by decide) (jw hts gw292) (fun _ h9 => h9) rfl (dd_of dX3_flowsOver_1 11 rfl) ?_
        refine lv_aload_n hx hb (dd_of dX3_flowsOver_1 12 rfl) rfl (lv_at hl 4 rfl) ?_
        have h28 := hok.1
        replace hok := hok.2
        obtain ⟨q9, hq9⟩ := lWg_dyke (yy := yy) (B := B) (F := F) (G := G) h28
        refine va_get (D := D) (cl := vwCl) (tys := jT yy) (ci := 3) (v := .int (F 34 k0)) (C := RX3) (T := TX3) (N := 7) hx hb hts (fun w h => List.mem_cons_of_mem _ (inlX3 w h)) hown hK hP q9 hq9 rfl 1 (by decide) (jw hts gw293) (fun _ h9 => h9) rfl (dd_of dX3_flowsOver_1 13 rfl) ?_
        refine lv_lload hx hb (dd_of dX3_flowsOver_1 14 rfl) (lv_at hl 0 rfl) ?_
        have h29 := hok
        refine jm_l (As := [.int (F 33 k0), .int (F 34 k0), .long x26]) (rest := []) (w := (lW yy B F G)) (w1 := fun u : jS => (lW yy B u.1 u.2)) (D := D) (yy := yy) ⟨hx, hb, hml, hown, hts⟩ (qX10_levelOut l D yy B F G H.size  (F 33 k0) (F 34 k0) x26 h29) (cwV 3 hts (jgV gw486 gw437 gw438 gw26 gw439) rfl rfl rfl (by decide +kernel) ⟨Nat.le_of_ble_eq_true rfl, Nat.le_of_ble_eq_true rfl⟩) hP hK hD hS hA (va_recv hK hP (ci := 10) (q0 := 1) rfl rfl) rfl hl.1 rfl (Nat.le_of_ble_eq_true rfl) (dd_of dX3_flowsOver_1 15 rfl) ⟨Nat.zero_le _, Nat.zero_le _⟩ (fun x33 u9 H locs w32 hP hD hS => ?_)
        obtain ⟨F30, G31⟩ := u9
        have hP : va_P D vwCl (lW yy B F30 G31) H := hP
        have hD : va_D Z (lW yy B F30 G31) := hD
        replace hres := brE w32 hres
        refine lv_lconst (v := 0) hx hb (dd_of dX3_flowsOver_1 16 rfl) (by decide) ?_
        refine jl_le (tgt := 114) hx hb (dd_of dX3_flowsOver_1 17 rfl) (dd_of dX3_flowsOver_1 18 rfl) (by decide) (fun c34 => ?_) (fun c34 => ?_)
        · replace hres := ifE c34 hres
          refine lv_iconst (v := 0) hx hb (dd_of dX3_flowsOver_1 21 rfl) (by decide) ?_
          subst hQ
          exact W.zret (ty := .boolean) (v := 0) hx hb hr (jb_nz (Or.inl rfl)) (fun t ht hW => ⟨⟨0, (F30, G31), rfl, hres, by rw [ht]; exact hP, va_K.moved hW.alike hK, hD⟩, hS.F ht⟩) hS.2.2 (dd_of dX3_flowsOver_1 22 rfl) hlk
        · replace hres := ifN c34 hres
          refine lv_iconst (v := 1) hx hb (dd_of dX3_flowsOver_1 19 rfl) (by decide) ?_
          refine lv_goto (tgt := 115) hx hb (dd_of dX3_flowsOver_1 20 rfl) (by decide) ?_
          subst hQ
          exact W.zret (ty := .boolean) (v := 1) hx hb hr (jb_nz (Or.inr rfl)) (fun t ht hW => ⟨⟨1, (F30, G31), rfl, hres, by rw [ht]; exact hP, va_K.moved hW.alike hK, hD⟩, hS.F ht⟩) hS.2.2 (dd_of dX3_flowsOver_1 22 rfl) hlk
    · replace hres := ifN c13 hres
      refine lv_iconst (v := 0) hx hb (dd_of dX3_flowsOver_0 29 rfl) (by decide) ?_
      subst hQ
      exact W.zret (ty := .boolean) (v := 0) hx hb hr (jb_nz (Or.inl rfl)) (fun t ht hW => ⟨⟨0, (F, G), rfl, hres, by rw [ht]; exact hP, va_K.moved hW.alike hK, hD⟩, hS.F ht⟩) hS.2.2 (dd_of dX3_flowsOver_0 30 rfl) hlk
  · skip
    refine jl_lt (tgt := 24) hx hb (dd_of dX3_flowsOver_0 7 rfl) (dd_of dX3_flowsOver_0 8 rfl) (by decide) (fun c5 => ?_) (fun c5 => ?_)
    · replace q35 := ifE c5 q35
      replace o38 := o38.1 c5
      refine lv_aload_n hx hb (dd_of dX3_flowsOver_0 12 rfl) rfl (lv_at hl 0 rfl) ?_
      have h6 := o38
      obtain ⟨q9, hq9⟩ := lWg_dyke (yy := yy) (B := B) (F := F) (G := G) h6
      refine va_get (D := D) (cl := vwCl) (tys := jT yy) (ci := 3) (v := .int (F 34 k0)) (C := RX3) (T := TX3) (N := 7) hx hb hts (fun w h => List.mem_cons_of_mem _ (inlX3 w h)) hown hK hP q9 hq9 rfl 1 (by decide) (jw hts gw293) (fun _ h9 => h9) rfl (dd_of dX3_flowsOver_0 13 rfl) ?_
      exact K37 _ q35
    · replace q35 := ifN c5 q35
      replace o38 := o38.2 c5
      refine lv_aload_n hx hb (dd_of dX3_flowsOver_0 9 rfl) rfl (lv_at hl 0 rfl) ?_
      have h7 := o38
      obtain ⟨q9, hq9⟩ := lWg_dyke (yy := yy) (B := B) (F := F) (G := G) h7
      refine va_get (D := D) (cl := vwCl) (tys := jT yy) (ci := 3) (v := .int (F 33 k0)) (C := RX3) (T := TX3) (N := 7) hx hb hts (fun w h => List.mem_cons_of_mem _ (inlX3 w h)) hown hK hP q9 hq9 rfl 0 (by decide) (jw hts gw292) (fun _ h9 => h9) rfl (dd_of dX3_flowsOver_0 10 rfl) ?_
      refine lv_goto (tgt := 28) hx hb (dd_of dX3_flowsOver_0 11 rfl) (by decide) ?_
      exact K37 _ q35
set_option maxHeartbeats 4000000 in
set_option maxRecDepth 100000 in
theorem qX3_hold (l : Launch) (D : va_G) (yy : Nat → ClassId) (B : Nat → Nat) (F : jF) (G : jG) (sz : Nat) (k0 : Nat)  (hok : okX3_hold F G k0 ) : Met l yX3_hold (Cond.code yX3_hold cX3_hold 4 none :: wsL_law) rmX3_hold (va_Pc [.ref (B (400 + k0)), .ref (B 1)] (jP D yy (lW yy B F G) sz)) (va_Qv (fun u : jS => u = gX3_hold F G k0 ) (fun (u : jS) t => jB D yy (va_A (lW yy B F G) sz) (lW yy B u.1 u.2) t) (va_A (lW yy B F G) sz)) 0 0 (va_A (lW yy B F G) sz) := by
  generalize hres : gX3_hold F G k0  = RES
  refine jM (vs := [.ref (B (400 + k0)), .ref (B 1)]) (own := RX3) (by decide +kernel) rfl (Nat.le_of_ble_eq_true rfl) ?_
  intro p e s m args below meth c ls Q hQ hargs S hr hlk hinit hB hl
  obtain ⟨hx, hb, hml, hown, hts⟩ := S
  have hl : lv_has ls 4 [(0, .ref (B (400 + k0))), (1, .ref (B 1))] := hl
  obtain ⟨hsz, hP, hK, hD0⟩ := hB
  subst hsz
  have hD := hD0.self (sz := s.heap.size)
  generalize hZ : va_A (lW yy B F G) s.heap.size = Z at hD hQ
  have hA : ∀ q : Nat, s.heap.size ≤ q → Z q := fun q h => by rw [← hZ]; exact Or.inr h
  obtain ⟨H, hH⟩ : ∃ z, z = s.heap := ⟨_, rfl⟩
  obtain ⟨locs, hlocs⟩ : ∃ z : List Loc, z = [] := ⟨_, rfl⟩
  have hS : va_S Z s.heap H locs := by rw [hH, hlocs]; exact va_S.rf
  rw [← hH] at hP
  suffices hgo : W p l e rmX3_hold s m args below meth c H locs 0 0 Q (F0 m 0 ls []) by rw [hH, hlocs] at hgo; exact hgo
  unfold gX3_hold at hres
  unfold okX3_hold at hok
  refine lv_aload_n hx hb (dd_of dX3_hold_0 0 rfl) rfl (lv_at hl 0 rfl) ?_
  have h1 := hok.1
  replace hok := hok.2
  obtain ⟨q9, hq9⟩ := lWg_dyke (yy := yy) (B := B) (F := F) (G := G) h1
  refine va_get (D := D) (cl := vwCl) (tys := jT yy) (ci := 3) (v := .int (F 39 k0)) (C := RX3) (T := TX3) (N := 7) hx hb hts (fun w h => List.mem_cons_of_mem _ (inlX3 w h)) hown hK hP q9 hq9 rfl 6 (by decide) (jw hts gw477) (fun _ h9 => h9) rfl (dd_of dX3_hold_0 1 rfl) ?_
  refine lv_if_le (tgt := 45) hx hb (dd_of dX3_hold_0 2 rfl) (by decide) (fun c2 => ?_) (fun c2 => ?_)
  · replace hres := ifE c2 hres
    replace hok := hok.1 c2
    refine lv_aload_n hx hb (dd_of dX3_hold_0 24 rfl) rfl (lv_at hl 1 rfl) ?_
    refine lv_aload_n hx hb (dd_of dX3_hold_0 25 rfl) rfl (lv_at hl 0 rfl) ?_
    have h3 := hok.1
    replace hok := hok.2
    obtain ⟨q9, hq9⟩ := lWg_dyke (yy := yy) (B := B) (F := F) (G := G) h3
    refine va_get (D := D) (cl := vwCl) (tys := jT yy) (ci := 3) (v := .int (F 33 k0)) (C := RX3) (T := TX3) (N := 7) hx hb hts (fun w h => List.mem_cons_of_mem _ (inlX3 w h)) hown hK hP q9 hq9 rfl 0 (by decide) (jw hts gw292) (fun _ h9 => h9) rfl (dd_of dX3_hold_0 26 rfl) ?_
    refine lv_aload_n hx hb (dd_of dX3_hold_0 27 rfl) rfl (lv_at hl 0 rfl) ?_
    have h4 := hok.1
    replace hok := hok.2
    obtain ⟨q9, hq9⟩ := lWg_dyke (yy := yy) (B := B) (F := F) (G := G) h4
    refine va_get (D := D) (cl := vwCl) (tys := jT yy) (ci := 3) (v := .int (F 34 k0)) (C := RX3) (T := TX3) (N := 7) hx hb hts (fun w h => List.mem_cons_of_mem _ (inlX3 w h)) hown hK hP q9 hq9 rfl 1 (by decide) (jw hts gw293) (fun _ h9 => h9) rfl (dd_of dX3_hold_0 28 rfl) ?_
    have h5 := hok.1
    replace hok := hok.2
    refine jc_l (As := [.int (F 33 k0), .int (F 34 k0)]) (rest := []) (w := (lW yy B F G)) (D := D) (yy := yy) ⟨hx, hb, hml, hown, hts⟩ (qX10_above l D yy B F G  (F 33 k0) (F 34 k0) h5) (cwV 2 hts (jgV gw487 gw355 gw356 gw26 gw357) rfl rfl rfl (by decide +kernel) ⟨Nat.le_of_ble_eq_true rfl, Nat.le_of_ble_eq_true rfl⟩) hP hK (va_recv hK hP (ci := 10) (q0 := 1) rfl rfl) rfl hl.1 rfl (Nat.le_of_ble_eq_true rfl) (dd_of dX3_hold_0 29 rfl) ⟨Nat.zero_le _, Nat.zero_le _⟩ (fun x6 ex6 => ?_)
    replace hres := bvE ex6 hres
    replace hok := bvO ex6 hok
    refine va_mabs_long hx hb (hml.trans hl.1.symm) hown (jw hts gw480) (jw hts gw441) (jw hts gw82) (jw hts gw442) (Nat.le_of_ble_eq_true rfl) (Nat.le_of_ble_eq_true rfl) (Nat.zero_le _) (Nat.zero_le _) (dd_of dX3_hold_0 30 rfl) ?_
    refine lv_topl (fun x7 ex7 => ?_)
    replace hres := bvE ex7 hres
    replace hok := bvO ex7 hok
    refine lv_lstore_n (lv' := [(2, .long x7), (0, .ref (B (400 + k0))), (1, .ref (B 1))]) hx hb (dd_of dX3_hold_0 31 rfl) rfl hl (by decide) rfl (fun ls hl => ?_)
    refine lv_aload_n hx hb (dd_of dX3_hold_0 32 rfl) rfl (lv_at hl 2 rfl) ?_
    refine lv_aload_n hx hb (dd_of dX3_hold_0 33 rfl) rfl (lv_at hl 1 rfl) ?_
    have h8 := hok.1
    replace hok := hok.2
    obtain ⟨q9, hq9⟩ := lWg_dyke (yy := yy) (B := B) (F := F) (G := G) h8
    refine va_get (D := D) (cl := vwCl) (tys := jT yy) (ci := 3) (v := .int (F 33 k0)) (C := RX3) (T := TX3) (N := 7) hx hb hts (fun w h => List.mem_cons_of_mem _ (inlX3 w h)) hown hK hP q9 hq9 rfl 0 (by decide) (jw hts gw292) (fun _ h9 => h9) rfl (dd_of dX3_hold_0 34 rfl) ?_
    refine lv_aload_n hx hb (dd_of dX3_hold_0 35 rfl) rfl (lv_at hl 1 rfl) ?_
    have h9 := hok.1
    replace hok := hok.2
    obtain ⟨q9, hq9⟩ := lWg_dyke (yy := yy) (B := B) (F := F) (G := G) h9
    refine va_get (D := D) (cl := vwCl) (tys := jT yy) (ci := 3) (v := .int (F 34 k0)) (C := RX3) (T := TX3) (N := 7) hx hb hts (fun w h => List.mem_cons_of_mem _ (inlX3 w h)) hown hK hP q9 hq9 rfl 1 (by decide) (jw hts gw293) (fun _ h9 => h9) rfl (dd_of dX3_hold_0 36 rfl) ?_
    refine lv_lload_n hx hb (dd_of dX3_hold_0 37 rfl) rfl (lv_at hl 0 rfl) ?_
    refine lv_aload_n hx hb (dd_of dX3_hold_0 38 rfl) rfl (lv_at hl 1 rfl) ?_
    have h10 := hok.1
    replace hok := hok.2
    obtain ⟨q9, hq9⟩ := lWg_dyke (yy := yy) (B := B) (F := F) (G := G) h10
    refine va_get (D := D) (cl := vwCl) (tys := jT yy) (ci := 3) (v := .int (F 37 k0)) (C := RX3) (T := TX3) (N := 7) hx hb hts (fun w h => List.mem_cons_of_mem _ (inlX3 w h)) hown hK hP q9 hq9 rfl 4 (by decide) (jw hts gw296) (fun _ h9 => h9) rfl (dd_of dX3_hold_0 39 rfl) ?_
    refine lv_i2l (v := (Int32.toInt64 (F 37 k0))) hx hb (dd_of dX3_hold_1 0 rfl) rfl ?_
    refine lv_lmul hx hb (dd_of dX3_hold_1 1 rfl) ?_
    refine lv_ldc2 (v := 1000) hx hb hown (jw hts gw481) (dd_of dX3_hold_1 2 rfl) ?_
    refine lv_ldiv hx hb (dd_of dX3_hold_1 3 rfl) (by decide) ?_
    have h11 := hok.1
    replace hok := hok.2
    refine jm_l (As := [.int (F 33 k0), .int (F 34 k0), .long ((x7 * (Int32.toInt64 (F 37 k0))) / 1000)]) (rest := []) (w := (lW yy B F G)) (w1 := fun u : jS => (lW yy B u.1 u.2)) (D := D) (yy := yy) ⟨hx, hb, hml, hown, hts⟩ (qX10_levelOut l D yy B F G H.size  (F 33 k0) (F 34 k0) ((x7 * (Int32.toInt64 (F 37 k0))) / 1000) h11) (cwV 3 hts (jgV gw486 gw437 gw438 gw26 gw439) rfl rfl rfl (by decide +kernel) ⟨Nat.le_of_ble_eq_true rfl, Nat.le_of_ble_eq_true rfl⟩) hP hK hD hS hA (va_recv hK hP (ci := 10) (q0 := 1) rfl rfl) rfl hl.1 rfl (Nat.le_of_ble_eq_true rfl) (dd_of dX3_hold_1 4 rfl) ⟨Nat.zero_le _, Nat.zero_le _⟩ (fun x15 u9 H locs w14 hP hD hS => ?_)
    obtain ⟨F12, G13⟩ := u9
    have hP : va_P D vwCl (lW yy B F12 G13) H := hP
    have hD : va_D Z (lW yy B F12 G13) := hD
    replace hres := brE w14 hres
    replace hok := brO w14 hok
    refine lv_pop2_2 hx hb (dd_of dX3_hold_1 5 rfl) rfl ?_
    refine lv_aload_n hx hb (dd_of dX3_hold_1 6 rfl) rfl (lv_at hl 1 rfl) ?_
    refine lv_aload_n hx hb (dd_of dX3_hold_1 7 rfl) rfl (lv_at hl 2 rfl) ?_
    have h16 := hok.1
    replace hok := hok.2
    have h17 := hok.1
    replace hok := hok.2
    obtain ⟨q9, hq9⟩ := lWg_dyke (yy := yy) (B := B) (F := F12) (G := G13) h16
    refine jm_i (As := [.ref (B 1)]) (rest := []) (w := (lW yy B F12 G13)) (w1 := fun u : jS => (lW yy B u.1 u.2)) (D := D) (yy := yy) ⟨hx, hb, hml, hown, hts⟩ (qX3_flowsOver l D yy B F12 G13 H.size k0  h17) (cwV 1 hts (jgV gw488 gw489 gw490 gw207 gw491) rfl rfl rfl (by decide +kernel) ⟨Nat.le_of_ble_eq_true rfl, Nat.le_of_ble_eq_true rfl⟩) hP hK hD hS hA (va_recv hK hP (ci := 3) (q0 := q9) rfl hq9) rfl hl.1 rfl (Nat.le_of_ble_eq_true rfl) (dd_of dX3_hold_1 8 rfl) ⟨Nat.zero_le _, Nat.zero_le _⟩ (fun x21 u9 H locs w20 hP hD hS => ?_)
    obtain ⟨F18, G19⟩ := u9
    have hP : va_P D vwCl (lW yy B F18 G19) H := hP
    have hD : va_D Z (lW yy B F18 G19) := hD
    replace hres := brE w20 hres
    replace hok := brO w20 hok
    refine lv_if_eq (tgt := 105) hx hb (dd_of dX3_hold_1 9 rfl) (by decide) (fun c22 => ?_) (fun c22 => ?_)
    · replace hres := ifE c22 hres
      replace hok := hok.1 c22
      refine lv_lload_n hx hb (dd_of dX3_hold_1 16 rfl) rfl (lv_at hl 0 rfl) ?_
      refine lv_ldc2 (v := 200) hx hb hown (jw hts gw484) (dd_of dX3_hold_1 17 rfl) ?_
      refine jl_lt (tgt := 127) hx hb (dd_of dX3_hold_1 18 rfl) (dd_of dX3_hold_1 19 rfl) (by decide) (fun c23 => ?_) (fun c23 => ?_)
      · replace hres := ifE c23 hres
        replace hok := hok.1 c23
        refine lv_aload_n hx hb (dd_of dX3_hold_1 28 rfl) rfl (lv_at hl 1 rfl) ?_
        have h24 := hok.1
        replace hok := hok.2
        obtain ⟨q9, hq9⟩ := lWg_dyke (yy := yy) (B := B) (F := F18) (G := G19) h24
        refine va_get (D := D) (cl := vwCl) (tys := jT yy) (ci := 3) (v := .long (G19 61 k0)) (C := RX3) (T := TX3) (N := 7) hx hb hts (fun w h => List.mem_cons_of_mem _ (inlX3 w h)) hown hK hP q9 hq9 rfl 5 (by decide) (jw hts gw482) (fun _ h9 => h9) rfl (dd_of dX3_hold_1 29 rfl) ?_
        refine lv_aload_n hx hb (dd_of dX3_hold_1 30 rfl) rfl (lv_at hl 1 rfl) ?_
        have h25 := hok.1
        replace hok := hok.2
        obtain ⟨q9, hq9⟩ := lWg_dyke (yy := yy) (B := B) (F := F18) (G := G19) h25
        refine va_get (D := D) (cl := vwCl) (tys := jT yy) (ci := 3) (v := .int (F18 36 k0)) (C := RX3) (T := TX3) (N := 7) hx hb hts (fun w h => List.mem_cons_of_mem _ (inlX3 w h)) hown hK hP q9 hq9 rfl 3 (by decide) (jw hts gw295) (fun _ h9 => h9) rfl (dd_of dX3_hold_1 31 rfl) ?_
        refine lv_i2l (v := (Int32.toInt64 (F18 36 k0))) hx hb (dd_of dX3_hold_1 32 rfl) rfl ?_
        refine jl_lt (tgt := 145) hx hb (dd_of dX3_hold_1 33 rfl) (dd_of dX3_hold_1 34 rfl) (by decide) (fun c26 => ?_) (fun c26 => ?_)
        · replace hres := ifE c26 hres
          subst hQ
          exact W.vret hx hb hr (fun t ht hW => ⟨⟨(F18, G19), rfl, hres, by rw [ht]; exact hP, va_K.moved hW.alike hK, hD⟩, hS.F ht⟩) hS.2.2 (dd_of dX3_hold_1 38 rfl) hlk
        · replace hres := ifN c26 hres
          replace hok := hok.2 c26
          refine lv_aload_n hx hb (dd_of dX3_hold_1 35 rfl) rfl (lv_at hl 1 rfl) ?_
          refine lv_iconst (v := 1) hx hb (dd_of dX3_hold_1 36 rfl) (by decide) ?_
          have h27 := hok
          obtain ⟨q9, hq9, hs9⟩ := lWs_dyke_breach (yy := yy) (B := B) (F := F18) (G := G19) (v := 1) h27
          refine va_put (D := D) (cl := vwCl) (tys := jT yy) (ci := 3) (v := .int 1) (ty := .int) (C := RX3) (T := TX3) (N := 7) hx hb hts (fun w h => List.mem_cons_of_mem _ (inlX3 w h)) tyX3 tyX3_ok nmX3 hown hK hP hD hS q9 hq9 rfl 6 (by decide) (jw hts gw477) (fun _ h9 => h9) rfl (by decide +kernel) rfl rfl (Nat.le_of_ble_eq_true rfl) (dd_of dX3_hold_1 37 rfl) (fun H locs hP hD hS => ?_)
          obtain ⟨F28, e29⟩ : ∃ z : jF, z = u2 F18 39 k0 1 := ⟨_, rfl⟩
          have hP : va_P D vwCl (lW yy B F28 G19) H := by rw [e29, ← hs9]; exact hP
          have hD : va_D Z (lW yy B F28 G19) := by rw [e29, ← hs9]; exact hD
          replace hres := bvE e29 hres
          subst hQ
          exact W.vret hx hb hr (fun t ht hW => ⟨⟨(F28, G19), rfl, hres, by rw [ht]; exact hP, va_K.moved hW.alike hK, hD⟩, hS.F ht⟩) hS.2.2 (dd_of dX3_hold_1 38 rfl) hlk
      · replace hres := ifN c23 hres
        replace hok := hok.2 c23
        refine lv_aload_n hx hb (dd_of dX3_hold_1 20 rfl) rfl (lv_at hl 1 rfl) ?_
        refine lv_dup hx hb (dd_of dX3_hold_1 21 rfl) rfl ?_
        have h30 := hok.1
        replace hok := hok.2
        obtain ⟨q9, hq9⟩ := lWg_dyke (yy := yy) (B := B) (F := F18) (G := G19) h30
        refine va_get (D := D) (cl := vwCl) (tys := jT yy) (ci := 3) (v := .long (G19 61 k0)) (C := RX3) (T := TX3) (N := 7) hx hb hts (fun w h => List.mem_cons_of_mem _ (inlX3 w h)) hown hK hP q9 hq9 rfl 5 (by decide) (jw hts gw482) (fun _ h9 => h9) rfl (dd_of dX3_hold_1 22 rfl) ?_
        refine lv_lload_n hx hb (dd_of dX3_hold_1 23 rfl) rfl (lv_at hl 0 rfl) ?_
        refine lv_ldc2 (v := 100) hx hb hown (jw hts gw485) (dd_of dX3_hold_1 24 rfl) ?_
        refine lv_ldiv hx hb (dd_of dX3_hold_1 25 rfl) (by decide) ?_
        refine lv_ladd hx hb (dd_of dX3_hold_1 26 rfl) ?_
        have h31 := hok.1
        replace hok := hok.2
        obtain ⟨q9, hq9, hs9⟩ := lWs_dyke_damage (yy := yy) (B := B) (F := F18) (G := G19) (v := ((G19 61 k0) + (x7 / 100))) h31
        refine va_put (D := D) (cl := vwCl) (tys := jT yy) (ci := 3) (v := .long ((G19 61 k0) + (x7 / 100))) (ty := .long) (C := RX3) (T := TX3) (N := 7) hx hb hts (fun w h => List.mem_cons_of_mem _ (inlX3 w h)) tyX3 tyX3_ok nmX3 hown hK hP hD hS q9 hq9 rfl 5 (by decide) (jw hts gw482) (fun _ h9 => h9) rfl (by decide +kernel) rfl rfl (Nat.le_of_ble_eq_true rfl) (dd_of dX3_hold_1 27 rfl) (fun H locs hP hD hS => ?_)
        obtain ⟨G32, e33⟩ : ∃ z : jG, z = u2 G19 61 k0 ((G19 61 k0) + (x7 / 100)) := ⟨_, rfl⟩
        have hP : va_P D vwCl (lW yy B F18 G32) H := by rw [e33, ← hs9]; exact hP
        have hD : va_D Z (lW yy B F18 G32) := by rw [e33, ← hs9]; exact hD
        replace hres := bvE e33 hres
        replace hok := bvO e33 hok
        refine lv_aload_n hx hb (dd_of dX3_hold_1 28 rfl) rfl (lv_at hl 1 rfl) ?_
        have h34 := hok.1
        replace hok := hok.2
        obtain ⟨q9, hq9⟩ := lWg_dyke (yy := yy) (B := B) (F := F18) (G := G32) h34
        refine va_get (D := D) (cl := vwCl) (tys := jT yy) (ci := 3) (v := .long (G32 61 k0)) (C := RX3) (T := TX3) (N := 7) hx hb hts (fun w h => List.mem_cons_of_mem _ (inlX3 w h)) hown hK hP q9 hq9 rfl 5 (by decide) (jw hts gw482) (fun _ h9 => h9) rfl (dd_of dX3_hold_1 29 rfl) ?_
        refine lv_aload_n hx hb (dd_of dX3_hold_1 30 rfl) rfl (lv_at hl 1 rfl) ?_
        have h35 := hok.1
        replace hok := hok.2
        obtain ⟨q9, hq9⟩ := lWg_dyke (yy := yy) (B := B) (F := F18) (G := G32) h35
        refine va_get (D := D) (cl := vwCl) (tys := jT yy) (ci := 3) (v := .int (F18 36 k0)) (C := RX3) (T := TX3) (N := 7) hx hb hts (fun w h => List.mem_cons_of_mem _ (inlX3 w h)) hown hK hP q9 hq9 rfl 3 (by decide) (jw hts gw295) (fun _ h9 => h9) rfl (dd_of dX3_hold_1 31 rfl) ?_
        refine lv_i2l (v := (Int32.toInt64 (F18 36 k0))) hx hb (dd_of dX3_hold_1 32 rfl) rfl ?_
        refine jl_lt (tgt := 145) hx hb (dd_of dX3_hold_1 33 rfl) (dd_of dX3_hold_1 34 rfl) (by decide) (fun c36 => ?_) (fun c36 => ?_)
        · replace hres := ifE c36 hres
          subst hQ
          exact W.vret hx hb hr (fun t ht hW => ⟨⟨(F18, G32), rfl, hres, by rw [ht]; exact hP, va_K.moved hW.alike hK, hD⟩, hS.F ht⟩) hS.2.2 (dd_of dX3_hold_1 38 rfl) hlk
        · replace hres := ifN c36 hres
          replace hok := hok.2 c36
          refine lv_aload_n hx hb (dd_of dX3_hold_1 35 rfl) rfl (lv_at hl 1 rfl) ?_
          refine lv_iconst (v := 1) hx hb (dd_of dX3_hold_1 36 rfl) (by decide) ?_
          have h37 := hok
          obtain ⟨q9, hq9, hs9⟩ := lWs_dyke_breach (yy := yy) (B := B) (F := F18) (G := G32) (v := 1) h37
          refine va_put (D := D) (cl := vwCl) (tys := jT yy) (ci := 3) (v := .int 1) (ty := .int) (C := RX3) (T := TX3) (N := 7) hx hb hts (fun w h => List.mem_cons_of_mem _ (inlX3 w h)) tyX3 tyX3_ok nmX3 hown hK hP hD hS q9 hq9 rfl 6 (by decide) (jw hts gw477) (fun _ h9 => h9) rfl (by decide +kernel) rfl rfl (Nat.le_of_ble_eq_true rfl) (dd_of dX3_hold_1 37 rfl) (fun H locs hP hD hS => ?_)
          obtain ⟨F38, e39⟩ : ∃ z : jF, z = u2 F18 39 k0 1 := ⟨_, rfl⟩
          have hP : va_P D vwCl (lW yy B F38 G32) H := by rw [e39, ← hs9]; exact hP
          have hD : va_D Z (lW yy B F38 G32) := by rw [e39, ← hs9]; exact hD
          replace hres := bvE e39 hres
          subst hQ
          exact W.vret hx hb hr (fun t ht hW => ⟨⟨(F38, G32), rfl, hres, by rw [ht]; exact hP, va_K.moved hW.alike hK, hD⟩, hS.F ht⟩) hS.2.2 (dd_of dX3_hold_1 38 rfl) hlk
    · replace hres := ifN c22 hres
      replace hok := hok.2 c22
      refine lv_aload_n hx hb (dd_of dX3_hold_1 10 rfl) rfl (lv_at hl 1 rfl) ?_
      refine lv_dup hx hb (dd_of dX3_hold_1 11 rfl) rfl ?_
      have h40 := hok.1
      replace hok := hok.2
      obtain ⟨q9, hq9⟩ := lWg_dyke (yy := yy) (B := B) (F := F18) (G := G19) h40
      refine va_get (D := D) (cl := vwCl) (tys := jT yy) (ci := 3) (v := .long (G19 61 k0)) (C := RX3) (T := TX3) (N := 7) hx hb hts (fun w h => List.mem_cons_of_mem _ (inlX3 w h)) hown hK hP q9 hq9 rfl 5 (by decide) (jw hts gw482) (fun _ h9 => h9) rfl (dd_of dX3_hold_1 12 rfl) ?_
      refine lv_ldc2 (v := 20) hx hb hown (jw hts gw483) (dd_of dX3_hold_1 13 rfl) ?_
      refine lv_ladd hx hb (dd_of dX3_hold_1 14 rfl) ?_
      have h41 := hok.1
      replace hok := hok.2
      obtain ⟨q9, hq9, hs9⟩ := lWs_dyke_damage (yy := yy) (B := B) (F := F18) (G := G19) (v := ((G19 61 k0) + 20)) h41
      refine va_put (D := D) (cl := vwCl) (tys := jT yy) (ci := 3) (v := .long ((G19 61 k0) + 20)) (ty := .long) (C := RX3) (T := TX3) (N := 7) hx hb hts (fun w h => List.mem_cons_of_mem _ (inlX3 w h)) tyX3 tyX3_ok nmX3 hown hK hP hD hS q9 hq9 rfl 5 (by decide) (jw hts gw482) (fun _ h9 => h9) rfl (by decide +kernel) rfl rfl (Nat.le_of_ble_eq_true rfl) (dd_of dX3_hold_1 15 rfl) (fun H locs hP hD hS => ?_)
      obtain ⟨G42, e43⟩ : ∃ z : jG, z = u2 G19 61 k0 ((G19 61 k0) + 20) := ⟨_, rfl⟩
      have hP : va_P D vwCl (lW yy B F18 G42) H := by rw [e43, ← hs9]; exact hP
      have hD : va_D Z (lW yy B F18 G42) := by rw [e43, ← hs9]; exact hD
      replace hres := bvE e43 hres
      replace hok := bvO e43 hok
      refine lv_lload_n hx hb (dd_of dX3_hold_1 16 rfl) rfl (lv_at hl 0 rfl) ?_
      refine lv_ldc2 (v := 200) hx hb hown (jw hts gw484) (dd_of dX3_hold_1 17 rfl) ?_
      refine jl_lt (tgt := 127) hx hb (dd_of dX3_hold_1 18 rfl) (dd_of dX3_hold_1 19 rfl) (by decide) (fun c44 => ?_) (fun c44 => ?_)
      · replace hres := ifE c44 hres
        replace hok := hok.1 c44
        refine lv_aload_n hx hb (dd_of dX3_hold_1 28 rfl) rfl (lv_at hl 1 rfl) ?_
        have h45 := hok.1
        replace hok := hok.2
        obtain ⟨q9, hq9⟩ := lWg_dyke (yy := yy) (B := B) (F := F18) (G := G42) h45
        refine va_get (D := D) (cl := vwCl) (tys := jT yy) (ci := 3) (v := .long (G42 61 k0)) (C := RX3) (T := TX3) (N := 7) hx hb hts (fun w h => List.mem_cons_of_mem _ (inlX3 w h)) hown hK hP q9 hq9 rfl 5 (by decide) (jw hts gw482) (fun _ h9 => h9) rfl (dd_of dX3_hold_1 29 rfl) ?_
        refine lv_aload_n hx hb (dd_of dX3_hold_1 30 rfl) rfl (lv_at hl 1 rfl) ?_
        have h46 := hok.1
        replace hok := hok.2
        obtain ⟨q9, hq9⟩ := lWg_dyke (yy := yy) (B := B) (F := F18) (G := G42) h46
        refine va_get (D := D) (cl := vwCl) (tys := jT yy) (ci := 3) (v := .int (F18 36 k0)) (C := RX3) (T := TX3) (N := 7) hx hb hts (fun w h => List.mem_cons_of_mem _ (inlX3 w h)) hown hK hP q9 hq9 rfl 3 (by decide) (jw hts gw295) (fun _ h9 => h9) rfl (dd_of dX3_hold_1 31 rfl) ?_
        refine lv_i2l (v := (Int32.toInt64 (F18 36 k0))) hx hb (dd_of dX3_hold_1 32 rfl) rfl ?_
        refine jl_lt (tgt := 145) hx hb (dd_of dX3_hold_1 33 rfl) (dd_of dX3_hold_1 34 rfl) (by decide) (fun c47 => ?_) (fun c47 => ?_)
        · replace hres := ifE c47 hres
          subst hQ
          exact W.vret hx hb hr (fun t ht hW => ⟨⟨(F18, G42), rfl, hres, by rw [ht]; exact hP, va_K.moved hW.alike hK, hD⟩, hS.F ht⟩) hS.2.2 (dd_of dX3_hold_1 38 rfl) hlk
        · replace hres := ifN c47 hres
          replace hok := hok.2 c47
          refine lv_aload_n hx hb (dd_of dX3_hold_1 35 rfl) rfl (lv_at hl 1 rfl) ?_
          refine lv_iconst (v := 1) hx hb (dd_of dX3_hold_1 36 rfl) (by decide) ?_
          have h48 := hok
          obtain ⟨q9, hq9, hs9⟩ := lWs_dyke_breach (yy := yy) (B := B) (F := F18) (G := G42) (v := 1) h48
          refine va_put (D := D) (cl := vwCl) (tys := jT yy) (ci := 3) (v := .int 1) (ty := .int) (C := RX3) (T := TX3) (N := 7) hx hb hts (fun w h => List.mem_cons_of_mem _ (inlX3 w h)) tyX3 tyX3_ok nmX3 hown hK hP hD hS q9 hq9 rfl 6 (by decide) (jw hts gw477) (fun _ h9 => h9) rfl (by decide +kernel) rfl rfl (Nat.le_of_ble_eq_true rfl) (dd_of dX3_hold_1 37 rfl) (fun H locs hP hD hS => ?_)
          obtain ⟨F49, e50⟩ : ∃ z : jF, z = u2 F18 39 k0 1 := ⟨_, rfl⟩
          have hP : va_P D vwCl (lW yy B F49 G42) H := by rw [e50, ← hs9]; exact hP
          have hD : va_D Z (lW yy B F49 G42) := by rw [e50, ← hs9]; exact hD
          replace hres := bvE e50 hres
          subst hQ
          exact W.vret hx hb hr (fun t ht hW => ⟨⟨(F49, G42), rfl, hres, by rw [ht]; exact hP, va_K.moved hW.alike hK, hD⟩, hS.F ht⟩) hS.2.2 (dd_of dX3_hold_1 38 rfl) hlk
      · replace hres := ifN c44 hres
        replace hok := hok.2 c44
        refine lv_aload_n hx hb (dd_of dX3_hold_1 20 rfl) rfl (lv_at hl 1 rfl) ?_
        refine lv_dup hx hb (dd_of dX3_hold_1 21 rfl) rfl ?_
        have h51 := hok.1
        replace hok := hok.2
        obtain ⟨q9, hq9⟩ := lWg_dyke (yy := yy) (B := B) (F := F18) (G := G42) h51
        refine va_get (D := D) (cl := vwCl) (tys := jT yy) (ci := 3) (v := .long (G42 61 k0)) (C := RX3) (T := TX3) (N := 7) hx hb hts (fun w h => List.mem_cons_of_mem _ (inlX3 w h)) hown hK hP q9 hq9 rfl 5 (by decide) (jw hts gw482) (fun _ h9 => h9) rfl (dd_of dX3_hold_1 22 rfl) ?_
        refine lv_lload_n hx hb (dd_of dX3_hold_1 23 rfl) rfl (lv_at hl 0 rfl) ?_
        refine lv_ldc2 (v := 100) hx hb hown (jw hts gw485) (dd_of dX3_hold_1 24 rfl) ?_
        refine lv_ldiv hx hb (dd_of dX3_hold_1 25 rfl) (by decide) ?_
        refine lv_ladd hx hb (dd_of dX3_hold_1 26 rfl) ?_
        have h52 := hok.1
        replace hok := hok.2
        obtain ⟨q9, hq9, hs9⟩ := lWs_dyke_damage (yy := yy) (B := B) (F := F18) (G := G42) (v := ((G42 61 k0) + (x7 / 100))) h52
        refine va_put (D := D) (cl := vwCl) (tys := jT yy) (ci := 3) (v := .long ((G42 61 k0) + (x7 / 100))) (ty := .long) (C := RX3) (T := TX3) (N := 7) hx hb hts (fun w h => List.mem_cons_of_mem _ (inlX3 w h)) tyX3 tyX3_ok nmX3 hown hK hP hD hS q9 hq9 rfl 5 (by decide) (jw hts gw482) (fun _ h9 => h9) rfl (by decide +kernel) rfl rfl (Nat.le_of_ble_eq_true rfl) (dd_of dX3_hold_1 27 rfl) (fun H locs hP hD hS => ?_)
        obtain ⟨G53, e54⟩ : ∃ z : jG, z = u2 G42 61 k0 ((G42 61 k0) + (x7 / 100)) := ⟨_, rfl⟩
        have hP : va_P D vwCl (lW yy B F18 G53) H := by rw [e54, ← hs9]; exact hP
        have hD : va_D Z (lW yy B F18 G53) := by rw [e54, ← hs9]; exact hD
        replace hres := bvE e54 hres
        replace hok := bvO e54 hok
        refine lv_aload_n hx hb (dd_of dX3_hold_1 28 rfl) rfl (lv_at hl 1 rfl) ?_
        have h55 := hok.1
        replace hok := hok.2
        obtain ⟨q9, hq9⟩ := lWg_dyke (yy := yy) (B := B) (F := F18) (G := G53) h55
        refine va_get (D := D) (cl := vwCl) (tys := jT yy) (ci := 3) (v := .long (G53 61 k0)) (C := RX3) (T := TX3) (N := 7) hx hb hts (fun w h => List.mem_cons_of_mem _ (inlX3 w h)) hown hK hP q9 hq9 rfl 5 (by decide) (jw hts gw482) (fun _ h9 => h9) rfl (dd_of dX3_hold_1 29 rfl) ?_
        refine lv_aload_n hx hb (dd_of dX3_hold_1 30 rfl) rfl (lv_at hl 1 rfl) ?_
        have h56 := hok.1
        replace hok := hok.2
        obtain ⟨q9, hq9⟩ := lWg_dyke (yy := yy) (B := B) (F := F18) (G := G53) h56
        refine va_get (D := D) (cl := vwCl) (tys := jT yy) (ci := 3) (v := .int (F18 36 k0)) (C := RX3) (T := TX3) (N := 7) hx hb hts (fun w h => List.mem_cons_of_mem _ (inlX3 w h)) hown hK hP q9 hq9 rfl 3 (by decide) (jw hts gw295) (fun _ h9 => h9) rfl (dd_of dX3_hold_1 31 rfl) ?_
        refine lv_i2l (v := (Int32.toInt64 (F18 36 k0))) hx hb (dd_of dX3_hold_1 32 rfl) rfl ?_
        refine jl_lt (tgt := 145) hx hb (dd_of dX3_hold_1 33 rfl) (dd_of dX3_hold_1 34 rfl) (by decide) (fun c57 => ?_) (fun c57 => ?_)
        · replace hres := ifE c57 hres
          subst hQ
          exact W.vret hx hb hr (fun t ht hW => ⟨⟨(F18, G53), rfl, hres, by rw [ht]; exact hP, va_K.moved hW.alike hK, hD⟩, hS.F ht⟩) hS.2.2 (dd_of dX3_hold_1 38 rfl) hlk
        · replace hres := ifN c57 hres
          replace hok := hok.2 c57
          refine lv_aload_n hx hb (dd_of dX3_hold_1 35 rfl) rfl (lv_at hl 1 rfl) ?_
          refine lv_iconst (v := 1) hx hb (dd_of dX3_hold_1 36 rfl) (by decide) ?_
          have h58 := hok
          obtain ⟨q9, hq9, hs9⟩ := lWs_dyke_breach (yy := yy) (B := B) (F := F18) (G := G53) (v := 1) h58
          refine va_put (D := D) (cl := vwCl) (tys := jT yy) (ci := 3) (v := .int 1) (ty := .int) (C := RX3) (T := TX3) (N := 7) hx hb hts (fun w h => List.mem_cons_of_mem _ (inlX3 w h)) tyX3 tyX3_ok nmX3 hown hK hP hD hS q9 hq9 rfl 6 (by decide) (jw hts gw477) (fun _ h9 => h9) rfl (by decide +kernel) rfl rfl (Nat.le_of_ble_eq_true rfl) (dd_of dX3_hold_1 37 rfl) (fun H locs hP hD hS => ?_)
          obtain ⟨F59, e60⟩ : ∃ z : jF, z = u2 F18 39 k0 1 := ⟨_, rfl⟩
          have hP : va_P D vwCl (lW yy B F59 G53) H := by rw [e60, ← hs9]; exact hP
          have hD : va_D Z (lW yy B F59 G53) := by rw [e60, ← hs9]; exact hD
          replace hres := bvE e60 hres
          subst hQ
          exact W.vret hx hb hr (fun t ht hW => ⟨⟨(F59, G53), rfl, hres, by rw [ht]; exact hP, va_K.moved hW.alike hK, hD⟩, hS.F ht⟩) hS.2.2 (dd_of dX3_hold_1 38 rfl) hlk
  · replace hres := ifN c2 hres
    replace hok := hok.2 c2
    refine lv_aload_n hx hb (dd_of dX3_hold_0 3 rfl) rfl (lv_at hl 1 rfl) ?_
    refine lv_aload_n hx hb (dd_of dX3_hold_0 4 rfl) rfl (lv_at hl 0 rfl) ?_
    have h61 := hok.1
    replace hok := hok.2
    obtain ⟨q9, hq9⟩ := lWg_dyke (yy := yy) (B := B) (F := F) (G := G) h61
    refine va_get (D := D) (cl := vwCl) (tys := jT yy) (ci := 3) (v := .int (F 33 k0)) (C := RX3) (T := TX3) (N := 7) hx hb hts (fun w h => List.mem_cons_of_mem _ (inlX3 w h)) hown hK hP q9 hq9 rfl 0 (by decide) (jw hts gw292) (fun _ h9 => h9) rfl (dd_of dX3_hold_0 5 rfl) ?_
    refine lv_aload_n hx hb (dd_of dX3_hold_0 6 rfl) rfl (lv_at hl 0 rfl) ?_
    have h62 := hok.1
    replace hok := hok.2
    obtain ⟨q9, hq9⟩ := lWg_dyke (yy := yy) (B := B) (F := F) (G := G) h62
    refine va_get (D := D) (cl := vwCl) (tys := jT yy) (ci := 3) (v := .int (F 34 k0)) (C := RX3) (T := TX3) (N := 7) hx hb hts (fun w h => List.mem_cons_of_mem _ (inlX3 w h)) hown hK hP q9 hq9 rfl 1 (by decide) (jw hts gw293) (fun _ h9 => h9) rfl (dd_of dX3_hold_0 7 rfl) ?_
    refine lv_ldc2 (v := 50) hx hb hown (jw hts gw478) (dd_of dX3_hold_0 8 rfl) ?_
    refine lv_aload_n hx hb (dd_of dX3_hold_0 9 rfl) rfl (lv_at hl 0 rfl) ?_
    have h63 := hok.1
    replace hok := hok.2
    obtain ⟨q9, hq9⟩ := lWg_dyke (yy := yy) (B := B) (F := F) (G := G) h63
    refine va_get (D := D) (cl := vwCl) (tys := jT yy) (ci := 3) (v := .int (F 39 k0)) (C := RX3) (T := TX3) (N := 7) hx hb hts (fun w h => List.mem_cons_of_mem _ (inlX3 w h)) hown hK hP q9 hq9 rfl 6 (by decide) (jw hts gw477) (fun _ h9 => h9) rfl (dd_of dX3_hold_0 10 rfl) ?_
    refine lv_i2l (v := (Int32.toInt64 (F 39 k0))) hx hb (dd_of dX3_hold_0 11 rfl) rfl ?_
    refine lv_lmul hx hb (dd_of dX3_hold_0 12 rfl) ?_
    have h64 := hok.1
    replace hok := hok.2
    refine jm_l (As := [.int (F 33 k0), .int (F 34 k0), .long (50 * (Int32.toInt64 (F 39 k0)))]) (rest := []) (w := (lW yy B F G)) (w1 := fun u : jS => (lW yy B u.1 u.2)) (D := D) (yy := yy) ⟨hx, hb, hml, hown, hts⟩ (qX10_levelOut l D yy B F G H.size  (F 33 k0) (F 34 k0) (50 * (Int32.toInt64 (F 39 k0))) h64) (cwV 3 hts (jgV gw486 gw437 gw438 gw26 gw439) rfl rfl rfl (by decide +kernel) ⟨Nat.le_of_ble_eq_true rfl, Nat.le_of_ble_eq_true rfl⟩) hP hK hD hS hA (va_recv hK hP (ci := 10) (q0 := 1) rfl rfl) rfl hl.1 rfl (Nat.le_of_ble_eq_true rfl) (dd_of dX3_hold_0 13 rfl) ⟨Nat.zero_le _, Nat.zero_le _⟩ (fun x68 u9 H locs w67 hP hD hS => ?_)
    obtain ⟨F65, G66⟩ := u9
    have hP : va_P D vwCl (lW yy B F65 G66) H := hP
    have hD : va_D Z (lW yy B F65 G66) := hD
    replace hres := brE w67 hres
    replace hok := brO w67 hok
    refine lv_pop2_2 hx hb (dd_of dX3_hold_0 14 rfl) rfl ?_
    refine lv_aload_n hx hb (dd_of dX3_hold_0 15 rfl) rfl (lv_at hl 0 rfl) ?_
    refine lv_aload_n hx hb (dd_of dX3_hold_0 16 rfl) rfl (lv_at hl 0 rfl) ?_
    have h69 := hok.1
    replace hok := hok.2
    obtain ⟨q9, hq9⟩ := lWg_dyke (yy := yy) (B := B) (F := F65) (G := G66) h69
    refine va_get (D := D) (cl := vwCl) (tys := jT yy) (ci := 3) (v := .int (F65 39 k0)) (C := RX3) (T := TX3) (N := 7) hx hb hts (fun w h => List.mem_cons_of_mem _ (inlX3 w h)) hown hK hP q9 hq9 rfl 6 (by decide) (jw hts gw477) (fun _ h9 => h9) rfl (dd_of dX3_hold_0 17 rfl) ?_
    refine lv_iconst (v := 1) hx hb (dd_of dX3_hold_0 18 rfl) (by decide) ?_
    refine lv_iadd hx hb (dd_of dX3_hold_0 19 rfl) ?_
    refine lv_bipush (v := 10) hx hb (dd_of dX3_hold_0 20 rfl) (by decide) ?_
    refine va_mmin hx hb (hml.trans hl.1.symm) hown (jw hts gw479) (jw hts gw94) (jw hts gw82) (jw hts gw95) (Nat.le_of_ble_eq_true rfl) (Nat.le_of_ble_eq_true rfl) (Nat.zero_le _) (Nat.zero_le _) (dd_of dX3_hold_0 21 rfl) ?_
    refine lv_topi (fun x70 ex70 => ?_)
    replace hres := bvE ex70 hres
    replace hok := bvO ex70 hok
    have h71 := hok
    obtain ⟨q9, hq9, hs9⟩ := lWs_dyke_breach (yy := yy) (B := B) (F := F65) (G := G66) (v := x70) h71
    refine va_put (D := D) (cl := vwCl) (tys := jT yy) (ci := 3) (v := .int x70) (ty := .int) (C := RX3) (T := TX3) (N := 7) hx hb hts (fun w h => List.mem_cons_of_mem _ (inlX3 w h)) tyX3 tyX3_ok nmX3 hown hK hP hD hS q9 hq9 rfl 6 (by decide) (jw hts gw477) (fun _ h9 => h9) rfl (by decide +kernel) rfl rfl (Nat.le_of_ble_eq_true rfl) (dd_of dX3_hold_0 22 rfl) (fun H locs hP hD hS => ?_)
    obtain ⟨F72, e73⟩ : ∃ z : jF, z = u2 F65 39 k0 x70 := ⟨_, rfl⟩
    have hP : va_P D vwCl (lW yy B F72 G66) H := by rw [e73, ← hs9]; exact hP
    have hD : va_D Z (lW yy B F72 G66) := by rw [e73, ← hs9]; exact hD
    replace hres := bvE e73 hres
    subst hQ
    exact W.vret hx hb hr (fun t ht hW => ⟨⟨(F72, G66), rfl, hres, by rw [ht]; exact hP, va_K.moved hW.alike hK, hD⟩, hS.F ht⟩) hS.2.2 (dd_of dX3_hold_0 23 rfl) hlk
set_option maxHeartbeats 4000000 in
set_option maxRecDepth 100000 in
theorem qX3_isHurt (l : Launch) (D : va_G) (yy : Nat → ClassId) (B : Nat → Nat) (F : jF) (G : jG) (k0 : Nat)  (hok : okX3_isHurt F G k0 ) : Met l yX3_isHurt (Cond.code yX3_isHurt cX3_isHurt 1 (some .boolean) :: wsL_law) rmX3_isHurt (va_Pc [.ref (B (400 + k0))] (jR D yy (lW yy B F G))) (vp_Si (fun r => r = gX3_isHurt F G k0 )) 0 0 (fun _ => False) := by
  generalize hres : gX3_isHurt F G k0  = RES
  refine jM (vs := [.ref (B (400 + k0))]) (own := RX3) (by decide +kernel) rfl (Nat.le_of_ble_eq_true rfl) ?_
  intro p e s m args below meth c ls Q hQ hargs S hr hlk hinit hB hl
  obtain ⟨hx, hb, hml, hown, hts⟩ := S
  have hl : lv_has ls 1 [(0, .ref (B (400 + k0)))] := hl
  obtain ⟨hP, hK⟩ := hB
  unfold gX3_isHurt at hres
  unfold okX3_isHurt at hok
  refine lv_aload_n hx hb (dd_of dX3_isHurt_0 0 rfl) rfl (lv_at hl 0 rfl) ?_
  have h1 := hok.1
  replace hok := hok.2
  obtain ⟨q9, hq9⟩ := lWg_dyke (yy := yy) (B := B) (F := F) (G := G) h1
  refine va_get (D := D) (cl := vwCl) (tys := jT yy) (ci := 3) (v := .int (F 39 k0)) (C := RX3) (T := TX3) (N := 7) hx hb hts (fun w h => List.mem_cons_of_mem _ (inlX3 w h)) hown hK hP q9 hq9 rfl 6 (by decide) (jw hts gw477) (fun _ h9 => h9) rfl (dd_of dX3_isHurt_0 1 rfl) ?_
  refine lv_if_gt (tgt := 16) hx hb (dd_of dX3_isHurt_0 2 rfl) (by decide) (fun c2 => ?_) (fun c2 => ?_)
  · replace hres := ifE c2 hres
    refine lv_iconst (v := 1) hx hb (dd_of dX3_isHurt_0 8 rfl) (by decide) ?_
    refine lv_goto (tgt := 21) hx hb (dd_of dX3_isHurt_0 9 rfl) (by decide) ?_
    subst hQ
    exact W.zret (ty := .boolean) (v := 1) hx hb hr (jb_nz (Or.inr rfl)) (fun t ht _ => ⟨_, rfl, hres, ht⟩) (fun _ h => absurd h List.not_mem_nil) (dd_of dX3_isHurt_0 11 rfl) hlk
  · replace hres := ifN c2 hres
    replace hok := hok.2 c2
    refine lv_aload_n hx hb (dd_of dX3_isHurt_0 3 rfl) rfl (lv_at hl 0 rfl) ?_
    have h3 := hok
    obtain ⟨q9, hq9⟩ := lWg_dyke (yy := yy) (B := B) (F := F) (G := G) h3
    refine va_get (D := D) (cl := vwCl) (tys := jT yy) (ci := 3) (v := .long (G 61 k0)) (C := RX3) (T := TX3) (N := 7) hx hb hts (fun w h => List.mem_cons_of_mem _ (inlX3 w h)) hown hK hP q9 hq9 rfl 5 (by decide) (jw hts gw482) (fun _ h9 => h9) rfl (dd_of dX3_isHurt_0 4 rfl) ?_
    refine lv_lconst (v := 0) hx hb (dd_of dX3_isHurt_0 5 rfl) (by decide) ?_
    refine jl_le (tgt := 20) hx hb (dd_of dX3_isHurt_0 6 rfl) (dd_of dX3_isHurt_0 7 rfl) (by decide) (fun c4 => ?_) (fun c4 => ?_)
    · replace hres := ifE c4 hres
      refine lv_iconst (v := 0) hx hb (dd_of dX3_isHurt_0 10 rfl) (by decide) ?_
      subst hQ
      exact W.zret (ty := .boolean) (v := 0) hx hb hr (jb_nz (Or.inl rfl)) (fun t ht _ => ⟨_, rfl, hres, ht⟩) (fun _ h => absurd h List.not_mem_nil) (dd_of dX3_isHurt_0 11 rfl) hlk
    · replace hres := ifN c4 hres
      refine lv_iconst (v := 1) hx hb (dd_of dX3_isHurt_0 8 rfl) (by decide) ?_
      refine lv_goto (tgt := 21) hx hb (dd_of dX3_isHurt_0 9 rfl) (by decide) ?_
      subst hQ
      exact W.zret (ty := .boolean) (v := 1) hx hb hr (jb_nz (Or.inr rfl)) (fun t ht _ => ⟨_, rfl, hres, ht⟩) (fun _ h => absurd h List.not_mem_nil) (dd_of dX3_isHurt_0 11 rfl) hlk
set_option maxHeartbeats 4000000 in
set_option maxRecDepth 100000 in
theorem qX3_bag (l : Launch) (D : va_G) (yy : Nat → ClassId) (B : Nat → Nat) (F : jF) (G : jG) (sz : Nat) (k0 : Nat)  (hok : okX3_bag F G k0 ) : Met l yX3_bag (Cond.code yX3_bag cX3_bag 1 none :: wsL_law) rmX3_bag (va_Pc [.ref (B (400 + k0))] (jP D yy (lW yy B F G) sz)) (va_Qv (fun u : jS => u = gX3_bag F G k0 ) (fun (u : jS) t => jB D yy (va_A (lW yy B F G) sz) (lW yy B u.1 u.2) t) (va_A (lW yy B F G) sz)) 0 0 (va_A (lW yy B F G) sz) := by
  generalize hres : gX3_bag F G k0  = RES
  refine jM (vs := [.ref (B (400 + k0))]) (own := RX3) (by decide +kernel) rfl (Nat.le_of_ble_eq_true rfl) ?_
  intro p e s m args below meth c ls Q hQ hargs S hr hlk hinit hB hl
  obtain ⟨hx, hb, hml, hown, hts⟩ := S
  have hl : lv_has ls 1 [(0, .ref (B (400 + k0)))] := hl
  obtain ⟨hsz, hP, hK, hD0⟩ := hB
  subst hsz
  have hD := hD0.self (sz := s.heap.size)
  generalize hZ : va_A (lW yy B F G) s.heap.size = Z at hD hQ
  have hA : ∀ q : Nat, s.heap.size ≤ q → Z q := fun q h => by rw [← hZ]; exact Or.inr h
  obtain ⟨H, hH⟩ : ∃ z, z = s.heap := ⟨_, rfl⟩
  obtain ⟨locs, hlocs⟩ : ∃ z : List Loc, z = [] := ⟨_, rfl⟩
  have hS : va_S Z s.heap H locs := by rw [hH, hlocs]; exact va_S.rf
  rw [← hH] at hP
  suffices hgo : W p l e rmX3_bag s m args below meth c H locs 0 0 Q (F0 m 0 ls []) by rw [hH, hlocs] at hgo; exact hgo
  unfold gX3_bag at hres
  unfold okX3_bag at hok
  refine lv_aload_n hx hb (dd_of dX3_bag_0 0 rfl) rfl (lv_at hl 0 rfl) ?_
  have h1 := hok.1
  replace hok := hok.2
  obtain ⟨q9, hq9⟩ := lWg_dyke (yy := yy) (B := B) (F := F) (G := G) h1
  refine va_get (D := D) (cl := vwCl) (tys := jT yy) (ci := 3) (v := .int (F 39 k0)) (C := RX3) (T := TX3) (N := 7) hx hb hts (fun w h => List.mem_cons_of_mem _ (inlX3 w h)) hown hK hP q9 hq9 rfl 6 (by decide) (jw hts gw477) (fun _ h9 => h9) rfl (dd_of dX3_bag_0 1 rfl) ?_
  refine lv_if_gt (tgt := 24) hx hb (dd_of dX3_bag_0 2 rfl) (by decide) (fun c2 => ?_) (fun c2 => ?_)
  · replace hres := ifE c2 hres
    replace hok := hok.1 c2
    refine lv_aload_n hx hb (dd_of dX3_bag_0 12 rfl) rfl (lv_at hl 0 rfl) ?_
    refine lv_iconst (v := 0) hx hb (dd_of dX3_bag_0 13 rfl) (by decide) ?_
    refine lv_aload_n hx hb (dd_of dX3_bag_0 14 rfl) rfl (lv_at hl 0 rfl) ?_
    have h3 := hok.1
    replace hok := hok.2
    obtain ⟨q9, hq9⟩ := lWg_dyke (yy := yy) (B := B) (F := F) (G := G) h3
    refine va_get (D := D) (cl := vwCl) (tys := jT yy) (ci := 3) (v := .int (F 39 k0)) (C := RX3) (T := TX3) (N := 7) hx hb hts (fun w h => List.mem_cons_of_mem _ (inlX3 w h)) hown hK hP q9 hq9 rfl 6 (by decide) (jw hts gw477) (fun _ h9 => h9) rfl (dd_of dX3_bag_0 15 rfl) ?_
    refine lv_iconst (v := 3) hx hb (dd_of dX3_bag_0 16 rfl) (by decide) ?_
    refine lv_isub hx hb (dd_of dX3_bag_0 17 rfl) ?_
    refine va_mmax hx hb (hml.trans hl.1.symm) hown (jw hts gw553) (jw hts gw554) (jw hts gw82) (jw hts gw555) (Nat.le_of_ble_eq_true rfl) (Nat.le_of_ble_eq_true rfl) (Nat.zero_le _) (Nat.zero_le _) (dd_of dX3_bag_0 18 rfl) ?_
    refine lv_topi (fun x4 ex4 => ?_)
    replace hres := bvE ex4 hres
    replace hok := bvO ex4 hok
    have h5 := hok.1
    replace hok := hok.2
    obtain ⟨q9, hq9, hs9⟩ := lWs_dyke_breach (yy := yy) (B := B) (F := F) (G := G) (v := x4) h5
    refine va_put (D := D) (cl := vwCl) (tys := jT yy) (ci := 3) (v := .int x4) (ty := .int) (C := RX3) (T := TX3) (N := 7) hx hb hts (fun w h => List.mem_cons_of_mem _ (inlX3 w h)) tyX3 tyX3_ok nmX3 hown hK hP hD hS q9 hq9 rfl 6 (by decide) (jw hts gw477) (fun _ h9 => h9) rfl (by decide +kernel) rfl rfl (Nat.le_of_ble_eq_true rfl) (dd_of dX3_bag_0 19 rfl) (fun H locs hP hD hS => ?_)
    obtain ⟨F6, e7⟩ : ∃ z : jF, z = u2 F 39 k0 x4 := ⟨_, rfl⟩
    have hP : va_P D vwCl (lW yy B F6 G) H := by rw [e7, ← hs9]; exact hP
    have hD : va_D Z (lW yy B F6 G) := by rw [e7, ← hs9]; exact hD
    replace hres := bvE e7 hres
    replace hok := bvO e7 hok
    refine lv_aload_n hx hb (dd_of dX3_bag_0 20 rfl) rfl (lv_at hl 0 rfl) ?_
    have h8 := hok.1
    replace hok := hok.2
    obtain ⟨q9, hq9⟩ := lWg_dyke (yy := yy) (B := B) (F := F6) (G := G) h8
    refine va_get (D := D) (cl := vwCl) (tys := jT yy) (ci := 3) (v := .int (F6 39 k0)) (C := RX3) (T := TX3) (N := 7) hx hb hts (fun w h => List.mem_cons_of_mem _ (inlX3 w h)) hown hK hP q9 hq9 rfl 6 (by decide) (jw hts gw477) (fun _ h9 => h9) rfl (dd_of dX3_bag_0 21 rfl) ?_
    refine lv_if_ne (tgt := 50) hx hb (dd_of dX3_bag_0 22 rfl) (by decide) (fun c9 => ?_) (fun c9 => ?_)
    · replace hres := ifN c9 hres
      subst hQ
      exact W.vret hx hb hr (fun t ht hW => ⟨⟨(F6, G), rfl, hres, by rw [ht]; exact hP, va_K.moved hW.alike hK, hD⟩, hS.F ht⟩) hS.2.2 (dd_of dX3_bag_0 26 rfl) hlk
    · replace hres := ifE c9 hres
      replace hok := hok.1 c9
      refine lv_aload_n hx hb (dd_of dX3_bag_0 23 rfl) rfl (lv_at hl 0 rfl) ?_
      refine lv_lconst (v := 0) hx hb (dd_of dX3_bag_0 24 rfl) (by decide) ?_
      have h10 := hok
      obtain ⟨q9, hq9, hs9⟩ := lWs_dyke_damage (yy := yy) (B := B) (F := F6) (G := G) (v := 0) h10
      refine va_put (D := D) (cl := vwCl) (tys := jT yy) (ci := 3) (v := .long 0) (ty := .long) (C := RX3) (T := TX3) (N := 7) hx hb hts (fun w h => List.mem_cons_of_mem _ (inlX3 w h)) tyX3 tyX3_ok nmX3 hown hK hP hD hS q9 hq9 rfl 5 (by decide) (jw hts gw482) (fun _ h9 => h9) rfl (by decide +kernel) rfl rfl (Nat.le_of_ble_eq_true rfl) (dd_of dX3_bag_0 25 rfl) (fun H locs hP hD hS => ?_)
      obtain ⟨G11, e12⟩ : ∃ z : jG, z = u2 G 61 k0 0 := ⟨_, rfl⟩
      have hP : va_P D vwCl (lW yy B F6 G11) H := by rw [e12, ← hs9]; exact hP
      have hD : va_D Z (lW yy B F6 G11) := by rw [e12, ← hs9]; exact hD
      replace hres := bvE e12 hres
      subst hQ
      exact W.vret hx hb hr (fun t ht hW => ⟨⟨(F6, G11), rfl, hres, by rw [ht]; exact hP, va_K.moved hW.alike hK, hD⟩, hS.F ht⟩) hS.2.2 (dd_of dX3_bag_0 26 rfl) hlk
  · replace hres := ifN c2 hres
    replace hok := hok.2 c2
    refine lv_aload_n hx hb (dd_of dX3_bag_0 3 rfl) rfl (lv_at hl 0 rfl) ?_
    refine lv_lconst (v := 0) hx hb (dd_of dX3_bag_0 4 rfl) (by decide) ?_
    refine lv_aload_n hx hb (dd_of dX3_bag_0 5 rfl) rfl (lv_at hl 0 rfl) ?_
    have h13 := hok.1
    replace hok := hok.2
    obtain ⟨q9, hq9⟩ := lWg_dyke (yy := yy) (B := B) (F := F) (G := G) h13
    refine va_get (D := D) (cl := vwCl) (tys := jT yy) (ci := 3) (v := .long (G 61 k0)) (C := RX3) (T := TX3) (N := 7) hx hb hts (fun w h => List.mem_cons_of_mem _ (inlX3 w h)) hown hK hP q9 hq9 rfl 5 (by decide) (jw hts gw482) (fun _ h9 => h9) rfl (dd_of dX3_bag_0 6 rfl) ?_
    refine lv_ldc2 (v := 15) hx hb hown (jw hts gw551) (dd_of dX3_bag_0 7 rfl) ?_
    refine lv_lsub hx hb (dd_of dX3_bag_0 8 rfl) ?_
    refine va_mmax_long hx hb (hml.trans hl.1.symm) hown (jw hts gw552) (jw hts gw81) (jw hts gw82) (jw hts gw83) (Nat.le_of_ble_eq_true rfl) (Nat.le_of_ble_eq_true rfl) (Nat.zero_le _) (Nat.zero_le _) (dd_of dX3_bag_0 9 rfl) ?_
    refine lv_topl (fun x14 ex14 => ?_)
    replace hres := bvE ex14 hres
    replace hok := bvO ex14 hok
    have h15 := hok
    obtain ⟨q9, hq9, hs9⟩ := lWs_dyke_damage (yy := yy) (B := B) (F := F) (G := G) (v := x14) h15
    refine va_put (D := D) (cl := vwCl) (tys := jT yy) (ci := 3) (v := .long x14) (ty := .long) (C := RX3) (T := TX3) (N := 7) hx hb hts (fun w h => List.mem_cons_of_mem _ (inlX3 w h)) tyX3 tyX3_ok nmX3 hown hK hP hD hS q9 hq9 rfl 5 (by decide) (jw hts gw482) (fun _ h9 => h9) rfl (by decide +kernel) rfl rfl (Nat.le_of_ble_eq_true rfl) (dd_of dX3_bag_0 10 rfl) (fun H locs hP hD hS => ?_)
    obtain ⟨G16, e17⟩ : ∃ z : jG, z = u2 G 61 k0 x14 := ⟨_, rfl⟩
    have hP : va_P D vwCl (lW yy B F G16) H := by rw [e17, ← hs9]; exact hP
    have hD : va_D Z (lW yy B F G16) := by rw [e17, ← hs9]; exact hD
    replace hres := bvE e17 hres
    subst hQ
    exact W.vret hx hb hr (fun t ht hW => ⟨⟨(F, G16), rfl, hres, by rw [ht]; exact hP, va_K.moved hW.alike hK, hD⟩, hS.F ht⟩) hS.2.2 (dd_of dX3_bag_0 11 rfl) hlk
set_option maxHeartbeats 4000000 in
set_option maxRecDepth 100000 in
theorem qX3_sumDyke (l : Launch) (D : va_G) (yy : Nat → ClassId) (B : Nat → Nat) (F : jF) (G : jG) (k0 : Nat) (p1 : Int64) (hok : okX3_sumDyke F G k0 p1) : Met l yX3_sumDyke (Cond.code yX3_sumDyke cX3_sumDyke 3 (some .long) :: wsL_law) rmX3_sumDyke (va_Pc [.ref (B (400 + k0)), .long p1] (jR D yy (lW yy B F G))) (vp_Sl (fun r => r = gX3_sumDyke F G k0 p1)) 0 0 (fun _ => False) := by
  generalize hres : gX3_sumDyke F G k0 p1 = RES
  refine jM (vs := [.ref (B (400 + k0)), .long p1]) (own := RX3) (by decide +kernel) rfl (Nat.le_of_ble_eq_true rfl) ?_
  intro p e s m args below meth c ls Q hQ hargs S hr hlk hinit hB hl
  obtain ⟨hx, hb, hml, hown, hts⟩ := S
  have hl : lv_has ls 3 [(0, .ref (B (400 + k0))), (1, .long p1)] := hl
  obtain ⟨hP, hK⟩ := hB
  unfold gX3_sumDyke at hres
  unfold okX3_sumDyke at hok
  refine lv_lload_n hx hb (dd_of dX3_sumDyke_0 0 rfl) rfl (lv_at hl 1 rfl) ?_
  refine lv_ldc2 (v := 31) hx hb hown (jw hts gw1241) (dd_of dX3_sumDyke_0 1 rfl) ?_
  refine lv_lmul hx hb (dd_of dX3_sumDyke_0 2 rfl) ?_
  refine lv_aload_n hx hb (dd_of dX3_sumDyke_0 3 rfl) rfl (lv_at hl 0 rfl) ?_
  have h1 := hok.1
  replace hok := hok.2
  obtain ⟨q9, hq9⟩ := lWg_dyke (yy := yy) (B := B) (F := F) (G := G) h1
  refine va_get (D := D) (cl := vwCl) (tys := jT yy) (ci := 3) (v := .int (F 35 k0)) (C := RX3) (T := TX3) (N := 7) hx hb hts (fun w h => List.mem_cons_of_mem _ (inlX3 w h)) hown hK hP q9 hq9 rfl 2 (by decide) (jw hts gw294) (fun _ h9 => h9) rfl (dd_of dX3_sumDyke_0 4 rfl) ?_
  refine lv_i2l (v := (Int32.toInt64 (F 35 k0))) hx hb (dd_of dX3_sumDyke_0 5 rfl) rfl ?_
  refine lv_ladd hx hb (dd_of dX3_sumDyke_0 6 rfl) ?_
  refine lv_ldc2 (v := 31) hx hb hown (jw hts gw1241) (dd_of dX3_sumDyke_0 7 rfl) ?_
  refine lv_lmul hx hb (dd_of dX3_sumDyke_0 8 rfl) ?_
  refine lv_aload_n hx hb (dd_of dX3_sumDyke_0 9 rfl) rfl (lv_at hl 0 rfl) ?_
  have h2 := hok.1
  replace hok := hok.2
  obtain ⟨q9, hq9⟩ := lWg_dyke (yy := yy) (B := B) (F := F) (G := G) h2
  refine va_get (D := D) (cl := vwCl) (tys := jT yy) (ci := 3) (v := .long (G 61 k0)) (C := RX3) (T := TX3) (N := 7) hx hb hts (fun w h => List.mem_cons_of_mem _ (inlX3 w h)) hown hK hP q9 hq9 rfl 5 (by decide) (jw hts gw482) (fun _ h9 => h9) rfl (dd_of dX3_sumDyke_0 10 rfl) ?_
  refine lv_ladd hx hb (dd_of dX3_sumDyke_0 11 rfl) ?_
  refine lv_ldc2 (v := 31) hx hb hown (jw hts gw1241) (dd_of dX3_sumDyke_0 12 rfl) ?_
  refine lv_lmul hx hb (dd_of dX3_sumDyke_0 13 rfl) ?_
  refine lv_aload_n hx hb (dd_of dX3_sumDyke_0 14 rfl) rfl (lv_at hl 0 rfl) ?_
  have h3 := hok
  obtain ⟨q9, hq9⟩ := lWg_dyke (yy := yy) (B := B) (F := F) (G := G) h3
  refine va_get (D := D) (cl := vwCl) (tys := jT yy) (ci := 3) (v := .int (F 39 k0)) (C := RX3) (T := TX3) (N := 7) hx hb hts (fun w h => List.mem_cons_of_mem _ (inlX3 w h)) hown hK hP q9 hq9 rfl 6 (by decide) (jw hts gw477) (fun _ h9 => h9) rfl (dd_of dX3_sumDyke_0 15 rfl) ?_
  refine lv_i2l (v := (Int32.toInt64 (F 39 k0))) hx hb (dd_of dX3_sumDyke_0 16 rfl) rfl ?_
  refine lv_ladd hx hb (dd_of dX3_sumDyke_0 17 rfl) ?_
  subst hQ
  exact W.lret (v := ((((((p1 * 31) + (Int32.toInt64 (F 35 k0))) * 31) + (G 61 k0)) * 31) + (Int32.toInt64 (F 39 k0)))) hx hb hr (fun t ht _ => ⟨_, rfl, hres, ht⟩) (fun _ h => absurd h List.not_mem_nil) (dd_of dX3_sumDyke_0 18 rfl) hlk
set_option maxHeartbeats 4000000 in
set_option maxRecDepth 100000 in
theorem qX4_lowerHasWorth (l : Launch) (D : va_G) (yy : Nat → ClassId) (B : Nat → Nat) (F : jF) (G : jG) (k0 : Nat)  (hok : okX4_lowerHasWorth F G k0 ) : Met l yX4_lowerHasWorth (Cond.code yX4_lowerHasWorth cX4_lowerHasWorth 5 (some .boolean) :: wsL_law) rmX4_lowerHasWorth (va_Pc [.ref (B (200 + k0)), .ref (B 1)] (jR D yy (lW yy B F G))) (vp_Si (fun r => r = gX4_lowerHasWorth F G k0 )) 0 0 (fun _ => False) := by
  generalize hres : gX4_lowerHasWorth F G k0  = RES
  refine jM (vs := [.ref (B (200 + k0)), .ref (B 1)]) (own := RX4) (by decide +kernel) rfl (Nat.le_of_ble_eq_true rfl) ?_
  intro p e s m args below meth c ls Q hQ hargs S hr hlk hinit hB hl
  obtain ⟨hx, hb, hml, hown, hts⟩ := S
  have hl : lv_has ls 5 [(0, .ref (B (200 + k0))), (1, .ref (B 1))] := hl
  obtain ⟨hP, hK⟩ := hB
  unfold gX4_lowerHasWorth at hres
  unfold okX4_lowerHasWorth at hok
  refine lv_aload_n hx hb (dd_of dX4_lowerHasWorth_0 0 rfl) rfl (lv_at hl 1 rfl) ?_
  refine lv_aload_n hx hb (dd_of dX4_lowerHasWorth_0 1 rfl) rfl (lv_at hl 0 rfl) ?_
  have h1 := hok.1
  replace hok := hok.2
  obtain ⟨q9, hq9⟩ := lWg_gate (yy := yy) (B := B) (F := F) (G := G) h1
  refine va_get (D := D) (cl := vwCl) (tys := jT yy) (ci := 4) (v := .int (F 18 k0)) (C := RX4) (T := TX4) (N := 5) hx hb hts (fun w h => List.mem_cons_of_mem _ (inlX4 w h)) hown hK hP q9 hq9 rfl 0 (by decide) (jw hts gw270) (fun _ h9 => h9) rfl (dd_of dX4_lowerHasWorth_0 2 rfl) ?_
  refine lv_aload_n hx hb (dd_of dX4_lowerHasWorth_0 3 rfl) rfl (lv_at hl 0 rfl) ?_
  have h2 := hok.1
  replace hok := hok.2
  obtain ⟨q9, hq9⟩ := lWg_gate (yy := yy) (B := B) (F := F) (G := G) h2
  refine va_get (D := D) (cl := vwCl) (tys := jT yy) (ci := 4) (v := .int (F 19 k0)) (C := RX4) (T := TX4) (N := 5) hx hb hts (fun w h => List.mem_cons_of_mem _ (inlX4 w h)) hown hK hP q9 hq9 rfl 1 (by decide) (jw hts gw271) (fun _ h9 => h9) rfl (dd_of dX4_lowerHasWorth_0 4 rfl) ?_
  have h3 := hok.1
  replace hok := hok.2
  refine jc_l (As := [.int (F 18 k0), .int (F 19 k0)]) (rest := []) (w := (lW yy B F G)) (D := D) (yy := yy) ⟨hx, hb, hml, hown, hts⟩ (qX10_above l D yy B F G  (F 18 k0) (F 19 k0) h3) (cwV 2 hts (jgV gw374 gw355 gw356 gw26 gw357) rfl rfl rfl (by decide +kernel) ⟨Nat.le_of_ble_eq_true rfl, Nat.le_of_ble_eq_true rfl⟩) hP hK (va_recv hK hP (ci := 10) (q0 := 1) rfl rfl) rfl hl.1 rfl (Nat.le_of_ble_eq_true rfl) (dd_of dX4_lowerHasWorth_0 5 rfl) ⟨Nat.zero_le _, Nat.zero_le _⟩ (fun x4 ex4 => ?_)
  replace hres := bvE ex4 hres
  replace hok := bvO ex4 hok
  refine lv_lstore_n (lv' := [(2, .long x4), (0, .ref (B (200 + k0))), (1, .ref (B 1))]) hx hb (dd_of dX4_lowerHasWorth_0 6 rfl) rfl hl (by decide) rfl (fun ls hl => ?_)
  refine lv_lload_n hx hb (dd_of dX4_lowerHasWorth_0 7 rfl) rfl (lv_at hl 0 rfl) ?_
  refine lv_lconst (v := 0) hx hb (dd_of dX4_lowerHasWorth_0 8 rfl) (by decide) ?_
  refine jl_ne (tgt := 21) hx hb (dd_of dX4_lowerHasWorth_0 9 rfl) (dd_of dX4_lowerHasWorth_0 10 rfl) (by decide) (fun c5 => ?_) (fun c5 => ?_)
  · replace hres := ifN c5 hres
    replace hok := hok.2 c5
    refine lv_aload_n hx hb (dd_of dX4_lowerHasWorth_0 13 rfl) rfl (lv_at hl 2 rfl) ?_
    refine lv_lload_n hx hb (dd_of dX4_lowerHasWorth_0 14 rfl) rfl (lv_at hl 0 rfl) ?_
    refine lv_lconst (v := 0) hx hb (dd_of dX4_lowerHasWorth_0 15 rfl) (by decide) ?_
    obtain ⟨z16, q15⟩ : ∃ z : Int32, (if x4 ≤ 0 then (F 18 k0) else (F 19 k0)) = z := ⟨_, rfl⟩
    have o18 := hok.1
    replace hok := hok.2
    refine jn_i (ls := ls) (v := z16) 39 [.ref (B 1)] (fun v9 ev9 => ?_) (fun K17 => ?_)
    · replace hres := bvE (ev9.trans q15.symm) hres
      replace hok := bvO (ev9.trans q15.symm) hok
      have h10 := hok.1
      replace hok := hok.2
      refine jc_q (As := [.int v9]) (rest := []) (w := (lW yy B F G)) (D := D) (yy := yy) (B := B) (off := 100) ⟨hx, hb, hml, hown, hts⟩ (qX10_basinAt l D yy B F G  v9 h10) (cwV 1 hts (jgV gw375 gw231 gw232 gw26 gw233) rfl rfl rfl (by decide +kernel) ⟨Nat.le_of_ble_eq_true rfl, Nat.le_of_ble_eq_true rfl⟩) hP hK (va_recv hK hP (ci := 10) (q0 := 1) rfl rfl) rfl hl.1 rfl (Nat.le_of_ble_eq_true rfl) (dd_of dX4_lowerHasWorth_0 23 rfl) ⟨Nat.zero_le _, Nat.zero_le _⟩ (fun o11 eo11 => ?_)
      replace hres := bvE eo11 hres
      replace hok := bvO eo11 hok
      rcases o11 with _ | k12
      · replace hres := omN hres
        replace hok := opN hok
        refine lv_astoreN (lv' := [(4, .null), (2, .long x4), (0, .ref (B (200 + k0))), (1, .ref (B 1))]) hx hb (dd_of dX4_lowerHasWorth_0 24 rfl) hl (by decide) rfl (fun ls hl => ?_)
        refine lv_aloadN hx hb (dd_of dX4_lowerHasWorth_0 25 rfl) (lv_at hl 0 rfl) ?_
        refine lv_ifnullN (tgt := 61) hx hb (dd_of dX4_lowerHasWorth_0 26 rfl) (by decide) ?_
        refine lv_iconst (v := 0) hx hb (dd_of dX4_lowerHasWorth_0 32 rfl) (by decide) ?_
        subst hQ
        exact W.zret (ty := .boolean) (v := 0) hx hb hr (jb_nz (Or.inl rfl)) (fun t ht _ => ⟨_, rfl, hres, ht⟩) (fun _ h => absurd h List.not_mem_nil) (dd_of dX4_lowerHasWorth_0 33 rfl) hlk
      · replace hres := omS hres
        replace hok := opS hok
        refine lv_astore (lv' := [(4, .ref (B (100 + k12))), (2, .long x4), (0, .ref (B (200 + k0))), (1, .ref (B 1))]) hx hb (dd_of dX4_lowerHasWorth_0 24 rfl) hl (by decide) rfl (fun ls hl => ?_)
        refine lv_aload hx hb (dd_of dX4_lowerHasWorth_0 25 rfl) (lv_at hl 0 rfl) ?_
        refine lv_ifnull hx hb (dd_of dX4_lowerHasWorth_0 26 rfl) ?_
        refine lv_aload hx hb (dd_of dX4_lowerHasWorth_0 27 rfl) (lv_at hl 0 rfl) ?_
        have h13 := hok
        obtain ⟨q9, hq9⟩ := lWg_basin (yy := yy) (B := B) (F := F) (G := G) h13
        refine va_get (D := D) (cl := vwCl) (tys := jT yy) (ci := 0) (v := .int (F 13 k12)) (C := RX0) (T := TX0) (N := 7) hx hb hts (fun w h => List.mem_cons_of_mem _ (inlX0 w h)) hown hK hP q9 hq9 rfl 5 (by decide) (jw hts gw373) (fun _ h9 => h9) rfl (dd_of dX4_lowerHasWorth_0 28 rfl) ?_
        refine lv_if_le (tgt := 61) hx hb (dd_of dX4_lowerHasWorth_0 29 rfl) (by decide) (fun c14 => ?_) (fun c14 => ?_)
        · replace hres := ifE c14 hres
          refine lv_iconst (v := 0) hx hb (dd_of dX4_lowerHasWorth_0 32 rfl) (by decide) ?_
          subst hQ
          exact W.zret (ty := .boolean) (v := 0) hx hb hr (jb_nz (Or.inl rfl)) (fun t ht _ => ⟨_, rfl, hres, ht⟩) (fun _ h => absurd h List.not_mem_nil) (dd_of dX4_lowerHasWorth_0 33 rfl) hlk
        · replace hres := ifN c14 hres
          refine lv_iconst (v := 1) hx hb (dd_of dX4_lowerHasWorth_0 30 rfl) (by decide) ?_
          refine lv_goto (tgt := 62) hx hb (dd_of dX4_lowerHasWorth_0 31 rfl) (by decide) ?_
          subst hQ
          exact W.zret (ty := .boolean) (v := 1) hx hb hr (jb_nz (Or.inr rfl)) (fun t ht _ => ⟨_, rfl, hres, ht⟩) (fun _ h => absurd h List.not_mem_nil) (dd_of dX4_lowerHasWorth_0 33 rfl) hlk
    · skip
      refine jl_le (tgt := 35) hx hb (dd_of dX4_lowerHasWorth_0 16 rfl) (dd_of dX4_lowerHasWorth_0 17 rfl) (by decide) (fun c6 => ?_) (fun c6 => ?_)
      · replace q15 := ifE c6 q15
        replace o18 := o18.1 c6
        refine lv_aload_n hx hb (dd_of dX4_lowerHasWorth_0 21 rfl) rfl (lv_at hl 1 rfl) ?_
        have h7 := o18
        obtain ⟨q9, hq9⟩ := lWg_gate (yy := yy) (B := B) (F := F) (G := G) h7
        refine va_get (D := D) (cl := vwCl) (tys := jT yy) (ci := 4) (v := .int (F 18 k0)) (C := RX4) (T := TX4) (N := 5) hx hb hts (fun w h => List.mem_cons_of_mem _ (inlX4 w h)) hown hK hP q9 hq9 rfl 0 (by decide) (jw hts gw270) (fun _ h9 => h9) rfl (dd_of dX4_lowerHasWorth_0 22 rfl) ?_
        exact K17 _ q15
      · replace q15 := ifN c6 q15
        replace o18 := o18.2 c6
        refine lv_aload_n hx hb (dd_of dX4_lowerHasWorth_0 18 rfl) rfl (lv_at hl 1 rfl) ?_
        have h8 := o18
        obtain ⟨q9, hq9⟩ := lWg_gate (yy := yy) (B := B) (F := F) (G := G) h8
        refine va_get (D := D) (cl := vwCl) (tys := jT yy) (ci := 4) (v := .int (F 19 k0)) (C := RX4) (T := TX4) (N := 5) hx hb hts (fun w h => List.mem_cons_of_mem _ (inlX4 w h)) hown hK hP q9 hq9 rfl 1 (by decide) (jw hts gw271) (fun _ h9 => h9) rfl (dd_of dX4_lowerHasWorth_0 19 rfl) ?_
        refine lv_goto (tgt := 39) hx hb (dd_of dX4_lowerHasWorth_0 20 rfl) (by decide) ?_
        exact K17 _ q15
  · replace hres := ifE c5 hres
    refine lv_iconst (v := 0) hx hb (dd_of dX4_lowerHasWorth_0 11 rfl) (by decide) ?_
    subst hQ
    exact W.zret (ty := .boolean) (v := 0) hx hb hr (jb_nz (Or.inl rfl)) (fun t ht _ => ⟨_, rfl, hres, ht⟩) (fun _ h => absurd h List.not_mem_nil) (dd_of dX4_lowerHasWorth_0 12 rfl) hlk
set_option maxHeartbeats 4000000 in
set_option maxRecDepth 100000 in
theorem qX4_obey (l : Launch) (D : va_G) (yy : Nat → ClassId) (B : Nat → Nat) (F : jF) (G : jG) (sz : Nat) (k0 : Nat) (p2 : Int32) (p3 : Int32) (hok : okX4_obey F G k0 p2 p3) : Met l yX4_obey (Cond.code yX4_obey cX4_obey 4 (some .int) :: wsL_law) rmX4_obey (va_Pc [.ref (B (200 + k0)), .ref (B 1), .int p2, .int p3] (jP D yy (lW yy B F G) sz)) (va_Qi (fun r (u : jS) => (r, u) = gX4_obey F G k0 p2 p3) (fun (u : jS) t => jB D yy (va_A (lW yy B F G) sz) (lW yy B u.1 u.2) t) (va_A (lW yy B F G) sz)) 0 0 (va_A (lW yy B F G) sz) := by
  generalize hres : gX4_obey F G k0 p2 p3 = RES
  refine jM (vs := [.ref (B (200 + k0)), .ref (B 1), .int p2, .int p3]) (own := RX4) (by decide +kernel) rfl (Nat.le_of_ble_eq_true rfl) ?_
  intro p e s m args below meth c ls Q hQ hargs S hr hlk hinit hB hl
  obtain ⟨hx, hb, hml, hown, hts⟩ := S
  have hl : lv_has ls 4 [(0, .ref (B (200 + k0))), (1, .ref (B 1)), (2, .int p2), (3, .int p3)] := hl
  obtain ⟨hsz, hP, hK, hD0⟩ := hB
  subst hsz
  have hD := hD0.self (sz := s.heap.size)
  generalize hZ : va_A (lW yy B F G) s.heap.size = Z at hD hQ
  have hA : ∀ q : Nat, s.heap.size ≤ q → Z q := fun q h => by rw [← hZ]; exact Or.inr h
  obtain ⟨H, hH⟩ : ∃ z, z = s.heap := ⟨_, rfl⟩
  obtain ⟨locs, hlocs⟩ : ∃ z : List Loc, z = [] := ⟨_, rfl⟩
  have hS : va_S Z s.heap H locs := by rw [hH, hlocs]; exact va_S.rf
  rw [← hH] at hP
  suffices hgo : W p l e rmX4_obey s m args below meth c H locs 0 0 Q (F0 m 0 ls []) by rw [hH, hlocs] at hgo; exact hgo
  unfold gX4_obey at hres
  unfold okX4_obey at hok
  refine lv_iload_n hx hb (dd_of dX4_obey_0 0 rfl) rfl (lv_at hl 3 rfl) ?_
  refine lv_aload_n hx hb (dd_of dX4_obey_0 1 rfl) rfl (lv_at hl 0 rfl) ?_
  have h1 := hok.1
  replace hok := hok.2
  obtain ⟨q9, hq9⟩ := lWg_gate (yy := yy) (B := B) (F := F) (G := G) h1
  refine va_get (D := D) (cl := vwCl) (tys := jT yy) (ci := 4) (v := .int (F 21 k0)) (C := RX4) (T := TX4) (N := 5) hx hb hts (fun w h => List.mem_cons_of_mem _ (inlX4 w h)) hown hK hP q9 hq9 rfl 3 (by decide) (jw hts gw273) (fun _ h9 => h9) rfl (dd_of dX4_obey_0 2 rfl) ?_
  refine lv_icmp_ge (tgt := 10) hx hb (dd_of dX4_obey_0 3 rfl) (by decide) (fun c2 => ?_) (fun c2 => ?_)
  · replace hres := ifE c2 hres
    replace hok := hok.1 c2
    refine lv_iload_n hx hb (dd_of dX4_obey_0 6 rfl) rfl (lv_at hl 2 rfl) ?_
    refine lv_if_eq (tgt := 31) hx hb (dd_of dX4_obey_0 7 rfl) (by decide) (fun c3 => ?_) (fun c3 => ?_)
    · replace hres := ifE c3 hres
      replace hok := hok.1 c3
      refine lv_iload_n hx hb (dd_of dX4_obey_0 17 rfl) rfl (lv_at hl 2 rfl) ?_
      refine lv_if_eq (tgt := 50) hx hb (dd_of dX4_obey_0 18 rfl) (by decide) (fun c4 => ?_) (fun c4 => ?_)
      · replace hres := ifE c4 hres
        replace hok := hok.1 c4
        refine lv_aload_n hx hb (dd_of dX4_obey_0 28 rfl) rfl (lv_at hl 0 rfl) ?_
        refine lv_iload_n hx hb (dd_of dX4_obey_0 29 rfl) rfl (lv_at hl 2 rfl) ?_
        have h5 := hok.1
        replace hok := hok.2
        have h6 := hok
        obtain ⟨q9, hq9, hs9⟩ := lWs_gate_open (yy := yy) (B := B) (F := F) (G := G) (v := p2) h6
        refine va_put (D := D) (cl := vwCl) (tys := jT yy) (ci := 4) (v := .int p2) (ty := .boolean) (C := RX4) (T := TX4) (N := 5) hx hb hts (fun w h => List.mem_cons_of_mem _ (inlX4 w h)) tyX4 tyX4_ok nmX4 hown hK hP hD hS q9 hq9 rfl 4 (by decide) (jw hts gw349) (fun _ h9 => h9) rfl (by decide +kernel) (jb_nz h5) (jb_fit h5) (Nat.le_of_ble_eq_true rfl) (dd_of dX4_obey_0 30 rfl) (fun H locs hP hD hS => ?_)
        obtain ⟨F7, e8⟩ : ∃ z : jF, z = u2 F 22 k0 p2 := ⟨_, rfl⟩
        have hP : va_P D vwCl (lW yy B F7 G) H := by rw [e8, ← hs9]; exact hP
        have hD : va_D Z (lW yy B F7 G) := by rw [e8, ← hs9]; exact hD
        replace hres := bvE e8 hres
        refine lv_iconst (v := 0) hx hb (dd_of dX4_obey_0 31 rfl) (by decide) ?_
        subst hQ
        exact W.iret (v := 0) hx hb hr (fun t ht hW => ⟨⟨0, (F7, G), rfl, hres, by rw [ht]; exact hP, va_K.moved hW.alike hK, hD⟩, hS.F ht⟩) hS.2.2 (dd_of dX4_obey_0 32 rfl) hlk
      · replace hres := ifN c4 hres
        replace hok := hok.2 c4
        refine lv_iload_n hx hb (dd_of dX4_obey_0 19 rfl) rfl (lv_at hl 3 rfl) ?_
        refine lv_iconst (v := 3) hx hb (dd_of dX4_obey_0 20 rfl) (by decide) ?_
        refine lv_icmp_ge (tgt := 50) hx hb (dd_of dX4_obey_0 21 rfl) (by decide) (fun c9 => ?_) (fun c9 => ?_)
        · replace hres := ifE c9 hres
          replace hok := hok.1 c9
          refine lv_aload_n hx hb (dd_of dX4_obey_0 28 rfl) rfl (lv_at hl 0 rfl) ?_
          refine lv_iload_n hx hb (dd_of dX4_obey_0 29 rfl) rfl (lv_at hl 2 rfl) ?_
          have h10 := hok.1
          replace hok := hok.2
          have h11 := hok
          obtain ⟨q9, hq9, hs9⟩ := lWs_gate_open (yy := yy) (B := B) (F := F) (G := G) (v := p2) h11
          refine va_put (D := D) (cl := vwCl) (tys := jT yy) (ci := 4) (v := .int p2) (ty := .boolean) (C := RX4) (T := TX4) (N := 5) hx hb hts (fun w h => List.mem_cons_of_mem _ (inlX4 w h)) tyX4 tyX4_ok nmX4 hown hK hP hD hS q9 hq9 rfl 4 (by decide) (jw hts gw349) (fun _ h9 => h9) rfl (by decide +kernel) (jb_nz h10) (jb_fit h10) (Nat.le_of_ble_eq_true rfl) (dd_of dX4_obey_0 30 rfl) (fun H locs hP hD hS => ?_)
          obtain ⟨F12, e13⟩ : ∃ z : jF, z = u2 F 22 k0 p2 := ⟨_, rfl⟩
          have hP : va_P D vwCl (lW yy B F12 G) H := by rw [e13, ← hs9]; exact hP
          have hD : va_D Z (lW yy B F12 G) := by rw [e13, ← hs9]; exact hD
          replace hres := bvE e13 hres
          refine lv_iconst (v := 0) hx hb (dd_of dX4_obey_0 31 rfl) (by decide) ?_
          subst hQ
          exact W.iret (v := 0) hx hb hr (fun t ht hW => ⟨⟨0, (F12, G), rfl, hres, by rw [ht]; exact hP, va_K.moved hW.alike hK, hD⟩, hS.F ht⟩) hS.2.2 (dd_of dX4_obey_0 32 rfl) hlk
        · replace hres := ifN c9 hres
          replace hok := hok.2 c9
          refine lv_aload_n hx hb (dd_of dX4_obey_0 22 rfl) rfl (lv_at hl 0 rfl) ?_
          refine lv_aload_n hx hb (dd_of dX4_obey_0 23 rfl) rfl (lv_at hl 1 rfl) ?_
          have h14 := hok.1
          replace hok := hok.2
          have h15 := hok.1
          replace hok := hok.2
          obtain ⟨q9, hq9⟩ := lWg_gate (yy := yy) (B := B) (F := F) (G := G) h14
          refine jc_i (As := [.ref (B 1)]) (rest := []) (w := (lW yy B F G)) (D := D) (yy := yy) ⟨hx, hb, hml, hown, hts⟩ (qX4_lowerHasWorth l D yy B F G k0  h15) (cwV 1 hts (jgV gw369 gw370 gw371 gw265 gw372) rfl rfl rfl (by decide +kernel) ⟨Nat.le_of_ble_eq_true rfl, Nat.le_of_ble_eq_true rfl⟩) hP hK (va_recv hK hP (ci := 4) (q0 := q9) rfl hq9) rfl hl.1 rfl (Nat.le_of_ble_eq_true rfl) (dd_of dX4_obey_0 24 rfl) ⟨Nat.zero_le _, Nat.zero_le _⟩ (fun x16 ex16 => ?_)
          replace hres := bvE ex16 hres
          replace hok := bvO ex16 hok
          refine lv_if_eq (tgt := 50) hx hb (dd_of dX4_obey_0 25 rfl) (by decide) (fun c17 => ?_) (fun c17 => ?_)
          · replace hres := ifE c17 hres
            replace hok := hok.1 c17
            refine lv_aload_n hx hb (dd_of dX4_obey_0 28 rfl) rfl (lv_at hl 0 rfl) ?_
            refine lv_iload_n hx hb (dd_of dX4_obey_0 29 rfl) rfl (lv_at hl 2 rfl) ?_
            have h18 := hok.1
            replace hok := hok.2
            have h19 := hok
            obtain ⟨q9, hq9, hs9⟩ := lWs_gate_open (yy := yy) (B := B) (F := F) (G := G) (v := p2) h19
            refine va_put (D := D) (cl := vwCl) (tys := jT yy) (ci := 4) (v := .int p2) (ty := .boolean) (C := RX4) (T := TX4) (N := 5) hx hb hts (fun w h => List.mem_cons_of_mem _ (inlX4 w h)) tyX4 tyX4_ok nmX4 hown hK hP hD hS q9 hq9 rfl 4 (by decide) (jw hts gw349) (fun _ h9 => h9) rfl (by decide +kernel) (jb_nz h18) (jb_fit h18) (Nat.le_of_ble_eq_true rfl) (dd_of dX4_obey_0 30 rfl) (fun H locs hP hD hS => ?_)
            obtain ⟨F20, e21⟩ : ∃ z : jF, z = u2 F 22 k0 p2 := ⟨_, rfl⟩
            have hP : va_P D vwCl (lW yy B F20 G) H := by rw [e21, ← hs9]; exact hP
            have hD : va_D Z (lW yy B F20 G) := by rw [e21, ← hs9]; exact hD
            replace hres := bvE e21 hres
            refine lv_iconst (v := 0) hx hb (dd_of dX4_obey_0 31 rfl) (by decide) ?_
            subst hQ
            exact W.iret (v := 0) hx hb hr (fun t ht hW => ⟨⟨0, (F20, G), rfl, hres, by rw [ht]; exact hP, va_K.moved hW.alike hK, hD⟩, hS.F ht⟩) hS.2.2 (dd_of dX4_obey_0 32 rfl) hlk
          · replace hres := ifN c17 hres
            refine lv_iconst (v := 3) hx hb (dd_of dX4_obey_0 26 rfl) (by decide) ?_
            subst hQ
            exact W.iret (v := 3) hx hb hr (fun t ht hW => ⟨⟨3, (F, G), rfl, hres, by rw [ht]; exact hP, va_K.moved hW.alike hK, hD⟩, hS.F ht⟩) hS.2.2 (dd_of dX4_obey_0 27 rfl) hlk
    · replace hres := ifN c3 hres
      replace hok := hok.2 c3
      refine lv_aload_n hx hb (dd_of dX4_obey_0 8 rfl) rfl (lv_at hl 1 rfl) ?_
      refine lv_aload_n hx hb (dd_of dX4_obey_0 9 rfl) rfl (lv_at hl 0 rfl) ?_
      have h22 := hok.1
      replace hok := hok.2
      obtain ⟨q9, hq9⟩ := lWg_gate (yy := yy) (B := B) (F := F) (G := G) h22
      refine va_get (D := D) (cl := vwCl) (tys := jT yy) (ci := 4) (v := .int (F 18 k0)) (C := RX4) (T := TX4) (N := 5) hx hb hts (fun w h => List.mem_cons_of_mem _ (inlX4 w h)) hown hK hP q9 hq9 rfl 0 (by decide) (jw hts gw270) (fun _ h9 => h9) rfl (dd_of dX4_obey_0 10 rfl) ?_
      refine lv_aload_n hx hb (dd_of dX4_obey_0 11 rfl) rfl (lv_at hl 0 rfl) ?_
      have h23 := hok.1
      replace hok := hok.2
      obtain ⟨q9, hq9⟩ := lWg_gate (yy := yy) (B := B) (F := F) (G := G) h23
      refine va_get (D := D) (cl := vwCl) (tys := jT yy) (ci := 4) (v := .int (F 19 k0)) (C := RX4) (T := TX4) (N := 5) hx hb hts (fun w h => List.mem_cons_of_mem _ (inlX4 w h)) hown hK hP q9 hq9 rfl 1 (by decide) (jw hts gw271) (fun _ h9 => h9) rfl (dd_of dX4_obey_0 12 rfl) ?_
      have h24 := hok.1
      replace hok := hok.2
      refine jc_i (As := [.int (F 18 k0), .int (F 19 k0)]) (rest := []) (w := (lW yy B F G)) (D := D) (yy := yy) ⟨hx, hb, hml, hown, hts⟩ (qX10_seaPresses l D yy B F G  (F 18 k0) (F 19 k0) h24) (cwV 2 hts (jgV gw350 gw351 gw352 gw26 gw353) rfl rfl rfl (by decide +kernel) ⟨Nat.le_of_ble_eq_true rfl, Nat.le_of_ble_eq_true rfl⟩) hP hK (va_recv hK hP (ci := 10) (q0 := 1) rfl rfl) rfl hl.1 rfl (Nat.le_of_ble_eq_true rfl) (dd_of dX4_obey_0 13 rfl) ⟨Nat.zero_le _, Nat.zero_le _⟩ (fun x25 ex25 => ?_)
      replace hres := bvE ex25 hres
      replace hok := bvO ex25 hok
      refine lv_if_eq (tgt := 31) hx hb (dd_of dX4_obey_0 14 rfl) (by decide) (fun c26 => ?_) (fun c26 => ?_)
      · replace hres := ifE c26 hres
        replace hok := hok.1 c26
        refine lv_iload_n hx hb (dd_of dX4_obey_0 17 rfl) rfl (lv_at hl 2 rfl) ?_
        refine lv_if_eq (tgt := 50) hx hb (dd_of dX4_obey_0 18 rfl) (by decide) (fun c27 => ?_) (fun c27 => ?_)
        · replace hres := ifE c27 hres
          replace hok := hok.1 c27
          refine lv_aload_n hx hb (dd_of dX4_obey_0 28 rfl) rfl (lv_at hl 0 rfl) ?_
          refine lv_iload_n hx hb (dd_of dX4_obey_0 29 rfl) rfl (lv_at hl 2 rfl) ?_
          have h28 := hok.1
          replace hok := hok.2
          have h29 := hok
          obtain ⟨q9, hq9, hs9⟩ := lWs_gate_open (yy := yy) (B := B) (F := F) (G := G) (v := p2) h29
          refine va_put (D := D) (cl := vwCl) (tys := jT yy) (ci := 4) (v := .int p2) (ty := .boolean) (C := RX4) (T := TX4) (N := 5) hx hb hts (fun w h => List.mem_cons_of_mem _ (inlX4 w h)) tyX4 tyX4_ok nmX4 hown hK hP hD hS q9 hq9 rfl 4 (by decide) (jw hts gw349) (fun _ h9 => h9) rfl (by decide +kernel) (jb_nz h28) (jb_fit h28) (Nat.le_of_ble_eq_true rfl) (dd_of dX4_obey_0 30 rfl) (fun H locs hP hD hS => ?_)
          obtain ⟨F30, e31⟩ : ∃ z : jF, z = u2 F 22 k0 p2 := ⟨_, rfl⟩
          have hP : va_P D vwCl (lW yy B F30 G) H := by rw [e31, ← hs9]; exact hP
          have hD : va_D Z (lW yy B F30 G) := by rw [e31, ← hs9]; exact hD
          replace hres := bvE e31 hres
          refine lv_iconst (v := 0) hx hb (dd_of dX4_obey_0 31 rfl) (by decide) ?_
          subst hQ
          exact W.iret (v := 0) hx hb hr (fun t ht hW => ⟨⟨0, (F30, G), rfl, hres, by rw [ht]; exact hP, va_K.moved hW.alike hK, hD⟩, hS.F ht⟩) hS.2.2 (dd_of dX4_obey_0 32 rfl) hlk
        · replace hres := ifN c27 hres
          replace hok := hok.2 c27
          refine lv_iload_n hx hb (dd_of dX4_obey_0 19 rfl) rfl (lv_at hl 3 rfl) ?_
          refine lv_iconst (v := 3) hx hb (dd_of dX4_obey_0 20 rfl) (by decide) ?_
          refine lv_icmp_ge (tgt := 50) hx hb (dd_of dX4_obey_0 21 rfl) (by decide) (fun c32 => ?_) (fun c32 => ?_)
          · replace hres := ifE c32 hres
            replace hok := hok.1 c32
            refine lv_aload_n hx hb (dd_of dX4_obey_0 28 rfl) rfl (lv_at hl 0 rfl) ?_
            refine lv_iload_n hx hb (dd_of dX4_obey_0 29 rfl) rfl (lv_at hl 2 rfl) ?_
            have h33 := hok.1
            replace hok := hok.2
            have h34 := hok
            obtain ⟨q9, hq9, hs9⟩ := lWs_gate_open (yy := yy) (B := B) (F := F) (G := G) (v := p2) h34
            refine va_put (D := D) (cl := vwCl) (tys := jT yy) (ci := 4) (v := .int p2) (ty := .boolean) (C := RX4) (T := TX4) (N := 5) hx hb hts (fun w h => List.mem_cons_of_mem _ (inlX4 w h)) tyX4 tyX4_ok nmX4 hown hK hP hD hS q9 hq9 rfl 4 (by decide) (jw hts gw349) (fun _ h9 => h9) rfl (by decide +kernel) (jb_nz h33) (jb_fit h33) (Nat.le_of_ble_eq_true rfl) (dd_of dX4_obey_0 30 rfl) (fun H locs hP hD hS => ?_)
            obtain ⟨F35, e36⟩ : ∃ z : jF, z = u2 F 22 k0 p2 := ⟨_, rfl⟩
            have hP : va_P D vwCl (lW yy B F35 G) H := by rw [e36, ← hs9]; exact hP
            have hD : va_D Z (lW yy B F35 G) := by rw [e36, ← hs9]; exact hD
            replace hres := bvE e36 hres
            refine lv_iconst (v := 0) hx hb (dd_of dX4_obey_0 31 rfl) (by decide) ?_
            subst hQ
            exact W.iret (v := 0) hx hb hr (fun t ht hW => ⟨⟨0, (F35, G), rfl, hres, by rw [ht]; exact hP, va_K.moved hW.alike hK, hD⟩, hS.F ht⟩) hS.2.2 (dd_of dX4_obey_0 32 rfl) hlk
          · replace hres := ifN c32 hres
            replace hok := hok.2 c32
            refine lv_aload_n hx hb (dd_of dX4_obey_0 22 rfl) rfl (lv_at hl 0 rfl) ?_
            refine lv_aload_n hx hb (dd_of dX4_obey_0 23 rfl) rfl (lv_at hl 1 rfl) ?_
            have h37 := hok.1
            replace hok := hok.2
            have h38 := hok.1
            replace hok := hok.2
            obtain ⟨q9, hq9⟩ := lWg_gate (yy := yy) (B := B) (F := F) (G := G) h37
            refine jc_i (As := [.ref (B 1)]) (rest := []) (w := (lW yy B F G)) (D := D) (yy := yy) ⟨hx, hb, hml, hown, hts⟩ (qX4_lowerHasWorth l D yy B F G k0  h38) (cwV 1 hts (jgV gw369 gw370 gw371 gw265 gw372) rfl rfl rfl (by decide +kernel) ⟨Nat.le_of_ble_eq_true rfl, Nat.le_of_ble_eq_true rfl⟩) hP hK (va_recv hK hP (ci := 4) (q0 := q9) rfl hq9) rfl hl.1 rfl (Nat.le_of_ble_eq_true rfl) (dd_of dX4_obey_0 24 rfl) ⟨Nat.zero_le _, Nat.zero_le _⟩ (fun x39 ex39 => ?_)
            replace hres := bvE ex39 hres
            replace hok := bvO ex39 hok
            refine lv_if_eq (tgt := 50) hx hb (dd_of dX4_obey_0 25 rfl) (by decide) (fun c40 => ?_) (fun c40 => ?_)
            · replace hres := ifE c40 hres
              replace hok := hok.1 c40
              refine lv_aload_n hx hb (dd_of dX4_obey_0 28 rfl) rfl (lv_at hl 0 rfl) ?_
              refine lv_iload_n hx hb (dd_of dX4_obey_0 29 rfl) rfl (lv_at hl 2 rfl) ?_
              have h41 := hok.1
              replace hok := hok.2
              have h42 := hok
              obtain ⟨q9, hq9, hs9⟩ := lWs_gate_open (yy := yy) (B := B) (F := F) (G := G) (v := p2) h42
              refine va_put (D := D) (cl := vwCl) (tys := jT yy) (ci := 4) (v := .int p2) (ty := .boolean) (C := RX4) (T := TX4) (N := 5) hx hb hts (fun w h => List.mem_cons_of_mem _ (inlX4 w h)) tyX4 tyX4_ok nmX4 hown hK hP hD hS q9 hq9 rfl 4 (by decide) (jw hts gw349) (fun _ h9 => h9) rfl (by decide +kernel) (jb_nz h41) (jb_fit h41) (Nat.le_of_ble_eq_true rfl) (dd_of dX4_obey_0 30 rfl) (fun H locs hP hD hS => ?_)
              obtain ⟨F43, e44⟩ : ∃ z : jF, z = u2 F 22 k0 p2 := ⟨_, rfl⟩
              have hP : va_P D vwCl (lW yy B F43 G) H := by rw [e44, ← hs9]; exact hP
              have hD : va_D Z (lW yy B F43 G) := by rw [e44, ← hs9]; exact hD
              replace hres := bvE e44 hres
              refine lv_iconst (v := 0) hx hb (dd_of dX4_obey_0 31 rfl) (by decide) ?_
              subst hQ
              exact W.iret (v := 0) hx hb hr (fun t ht hW => ⟨⟨0, (F43, G), rfl, hres, by rw [ht]; exact hP, va_K.moved hW.alike hK, hD⟩, hS.F ht⟩) hS.2.2 (dd_of dX4_obey_0 32 rfl) hlk
            · replace hres := ifN c40 hres
              refine lv_iconst (v := 3) hx hb (dd_of dX4_obey_0 26 rfl) (by decide) ?_
              subst hQ
              exact W.iret (v := 3) hx hb hr (fun t ht hW => ⟨⟨3, (F, G), rfl, hres, by rw [ht]; exact hP, va_K.moved hW.alike hK, hD⟩, hS.F ht⟩) hS.2.2 (dd_of dX4_obey_0 27 rfl) hlk
      · replace hres := ifN c26 hres
        refine lv_iconst (v := 2) hx hb (dd_of dX4_obey_0 15 rfl) (by decide) ?_
        subst hQ
        exact W.iret (v := 2) hx hb hr (fun t ht hW => ⟨⟨2, (F, G), rfl, hres, by rw [ht]; exact hP, va_K.moved hW.alike hK, hD⟩, hS.F ht⟩) hS.2.2 (dd_of dX4_obey_0 16 rfl) hlk
  · replace hres := ifN c2 hres
    refine lv_iconst (v := 1) hx hb (dd_of dX4_obey_0 4 rfl) (by decide) ?_
    subst hQ
    exact W.iret (v := 1) hx hb hr (fun t ht hW => ⟨⟨1, (F, G), rfl, hres, by rw [ht]; exact hP, va_K.moved hW.alike hK, hD⟩, hS.F ht⟩) hS.2.2 (dd_of dX4_obey_0 5 rfl) hlk
set_option maxHeartbeats 4000000 in
set_option maxRecDepth 100000 in
theorem qX4_pass (l : Launch) (D : va_G) (yy : Nat → ClassId) (B : Nat → Nat) (F : jF) (G : jG) (sz : Nat) (k0 : Nat)  (hok : okX4_pass F G k0 ) : Met l yX4_pass (Cond.code yX4_pass cX4_pass 2 none :: wsL_law) rmX4_pass (va_Pc [.ref (B (200 + k0)), .ref (B 1)] (jP D yy (lW yy B F G) sz)) (va_Qv (fun u : jS => u = gX4_pass F G k0 ) (fun (u : jS) t => jB D yy (va_A (lW yy B F G) sz) (lW yy B u.1 u.2) t) (va_A (lW yy B F G) sz)) 0 0 (va_A (lW yy B F G) sz) := by
  generalize hres : gX4_pass F G k0  = RES
  refine jM (vs := [.ref (B (200 + k0)), .ref (B 1)]) (own := RX4) (by decide +kernel) rfl (Nat.le_of_ble_eq_true rfl) ?_
  intro p e s m args below meth c ls Q hQ hargs S hr hlk hinit hB hl
  obtain ⟨hx, hb, hml, hown, hts⟩ := S
  have hl : lv_has ls 2 [(0, .ref (B (200 + k0))), (1, .ref (B 1))] := hl
  obtain ⟨hsz, hP, hK, hD0⟩ := hB
  subst hsz
  have hD := hD0.self (sz := s.heap.size)
  generalize hZ : va_A (lW yy B F G) s.heap.size = Z at hD hQ
  have hA : ∀ q : Nat, s.heap.size ≤ q → Z q := fun q h => by rw [← hZ]; exact Or.inr h
  obtain ⟨H, hH⟩ : ∃ z, z = s.heap := ⟨_, rfl⟩
  obtain ⟨locs, hlocs⟩ : ∃ z : List Loc, z = [] := ⟨_, rfl⟩
  have hS : va_S Z s.heap H locs := by rw [hH, hlocs]; exact va_S.rf
  rw [← hH] at hP
  suffices hgo : W p l e rmX4_pass s m args below meth c H locs 0 0 Q (F0 m 0 ls []) by rw [hH, hlocs] at hgo; exact hgo
  unfold gX4_pass at hres
  unfold okX4_pass at hok
  refine lv_aload_n hx hb (dd_of dX4_pass_0 0 rfl) rfl (lv_at hl 0 rfl) ?_
  have h1 := hok.1
  replace hok := hok.2
  obtain ⟨q9, hq9⟩ := lWg_gate (yy := yy) (B := B) (F := F) (G := G) h1
  refine va_get (D := D) (cl := vwCl) (tys := jT yy) (ci := 4) (v := .int (F 22 k0)) (C := RX4) (T := TX4) (N := 5) hx hb hts (fun w h => List.mem_cons_of_mem _ (inlX4 w h)) hown hK hP q9 hq9 rfl 4 (by decide) (jw hts gw349) (fun _ h9 => h9) rfl (dd_of dX4_pass_0 1 rfl) ?_
  refine lv_if_eq (tgt := 27) hx hb (dd_of dX4_pass_0 2 rfl) (by decide) (fun c2 => ?_) (fun c2 => ?_)
  · replace hres := ifE c2 hres
    replace hok := hok.1 c2
    refine lv_aload_n hx hb (dd_of dX4_pass_0 13 rfl) rfl (lv_at hl 0 rfl) ?_
    have h3 := hok.1
    replace hok := hok.2
    obtain ⟨q9, hq9⟩ := lWg_gate (yy := yy) (B := B) (F := F) (G := G) h3
    refine va_get (D := D) (cl := vwCl) (tys := jT yy) (ci := 4) (v := .int (F 22 k0)) (C := RX4) (T := TX4) (N := 5) hx hb hts (fun w h => List.mem_cons_of_mem _ (inlX4 w h)) hown hK hP q9 hq9 rfl 4 (by decide) (jw hts gw349) (fun _ h9 => h9) rfl (dd_of dX4_pass_0 14 rfl) ?_
    refine lv_if_eq (tgt := 52) hx hb (dd_of dX4_pass_0 15 rfl) (by decide) (fun c4 => ?_) (fun c4 => ?_)
    · replace hres := ifE c4 hres
      subst hQ
      exact W.vret hx hb hr (fun t ht hW => ⟨⟨(F, G), rfl, hres, by rw [ht]; exact hP, va_K.moved hW.alike hK, hD⟩, hS.F ht⟩) hS.2.2 (dd_of dX4_pass_0 26 rfl) hlk
    · replace hres := ifN c4 hres
      replace hok := hok.2 c4
      refine lv_aload_n hx hb (dd_of dX4_pass_0 16 rfl) rfl (lv_at hl 1 rfl) ?_
      refine lv_aload_n hx hb (dd_of dX4_pass_0 17 rfl) rfl (lv_at hl 0 rfl) ?_
      have h5 := hok.1
      replace hok := hok.2
      obtain ⟨q9, hq9⟩ := lWg_gate (yy := yy) (B := B) (F := F) (G := G) h5
      refine va_get (D := D) (cl := vwCl) (tys := jT yy) (ci := 4) (v := .int (F 18 k0)) (C := RX4) (T := TX4) (N := 5) hx hb hts (fun w h => List.mem_cons_of_mem _ (inlX4 w h)) hown hK hP q9 hq9 rfl 0 (by decide) (jw hts gw270) (fun _ h9 => h9) rfl (dd_of dX4_pass_0 18 rfl) ?_
      refine lv_aload_n hx hb (dd_of dX4_pass_0 19 rfl) rfl (lv_at hl 0 rfl) ?_
      have h6 := hok.1
      replace hok := hok.2
      obtain ⟨q9, hq9⟩ := lWg_gate (yy := yy) (B := B) (F := F) (G := G) h6
      refine va_get (D := D) (cl := vwCl) (tys := jT yy) (ci := 4) (v := .int (F 19 k0)) (C := RX4) (T := TX4) (N := 5) hx hb hts (fun w h => List.mem_cons_of_mem _ (inlX4 w h)) hown hK hP q9 hq9 rfl 1 (by decide) (jw hts gw271) (fun _ h9 => h9) rfl (dd_of dX4_pass_0 20 rfl) ?_
      refine lv_aload_n hx hb (dd_of dX4_pass_0 21 rfl) rfl (lv_at hl 0 rfl) ?_
      have h7 := hok.1
      replace hok := hok.2
      obtain ⟨q9, hq9⟩ := lWg_gate (yy := yy) (B := B) (F := F) (G := G) h7
      refine va_get (D := D) (cl := vwCl) (tys := jT yy) (ci := 4) (v := .int (F 20 k0)) (C := RX4) (T := TX4) (N := 5) hx hb hts (fun w h => List.mem_cons_of_mem _ (inlX4 w h)) hown hK hP q9 hq9 rfl 2 (by decide) (jw hts gw272) (fun _ h9 => h9) rfl (dd_of dX4_pass_0 22 rfl) ?_
      refine lv_i2l (v := (Int32.toInt64 (F 20 k0))) hx hb (dd_of dX4_pass_0 23 rfl) rfl ?_
      have h8 := hok
      refine jm_l (As := [.int (F 18 k0), .int (F 19 k0), .long (Int32.toInt64 (F 20 k0))]) (rest := []) (w := (lW yy B F G)) (w1 := fun u : jS => (lW yy B u.1 u.2)) (D := D) (yy := yy) ⟨hx, hb, hml, hown, hts⟩ (qX10_levelOut l D yy B F G H.size  (F 18 k0) (F 19 k0) (Int32.toInt64 (F 20 k0)) h8) (cwV 3 hts (jgV gw436 gw437 gw438 gw26 gw439) rfl rfl rfl (by decide +kernel) ⟨Nat.le_of_ble_eq_true rfl, Nat.le_of_ble_eq_true rfl⟩) hP hK hD hS hA (va_recv hK hP (ci := 10) (q0 := 1) rfl rfl) rfl hl.1 rfl (Nat.le_of_ble_eq_true rfl) (dd_of dX4_pass_0 24 rfl) ⟨Nat.zero_le _, Nat.zero_le _⟩ (fun x12 u9 H locs w11 hP hD hS => ?_)
      obtain ⟨F9, G10⟩ := u9
      have hP : va_P D vwCl (lW yy B F9 G10) H := hP
      have hD : va_D Z (lW yy B F9 G10) := hD
      replace hres := brE w11 hres
      refine lv_pop2_2 hx hb (dd_of dX4_pass_0 25 rfl) rfl ?_
      subst hQ
      exact W.vret hx hb hr (fun t ht hW => ⟨⟨(F9, G10), rfl, hres, by rw [ht]; exact hP, va_K.moved hW.alike hK, hD⟩, hS.F ht⟩) hS.2.2 (dd_of dX4_pass_0 26 rfl) hlk
  · replace hres := ifN c2 hres
    replace hok := hok.2 c2
    refine lv_aload_n hx hb (dd_of dX4_pass_0 3 rfl) rfl (lv_at hl 1 rfl) ?_
    refine lv_aload_n hx hb (dd_of dX4_pass_0 4 rfl) rfl (lv_at hl 0 rfl) ?_
    have h13 := hok.1
    replace hok := hok.2
    obtain ⟨q9, hq9⟩ := lWg_gate (yy := yy) (B := B) (F := F) (G := G) h13
    refine va_get (D := D) (cl := vwCl) (tys := jT yy) (ci := 4) (v := .int (F 18 k0)) (C := RX4) (T := TX4) (N := 5) hx hb hts (fun w h => List.mem_cons_of_mem _ (inlX4 w h)) hown hK hP q9 hq9 rfl 0 (by decide) (jw hts gw270) (fun _ h9 => h9) rfl (dd_of dX4_pass_0 5 rfl) ?_
    refine lv_aload_n hx hb (dd_of dX4_pass_0 6 rfl) rfl (lv_at hl 0 rfl) ?_
    have h14 := hok.1
    replace hok := hok.2
    obtain ⟨q9, hq9⟩ := lWg_gate (yy := yy) (B := B) (F := F) (G := G) h14
    refine va_get (D := D) (cl := vwCl) (tys := jT yy) (ci := 4) (v := .int (F 19 k0)) (C := RX4) (T := TX4) (N := 5) hx hb hts (fun w h => List.mem_cons_of_mem _ (inlX4 w h)) hown hK hP q9 hq9 rfl 1 (by decide) (jw hts gw271) (fun _ h9 => h9) rfl (dd_of dX4_pass_0 7 rfl) ?_
    have h15 := hok.1
    replace hok := hok.2
    refine jc_i (As := [.int (F 18 k0), .int (F 19 k0)]) (rest := []) (w := (lW yy B F G)) (D := D) (yy := yy) ⟨hx, hb, hml, hown, hts⟩ (qX10_seaPresses l D yy B F G  (F 18 k0) (F 19 k0) h15) (cwV 2 hts (jgV gw350 gw351 gw352 gw26 gw353) rfl rfl rfl (by decide +kernel) ⟨Nat.le_of_ble_eq_true rfl, Nat.le_of_ble_eq_true rfl⟩) hP hK (va_recv hK hP (ci := 10) (q0 := 1) rfl rfl) rfl hl.1 rfl (Nat.le_of_ble_eq_true rfl) (dd_of dX4_pass_0 8 rfl) ⟨Nat.zero_le _, Nat.zero_le _⟩ (fun x16 ex16 => ?_)
    replace hres := bvE ex16 hres
    replace hok := bvO ex16 hok
    refine lv_if_eq (tgt := 27) hx hb (dd_of dX4_pass_0 9 rfl) (by decide) (fun c17 => ?_) (fun c17 => ?_)
    · replace hres := ifE c17 hres
      replace hok := hok.1 c17
      refine lv_aload_n hx hb (dd_of dX4_pass_0 13 rfl) rfl (lv_at hl 0 rfl) ?_
      have h18 := hok.1
      replace hok := hok.2
      obtain ⟨q9, hq9⟩ := lWg_gate (yy := yy) (B := B) (F := F) (G := G) h18
      refine va_get (D := D) (cl := vwCl) (tys := jT yy) (ci := 4) (v := .int (F 22 k0)) (C := RX4) (T := TX4) (N := 5) hx hb hts (fun w h => List.mem_cons_of_mem _ (inlX4 w h)) hown hK hP q9 hq9 rfl 4 (by decide) (jw hts gw349) (fun _ h9 => h9) rfl (dd_of dX4_pass_0 14 rfl) ?_
      refine lv_if_eq (tgt := 52) hx hb (dd_of dX4_pass_0 15 rfl) (by decide) (fun c19 => ?_) (fun c19 => ?_)
      · replace hres := ifE c19 hres
        subst hQ
        exact W.vret hx hb hr (fun t ht hW => ⟨⟨(F, G), rfl, hres, by rw [ht]; exact hP, va_K.moved hW.alike hK, hD⟩, hS.F ht⟩) hS.2.2 (dd_of dX4_pass_0 26 rfl) hlk
      · replace hres := ifN c19 hres
        replace hok := hok.2 c19
        refine lv_aload_n hx hb (dd_of dX4_pass_0 16 rfl) rfl (lv_at hl 1 rfl) ?_
        refine lv_aload_n hx hb (dd_of dX4_pass_0 17 rfl) rfl (lv_at hl 0 rfl) ?_
        have h20 := hok.1
        replace hok := hok.2
        obtain ⟨q9, hq9⟩ := lWg_gate (yy := yy) (B := B) (F := F) (G := G) h20
        refine va_get (D := D) (cl := vwCl) (tys := jT yy) (ci := 4) (v := .int (F 18 k0)) (C := RX4) (T := TX4) (N := 5) hx hb hts (fun w h => List.mem_cons_of_mem _ (inlX4 w h)) hown hK hP q9 hq9 rfl 0 (by decide) (jw hts gw270) (fun _ h9 => h9) rfl (dd_of dX4_pass_0 18 rfl) ?_
        refine lv_aload_n hx hb (dd_of dX4_pass_0 19 rfl) rfl (lv_at hl 0 rfl) ?_
        have h21 := hok.1
        replace hok := hok.2
        obtain ⟨q9, hq9⟩ := lWg_gate (yy := yy) (B := B) (F := F) (G := G) h21
        refine va_get (D := D) (cl := vwCl) (tys := jT yy) (ci := 4) (v := .int (F 19 k0)) (C := RX4) (T := TX4) (N := 5) hx hb hts (fun w h => List.mem_cons_of_mem _ (inlX4 w h)) hown hK hP q9 hq9 rfl 1 (by decide) (jw hts gw271) (fun _ h9 => h9) rfl (dd_of dX4_pass_0 20 rfl) ?_
        refine lv_aload_n hx hb (dd_of dX4_pass_0 21 rfl) rfl (lv_at hl 0 rfl) ?_
        have h22 := hok.1
        replace hok := hok.2
        obtain ⟨q9, hq9⟩ := lWg_gate (yy := yy) (B := B) (F := F) (G := G) h22
        refine va_get (D := D) (cl := vwCl) (tys := jT yy) (ci := 4) (v := .int (F 20 k0)) (C := RX4) (T := TX4) (N := 5) hx hb hts (fun w h => List.mem_cons_of_mem _ (inlX4 w h)) hown hK hP q9 hq9 rfl 2 (by decide) (jw hts gw272) (fun _ h9 => h9) rfl (dd_of dX4_pass_0 22 rfl) ?_
        refine lv_i2l (v := (Int32.toInt64 (F 20 k0))) hx hb (dd_of dX4_pass_0 23 rfl) rfl ?_
        have h23 := hok
        refine jm_l (As := [.int (F 18 k0), .int (F 19 k0), .long (Int32.toInt64 (F 20 k0))]) (rest := []) (w := (lW yy B F G)) (w1 := fun u : jS => (lW yy B u.1 u.2)) (D := D) (yy := yy) ⟨hx, hb, hml, hown, hts⟩ (qX10_levelOut l D yy B F G H.size  (F 18 k0) (F 19 k0) (Int32.toInt64 (F 20 k0)) h23) (cwV 3 hts (jgV gw436 gw437 gw438 gw26 gw439) rfl rfl rfl (by decide +kernel) ⟨Nat.le_of_ble_eq_true rfl, Nat.le_of_ble_eq_true rfl⟩) hP hK hD hS hA (va_recv hK hP (ci := 10) (q0 := 1) rfl rfl) rfl hl.1 rfl (Nat.le_of_ble_eq_true rfl) (dd_of dX4_pass_0 24 rfl) ⟨Nat.zero_le _, Nat.zero_le _⟩ (fun x27 u9 H locs w26 hP hD hS => ?_)
        obtain ⟨F24, G25⟩ := u9
        have hP : va_P D vwCl (lW yy B F24 G25) H := hP
        have hD : va_D Z (lW yy B F24 G25) := hD
        replace hres := brE w26 hres
        refine lv_pop2_2 hx hb (dd_of dX4_pass_0 25 rfl) rfl ?_
        subst hQ
        exact W.vret hx hb hr (fun t ht hW => ⟨⟨(F24, G25), rfl, hres, by rw [ht]; exact hP, va_K.moved hW.alike hK, hD⟩, hS.F ht⟩) hS.2.2 (dd_of dX4_pass_0 26 rfl) hlk
    · replace hres := ifN c17 hres
      replace hok := hok.2 c17
      refine lv_aload_n hx hb (dd_of dX4_pass_0 10 rfl) rfl (lv_at hl 0 rfl) ?_
      refine lv_iconst (v := 0) hx hb (dd_of dX4_pass_0 11 rfl) (by decide) ?_
      have h28 := hok.1
      replace hok := hok.2
      obtain ⟨q9, hq9, hs9⟩ := lWs_gate_open (yy := yy) (B := B) (F := F) (G := G) (v := 0) h28
      refine va_put (D := D) (cl := vwCl) (tys := jT yy) (ci := 4) (v := .int 0) (ty := .boolean) (C := RX4) (T := TX4) (N := 5) hx hb hts (fun w h => List.mem_cons_of_mem _ (inlX4 w h)) tyX4 tyX4_ok nmX4 hown hK hP hD hS q9 hq9 rfl 4 (by decide) (jw hts gw349) (fun _ h9 => h9) rfl (by decide +kernel) (jb_nz (Or.inl rfl)) (jb_fit (Or.inl rfl)) (Nat.le_of_ble_eq_true rfl) (dd_of dX4_pass_0 12 rfl) (fun H locs hP hD hS => ?_)
      obtain ⟨F29, e30⟩ : ∃ z : jF, z = u2 F 22 k0 0 := ⟨_, rfl⟩
      have hP : va_P D vwCl (lW yy B F29 G) H := by rw [e30, ← hs9]; exact hP
      have hD : va_D Z (lW yy B F29 G) := by rw [e30, ← hs9]; exact hD
      replace hres := bvE e30 hres
      replace hok := bvO e30 hok
      refine lv_aload_n hx hb (dd_of dX4_pass_0 13 rfl) rfl (lv_at hl 0 rfl) ?_
      have h31 := hok.1
      replace hok := hok.2
      obtain ⟨q9, hq9⟩ := lWg_gate (yy := yy) (B := B) (F := F29) (G := G) h31
      refine va_get (D := D) (cl := vwCl) (tys := jT yy) (ci := 4) (v := .int (F29 22 k0)) (C := RX4) (T := TX4) (N := 5) hx hb hts (fun w h => List.mem_cons_of_mem _ (inlX4 w h)) hown hK hP q9 hq9 rfl 4 (by decide) (jw hts gw349) (fun _ h9 => h9) rfl (dd_of dX4_pass_0 14 rfl) ?_
      refine lv_if_eq (tgt := 52) hx hb (dd_of dX4_pass_0 15 rfl) (by decide) (fun c32 => ?_) (fun c32 => ?_)
      · replace hres := ifE c32 hres
        subst hQ
        exact W.vret hx hb hr (fun t ht hW => ⟨⟨(F29, G), rfl, hres, by rw [ht]; exact hP, va_K.moved hW.alike hK, hD⟩, hS.F ht⟩) hS.2.2 (dd_of dX4_pass_0 26 rfl) hlk
      · replace hres := ifN c32 hres
        replace hok := hok.2 c32
        refine lv_aload_n hx hb (dd_of dX4_pass_0 16 rfl) rfl (lv_at hl 1 rfl) ?_
        refine lv_aload_n hx hb (dd_of dX4_pass_0 17 rfl) rfl (lv_at hl 0 rfl) ?_
        have h33 := hok.1
        replace hok := hok.2
        obtain ⟨q9, hq9⟩ := lWg_gate (yy := yy) (B := B) (F := F29) (G := G) h33
        refine va_get (D := D) (cl := vwCl) (tys := jT yy) (ci := 4) (v := .int (F29 18 k0)) (C := RX4) (T := TX4) (N := 5) hx hb hts (fun w h => List.mem_cons_of_mem _ (inlX4 w h)) hown hK hP q9 hq9 rfl 0 (by decide) (jw hts gw270) (fun _ h9 => h9) rfl (dd_of dX4_pass_0 18 rfl) ?_
        refine lv_aload_n hx hb (dd_of dX4_pass_0 19 rfl) rfl (lv_at hl 0 rfl) ?_
        have h34 := hok.1
        replace hok := hok.2
        obtain ⟨q9, hq9⟩ := lWg_gate (yy := yy) (B := B) (F := F29) (G := G) h34
        refine va_get (D := D) (cl := vwCl) (tys := jT yy) (ci := 4) (v := .int (F29 19 k0)) (C := RX4) (T := TX4) (N := 5) hx hb hts (fun w h => List.mem_cons_of_mem _ (inlX4 w h)) hown hK hP q9 hq9 rfl 1 (by decide) (jw hts gw271) (fun _ h9 => h9) rfl (dd_of dX4_pass_0 20 rfl) ?_
        refine lv_aload_n hx hb (dd_of dX4_pass_0 21 rfl) rfl (lv_at hl 0 rfl) ?_
        have h35 := hok.1
        replace hok := hok.2
        obtain ⟨q9, hq9⟩ := lWg_gate (yy := yy) (B := B) (F := F29) (G := G) h35
        refine va_get (D := D) (cl := vwCl) (tys := jT yy) (ci := 4) (v := .int (F29 20 k0)) (C := RX4) (T := TX4) (N := 5) hx hb hts (fun w h => List.mem_cons_of_mem _ (inlX4 w h)) hown hK hP q9 hq9 rfl 2 (by decide) (jw hts gw272) (fun _ h9 => h9) rfl (dd_of dX4_pass_0 22 rfl) ?_
        refine lv_i2l (v := (Int32.toInt64 (F29 20 k0))) hx hb (dd_of dX4_pass_0 23 rfl) rfl ?_
        have h36 := hok
        refine jm_l (As := [.int (F29 18 k0), .int (F29 19 k0), .long (Int32.toInt64 (F29 20 k0))]) (rest := []) (w := (lW yy B F29 G)) (w1 := fun u : jS => (lW yy B u.1 u.2)) (D := D) (yy := yy) ⟨hx, hb, hml, hown, hts⟩ (qX10_levelOut l D yy B F29 G H.size  (F29 18 k0) (F29 19 k0) (Int32.toInt64 (F29 20 k0)) h36) (cwV 3 hts (jgV gw436 gw437 gw438 gw26 gw439) rfl rfl rfl (by decide +kernel) ⟨Nat.le_of_ble_eq_true rfl, Nat.le_of_ble_eq_true rfl⟩) hP hK hD hS hA (va_recv hK hP (ci := 10) (q0 := 1) rfl rfl) rfl hl.1 rfl (Nat.le_of_ble_eq_true rfl) (dd_of dX4_pass_0 24 rfl) ⟨Nat.zero_le _, Nat.zero_le _⟩ (fun x40 u9 H locs w39 hP hD hS => ?_)
        obtain ⟨F37, G38⟩ := u9
        have hP : va_P D vwCl (lW yy B F37 G38) H := hP
        have hD : va_D Z (lW yy B F37 G38) := hD
        replace hres := brE w39 hres
        refine lv_pop2_2 hx hb (dd_of dX4_pass_0 25 rfl) rfl ?_
        subst hQ
        exact W.vret hx hb hr (fun t ht hW => ⟨⟨(F37, G38), rfl, hres, by rw [ht]; exact hP, va_K.moved hW.alike hK, hD⟩, hS.F ht⟩) hS.2.2 (dd_of dX4_pass_0 26 rfl) hlk
set_option maxHeartbeats 4000000 in
set_option maxRecDepth 100000 in
theorem qX7_work (l : Launch) (D : va_G) (yy : Nat → ClassId) (B : Nat → Nat) (F : jF) (G : jG) (sz : Nat) (k0 : Nat)  (hok : okX7_work F G k0 ) : Met l yX7_work (Cond.code yX7_work cX7_work 4 none :: wsL_law) rmX7_work (va_Pc [.ref (B (300 + k0)), .ref (B 1)] (jP D yy (lW yy B F G) sz)) (va_Qv (fun u : jS => u = gX7_work F G k0 ) (fun (u : jS) t => jB D yy (va_A (lW yy B F G) sz) (lW yy B u.1 u.2) t) (va_A (lW yy B F G) sz)) 0 0 (va_A (lW yy B F G) sz) := by
  generalize hres : gX7_work F G k0  = RES
  refine jM (vs := [.ref (B (300 + k0)), .ref (B 1)]) (own := RX7) (by decide +kernel) rfl (Nat.le_of_ble_eq_true rfl) ?_
  intro p e s m args below meth c ls Q hQ hargs S hr hlk hinit hB hl
  obtain ⟨hx, hb, hml, hown, hts⟩ := S
  have hl : lv_has ls 4 [(0, .ref (B (300 + k0))), (1, .ref (B 1))] := hl
  obtain ⟨hsz, hP, hK, hD0⟩ := hB
  subst hsz
  have hD := hD0.self (sz := s.heap.size)
  generalize hZ : va_A (lW yy B F G) s.heap.size = Z at hD hQ
  have hA : ∀ q : Nat, s.heap.size ≤ q → Z q := fun q h => by rw [← hZ]; exact Or.inr h
  obtain ⟨H, hH⟩ : ∃ z, z = s.heap := ⟨_, rfl⟩
  obtain ⟨locs, hlocs⟩ : ∃ z : List Loc, z = [] := ⟨_, rfl⟩
  have hS : va_S Z s.heap H locs := by rw [hH, hlocs]; exact va_S.rf
  rw [← hH] at hP
  suffices hgo : W p l e rmX7_work s m args below meth c H locs 0 0 Q (F0 m 0 ls []) by rw [hH, hlocs] at hgo; exact hgo
  unfold gX7_work at hres
  unfold okX7_work at hok
  refine lv_aload_n hx hb (dd_of dX7_work_0 0 rfl) rfl (lv_at hl 0 rfl) ?_
  have h1 := hok.1
  replace hok := hok.2
  obtain ⟨q9, hq9⟩ := lWg_pump (yy := yy) (B := B) (F := F) (G := G) h1
  refine va_get (D := D) (cl := vwCl) (tys := jT yy) (ci := 7) (v := .int (F 29 k0)) (C := RX7) (T := TX7) (N := 8) hx hb hts (fun w h => List.mem_cons_of_mem _ (inlX7 w h)) hown hK hP q9 hq9 rfl 5 (by decide) (jw hts gw465) (fun _ h9 => h9) rfl (dd_of dX7_work_0 1 rfl) ?_
  refine lv_if_eq (tgt := 25) hx hb (dd_of dX7_work_0 2 rfl) (by decide) (fun c2 => ?_) (fun c2 => ?_)
  · replace hres := ifE c2 hres
    subst hQ
    exact W.vret hx hb hr (fun t ht hW => ⟨⟨(F, G), rfl, hres, by rw [ht]; exact hP, va_K.moved hW.alike hK, hD⟩, hS.F ht⟩) hS.2.2 (dd_of dX7_work_0 11 rfl) hlk
  · replace hres := ifN c2 hres
    replace hok := hok.2 c2
    refine lv_aload_n hx hb (dd_of dX7_work_0 3 rfl) rfl (lv_at hl 0 rfl) ?_
    have h3 := hok.1
    replace hok := hok.2
    obtain ⟨q9, hq9⟩ := lWg_pump (yy := yy) (B := B) (F := F) (G := G) h3
    refine va_get (D := D) (cl := vwCl) (tys := jT yy) (ci := 7) (v := .int (F 30 k0)) (C := RX7) (T := TX7) (N := 8) hx hb hts (fun w h => List.mem_cons_of_mem _ (inlX7 w h)) hown hK hP q9 hq9 rfl 6 (by decide) (jw hts gw466) (fun _ h9 => h9) rfl (dd_of dX7_work_0 4 rfl) ?_
    refine lv_if_le (tgt := 25) hx hb (dd_of dX7_work_0 5 rfl) (by decide) (fun c4 => ?_) (fun c4 => ?_)
    · replace hres := ifE c4 hres
      subst hQ
      exact W.vret hx hb hr (fun t ht hW => ⟨⟨(F, G), rfl, hres, by rw [ht]; exact hP, va_K.moved hW.alike hK, hD⟩, hS.F ht⟩) hS.2.2 (dd_of dX7_work_0 11 rfl) hlk
    · replace hres := ifN c4 hres
      replace hok := hok.2 c4
      refine lv_aload_n hx hb (dd_of dX7_work_0 6 rfl) rfl (lv_at hl 0 rfl) ?_
      have h5 := hok.1
      replace hok := hok.2
      obtain ⟨q9, hq9⟩ := lWg_pump (yy := yy) (B := B) (F := F) (G := G) h5
      refine va_get (D := D) (cl := vwCl) (tys := jT yy) (ci := 7) (v := .int (F 31 k0)) (C := RX7) (T := TX7) (N := 8) hx hb hts (fun w h => List.mem_cons_of_mem _ (inlX7 w h)) hown hK hP q9 hq9 rfl 7 (by decide) (jw hts gw467) (fun _ h9 => h9) rfl (dd_of dX7_work_0 7 rfl) ?_
      refine lv_aload_n hx hb (dd_of dX7_work_0 8 rfl) rfl (lv_at hl 0 rfl) ?_
      have h6 := hok.1
      replace hok := hok.2
      obtain ⟨q9, hq9⟩ := lWg_pump (yy := yy) (B := B) (F := F) (G := G) h6
      refine va_get (D := D) (cl := vwCl) (tys := jT yy) (ci := 7) (v := .int (F 28 k0)) (C := RX7) (T := TX7) (N := 8) hx hb hts (fun w h => List.mem_cons_of_mem _ (inlX7 w h)) hown hK hP q9 hq9 rfl 4 (by decide) (jw hts gw282) (fun _ h9 => h9) rfl (dd_of dX7_work_0 9 rfl) ?_
      refine lv_icmp_lt (tgt := 26) hx hb (dd_of dX7_work_0 10 rfl) (by decide) (fun c7 => ?_) (fun c7 => ?_)
      · replace hres := ifE c7 hres
        replace hok := hok.1 c7
        refine lv_aload_n hx hb (dd_of dX7_work_0 12 rfl) rfl (lv_at hl 0 rfl) ?_
        have h8 := hok.1
        replace hok := hok.2
        obtain ⟨q9, hq9⟩ := lWg_pump (yy := yy) (B := B) (F := F) (G := G) h8
        refine va_get (D := D) (cl := vwCl) (tys := jT yy) (ci := 7) (v := .int (F 26 k0)) (C := RX7) (T := TX7) (N := 8) hx hb hts (fun w h => List.mem_cons_of_mem _ (inlX7 w h)) hown hK hP q9 hq9 rfl 2 (by decide) (jw hts gw280) (fun _ h9 => h9) rfl (dd_of dX7_work_0 13 rfl) ?_
        refine lv_i2l (v := (Int32.toInt64 (F 26 k0))) hx hb (dd_of dX7_work_0 14 rfl) rfl ?_
        refine lv_aload_n hx hb (dd_of dX7_work_0 15 rfl) rfl (lv_at hl 1 rfl) ?_
        refine lv_aload_n hx hb (dd_of dX7_work_0 16 rfl) rfl (lv_at hl 0 rfl) ?_
        have h9 := hok.1
        replace hok := hok.2
        obtain ⟨q9, hq9⟩ := lWg_pump (yy := yy) (B := B) (F := F) (G := G) h9
        refine va_get (D := D) (cl := vwCl) (tys := jT yy) (ci := 7) (v := .int (F 24 k0)) (C := RX7) (T := TX7) (N := 8) hx hb hts (fun w h => List.mem_cons_of_mem _ (inlX7 w h)) hown hK hP q9 hq9 rfl 0 (by decide) (jw hts gw278) (fun _ h9 => h9) rfl (dd_of dX7_work_0 17 rfl) ?_
        have h10 := hok.1
        replace hok := hok.2
        refine jc_l (As := [.int (F 24 k0)]) (rest := [.long (Int32.toInt64 (F 26 k0))]) (w := (lW yy B F G)) (D := D) (yy := yy) ⟨hx, hb, hml, hown, hts⟩ (qX10_stockOf l D yy B F G  (F 24 k0) h10) (cwV 1 hts (jgV gw470 gw453 gw454 gw26 gw455) rfl rfl rfl (by decide +kernel) ⟨Nat.le_of_ble_eq_true rfl, Nat.le_of_ble_eq_true rfl⟩) hP hK (va_recv hK hP (ci := 10) (q0 := 1) rfl rfl) rfl hl.1 rfl (Nat.le_of_ble_eq_true rfl) (dd_of dX7_work_0 18 rfl) ⟨Nat.zero_le _, Nat.zero_le _⟩ (fun x11 ex11 => ?_)
        replace hres := bvE ex11 hres
        replace hok := bvO ex11 hok
        refine va_mmin_long hx hb (hml.trans hl.1.symm) hown (jw hts gw468) (jw hts gw444) (jw hts gw82) (jw hts gw445) (Nat.le_of_ble_eq_true rfl) (Nat.le_of_ble_eq_true rfl) (Nat.zero_le _) (Nat.zero_le _) (dd_of dX7_work_0 19 rfl) ?_
        refine lv_topl (fun x12 ex12 => ?_)
        replace hres := bvE ex12 hres
        replace hok := bvO ex12 hok
        refine lv_lstore_n (lv' := [(2, .long x12), (0, .ref (B (300 + k0))), (1, .ref (B 1))]) hx hb (dd_of dX7_work_0 20 rfl) rfl hl (by decide) rfl (fun ls hl => ?_)
        refine lv_lload_n hx hb (dd_of dX7_work_0 21 rfl) rfl (lv_at hl 0 rfl) ?_
        refine lv_lconst (v := 0) hx hb (dd_of dX7_work_0 22 rfl) (by decide) ?_
        refine jl_le (tgt := 74) hx hb (dd_of dX7_work_0 23 rfl) (dd_of dX7_work_0 24 rfl) (by decide) (fun c13 => ?_) (fun c13 => ?_)
        · replace hres := ifE c13 hres
          subst hQ
          exact W.vret hx hb hr (fun t ht hW => ⟨⟨(F, G), rfl, hres, by rw [ht]; exact hP, va_K.moved hW.alike hK, hD⟩, hS.F ht⟩) hS.2.2 (dd_of dX7_work_0 38 rfl) hlk
        · replace hres := ifN c13 hres
          replace hok := hok.2 c13
          refine lv_aload_n hx hb (dd_of dX7_work_0 25 rfl) rfl (lv_at hl 2 rfl) ?_
          refine lv_aload_n hx hb (dd_of dX7_work_0 26 rfl) rfl (lv_at hl 1 rfl) ?_
          have h14 := hok.1
          replace hok := hok.2
          obtain ⟨q9, hq9⟩ := lWg_pump (yy := yy) (B := B) (F := F) (G := G) h14
          refine va_get (D := D) (cl := vwCl) (tys := jT yy) (ci := 7) (v := .int (F 25 k0)) (C := RX7) (T := TX7) (N := 8) hx hb hts (fun w h => List.mem_cons_of_mem _ (inlX7 w h)) hown hK hP q9 hq9 rfl 1 (by decide) (jw hts gw279) (fun _ h9 => h9) rfl (dd_of dX7_work_0 27 rfl) ?_
          refine lv_aload_n hx hb (dd_of dX7_work_0 28 rfl) rfl (lv_at hl 1 rfl) ?_
          have h15 := hok.1
          replace hok := hok.2
          obtain ⟨q9, hq9⟩ := lWg_pump (yy := yy) (B := B) (F := F) (G := G) h15
          refine va_get (D := D) (cl := vwCl) (tys := jT yy) (ci := 7) (v := .int (F 24 k0)) (C := RX7) (T := TX7) (N := 8) hx hb hts (fun w h => List.mem_cons_of_mem _ (inlX7 w h)) hown hK hP q9 hq9 rfl 0 (by decide) (jw hts gw278) (fun _ h9 => h9) rfl (dd_of dX7_work_0 29 rfl) ?_
          have h16 := hok.1
          replace hok := hok.2
          refine jc_l (As := [.int (F 25 k0), .int (F 24 k0)]) (rest := []) (w := (lW yy B F G)) (D := D) (yy := yy) ⟨hx, hb, hml, hown, hts⟩ (qX10_above l D yy B F G  (F 25 k0) (F 24 k0) h16) (cwV 2 hts (jgV gw471 gw355 gw356 gw26 gw357) rfl rfl rfl (by decide +kernel) ⟨Nat.le_of_ble_eq_true rfl, Nat.le_of_ble_eq_true rfl⟩) hP hK (va_recv hK hP (ci := 10) (q0 := 1) rfl rfl) rfl hl.1 rfl (Nat.le_of_ble_eq_true rfl) (dd_of dX7_work_0 30 rfl) ⟨Nat.zero_le _, Nat.zero_le _⟩ (fun x17 ex17 => ?_)
          replace hres := bvE ex17 hres
          replace hok := bvO ex17 hok
          refine lv_ldc2 (v := 100) hx hb hown (jw hts gw469) (dd_of dX7_work_0 31 rfl) ?_
          refine lv_aload_n hx hb (dd_of dX7_work_0 32 rfl) rfl (lv_at hl 1 rfl) ?_
          have h18 := hok.1
          replace hok := hok.2
          obtain ⟨q9, hq9⟩ := lWg_pump (yy := yy) (B := B) (F := F) (G := G) h18
          refine va_get (D := D) (cl := vwCl) (tys := jT yy) (ci := 7) (v := .int (F 27 k0)) (C := RX7) (T := TX7) (N := 8) hx hb hts (fun w h => List.mem_cons_of_mem _ (inlX7 w h)) hown hK hP q9 hq9 rfl 3 (by decide) (jw hts gw281) (fun _ h9 => h9) rfl (dd_of dX7_work_0 33 rfl) ?_
          refine lv_i2l (v := (Int32.toInt64 (F 27 k0))) hx hb (dd_of dX7_work_0 34 rfl) rfl ?_
          refine lv_lmul hx hb (dd_of dX7_work_0 35 rfl) ?_
          refine jl_le (tgt := 75) hx hb (dd_of dX7_work_0 36 rfl) (dd_of dX7_work_0 37 rfl) (by decide) (fun c19 => ?_) (fun c19 => ?_)
          · replace hres := ifE c19 hres
            replace hok := hok.1 c19
            refine lv_aload_n hx hb (dd_of dX7_work_0 39 rfl) rfl (lv_at hl 2 rfl) ?_
            refine lv_aload_n hx hb (dd_of dX7_work_1 0 rfl) rfl (lv_at hl 1 rfl) ?_
            have h20 := hok.1
            replace hok := hok.2
            obtain ⟨q9, hq9⟩ := lWg_pump (yy := yy) (B := B) (F := F) (G := G) h20
            refine va_get (D := D) (cl := vwCl) (tys := jT yy) (ci := 7) (v := .int (F 24 k0)) (C := RX7) (T := TX7) (N := 8) hx hb hts (fun w h => List.mem_cons_of_mem _ (inlX7 w h)) hown hK hP q9 hq9 rfl 0 (by decide) (jw hts gw278) (fun _ h9 => h9) rfl (dd_of dX7_work_1 1 rfl) ?_
            refine lv_aload_n hx hb (dd_of dX7_work_1 2 rfl) rfl (lv_at hl 1 rfl) ?_
            have h21 := hok.1
            replace hok := hok.2
            obtain ⟨q9, hq9⟩ := lWg_pump (yy := yy) (B := B) (F := F) (G := G) h21
            refine va_get (D := D) (cl := vwCl) (tys := jT yy) (ci := 7) (v := .int (F 25 k0)) (C := RX7) (T := TX7) (N := 8) hx hb hts (fun w h => List.mem_cons_of_mem _ (inlX7 w h)) hown hK hP q9 hq9 rfl 1 (by decide) (jw hts gw279) (fun _ h9 => h9) rfl (dd_of dX7_work_1 3 rfl) ?_
            refine lv_lload_n hx hb (dd_of dX7_work_1 4 rfl) rfl (lv_at hl 0 rfl) ?_
            have h22 := hok.1
            replace hok := hok.2
            refine jm_v (As := [.int (F 24 k0), .int (F 25 k0), .long x12]) (rest := []) (w := (lW yy B F G)) (w1 := fun u : jS => (lW yy B u.1 u.2)) (D := D) (yy := yy) ⟨hx, hb, hml, hown, hts⟩ (qX10_move l D yy B F G H.size  (F 24 k0) (F 25 k0) x12 h22) (cwV 3 hts (jgV gw472 gw458 gw459 gw26 gw460) rfl rfl rfl (by decide +kernel) ⟨Nat.le_of_ble_eq_true rfl, Nat.le_of_ble_eq_true rfl⟩) hP hK hD hS hA (va_recv hK hP (ci := 10) (q0 := 1) rfl rfl) rfl hl.1 rfl (Nat.le_of_ble_eq_true rfl) (dd_of dX7_work_1 5 rfl) ⟨Nat.zero_le _, Nat.zero_le _⟩ (fun u9 H locs w25 hP hD hS => ?_)
            obtain ⟨F23, G24⟩ := u9
            have hP : va_P D vwCl (lW yy B F23 G24) H := hP
            have hD : va_D Z (lW yy B F23 G24) := hD
            replace hres := bsE w25 hres
            replace hok := bsO w25 hok
            refine lv_aload_n hx hb (dd_of dX7_work_1 6 rfl) rfl (lv_at hl 1 rfl) ?_
            refine lv_dup hx hb (dd_of dX7_work_1 7 rfl) rfl ?_
            have h26 := hok.1
            replace hok := hok.2
            obtain ⟨q9, hq9⟩ := lWg_pump (yy := yy) (B := B) (F := F23) (G := G24) h26
            refine va_get (D := D) (cl := vwCl) (tys := jT yy) (ci := 7) (v := .int (F23 30 k0)) (C := RX7) (T := TX7) (N := 8) hx hb hts (fun w h => List.mem_cons_of_mem _ (inlX7 w h)) hown hK hP q9 hq9 rfl 6 (by decide) (jw hts gw466) (fun _ h9 => h9) rfl (dd_of dX7_work_1 8 rfl) ?_
            refine lv_iconst (v := 1) hx hb (dd_of dX7_work_1 9 rfl) (by decide) ?_
            refine lv_isub hx hb (dd_of dX7_work_1 10 rfl) ?_
            have h27 := hok.1
            replace hok := hok.2
            obtain ⟨q9, hq9, hs9⟩ := lWs_pump_fuel (yy := yy) (B := B) (F := F23) (G := G24) (v := ((F23 30 k0) - 1)) h27
            refine va_put (D := D) (cl := vwCl) (tys := jT yy) (ci := 7) (v := .int ((F23 30 k0) - 1)) (ty := .int) (C := RX7) (T := TX7) (N := 8) hx hb hts (fun w h => List.mem_cons_of_mem _ (inlX7 w h)) tyX7 tyX7_ok nmX7 hown hK hP hD hS q9 hq9 rfl 6 (by decide) (jw hts gw466) (fun _ h9 => h9) rfl (by decide +kernel) rfl rfl (Nat.le_of_ble_eq_true rfl) (dd_of dX7_work_1 11 rfl) (fun H locs hP hD hS => ?_)
            obtain ⟨F28, e29⟩ : ∃ z : jF, z = u2 F23 30 k0 ((F23 30 k0) - 1) := ⟨_, rfl⟩
            have hP : va_P D vwCl (lW yy B F28 G24) H := by rw [e29, ← hs9]; exact hP
            have hD : va_D Z (lW yy B F28 G24) := by rw [e29, ← hs9]; exact hD
            replace hres := bvE e29 hres
            replace hok := bvO e29 hok
            refine lv_aload_n hx hb (dd_of dX7_work_1 12 rfl) rfl (lv_at hl 1 rfl) ?_
            refine lv_dup hx hb (dd_of dX7_work_1 13 rfl) rfl ?_
            have h30 := hok.1
            replace hok := hok.2
            obtain ⟨q9, hq9⟩ := lWg_pump (yy := yy) (B := B) (F := F28) (G := G24) h30
            refine va_get (D := D) (cl := vwCl) (tys := jT yy) (ci := 7) (v := .int (F28 31 k0)) (C := RX7) (T := TX7) (N := 8) hx hb hts (fun w h => List.mem_cons_of_mem _ (inlX7 w h)) hown hK hP q9 hq9 rfl 7 (by decide) (jw hts gw467) (fun _ h9 => h9) rfl (dd_of dX7_work_1 14 rfl) ?_
            refine lv_iconst (v := 1) hx hb (dd_of dX7_work_1 15 rfl) (by decide) ?_
            refine lv_iadd hx hb (dd_of dX7_work_1 16 rfl) ?_
            have h31 := hok
            obtain ⟨q9, hq9, hs9⟩ := lWs_pump_wear (yy := yy) (B := B) (F := F28) (G := G24) (v := ((F28 31 k0) + 1)) h31
            refine va_put (D := D) (cl := vwCl) (tys := jT yy) (ci := 7) (v := .int ((F28 31 k0) + 1)) (ty := .int) (C := RX7) (T := TX7) (N := 8) hx hb hts (fun w h => List.mem_cons_of_mem _ (inlX7 w h)) tyX7 tyX7_ok nmX7 hown hK hP hD hS q9 hq9 rfl 7 (by decide) (jw hts gw467) (fun _ h9 => h9) rfl (by decide +kernel) rfl rfl (Nat.le_of_ble_eq_true rfl) (dd_of dX7_work_1 17 rfl) (fun H locs hP hD hS => ?_)
            obtain ⟨F32, e33⟩ : ∃ z : jF, z = u2 F28 31 k0 ((F28 31 k0) + 1) := ⟨_, rfl⟩
            have hP : va_P D vwCl (lW yy B F32 G24) H := by rw [e33, ← hs9]; exact hP
            have hD : va_D Z (lW yy B F32 G24) := by rw [e33, ← hs9]; exact hD
            replace hres := bvE e33 hres
            subst hQ
            exact W.vret hx hb hr (fun t ht hW => ⟨⟨(F32, G24), rfl, hres, by rw [ht]; exact hP, va_K.moved hW.alike hK, hD⟩, hS.F ht⟩) hS.2.2 (dd_of dX7_work_1 18 rfl) hlk
          · replace hres := ifN c19 hres
            subst hQ
            exact W.vret hx hb hr (fun t ht hW => ⟨⟨(F, G), rfl, hres, by rw [ht]; exact hP, va_K.moved hW.alike hK, hD⟩, hS.F ht⟩) hS.2.2 (dd_of dX7_work_0 38 rfl) hlk
      · replace hres := ifN c7 hres
        subst hQ
        exact W.vret hx hb hr (fun t ht hW => ⟨⟨(F, G), rfl, hres, by rw [ht]; exact hP, va_K.moved hW.alike hK, hD⟩, hS.F ht⟩) hS.2.2 (dd_of dX7_work_0 11 rfl) hlk
set_option maxHeartbeats 4000000 in
set_option maxRecDepth 100000 in
theorem qX7_sumPump (l : Launch) (D : va_G) (yy : Nat → ClassId) (B : Nat → Nat) (F : jF) (G : jG) (k0 : Nat) (p1 : Int64) (hok : okX7_sumPump F G k0 p1) : Met l yX7_sumPump (Cond.code yX7_sumPump cX7_sumPump 3 (some .long) :: wsL_law) rmX7_sumPump (va_Pc [.ref (B (300 + k0)), .long p1] (jR D yy (lW yy B F G))) (vp_Sl (fun r => r = gX7_sumPump F G k0 p1)) 0 0 (fun _ => False) := by
  generalize hres : gX7_sumPump F G k0 p1 = RES
  refine jM (vs := [.ref (B (300 + k0)), .long p1]) (own := RX7) (by decide +kernel) rfl (Nat.le_of_ble_eq_true rfl) ?_
  intro p e s m args below meth c ls Q hQ hargs S hr hlk hinit hB hl
  obtain ⟨hx, hb, hml, hown, hts⟩ := S
  have hl : lv_has ls 3 [(0, .ref (B (300 + k0))), (1, .long p1)] := hl
  obtain ⟨hP, hK⟩ := hB
  unfold gX7_sumPump at hres
  unfold okX7_sumPump at hok
  refine lv_lload_n hx hb (dd_of dX7_sumPump_0 0 rfl) rfl (lv_at hl 1 rfl) ?_
  refine lv_ldc2 (v := 31) hx hb hown (jw hts gw1246) (dd_of dX7_sumPump_0 1 rfl) ?_
  refine lv_lmul hx hb (dd_of dX7_sumPump_0 2 rfl) ?_
  refine lv_aload_n hx hb (dd_of dX7_sumPump_0 3 rfl) rfl (lv_at hl 0 rfl) ?_
  have h1 := hok.1
  replace hok := hok.2
  obtain ⟨q9, hq9⟩ := lWg_pump (yy := yy) (B := B) (F := F) (G := G) h1
  refine va_get (D := D) (cl := vwCl) (tys := jT yy) (ci := 7) (v := .int (F 30 k0)) (C := RX7) (T := TX7) (N := 8) hx hb hts (fun w h => List.mem_cons_of_mem _ (inlX7 w h)) hown hK hP q9 hq9 rfl 6 (by decide) (jw hts gw466) (fun _ h9 => h9) rfl (dd_of dX7_sumPump_0 4 rfl) ?_
  refine lv_i2l (v := (Int32.toInt64 (F 30 k0))) hx hb (dd_of dX7_sumPump_0 5 rfl) rfl ?_
  refine lv_ladd hx hb (dd_of dX7_sumPump_0 6 rfl) ?_
  refine lv_ldc2 (v := 31) hx hb hown (jw hts gw1246) (dd_of dX7_sumPump_0 7 rfl) ?_
  refine lv_lmul hx hb (dd_of dX7_sumPump_0 8 rfl) ?_
  refine lv_aload_n hx hb (dd_of dX7_sumPump_0 9 rfl) rfl (lv_at hl 0 rfl) ?_
  have h2 := hok
  obtain ⟨q9, hq9⟩ := lWg_pump (yy := yy) (B := B) (F := F) (G := G) h2
  refine va_get (D := D) (cl := vwCl) (tys := jT yy) (ci := 7) (v := .int (F 31 k0)) (C := RX7) (T := TX7) (N := 8) hx hb hts (fun w h => List.mem_cons_of_mem _ (inlX7 w h)) hown hK hP q9 hq9 rfl 7 (by decide) (jw hts gw467) (fun _ h9 => h9) rfl (dd_of dX7_sumPump_0 10 rfl) ?_
  refine lv_i2l (v := (Int32.toInt64 (F 31 k0))) hx hb (dd_of dX7_sumPump_0 11 rfl) rfl ?_
  refine lv_ladd hx hb (dd_of dX7_sumPump_0 12 rfl) ?_
  subst hQ
  exact W.lret (v := ((((p1 * 31) + (Int32.toInt64 (F 30 k0))) * 31) + (Int32.toInt64 (F 31 k0)))) hx hb hr (fun t ht _ => ⟨_, rfl, hres, ht⟩) (fun _ h => absurd h List.not_mem_nil) (dd_of dX7_sumPump_0 13 rfl) hlk
set_option maxHeartbeats 4000000 in
set_option maxRecDepth 100000 in
theorem qX8_isBuilt (l : Launch) (D : va_G) (yy : Nat → ClassId) (B : Nat → Nat) (F : jF) (G : jG) (p1 : Int32) (p2 : Int32) (hok : okX8_isBuilt F G p1 p2) : Met l yX8_isBuilt (Cond.code yX8_isBuilt cX8_isBuilt 4 (some .boolean) :: wsL_law) rmX8_isBuilt (va_Pc [.ref (B 7), .int p1, .int p2] (jR D yy (lW yy B F G))) (vp_Si (fun r => r = gX8_isBuilt F G p1 p2)) 0 0 (fun _ => False) := by
  generalize hres : gX8_isBuilt F G p1 p2 = RES
  refine jM (vs := [.ref (B 7), .int p1, .int p2]) (own := RX8) (by decide +kernel) rfl (Nat.le_of_ble_eq_true rfl) ?_
  intro p e s m args below meth c ls Q hQ hargs S hr hlk hinit hB hl
  obtain ⟨hx, hb, hml, hown, hts⟩ := S
  have hl : lv_has ls 4 [(0, .ref (B 7)), (1, .int p1), (2, .int p2)] := hl
  obtain ⟨hP, hK⟩ := hB
  unfold gX8_isBuilt at hres
  unfold okX8_isBuilt at hok
  refine lv_iload_n hx hb (dd_of dX8_isBuilt_0 0 rfl) rfl (lv_at hl 1 rfl) ?_
  refine lv_bipush (v := 8) hx hb (dd_of dX8_isBuilt_0 1 rfl) (by decide) ?_
  refine lv_imul hx hb (dd_of dX8_isBuilt_0 2 rfl) ?_
  refine lv_iload_n hx hb (dd_of dX8_isBuilt_0 3 rfl) rfl (lv_at hl 2 rfl) ?_
  refine lv_iadd hx hb (dd_of dX8_isBuilt_0 4 rfl) ?_
  refine lv_topi (fun x1 ex1 => ?_)
  replace hres := bvE ex1 hres
  replace hok := bvO ex1 hok
  refine lv_istore_n (lv' := [(3, .int x1), (0, .ref (B 7)), (1, .int p1), (2, .int p2)]) hx hb (dd_of dX8_isBuilt_0 5 rfl) rfl hl (by decide) rfl (fun ls hl => ?_)
  refine lv_iload_n hx hb (dd_of dX8_isBuilt_0 6 rfl) rfl (lv_at hl 0 rfl) ?_
  refine lv_if_lt (tgt := 33) hx hb (dd_of dX8_isBuilt_0 7 rfl) (by decide) (fun c2 => ?_) (fun c2 => ?_)
  · replace hres := ifE c2 hres
    refine lv_iconst (v := 0) hx hb (dd_of dX8_isBuilt_0 20 rfl) (by decide) ?_
    subst hQ
    exact W.zret (ty := .boolean) (v := 0) hx hb hr (jb_nz (Or.inl rfl)) (fun t ht _ => ⟨_, rfl, hres, ht⟩) (fun _ h => absurd h List.not_mem_nil) (dd_of dX8_isBuilt_0 21 rfl) hlk
  · replace hres := ifN c2 hres
    replace hok := hok.2 c2
    refine lv_iload_n hx hb (dd_of dX8_isBuilt_0 8 rfl) rfl (lv_at hl 0 rfl) ?_
    refine lv_aload_n hx hb (dd_of dX8_isBuilt_0 9 rfl) rfl (lv_at hl 1 rfl) ?_
    refine va_get (D := D) (cl := vwCl) (tys := jT yy) (ci := 8) (v := .ref (B 16)) (C := RX8) (T := TX8) (N := 3) hx hb hts (fun w h => List.mem_cons_of_mem _ (inlX8 w h)) hown hK hP 3 rfl rfl 0 (by decide) (jw hts gw111) (fun _ h9 => h9) rfl (dd_of dX8_isBuilt_0 10 rfl) ?_
    refine va_alen (v := 64) hx hb hK hP 16 2 rfl rfl rfl (dd_of dX8_isBuilt_0 11 rfl) ?_
    refine lv_icmp_ge (tgt := 33) hx hb (dd_of dX8_isBuilt_0 12 rfl) (by decide) (fun c3 => ?_) (fun c3 => ?_)
    · replace hres := ifE c3 hres
      refine lv_iconst (v := 0) hx hb (dd_of dX8_isBuilt_0 20 rfl) (by decide) ?_
      subst hQ
      exact W.zret (ty := .boolean) (v := 0) hx hb hr (jb_nz (Or.inl rfl)) (fun t ht _ => ⟨_, rfl, hres, ht⟩) (fun _ h => absurd h List.not_mem_nil) (dd_of dX8_isBuilt_0 21 rfl) hlk
    · replace hres := ifN c3 hres
      replace hok := hok.2 c3
      refine lv_aload_n hx hb (dd_of dX8_isBuilt_0 13 rfl) rfl (lv_at hl 1 rfl) ?_
      refine va_get (D := D) (cl := vwCl) (tys := jT yy) (ci := 8) (v := .ref (B 16)) (C := RX8) (T := TX8) (N := 3) hx hb hts (fun w h => List.mem_cons_of_mem _ (inlX8 w h)) hown hK hP 3 rfl rfl 0 (by decide) (jw hts gw111) (fun _ h9 => h9) rfl (dd_of dX8_isBuilt_0 14 rfl) ?_
      refine lv_iload_n hx hb (dd_of dX8_isBuilt_0 15 rfl) rfl (lv_at hl 0 rfl) ?_
      have h4 := hok
      refine va_zald hx hb hK hP 16 2 rfl rfl h4 (dd_of dX8_isBuilt_0 16 rfl) ?_
      refine lv_if_eq (tgt := 33) hx hb (dd_of dX8_isBuilt_0 17 rfl) (by decide) (fun c5 => ?_) (fun c5 => ?_)
      · replace hres := ifE c5 hres
        refine lv_iconst (v := 0) hx hb (dd_of dX8_isBuilt_0 20 rfl) (by decide) ?_
        subst hQ
        exact W.zret (ty := .boolean) (v := 0) hx hb hr (jb_nz (Or.inl rfl)) (fun t ht _ => ⟨_, rfl, hres, ht⟩) (fun _ h => absurd h List.not_mem_nil) (dd_of dX8_isBuilt_0 21 rfl) hlk
      · replace hres := ifN c5 hres
        refine lv_iconst (v := 1) hx hb (dd_of dX8_isBuilt_0 18 rfl) (by decide) ?_
        refine lv_goto (tgt := 34) hx hb (dd_of dX8_isBuilt_0 19 rfl) (by decide) ?_
        subst hQ
        exact W.zret (ty := .boolean) (v := 1) hx hb hr (jb_nz (Or.inr rfl)) (fun t ht _ => ⟨_, rfl, hres, ht⟩) (fun _ h => absurd h List.not_mem_nil) (dd_of dX8_isBuilt_0 21 rfl) hlk
set_option maxHeartbeats 4000000 in
set_option maxRecDepth 100000 in
theorem qX8_put (l : Launch) (D : va_G) (yy : Nat → ClassId) (B : Nat → Nat) (F : jF) (G : jG) (sz : Nat) (p1 : Int32) (p2 : Int32) (hok : okX8_put F G p1 p2) : Met l yX8_put (Cond.code yX8_put cX8_put 3 none :: wsL_law) rmX8_put (va_Pc [.ref (B 7), .int p1, .int p2] (jP D yy (lW yy B F G) sz)) (va_Qv (fun u : jS => u = gX8_put F G p1 p2) (fun (u : jS) t => jB D yy (va_A (lW yy B F G) sz) (lW yy B u.1 u.2) t) (va_A (lW yy B F G) sz)) 0 0 (va_A (lW yy B F G) sz) := by
  generalize hres : gX8_put F G p1 p2 = RES
  refine jM (vs := [.ref (B 7), .int p1, .int p2]) (own := RX8) (by decide +kernel) rfl (Nat.le_of_ble_eq_true rfl) ?_
  intro p e s m args below meth c ls Q hQ hargs S hr hlk hinit hB hl
  obtain ⟨hx, hb, hml, hown, hts⟩ := S
  have hl : lv_has ls 3 [(0, .ref (B 7)), (1, .int p1), (2, .int p2)] := hl
  obtain ⟨hsz, hP, hK, hD0⟩ := hB
  subst hsz
  have hD := hD0.self (sz := s.heap.size)
  generalize hZ : va_A (lW yy B F G) s.heap.size = Z at hD hQ
  have hA : ∀ q : Nat, s.heap.size ≤ q → Z q := fun q h => by rw [← hZ]; exact Or.inr h
  obtain ⟨H, hH⟩ : ∃ z, z = s.heap := ⟨_, rfl⟩
  obtain ⟨locs, hlocs⟩ : ∃ z : List Loc, z = [] := ⟨_, rfl⟩
  have hS : va_S Z s.heap H locs := by rw [hH, hlocs]; exact va_S.rf
  rw [← hH] at hP
  suffices hgo : W p l e rmX8_put s m args below meth c H locs 0 0 Q (F0 m 0 ls []) by rw [hH, hlocs] at hgo; exact hgo
  unfold gX8_put at hres
  unfold okX8_put at hok
  refine lv_iload_n hx hb (dd_of dX8_put_0 0 rfl) rfl (lv_at hl 1 rfl) ?_
  refine lv_if_lt (tgt := 20) hx hb (dd_of dX8_put_0 1 rfl) (by decide) (fun c1 => ?_) (fun c1 => ?_)
  · replace hres := ifE c1 hres
    subst hQ
    exact W.vret hx hb hr (fun t ht hW => ⟨⟨(F, G), rfl, hres, by rw [ht]; exact hP, va_K.moved hW.alike hK, hD⟩, hS.F ht⟩) hS.2.2 (dd_of dX8_put_0 12 rfl) hlk
  · replace hres := ifN c1 hres
    replace hok := hok.2 c1
    refine lv_iload_n hx hb (dd_of dX8_put_0 2 rfl) rfl (lv_at hl 1 rfl) ?_
    refine lv_aload_n hx hb (dd_of dX8_put_0 3 rfl) rfl (lv_at hl 0 rfl) ?_
    refine va_get (D := D) (cl := vwCl) (tys := jT yy) (ci := 8) (v := .ref (B 16)) (C := RX8) (T := TX8) (N := 3) hx hb hts (fun w h => List.mem_cons_of_mem _ (inlX8 w h)) hown hK hP 3 rfl rfl 0 (by decide) (jw hts gw111) (fun _ h9 => h9) rfl (dd_of dX8_put_0 4 rfl) ?_
    refine va_alen (v := 64) hx hb hK hP 16 2 rfl rfl rfl (dd_of dX8_put_0 5 rfl) ?_
    refine lv_icmp_ge (tgt := 20) hx hb (dd_of dX8_put_0 6 rfl) (by decide) (fun c2 => ?_) (fun c2 => ?_)
    · replace hres := ifE c2 hres
      subst hQ
      exact W.vret hx hb hr (fun t ht hW => ⟨⟨(F, G), rfl, hres, by rw [ht]; exact hP, va_K.moved hW.alike hK, hD⟩, hS.F ht⟩) hS.2.2 (dd_of dX8_put_0 12 rfl) hlk
    · replace hres := ifN c2 hres
      replace hok := hok.2 c2
      refine lv_aload_n hx hb (dd_of dX8_put_0 7 rfl) rfl (lv_at hl 0 rfl) ?_
      refine va_get (D := D) (cl := vwCl) (tys := jT yy) (ci := 8) (v := .ref (B 16)) (C := RX8) (T := TX8) (N := 3) hx hb hts (fun w h => List.mem_cons_of_mem _ (inlX8 w h)) hown hK hP 3 rfl rfl 0 (by decide) (jw hts gw111) (fun _ h9 => h9) rfl (dd_of dX8_put_0 8 rfl) ?_
      refine lv_iload_n hx hb (dd_of dX8_put_0 9 rfl) rfl (lv_at hl 1 rfl) ?_
      refine lv_iload_n hx hb (dd_of dX8_put_0 10 rfl) rfl (lv_at hl 2 rfl) ?_
      have h3 := hok.1
      replace hok := hok.2
      have h4 := hok
      refine va_zast hx hb hK hP hD hS 16 2 rfl rfl h4 (dd_of dX8_put_0 11 rfl) (fun H locs hP hD hS => ?_)
      rw [jb_nar h3] at hP hD
      obtain ⟨F5, e6⟩ : ∃ z : jF, z = u2 F 16 (Int32.toNatClampNeg p1) p2 := ⟨_, rfl⟩
      have hP : va_P D vwCl (lW yy B F5 G) H := by rw [e6]; exact hP
      have hD : va_D Z (lW yy B F5 G) := by rw [e6]; exact hD
      replace hres := bvE e6 hres
      subst hQ
      exact W.vret hx hb hr (fun t ht hW => ⟨⟨(F5, G), rfl, hres, by rw [ht]; exact hP, va_K.moved hW.alike hK, hD⟩, hS.F ht⟩) hS.2.2 (dd_of dX8_put_0 12 rfl) hlk
set_option maxHeartbeats 4000000 in
set_option maxRecDepth 100000 in
theorem qX8_build (l : Launch) (D : va_G) (yy : Nat → ClassId) (B : Nat → Nat) (F : jF) (G : jG) (sz : Nat) (p1 : Int32) (p2 : Int32) (p3 : Int32) (hok : okX8_build F G p1 p2 p3) : Met l yX8_build (Cond.code yX8_build cX8_build 5 (some .boolean) :: wsL_law) rmX8_build (va_Pc [.ref (B 7), .int p1, .int p2, .int p3] (jP D yy (lW yy B F G) sz)) (va_Qi (fun r (u : jS) => (r, u) = gX8_build F G p1 p2 p3) (fun (u : jS) t => jB D yy (va_A (lW yy B F G) sz) (lW yy B u.1 u.2) t) (va_A (lW yy B F G) sz)) 0 0 (va_A (lW yy B F G) sz) := by
  generalize hres : gX8_build F G p1 p2 p3 = RES
  refine jM (vs := [.ref (B 7), .int p1, .int p2, .int p3]) (own := RX8) (by decide +kernel) rfl (Nat.le_of_ble_eq_true rfl) ?_
  intro p e s m args below meth c ls Q hQ hargs S hr hlk hinit hB hl
  obtain ⟨hx, hb, hml, hown, hts⟩ := S
  have hl : lv_has ls 5 [(0, .ref (B 7)), (1, .int p1), (2, .int p2), (3, .int p3)] := hl
  obtain ⟨hsz, hP, hK, hD0⟩ := hB
  subst hsz
  have hD := hD0.self (sz := s.heap.size)
  generalize hZ : va_A (lW yy B F G) s.heap.size = Z at hD hQ
  have hA : ∀ q : Nat, s.heap.size ≤ q → Z q := fun q h => by rw [← hZ]; exact Or.inr h
  obtain ⟨H, hH⟩ : ∃ z, z = s.heap := ⟨_, rfl⟩
  obtain ⟨locs, hlocs⟩ : ∃ z : List Loc, z = [] := ⟨_, rfl⟩
  have hS : va_S Z s.heap H locs := by rw [hH, hlocs]; exact va_S.rf
  rw [← hH] at hP
  suffices hgo : W p l e rmX8_build s m args below meth c H locs 0 0 Q (F0 m 0 ls []) by rw [hH, hlocs] at hgo; exact hgo
  unfold gX8_build at hres
  unfold okX8_build at hok
  refine lv_aload_n hx hb (dd_of dX8_build_0 0 rfl) rfl (lv_at hl 0 rfl) ?_
  refine lv_iload_n hx hb (dd_of dX8_build_0 1 rfl) rfl (lv_at hl 1 rfl) ?_
  refine lv_iload_n hx hb (dd_of dX8_build_0 2 rfl) rfl (lv_at hl 2 rfl) ?_
  have h1 := hok.1
  replace hok := hok.2
  refine jc_i (As := [.int p1, .int p2]) (rest := []) (w := (lW yy B F G)) (D := D) (yy := yy) ⟨hx, hb, hml, hown, hts⟩ (qX8_isBuilt l D yy B F G  p1 p2 h1) (cwV 2 hts (jgV gw251 gw252 gw253 gw42 gw254) rfl rfl rfl (by decide +kernel) ⟨Nat.le_of_ble_eq_true rfl, Nat.le_of_ble_eq_true rfl⟩) hP hK (va_recv hK hP (ci := 8) (q0 := 3) rfl rfl) rfl hl.1 rfl (Nat.le_of_ble_eq_true rfl) (dd_of dX8_build_0 3 rfl) ⟨Nat.zero_le _, Nat.zero_le _⟩ (fun x2 ex2 => ?_)
  replace hres := bvE ex2 hres
  replace hok := bvO ex2 hok
  refine lv_istore (lv' := [(4, .int x2), (0, .ref (B 7)), (1, .int p1), (2, .int p2), (3, .int p3)]) hx hb (dd_of dX8_build_0 4 rfl) hl (by decide) rfl (fun ls hl => ?_)
  refine lv_aload_n hx hb (dd_of dX8_build_0 5 rfl) rfl (lv_at hl 1 rfl) ?_
  refine lv_iload_n hx hb (dd_of dX8_build_0 6 rfl) rfl (lv_at hl 2 rfl) ?_
  refine lv_bipush (v := 8) hx hb (dd_of dX8_build_0 7 rfl) (by decide) ?_
  refine lv_imul hx hb (dd_of dX8_build_0 8 rfl) ?_
  refine lv_iload_n hx hb (dd_of dX8_build_0 9 rfl) rfl (lv_at hl 3 rfl) ?_
  refine lv_iadd hx hb (dd_of dX8_build_0 10 rfl) ?_
  refine lv_iload_n hx hb (dd_of dX8_build_0 11 rfl) rfl (lv_at hl 4 rfl) ?_
  have h3 := hok.1
  replace hok := hok.2
  refine jm_v (As := [.int ((p1 * 8) + p2), .int p3]) (rest := []) (w := (lW yy B F G)) (w1 := fun u : jS => (lW yy B u.1 u.2)) (D := D) (yy := yy) ⟨hx, hb, hml, hown, hts⟩ (qX8_put l D yy B F G H.size  ((p1 * 8) + p2) p3 h3) (cwV 2 hts (jgV gw255 gw256 gw257 gw42 gw258) rfl rfl rfl (by decide +kernel) ⟨Nat.le_of_ble_eq_true rfl, Nat.le_of_ble_eq_true rfl⟩) hP hK hD hS hA (va_recv hK hP (ci := 8) (q0 := 3) rfl rfl) rfl hl.1 rfl (Nat.le_of_ble_eq_true rfl) (dd_of dX8_build_0 12 rfl) ⟨Nat.zero_le _, Nat.zero_le _⟩ (fun u9 H locs w6 hP hD hS => ?_)
  obtain ⟨F4, G5⟩ := u9
  have hP : va_P D vwCl (lW yy B F4 G5) H := hP
  have hD : va_D Z (lW yy B F4 G5) := hD
  replace hres := bsE w6 hres
  replace hok := bsO w6 hok
  refine lv_aload_n hx hb (dd_of dX8_build_0 13 rfl) rfl (lv_at hl 1 rfl) ?_
  refine lv_iload_n hx hb (dd_of dX8_build_0 14 rfl) rfl (lv_at hl 3 rfl) ?_
  refine lv_bipush (v := 8) hx hb (dd_of dX8_build_0 15 rfl) (by decide) ?_
  refine lv_imul hx hb (dd_of dX8_build_0 16 rfl) ?_
  refine lv_iload_n hx hb (dd_of dX8_build_0 17 rfl) rfl (lv_at hl 2 rfl) ?_
  refine lv_iadd hx hb (dd_of dX8_build_0 18 rfl) ?_
  refine lv_iload_n hx hb (dd_of dX8_build_0 19 rfl) rfl (lv_at hl 4 rfl) ?_
  have h7 := hok.1
  replace hok := hok.2
  refine jm_v (As := [.int ((p2 * 8) + p1), .int p3]) (rest := []) (w := (lW yy B F4 G5)) (w1 := fun u : jS => (lW yy B u.1 u.2)) (D := D) (yy := yy) ⟨hx, hb, hml, hown, hts⟩ (qX8_put l D yy B F4 G5 H.size  ((p2 * 8) + p1) p3 h7) (cwV 2 hts (jgV gw255 gw256 gw257 gw42 gw258) rfl rfl rfl (by decide +kernel) ⟨Nat.le_of_ble_eq_true rfl, Nat.le_of_ble_eq_true rfl⟩) hP hK hD hS hA (va_recv hK hP (ci := 8) (q0 := 3) rfl rfl) rfl hl.1 rfl (Nat.le_of_ble_eq_true rfl) (dd_of dX8_build_0 20 rfl) ⟨Nat.zero_le _, Nat.zero_le _⟩ (fun u9 H locs w10 hP hD hS => ?_)
  obtain ⟨F8, G9⟩ := u9
  have hP : va_P D vwCl (lW yy B F8 G9) H := hP
  have hD : va_D Z (lW yy B F8 G9) := hD
  replace hres := bsE w10 hres
  replace hok := bsO w10 hok
  refine lv_iload hx hb (dd_of dX8_build_0 21 rfl) (lv_at hl 0 rfl) ?_
  have hz11 := hok
  subst hQ
  exact W.zret (ty := .boolean) (v := x2) hx hb hr (jb_nz (hz11)) (fun t ht hW => ⟨⟨x2, (F8, G9), rfl, hres, by rw [ht]; exact hP, va_K.moved hW.alike hK, hD⟩, hS.F ht⟩) hS.2.2 (dd_of dX8_build_0 22 rfl) hlk
set_option maxHeartbeats 4000000 in
set_option maxRecDepth 100000 in
theorem qX8_lookAt (l : Launch) (D : va_G) (yy : Nat → ClassId) (B : Nat → Nat) (F : jF) (G : jG) (sz : Nat)  (hok : okX8_lookAt F G ) : Met l yX8_lookAt (Cond.code yX8_lookAt cX8_lookAt 4 none :: wsL_law) rmX8_lookAt (va_Pc [.ref (B 7), .ref (B 1)] (jP D yy (lW yy B F G) sz)) (va_Qv (fun u : jS => u = gX8_lookAt F G ) (fun (u : jS) t => jB D yy (va_A (lW yy B F G) sz) (lW yy B u.1 u.2) t) (va_A (lW yy B F G) sz)) 0 0 (va_A (lW yy B F G) sz) := by
  generalize hres : gX8_lookAt F G  = RES
  refine jM (vs := [.ref (B 7), .ref (B 1)]) (own := RX8) (by decide +kernel) rfl (Nat.le_of_ble_eq_true rfl) ?_
  intro p e s m args below meth c ls Q hQ hargs S hr hlk hinit hB hl
  obtain ⟨hx, hb, hml, hown, hts⟩ := S
  have hl : lv_has ls 4 [(0, .ref (B 7)), (1, .ref (B 1))] := hl
  obtain ⟨hsz, hP, hK, hD0⟩ := hB
  subst hsz
  have hD := hD0.self (sz := s.heap.size)
  generalize hZ : va_A (lW yy B F G) s.heap.size = Z at hD hQ
  have hA : ∀ q : Nat, s.heap.size ≤ q → Z q := fun q h => by rw [← hZ]; exact Or.inr h
  obtain ⟨H, hH⟩ : ∃ z, z = s.heap := ⟨_, rfl⟩
  obtain ⟨locs, hlocs⟩ : ∃ z : List Loc, z = [] := ⟨_, rfl⟩
  have hS : va_S Z s.heap H locs := by rw [hH, hlocs]; exact va_S.rf
  rw [← hH] at hP
  suffices hgo : W p l e rmX8_lookAt s m args below meth c H locs 0 0 Q (F0 m 0 ls []) by rw [hH, hlocs] at hgo; exact hgo
  unfold gX8_lookAt at hres
  unfold okX8_lookAt at hok
  refine lv_iconst (v := 0) hx hb (dd_of dX8_lookAt_0 0 rfl) (by decide) ?_
  refine lv_istore_n (lv' := [(2, .int 0), (0, .ref (B 7)), (1, .ref (B 1))]) hx hb (dd_of dX8_lookAt_0 1 rfl) rfl hl (by decide) rfl (fun ls hl => ?_)
  have LP2 : ∀ (K : Int32 → jF → jG → jS) (okK : Int32 → jF → jG → Prop) (n : Nat), ∀ (v2 : Int32) (F : jF) (G : jG), ∀ (H : Heap) (locs : List Loc) (ls : Array Slot), va_P D vwCl (lW yy B F G) H → va_D Z (lW yy B F G) → va_S Z s.heap H locs → lv_has ls 4 [(2, .int v2), (0, .ref (B 7)), (1, .ref (B 1))] → okX8_lookAt_L2  okK n v2 F G → gX8_lookAt_L2  K n v2 F G = RES → (∀ (v2 : Int32) (F : jF) (G : jG), ∀ (H : Heap) (locs : List Loc) (ls : Array Slot), va_P D vwCl (lW yy B F G) H → va_D Z (lW yy B F G) → va_S Z s.heap H locs → lv_has ls 4 [(2, .int v2), (0, .ref (B 7)), (1, .ref (B 1))] → okK v2 F G → K v2 F G = RES → W p l e rmX8_lookAt s m args below meth c H locs 0 0 Q (F0 m 49 ls [])) → W p l e rmX8_lookAt s m args below meth c H locs 0 0 Q (F0 m 2 ls []) := by
    intro  K okK n
    induction n with
    | zero =>
      intro v2 F G H locs ls hP hD hS hl hok _ _
      exact absurd hok (by unfold okX8_lookAt_L2; exact id)
    | succ n9 ih =>
      intro v2 F G H locs ls hP hD hS hl hok hres hexit
      unfold gX8_lookAt_L2 at hres
      unfold okX8_lookAt_L2 at hok
      refine lv_iload_n hx hb (dd_of dX8_lookAt_0 2 rfl) rfl (lv_at hl 0 rfl) ?_
      refine lv_aload_n hx hb (dd_of dX8_lookAt_0 3 rfl) rfl (lv_at hl 1 rfl) ?_
      refine va_get (D := D) (cl := vwCl) (tys := jT yy) (ci := 8) (v := .ref (B 17)) (C := RX8) (T := TX8) (N := 3) hx hb hts (fun w h => List.mem_cons_of_mem _ (inlX8 w h)) hown hK hP 3 rfl rfl 1 (by decide) (jw hts gw112) (fun _ h9 => h9) rfl (dd_of dX8_lookAt_0 4 rfl) ?_
      refine va_alen (v := 8) hx hb hK hP 17 2 rfl rfl rfl (dd_of dX8_lookAt_0 5 rfl) ?_
      refine lv_icmp_ge (tgt := 49) hx hb (dd_of dX8_lookAt_0 6 rfl) (by decide) (fun c1 => ?_) (fun c1 => ?_)
      · replace hres := ifE c1 hres
        replace hok := hok.1 c1
        exact hexit v2 F G H locs ls hP hD hS (lv_sub hl [0, 1, 2] rfl) hok hres
      · replace hres := ifN c1 hres
        replace hok := hok.2 c1
        refine lv_aload_n hx hb (dd_of dX8_lookAt_0 7 rfl) rfl (lv_at hl 2 rfl) ?_
        refine lv_iload_n hx hb (dd_of dX8_lookAt_0 8 rfl) rfl (lv_at hl 0 rfl) ?_
        have h2 := hok.1
        replace hok := hok.2
        refine jc_q (As := [.int v2]) (rest := []) (w := (lW yy B F G)) (D := D) (yy := yy) (B := B) (off := 100) ⟨hx, hb, hml, hown, hts⟩ (qX10_basinAt l D yy B F G  v2 h2) (cwV 1 hts (jgV gw520 gw231 gw232 gw26 gw233) rfl rfl rfl (by decide +kernel) ⟨Nat.le_of_ble_eq_true rfl, Nat.le_of_ble_eq_true rfl⟩) hP hK (va_recv hK hP (ci := 10) (q0 := 1) rfl rfl) rfl hl.1 rfl (Nat.le_of_ble_eq_true rfl) (dd_of dX8_lookAt_0 9 rfl) ⟨Nat.zero_le _, Nat.zero_le _⟩ (fun o3 eo3 => ?_)
        replace hres := bvE eo3 hres
        replace hok := bvO eo3 hok
        rcases o3 with _ | k4
        · replace hres := omN hres
          replace hok := opN hok
          refine lv_astore_nN (lv' := [(3, .null), (2, .int v2), (0, .ref (B 7)), (1, .ref (B 1))]) hx hb (dd_of dX8_lookAt_0 10 rfl) rfl hl (by decide) rfl (fun ls hl => ?_)
          refine lv_aload_n hx hb (dd_of dX8_lookAt_0 11 rfl) rfl (lv_at hl 2 rfl) ?_
          refine va_get (D := D) (cl := vwCl) (tys := jT yy) (ci := 8) (v := .ref (B 17)) (C := RX8) (T := TX8) (N := 3) hx hb hts (fun w h => List.mem_cons_of_mem _ (inlX8 w h)) hown hK hP 3 rfl rfl 1 (by decide) (jw hts gw112) (fun _ h9 => h9) rfl (dd_of dX8_lookAt_0 12 rfl) ?_
          refine lv_iload_n hx hb (dd_of dX8_lookAt_0 13 rfl) rfl (lv_at hl 1 rfl) ?_
          refine lv_aload_nN hx hb (dd_of dX8_lookAt_0 14 rfl) rfl (lv_at hl 0 rfl) ?_
          refine lv_ifnullN (tgt := 41) hx hb (dd_of dX8_lookAt_0 15 rfl) (by decide) ?_
          refine lv_iconst (v := 0) hx hb (dd_of dX8_lookAt_0 23 rfl) (by decide) ?_
          have h5 := hok.1
          replace hok := hok.2
          refine va_zast hx hb hK hP hD hS 17 2 rfl rfl h5 (dd_of dX8_lookAt_0 24 rfl) (fun H locs hP hD hS => ?_)
          rw [jb_nar (Or.inl rfl)] at hP hD
          obtain ⟨F6, e7⟩ : ∃ z : jF, z = u2 F 70 (Int32.toNatClampNeg v2) 0 := ⟨_, rfl⟩
          have hP : va_P D vwCl (lW yy B F6 G) H := by rw [e7]; exact hP
          have hD : va_D Z (lW yy B F6 G) := by rw [e7]; exact hD
          replace hres := bvE e7 hres
          replace hok := bvO e7 hok
          refine lv_iinc (v := (v2 + 1)) (lv' := [(2, .int (v2 + 1)), (3, .null), (0, .ref (B 7)), (1, .ref (B 1))]) hx hb (dd_of dX8_lookAt_0 25 rfl) hl (k := 1) rfl rfl (by decide) rfl (fun ls hl => ?_)
          refine lv_goto (tgt := 2) hx hb (dd_of dX8_lookAt_0 26 rfl) (by decide) ?_
          exact ih (v2 + 1) F6 G H locs ls hP hD hS (lv_sub hl [0, 2, 3] rfl) hok hres hexit
        · replace hres := omS hres
          replace hok := opS hok
          refine lv_astore_n (lv' := [(3, .ref (B (100 + k4))), (2, .int v2), (0, .ref (B 7)), (1, .ref (B 1))]) hx hb (dd_of dX8_lookAt_0 10 rfl) rfl hl (by decide) rfl (fun ls hl => ?_)
          refine lv_aload_n hx hb (dd_of dX8_lookAt_0 11 rfl) rfl (lv_at hl 2 rfl) ?_
          refine va_get (D := D) (cl := vwCl) (tys := jT yy) (ci := 8) (v := .ref (B 17)) (C := RX8) (T := TX8) (N := 3) hx hb hts (fun w h => List.mem_cons_of_mem _ (inlX8 w h)) hown hK hP 3 rfl rfl 1 (by decide) (jw hts gw112) (fun _ h9 => h9) rfl (dd_of dX8_lookAt_0 12 rfl) ?_
          refine lv_iload_n hx hb (dd_of dX8_lookAt_0 13 rfl) rfl (lv_at hl 1 rfl) ?_
          refine lv_aload_n hx hb (dd_of dX8_lookAt_0 14 rfl) rfl (lv_at hl 0 rfl) ?_
          refine lv_ifnull hx hb (dd_of dX8_lookAt_0 15 rfl) ?_
          refine lv_aload_n hx hb (dd_of dX8_lookAt_0 16 rfl) rfl (lv_at hl 0 rfl) ?_
          have h8 := hok.1
          replace hok := hok.2
          have h9 := hok.1
          replace hok := hok.2
          obtain ⟨q9, hq9⟩ := lWg_basin (yy := yy) (B := B) (F := F) (G := G) h8
          refine jc_l (As := []) (rest := [.int v2, .ref (B 17)]) (w := (lW yy B F G)) (D := D) (yy := yy) ⟨hx, hb, hml, hown, hts⟩ (qX0_aboveFloor l D yy B F G k4  h9) (cwV 0 hts (jgV gw521 gw511 gw512 gw215 gw513) rfl rfl rfl (by decide +kernel) ⟨Nat.le_of_ble_eq_true rfl, Nat.le_of_ble_eq_true rfl⟩) hP hK (va_recv hK hP (ci := 0) (q0 := q9) rfl hq9) rfl hl.1 rfl (Nat.le_of_ble_eq_true rfl) (dd_of dX8_lookAt_0 17 rfl) ⟨Nat.zero_le _, Nat.zero_le _⟩ (fun x10 ex10 => ?_)
          replace hres := bvE ex10 hres
          replace hok := bvO ex10 hok
          refine lv_ldc2 (v := 100) hx hb hown (jw hts gw519) (dd_of dX8_lookAt_0 18 rfl) ?_
          obtain ⟨z21, q20⟩ : ∃ z : Int32, (if 100 ≤ x10 then 0 else 1) = z := ⟨_, rfl⟩
          refine jn_i (ls := ls) (v := z21) 42 [.int v2, .ref (B 17)] (fun v12 ev12 => ?_) (fun K22 => ?_)
          · replace hres := bvE (ev12.trans q20.symm) hres
            replace hok := bvO (ev12.trans q20.symm) hok
            have h13 := hok.1
            replace hok := hok.2
            have h14 := hok.1
            replace hok := hok.2
            refine va_zast hx hb hK hP hD hS 17 2 rfl rfl h14 (dd_of dX8_lookAt_0 24 rfl) (fun H locs hP hD hS => ?_)
            rw [jb_nar h13] at hP hD
            obtain ⟨F15, e16⟩ : ∃ z : jF, z = u2 F 70 (Int32.toNatClampNeg v2) v12 := ⟨_, rfl⟩
            have hP : va_P D vwCl (lW yy B F15 G) H := by rw [e16]; exact hP
            have hD : va_D Z (lW yy B F15 G) := by rw [e16]; exact hD
            replace hres := bvE e16 hres
            replace hok := bvO e16 hok
            refine lv_iinc (v := (v2 + 1)) (lv' := [(2, .int (v2 + 1)), (3, .ref (B (100 + k4))), (0, .ref (B 7)), (1, .ref (B 1))]) hx hb (dd_of dX8_lookAt_0 25 rfl) hl (k := 1) rfl rfl (by decide) rfl (fun ls hl => ?_)
            refine lv_goto (tgt := 2) hx hb (dd_of dX8_lookAt_0 26 rfl) (by decide) ?_
            exact ih (v2 + 1) F15 G H locs ls hP hD hS (lv_sub hl [0, 2, 3] rfl) hok hres hexit
          · skip
            refine jl_ge (tgt := 41) hx hb (dd_of dX8_lookAt_0 19 rfl) (dd_of dX8_lookAt_0 20 rfl) (by decide) (fun c11 => ?_) (fun c11 => ?_)
            · replace q20 := ifE c11 q20
              refine lv_iconst (v := 0) hx hb (dd_of dX8_lookAt_0 23 rfl) (by decide) ?_
              exact K22 _ q20
            · replace q20 := ifN c11 q20
              refine lv_iconst (v := 1) hx hb (dd_of dX8_lookAt_0 21 rfl) (by decide) ?_
              refine lv_goto (tgt := 42) hx hb (dd_of dX8_lookAt_0 22 rfl) (by decide) ?_
              exact K22 _ q20
  refine LP2  _ _ 80 0 F G H locs ls hP hD hS (lv_sub hl [0, 1, 2] rfl) hok hres (fun y17 F18 G19 H locs ls hP hD hS hl hok hres => ?_)
  subst hQ
  exact W.vret hx hb hr (fun t ht hW => ⟨⟨(F18, G19), rfl, hres, by rw [ht]; exact hP, va_K.moved hW.alike hK, hD⟩, hS.F ht⟩) hS.2.2 (dd_of dX8_lookAt_0 27 rfl) hlk
set_option maxHeartbeats 4000000 in
set_option maxRecDepth 100000 in
theorem qX8_isFree (l : Launch) (D : va_G) (yy : Nat → ClassId) (B : Nat → Nat) (F : jF) (G : jG) (p1 : Int32) (p2 : Int32) (hok : okX8_isFree F G p1 p2) : Met l yX8_isFree (Cond.code yX8_isFree cX8_isFree 3 (some .boolean) :: wsL_law) rmX8_isFree (va_Pc [.ref (B 7), .int p1, .int p2] (jR D yy (lW yy B F G))) (vp_Si (fun r => r = gX8_isFree F G p1 p2)) 0 0 (fun _ => False) := by
  generalize hres : gX8_isFree F G p1 p2 = RES
  refine jM (vs := [.ref (B 7), .int p1, .int p2]) (own := RX8) (by decide +kernel) rfl (Nat.le_of_ble_eq_true rfl) ?_
  intro p e s m args below meth c ls Q hQ hargs S hr hlk hinit hB hl
  obtain ⟨hx, hb, hml, hown, hts⟩ := S
  have hl : lv_has ls 3 [(0, .ref (B 7)), (1, .int p1), (2, .int p2)] := hl
  obtain ⟨hP, hK⟩ := hB
  unfold gX8_isFree at hres
  unfold okX8_isFree at hok
  refine lv_iload_n hx hb (dd_of dX8_isFree_0 0 rfl) rfl (lv_at hl 1 rfl) ?_
  refine lv_if_lt (tgt := 26) hx hb (dd_of dX8_isFree_0 1 rfl) (by decide) (fun c1 => ?_) (fun c1 => ?_)
  · replace hres := ifE c1 hres
    refine lv_iconst (v := 0) hx hb (dd_of dX8_isFree_0 14 rfl) (by decide) ?_
    subst hQ
    exact W.zret (ty := .boolean) (v := 0) hx hb hr (jb_nz (Or.inl rfl)) (fun t ht _ => ⟨_, rfl, hres, ht⟩) (fun _ h => absurd h List.not_mem_nil) (dd_of dX8_isFree_0 15 rfl) hlk
  · replace hres := ifN c1 hres
    replace hok := hok.2 c1
    refine lv_iload_n hx hb (dd_of dX8_isFree_0 2 rfl) rfl (lv_at hl 1 rfl) ?_
    refine lv_aload_n hx hb (dd_of dX8_isFree_0 3 rfl) rfl (lv_at hl 0 rfl) ?_
    refine va_get (D := D) (cl := vwCl) (tys := jT yy) (ci := 8) (v := .ref (B 17)) (C := RX8) (T := TX8) (N := 3) hx hb hts (fun w h => List.mem_cons_of_mem _ (inlX8 w h)) hown hK hP 3 rfl rfl 1 (by decide) (jw hts gw112) (fun _ h9 => h9) rfl (dd_of dX8_isFree_0 4 rfl) ?_
    refine va_alen (v := 8) hx hb hK hP 17 2 rfl rfl rfl (dd_of dX8_isFree_0 5 rfl) ?_
    refine lv_icmp_ge (tgt := 26) hx hb (dd_of dX8_isFree_0 6 rfl) (by decide) (fun c2 => ?_) (fun c2 => ?_)
    · replace hres := ifE c2 hres
      refine lv_iconst (v := 0) hx hb (dd_of dX8_isFree_0 14 rfl) (by decide) ?_
      subst hQ
      exact W.zret (ty := .boolean) (v := 0) hx hb hr (jb_nz (Or.inl rfl)) (fun t ht _ => ⟨_, rfl, hres, ht⟩) (fun _ h => absurd h List.not_mem_nil) (dd_of dX8_isFree_0 15 rfl) hlk
    · replace hres := ifN c2 hres
      replace hok := hok.2 c2
      refine lv_iload_n hx hb (dd_of dX8_isFree_0 7 rfl) rfl (lv_at hl 2 rfl) ?_
      refine lv_if_lt (tgt := 26) hx hb (dd_of dX8_isFree_0 8 rfl) (by decide) (fun c3 => ?_) (fun c3 => ?_)
      · replace hres := ifE c3 hres
        refine lv_iconst (v := 0) hx hb (dd_of dX8_isFree_0 14 rfl) (by decide) ?_
        subst hQ
        exact W.zret (ty := .boolean) (v := 0) hx hb hr (jb_nz (Or.inl rfl)) (fun t ht _ => ⟨_, rfl, hres, ht⟩) (fun _ h => absurd h List.not_mem_nil) (dd_of dX8_isFree_0 15 rfl) hlk
      · replace hres := ifN c3 hres
        replace hok := hok.2 c3
        refine lv_iload_n hx hb (dd_of dX8_isFree_0 9 rfl) rfl (lv_at hl 2 rfl) ?_
        refine lv_aload_n hx hb (dd_of dX8_isFree_0 10 rfl) rfl (lv_at hl 0 rfl) ?_
        refine va_get (D := D) (cl := vwCl) (tys := jT yy) (ci := 8) (v := .ref (B 17)) (C := RX8) (T := TX8) (N := 3) hx hb hts (fun w h => List.mem_cons_of_mem _ (inlX8 w h)) hown hK hP 3 rfl rfl 1 (by decide) (jw hts gw112) (fun _ h9 => h9) rfl (dd_of dX8_isFree_0 11 rfl) ?_
        refine va_alen (v := 8) hx hb hK hP 17 2 rfl rfl rfl (dd_of dX8_isFree_0 12 rfl) ?_
        refine lv_icmp_lt (tgt := 28) hx hb (dd_of dX8_isFree_0 13 rfl) (by decide) (fun c4 => ?_) (fun c4 => ?_)
        · replace hres := ifE c4 hres
          replace hok := hok.1 c4
          refine lv_aload_n hx hb (dd_of dX8_isFree_0 16 rfl) rfl (lv_at hl 0 rfl) ?_
          refine va_get (D := D) (cl := vwCl) (tys := jT yy) (ci := 8) (v := .ref (B 17)) (C := RX8) (T := TX8) (N := 3) hx hb hts (fun w h => List.mem_cons_of_mem _ (inlX8 w h)) hown hK hP 3 rfl rfl 1 (by decide) (jw hts gw112) (fun _ h9 => h9) rfl (dd_of dX8_isFree_0 17 rfl) ?_
          refine lv_iload_n hx hb (dd_of dX8_isFree_0 18 rfl) rfl (lv_at hl 1 rfl) ?_
          have h5 := hok.1
          replace hok := hok.2
          refine va_zald hx hb hK hP 17 2 rfl rfl h5 (dd_of dX8_isFree_0 19 rfl) ?_
          refine lv_if_eq (tgt := 59) hx hb (dd_of dX8_isFree_0 20 rfl) (by decide) (fun c6 => ?_) (fun c6 => ?_)
          · replace hres := ifE c6 hres
            refine lv_iconst (v := 0) hx hb (dd_of dX8_isFree_0 33 rfl) (by decide) ?_
            subst hQ
            exact W.zret (ty := .boolean) (v := 0) hx hb hr (jb_nz (Or.inl rfl)) (fun t ht _ => ⟨_, rfl, hres, ht⟩) (fun _ h => absurd h List.not_mem_nil) (dd_of dX8_isFree_0 34 rfl) hlk
          · replace hres := ifN c6 hres
            replace hok := hok.2 c6
            refine lv_aload_n hx hb (dd_of dX8_isFree_0 21 rfl) rfl (lv_at hl 0 rfl) ?_
            refine va_get (D := D) (cl := vwCl) (tys := jT yy) (ci := 8) (v := .ref (B 17)) (C := RX8) (T := TX8) (N := 3) hx hb hts (fun w h => List.mem_cons_of_mem _ (inlX8 w h)) hown hK hP 3 rfl rfl 1 (by decide) (jw hts gw112) (fun _ h9 => h9) rfl (dd_of dX8_isFree_0 22 rfl) ?_
            refine lv_iload_n hx hb (dd_of dX8_isFree_0 23 rfl) rfl (lv_at hl 2 rfl) ?_
            have h7 := hok.1
            replace hok := hok.2
            refine va_zald hx hb hK hP 17 2 rfl rfl h7 (dd_of dX8_isFree_0 24 rfl) ?_
            refine lv_if_eq (tgt := 59) hx hb (dd_of dX8_isFree_0 25 rfl) (by decide) (fun c8 => ?_) (fun c8 => ?_)
            · replace hres := ifE c8 hres
              refine lv_iconst (v := 0) hx hb (dd_of dX8_isFree_0 33 rfl) (by decide) ?_
              subst hQ
              exact W.zret (ty := .boolean) (v := 0) hx hb hr (jb_nz (Or.inl rfl)) (fun t ht _ => ⟨_, rfl, hres, ht⟩) (fun _ h => absurd h List.not_mem_nil) (dd_of dX8_isFree_0 34 rfl) hlk
            · replace hres := ifN c8 hres
              replace hok := hok.2 c8
              refine lv_aload_n hx hb (dd_of dX8_isFree_0 26 rfl) rfl (lv_at hl 0 rfl) ?_
              refine lv_iload_n hx hb (dd_of dX8_isFree_0 27 rfl) rfl (lv_at hl 1 rfl) ?_
              refine lv_iload_n hx hb (dd_of dX8_isFree_0 28 rfl) rfl (lv_at hl 2 rfl) ?_
              have h9 := hok
              refine jc_i (As := [.int p1, .int p2]) (rest := []) (w := (lW yy B F G)) (D := D) (yy := yy) ⟨hx, hb, hml, hown, hts⟩ (qX8_isBuilt l D yy B F G  p1 p2 h9) (cwV 2 hts (jgV gw251 gw252 gw253 gw42 gw254) rfl rfl rfl (by decide +kernel) ⟨Nat.le_of_ble_eq_true rfl, Nat.le_of_ble_eq_true rfl⟩) hP hK (va_recv hK hP (ci := 8) (q0 := 3) rfl rfl) rfl hl.1 rfl (Nat.le_of_ble_eq_true rfl) (dd_of dX8_isFree_0 29 rfl) ⟨Nat.zero_le _, Nat.zero_le _⟩ (fun x10 ex10 => ?_)
              replace hres := bvE ex10 hres
              refine lv_if_eq (tgt := 59) hx hb (dd_of dX8_isFree_0 30 rfl) (by decide) (fun c11 => ?_) (fun c11 => ?_)
              · replace hres := ifE c11 hres
                refine lv_iconst (v := 0) hx hb (dd_of dX8_isFree_0 33 rfl) (by decide) ?_
                subst hQ
                exact W.zret (ty := .boolean) (v := 0) hx hb hr (jb_nz (Or.inl rfl)) (fun t ht _ => ⟨_, rfl, hres, ht⟩) (fun _ h => absurd h List.not_mem_nil) (dd_of dX8_isFree_0 34 rfl) hlk
              · replace hres := ifN c11 hres
                refine lv_iconst (v := 1) hx hb (dd_of dX8_isFree_0 31 rfl) (by decide) ?_
                refine lv_goto (tgt := 60) hx hb (dd_of dX8_isFree_0 32 rfl) (by decide) ?_
                subst hQ
                exact W.zret (ty := .boolean) (v := 1) hx hb hr (jb_nz (Or.inr rfl)) (fun t ht _ => ⟨_, rfl, hres, ht⟩) (fun _ h => absurd h List.not_mem_nil) (dd_of dX8_isFree_0 34 rfl) hlk
        · replace hres := ifN c4 hres
          refine lv_iconst (v := 0) hx hb (dd_of dX8_isFree_0 14 rfl) (by decide) ?_
          subst hQ
          exact W.zret (ty := .boolean) (v := 0) hx hb hr (jb_nz (Or.inl rfl)) (fun t ht _ => ⟨_, rfl, hres, ht⟩) (fun _ h => absurd h List.not_mem_nil) (dd_of dX8_isFree_0 15 rfl) hlk
set_option maxHeartbeats 4000000 in
set_option maxRecDepth 100000 in
theorem qX8_measure (l : Launch) (D : va_G) (yy : Nat → ClassId) (B : Nat → Nat) (F : jF) (G : jG) (sz : Nat) (p1 : Int32) (hok : okX8_measure F G p1) : Met l yX8_measure (Cond.code yX8_measure cX8_measure 5 none :: wsL_law) rmX8_measure (va_Pc [.ref (B 7), .int p1] (jP D yy (lW yy B F G) sz)) (va_Qv (fun u : jS => u = gX8_measure F G p1) (fun (u : jS) t => jB D yy (va_A (lW yy B F G) sz) (lW yy B u.1 u.2) t) (va_A (lW yy B F G) sz)) 0 0 (va_A (lW yy B F G) sz) := by
  generalize hres : gX8_measure F G p1 = RES
  refine jM (vs := [.ref (B 7), .int p1]) (own := RX8) (by decide +kernel) rfl (Nat.le_of_ble_eq_true rfl) ?_
  intro p e s m args below meth c ls Q hQ hargs S hr hlk hinit hB hl
  obtain ⟨hx, hb, hml, hown, hts⟩ := S
  have hl : lv_has ls 5 [(0, .ref (B 7)), (1, .int p1)] := hl
  obtain ⟨hsz, hP, hK, hD0⟩ := hB
  subst hsz
  have hD := hD0.self (sz := s.heap.size)
  generalize hZ : va_A (lW yy B F G) s.heap.size = Z at hD hQ
  have hA : ∀ q : Nat, s.heap.size ≤ q → Z q := fun q h => by rw [← hZ]; exact Or.inr h
  obtain ⟨H, hH⟩ : ∃ z, z = s.heap := ⟨_, rfl⟩
  obtain ⟨locs, hlocs⟩ : ∃ z : List Loc, z = [] := ⟨_, rfl⟩
  have hS : va_S Z s.heap H locs := by rw [hH, hlocs]; exact va_S.rf
  rw [← hH] at hP
  suffices hgo : W p l e rmX8_measure s m args below meth c H locs 0 0 Q (F0 m 0 ls []) by rw [hH, hlocs] at hgo; exact hgo
  unfold gX8_measure at hres
  unfold okX8_measure at hok
  refine lv_iconst (v := 0) hx hb (dd_of dX8_measure_0 0 rfl) (by decide) ?_
  refine lv_istore_n (lv' := [(2, .int 0), (0, .ref (B 7)), (1, .int p1)]) hx hb (dd_of dX8_measure_0 1 rfl) rfl hl (by decide) rfl (fun ls hl => ?_)
  have LP2 : ∀ (f1 : Int32), ∀ (K : Int32 → jF → jG → jS) (okK : Int32 → jF → jG → Prop) (n : Nat), ∀ (v2 : Int32) (F : jF) (G : jG), ∀ (H : Heap) (locs : List Loc) (ls : Array Slot), va_P D vwCl (lW yy B F G) H → va_D Z (lW yy B F G) → va_S Z s.heap H locs → lv_has ls 5 [(2, .int v2), (0, .ref (B 7)), (1, .int f1)] → okX8_measure_L2 f1 okK n v2 F G → gX8_measure_L2 f1 K n v2 F G = RES → (∀ (v2 : Int32) (F : jF) (G : jG), ∀ (H : Heap) (locs : List Loc) (ls : Array Slot), va_P D vwCl (lW yy B F G) H → va_D Z (lW yy B F G) → va_S Z s.heap H locs → lv_has ls 5 [(2, .int v2), (0, .ref (B 7)), (1, .int f1)] → okK v2 F G → K v2 F G = RES → W p l e rmX8_measure s m args below meth c H locs 0 0 Q (F0 m 33 ls [])) → W p l e rmX8_measure s m args below meth c H locs 0 0 Q (F0 m 2 ls []) := by
    intro f1 K okK n
    induction n with
    | zero =>
      intro v2 F G H locs ls hP hD hS hl hok _ _
      exact absurd hok (by unfold okX8_measure_L2; exact id)
    | succ n9 ih =>
      intro v2 F G H locs ls hP hD hS hl hok hres hexit
      unfold gX8_measure_L2 at hres
      unfold okX8_measure_L2 at hok
      refine lv_iload_n hx hb (dd_of dX8_measure_0 2 rfl) rfl (lv_at hl 0 rfl) ?_
      refine lv_aload_n hx hb (dd_of dX8_measure_0 3 rfl) rfl (lv_at hl 1 rfl) ?_
      refine va_get (D := D) (cl := vwCl) (tys := jT yy) (ci := 8) (v := .ref (B 18)) (C := RX8) (T := TX8) (N := 3) hx hb hts (fun w h => List.mem_cons_of_mem _ (inlX8 w h)) hown hK hP 3 rfl rfl 2 (by decide) (jw hts gw113) (fun _ h9 => h9) rfl (dd_of dX8_measure_0 4 rfl) ?_
      refine va_alen (v := 8) hx hb hK hP 18 0 rfl rfl rfl (dd_of dX8_measure_0 5 rfl) ?_
      refine lv_icmp_ge (tgt := 33) hx hb (dd_of dX8_measure_0 6 rfl) (by decide) (fun c1 => ?_) (fun c1 => ?_)
      · replace hres := ifE c1 hres
        replace hok := hok.1 c1
        exact hexit v2 F G H locs ls hP hD hS (lv_sub hl [0, 1, 2] rfl) hok hres
      · replace hres := ifN c1 hres
        replace hok := hok.2 c1
        refine lv_aload_n hx hb (dd_of dX8_measure_0 7 rfl) rfl (lv_at hl 1 rfl) ?_
        refine va_get (D := D) (cl := vwCl) (tys := jT yy) (ci := 8) (v := .ref (B 18)) (C := RX8) (T := TX8) (N := 3) hx hb hts (fun w h => List.mem_cons_of_mem _ (inlX8 w h)) hown hK hP 3 rfl rfl 2 (by decide) (jw hts gw113) (fun _ h9 => h9) rfl (dd_of dX8_measure_0 8 rfl) ?_
        refine lv_iload_n hx hb (dd_of dX8_measure_0 9 rfl) rfl (lv_at hl 0 rfl) ?_
        refine lv_iload_n hx hb (dd_of dX8_measure_0 10 rfl) rfl (lv_at hl 0 rfl) ?_
        refine lv_iload_n hx hb (dd_of dX8_measure_0 11 rfl) rfl (lv_at hl 2 rfl) ?_
        obtain ⟨z33, q32⟩ : ∃ z : Int32, (if v2 = f1 then 0 else (-1)) = z := ⟨_, rfl⟩
        refine jn_i (ls := ls) (v := z33) 26 [.int v2, .ref (B 18)] (fun v3 ev3 => ?_) (fun K34 => ?_)
        · replace hres := bvE (ev3.trans q32.symm) hres
          replace hok := bvO (ev3.trans q32.symm) hok
          have h4 := hok.1
          replace hok := hok.2
          refine va_iast hx hb hK hP hD hS 18 0 rfl rfl h4 (dd_of dX8_measure_0 16 rfl) (fun H locs hP hD hS => ?_)
          obtain ⟨F5, e6⟩ : ∃ z : jF, z = u2 F 68 (Int32.toNatClampNeg v2) v3 := ⟨_, rfl⟩
          have hP : va_P D vwCl (lW yy B F5 G) H := by rw [e6]; exact hP
          have hD : va_D Z (lW yy B F5 G) := by rw [e6]; exact hD
          replace hres := bvE e6 hres
          replace hok := bvO e6 hok
          refine lv_iinc (v := (v2 + 1)) (lv' := [(2, .int (v2 + 1)), (0, .ref (B 7)), (1, .int f1)]) hx hb (dd_of dX8_measure_0 17 rfl) hl (k := 0) rfl rfl (by decide) rfl (fun ls hl => ?_)
          refine lv_goto (tgt := 2) hx hb (dd_of dX8_measure_0 18 rfl) (by decide) ?_
          exact ih (v2 + 1) F5 G H locs ls hP hD hS (lv_sub hl [0, 1, 2] rfl) hok hres hexit
        · skip
          refine lv_icmp_ne (tgt := 25) hx hb (dd_of dX8_measure_0 12 rfl) (by decide) (fun c2 => ?_) (fun c2 => ?_)
          · replace q32 := ifN c2 q32
            refine lv_iconst (v := (-1)) hx hb (dd_of dX8_measure_0 15 rfl) (by decide) ?_
            exact K34 _ q32
          · replace q32 := ifE c2 q32
            refine lv_iconst (v := 0) hx hb (dd_of dX8_measure_0 13 rfl) (by decide) ?_
            refine lv_goto (tgt := 26) hx hb (dd_of dX8_measure_0 14 rfl) (by decide) ?_
            exact K34 _ q32
  refine LP2 p1 _ _ 80 0 F G H locs ls hP hD hS (lv_sub hl [0, 1, 2] rfl) hok hres (fun y7 F8 G9 H locs ls hP hD hS hl hok hres => ?_)
  refine lv_iconst (v := 0) hx hb (dd_of dX8_measure_0 19 rfl) (by decide) ?_
  refine lv_istore_n (lv' := [(2, .int 0), (0, .ref (B 7)), (1, .int p1)]) hx hb (dd_of dX8_measure_0 20 rfl) rfl hl (by decide) rfl (fun ls hl => ?_)
  have LP35 : ∀ (K : Int32 → jF → jG → jS) (okK : Int32 → jF → jG → Prop) (n : Nat), ∀ (v2 : Int32) (F : jF) (G : jG), ∀ (H : Heap) (locs : List Loc) (ls : Array Slot), va_P D vwCl (lW yy B F G) H → va_D Z (lW yy B F G) → va_S Z s.heap H locs → lv_has ls 5 [(2, .int v2), (0, .ref (B 7))] → okX8_measure_L35  okK n v2 F G → gX8_measure_L35  K n v2 F G = RES → (∀ (v2 : Int32) (F : jF) (G : jG), ∀ (H : Heap) (locs : List Loc) (ls : Array Slot), va_P D vwCl (lW yy B F G) H → va_D Z (lW yy B F G) → va_S Z s.heap H locs → lv_has ls 5 [(2, .int v2), (0, .ref (B 7))] → okK v2 F G → K v2 F G = RES → W p l e rmX8_measure s m args below meth c H locs 0 0 Q (F0 m 126 ls [])) → W p l e rmX8_measure s m args below meth c H locs 0 0 Q (F0 m 35 ls []) := by
    intro  K okK n
    induction n with
    | zero =>
      intro v2 F G H locs ls hP hD hS hl hok _ _
      exact absurd hok (by unfold okX8_measure_L35; exact id)
    | succ n9 ih =>
      intro v2 F G H locs ls hP hD hS hl hok hres hexit
      unfold gX8_measure_L35 at hres
      unfold okX8_measure_L35 at hok
      refine lv_iload_n hx hb (dd_of dX8_measure_0 21 rfl) rfl (lv_at hl 0 rfl) ?_
      refine lv_aload_n hx hb (dd_of dX8_measure_0 22 rfl) rfl (lv_at hl 1 rfl) ?_
      refine va_get (D := D) (cl := vwCl) (tys := jT yy) (ci := 8) (v := .ref (B 18)) (C := RX8) (T := TX8) (N := 3) hx hb hts (fun w h => List.mem_cons_of_mem _ (inlX8 w h)) hown hK hP 3 rfl rfl 2 (by decide) (jw hts gw113) (fun _ h9 => h9) rfl (dd_of dX8_measure_0 23 rfl) ?_
      refine va_alen (v := 8) hx hb hK hP 18 0 rfl rfl rfl (dd_of dX8_measure_0 24 rfl) ?_
      refine lv_icmp_ge (tgt := 126) hx hb (dd_of dX8_measure_0 25 rfl) (by decide) (fun c10 => ?_) (fun c10 => ?_)
      · replace hres := ifE c10 hres
        replace hok := hok.1 c10
        exact hexit v2 F G H locs ls hP hD hS (lv_sub hl [0, 1] rfl) hok hres
      · replace hres := ifN c10 hres
        replace hok := hok.2 c10
        refine lv_iconst (v := 0) hx hb (dd_of dX8_measure_0 26 rfl) (by decide) ?_
        refine lv_istore_n (lv' := [(3, .int 0), (2, .int v2), (0, .ref (B 7))]) hx hb (dd_of dX8_measure_0 27 rfl) rfl hl (by decide) rfl (fun ls hl => ?_)
        have LP46 : ∀ (f2 : Int32), ∀ (K : Int32 → jF → jG → jS) (okK : Int32 → jF → jG → Prop) (n : Nat), ∀ (v3 : Int32) (F : jF) (G : jG), ∀ (H : Heap) (locs : List Loc) (ls : Array Slot), va_P D vwCl (lW yy B F G) H → va_D Z (lW yy B F G) → va_S Z s.heap H locs → lv_has ls 5 [(3, .int v3), (2, .int f2), (0, .ref (B 7))] → okX8_measure_L46 f2 okK n v3 F G → gX8_measure_L46 f2 K n v3 F G = RES → (∀ (v3 : Int32) (F : jF) (G : jG), ∀ (H : Heap) (locs : List Loc) (ls : Array Slot), va_P D vwCl (lW yy B F G) H → va_D Z (lW yy B F G) → va_S Z s.heap H locs → lv_has ls 5 [(3, .int v3), (2, .int f2), (0, .ref (B 7))] → okK v3 F G → K v3 F G = RES → W p l e rmX8_measure s m args below meth c H locs 0 0 Q (F0 m 120 ls [])) → W p l e rmX8_measure s m args below meth c H locs 0 0 Q (F0 m 46 ls []) := by
          intro f2 K okK n
          induction n with
          | zero =>
            intro v3 F G H locs ls hP hD hS hl hok _ _
            exact absurd hok (by unfold okX8_measure_L46; exact id)
          | succ n9 ih =>
            intro v3 F G H locs ls hP hD hS hl hok hres hexit
            unfold gX8_measure_L46 at hres
            unfold okX8_measure_L46 at hok
            refine lv_iload_n hx hb (dd_of dX8_measure_0 28 rfl) rfl (lv_at hl 0 rfl) ?_
            refine lv_aload_n hx hb (dd_of dX8_measure_0 29 rfl) rfl (lv_at hl 2 rfl) ?_
            refine va_get (D := D) (cl := vwCl) (tys := jT yy) (ci := 8) (v := .ref (B 18)) (C := RX8) (T := TX8) (N := 3) hx hb hts (fun w h => List.mem_cons_of_mem _ (inlX8 w h)) hown hK hP 3 rfl rfl 2 (by decide) (jw hts gw113) (fun _ h9 => h9) rfl (dd_of dX8_measure_0 30 rfl) ?_
            refine va_alen (v := 8) hx hb hK hP 18 0 rfl rfl rfl (dd_of dX8_measure_0 31 rfl) ?_
            refine lv_icmp_ge (tgt := 120) hx hb (dd_of dX8_measure_0 32 rfl) (by decide) (fun c11 => ?_) (fun c11 => ?_)
            · replace hres := ifE c11 hres
              replace hok := hok.1 c11
              exact hexit v3 F G H locs ls hP hD hS (lv_sub hl [0, 1, 2] rfl) hok hres
            · replace hres := ifN c11 hres
              replace hok := hok.2 c11
              refine lv_iconst (v := 0) hx hb (dd_of dX8_measure_0 33 rfl) (by decide) ?_
              refine lv_istore (lv' := [(4, .int 0), (3, .int v3), (2, .int f2), (0, .ref (B 7))]) hx hb (dd_of dX8_measure_0 34 rfl) hl (by decide) rfl (fun ls hl => ?_)
              have LP58 : ∀ (f3 : Int32) (f2 : Int32), ∀ (K : Int32 → jF → jG → jS) (okK : Int32 → jF → jG → Prop) (n : Nat), ∀ (v4 : Int32) (F : jF) (G : jG), ∀ (H : Heap) (locs : List Loc) (ls : Array Slot), va_P D vwCl (lW yy B F G) H → va_D Z (lW yy B F G) → va_S Z s.heap H locs → lv_has ls 5 [(4, .int v4), (3, .int f3), (2, .int f2), (0, .ref (B 7))] → okX8_measure_L58 f3 f2 okK n v4 F G → gX8_measure_L58 f3 f2 K n v4 F G = RES → (∀ (v4 : Int32) (F : jF) (G : jG), ∀ (H : Heap) (locs : List Loc) (ls : Array Slot), va_P D vwCl (lW yy B F G) H → va_D Z (lW yy B F G) → va_S Z s.heap H locs → lv_has ls 5 [(4, .int v4), (3, .int f3), (2, .int f2), (0, .ref (B 7))] → okK v4 F G → K v4 F G = RES → W p l e rmX8_measure s m args below meth c H locs 0 0 Q (F0 m 114 ls [])) → W p l e rmX8_measure s m args below meth c H locs 0 0 Q (F0 m 58 ls []) := by
                intro f3 f2 K okK n
                induction n with
                | zero =>
                  intro v4 F G H locs ls hP hD hS hl hok _ _
                  exact absurd hok (by unfold okX8_measure_L58; exact id)
                | succ n9 ih =>
                  intro v4 F G H locs ls hP hD hS hl hok hres hexit
                  unfold gX8_measure_L58 at hres
                  unfold okX8_measure_L58 at hok
                  refine lv_iload hx hb (dd_of dX8_measure_0 35 rfl) (lv_at hl 0 rfl) ?_
                  refine lv_aload_n hx hb (dd_of dX8_measure_0 36 rfl) rfl (lv_at hl 3 rfl) ?_
                  refine va_get (D := D) (cl := vwCl) (tys := jT yy) (ci := 8) (v := .ref (B 18)) (C := RX8) (T := TX8) (N := 3) hx hb hts (fun w h => List.mem_cons_of_mem _ (inlX8 w h)) hown hK hP 3 rfl rfl 2 (by decide) (jw hts gw113) (fun _ h9 => h9) rfl (dd_of dX8_measure_0 37 rfl) ?_
                  refine va_alen (v := 8) hx hb hK hP 18 0 rfl rfl rfl (dd_of dX8_measure_0 38 rfl) ?_
                  refine lv_icmp_ge (tgt := 114) hx hb (dd_of dX8_measure_0 39 rfl) (by decide) (fun c12 => ?_) (fun c12 => ?_)
                  · replace hres := ifE c12 hres
                    replace hok := hok.1 c12
                    exact hexit v4 F G H locs ls hP hD hS (lv_sub hl [0, 1, 2, 3] rfl) hok hres
                  · replace hres := ifN c12 hres
                    replace hok := hok.2 c12
                    refine lv_aload_n hx hb (dd_of dX8_measure_1 0 rfl) rfl (lv_at hl 3 rfl) ?_
                    refine va_get (D := D) (cl := vwCl) (tys := jT yy) (ci := 8) (v := .ref (B 18)) (C := RX8) (T := TX8) (N := 3) hx hb hts (fun w h => List.mem_cons_of_mem _ (inlX8 w h)) hown hK hP 3 rfl rfl 2 (by decide) (jw hts gw113) (fun _ h9 => h9) rfl (dd_of dX8_measure_1 1 rfl) ?_
                    refine lv_iload_n hx hb (dd_of dX8_measure_1 2 rfl) rfl (lv_at hl 1 rfl) ?_
                    have h13 := hok.1
                    replace hok := hok.2
                    refine va_iald hx hb hK hP 18 0 rfl rfl h13 (dd_of dX8_measure_1 3 rfl) ?_
                    refine lv_iload_n hx hb (dd_of dX8_measure_1 4 rfl) rfl (lv_at hl 2 rfl) ?_
                    refine lv_icmp_ne (tgt := 108) hx hb (dd_of dX8_measure_1 5 rfl) (by decide) (fun c14 => ?_) (fun c14 => ?_)
                    · replace hres := ifN c14 hres
                      replace hok := hok.2 c14
                      refine lv_iinc (v := (v4 + 1)) (lv' := [(4, .int (v4 + 1)), (3, .int f3), (2, .int f2), (0, .ref (B 7))]) hx hb (dd_of dX8_measure_1 23 rfl) hl (k := 0) rfl rfl (by decide) rfl (fun ls hl => ?_)
                      refine lv_goto (tgt := 58) hx hb (dd_of dX8_measure_1 24 rfl) (by decide) ?_
                      exact ih (v4 + 1) F G H locs ls hP hD hS (lv_sub hl [0, 1, 2, 3] rfl) hok hres hexit
                    · replace hres := ifE c14 hres
                      replace hok := hok.1 c14
                      refine lv_aload_n hx hb (dd_of dX8_measure_1 6 rfl) rfl (lv_at hl 3 rfl) ?_
                      refine va_get (D := D) (cl := vwCl) (tys := jT yy) (ci := 8) (v := .ref (B 18)) (C := RX8) (T := TX8) (N := 3) hx hb hts (fun w h => List.mem_cons_of_mem _ (inlX8 w h)) hown hK hP 3 rfl rfl 2 (by decide) (jw hts gw113) (fun _ h9 => h9) rfl (dd_of dX8_measure_1 7 rfl) ?_
                      refine lv_iload hx hb (dd_of dX8_measure_1 8 rfl) (lv_at hl 0 rfl) ?_
                      have h15 := hok.1
                      replace hok := hok.2
                      refine va_iald hx hb hK hP 18 0 rfl rfl h15 (dd_of dX8_measure_1 9 rfl) ?_
                      refine lv_if_ge (tgt := 108) hx hb (dd_of dX8_measure_1 10 rfl) (by decide) (fun c16 => ?_) (fun c16 => ?_)
                      · replace hres := ifE c16 hres
                        replace hok := hok.1 c16
                        refine lv_iinc (v := (v4 + 1)) (lv' := [(4, .int (v4 + 1)), (3, .int f3), (2, .int f2), (0, .ref (B 7))]) hx hb (dd_of dX8_measure_1 23 rfl) hl (k := 0) rfl rfl (by decide) rfl (fun ls hl => ?_)
                        refine lv_goto (tgt := 58) hx hb (dd_of dX8_measure_1 24 rfl) (by decide) ?_
                        exact ih (v4 + 1) F G H locs ls hP hD hS (lv_sub hl [0, 1, 2, 3] rfl) hok hres hexit
                      · replace hres := ifN c16 hres
                        replace hok := hok.2 c16
                        refine lv_aload_n hx hb (dd_of dX8_measure_1 11 rfl) rfl (lv_at hl 3 rfl) ?_
                        refine lv_iload_n hx hb (dd_of dX8_measure_1 12 rfl) rfl (lv_at hl 1 rfl) ?_
                        refine lv_iload hx hb (dd_of dX8_measure_1 13 rfl) (lv_at hl 0 rfl) ?_
                        have h17 := hok.1
                        replace hok := hok.2
                        refine jc_i (As := [.int f3, .int v4]) (rest := []) (w := (lW yy B F G)) (D := D) (yy := yy) ⟨hx, hb, hml, hown, hts⟩ (qX8_isFree l D yy B F G  f3 v4 h17) (cwV 2 hts (jgV gw539 gw540 gw541 gw42 gw542) rfl rfl rfl (by decide +kernel) ⟨Nat.le_of_ble_eq_true rfl, Nat.le_of_ble_eq_true rfl⟩) hP hK (va_recv hK hP (ci := 8) (q0 := 3) rfl rfl) rfl hl.1 rfl (Nat.le_of_ble_eq_true rfl) (dd_of dX8_measure_1 14 rfl) ⟨Nat.zero_le _, Nat.zero_le _⟩ (fun x18 ex18 => ?_)
                        replace hres := bvE ex18 hres
                        replace hok := bvO ex18 hok
                        refine lv_if_eq (tgt := 108) hx hb (dd_of dX8_measure_1 15 rfl) (by decide) (fun c19 => ?_) (fun c19 => ?_)
                        · replace hres := ifE c19 hres
                          replace hok := hok.1 c19
                          refine lv_iinc (v := (v4 + 1)) (lv' := [(4, .int (v4 + 1)), (3, .int f3), (2, .int f2), (0, .ref (B 7))]) hx hb (dd_of dX8_measure_1 23 rfl) hl (k := 0) rfl rfl (by decide) rfl (fun ls hl => ?_)
                          refine lv_goto (tgt := 58) hx hb (dd_of dX8_measure_1 24 rfl) (by decide) ?_
                          exact ih (v4 + 1) F G H locs ls hP hD hS (lv_sub hl [0, 1, 2, 3] rfl) hok hres hexit
                        · replace hres := ifN c19 hres
                          replace hok := hok.2 c19
                          refine lv_aload_n hx hb (dd_of dX8_measure_1 16 rfl) rfl (lv_at hl 3 rfl) ?_
                          refine va_get (D := D) (cl := vwCl) (tys := jT yy) (ci := 8) (v := .ref (B 18)) (C := RX8) (T := TX8) (N := 3) hx hb hts (fun w h => List.mem_cons_of_mem _ (inlX8 w h)) hown hK hP 3 rfl rfl 2 (by decide) (jw hts gw113) (fun _ h9 => h9) rfl (dd_of dX8_measure_1 17 rfl) ?_
                          refine lv_iload hx hb (dd_of dX8_measure_1 18 rfl) (lv_at hl 0 rfl) ?_
                          refine lv_iload_n hx hb (dd_of dX8_measure_1 19 rfl) rfl (lv_at hl 2 rfl) ?_
                          refine lv_iconst (v := 1) hx hb (dd_of dX8_measure_1 20 rfl) (by decide) ?_
                          refine lv_iadd hx hb (dd_of dX8_measure_1 21 rfl) ?_
                          have h20 := hok.1
                          replace hok := hok.2
                          refine va_iast hx hb hK hP hD hS 18 0 rfl rfl h20 (dd_of dX8_measure_1 22 rfl) (fun H locs hP hD hS => ?_)
                          obtain ⟨F21, e22⟩ : ∃ z : jF, z = u2 F 68 (Int32.toNatClampNeg v4) (f2 + 1) := ⟨_, rfl⟩
                          have hP : va_P D vwCl (lW yy B F21 G) H := by rw [e22]; exact hP
                          have hD : va_D Z (lW yy B F21 G) := by rw [e22]; exact hD
                          replace hres := bvE e22 hres
                          replace hok := bvO e22 hok
                          refine lv_iinc (v := (v4 + 1)) (lv' := [(4, .int (v4 + 1)), (3, .int f3), (2, .int f2), (0, .ref (B 7))]) hx hb (dd_of dX8_measure_1 23 rfl) hl (k := 0) rfl rfl (by decide) rfl (fun ls hl => ?_)
                          refine lv_goto (tgt := 58) hx hb (dd_of dX8_measure_1 24 rfl) (by decide) ?_
                          exact ih (v4 + 1) F21 G H locs ls hP hD hS (lv_sub hl [0, 1, 2, 3] rfl) hok hres hexit
              refine LP58 v3 f2 _ _ 80 0 F G H locs ls hP hD hS (lv_sub hl [0, 1, 2, 3] rfl) hok hres (fun y23 F24 G25 H locs ls hP hD hS hl hok hres => ?_)
              refine lv_iinc (v := (v3 + 1)) (lv' := [(3, .int (v3 + 1)), (4, .int y23), (2, .int f2), (0, .ref (B 7))]) hx hb (dd_of dX8_measure_1 25 rfl) hl (k := 1) rfl rfl (by decide) rfl (fun ls hl => ?_)
              refine lv_goto (tgt := 46) hx hb (dd_of dX8_measure_1 26 rfl) (by decide) ?_
              exact ih (v3 + 1) F24 G25 H locs ls hP hD hS (lv_sub hl [0, 2, 3] rfl) hok hres hexit
        refine LP46 v2 _ _ 80 0 F G H locs ls hP hD hS (lv_sub hl [0, 1, 2] rfl) hok hres (fun y26 F27 G28 H locs ls hP hD hS hl hok hres => ?_)
        refine lv_iinc (v := (v2 + 1)) (lv' := [(2, .int (v2 + 1)), (3, .int y26), (0, .ref (B 7))]) hx hb (dd_of dX8_measure_1 27 rfl) hl (k := 1) rfl rfl (by decide) rfl (fun ls hl => ?_)
        refine lv_goto (tgt := 35) hx hb (dd_of dX8_measure_1 28 rfl) (by decide) ?_
        exact ih (v2 + 1) F27 G28 H locs ls hP hD hS (lv_sub hl [0, 2] rfl) hok hres hexit
  refine LP35  _ _ 80 0 F8 G9 H locs ls hP hD hS (lv_sub hl [0, 1] rfl) hok hres (fun y29 F30 G31 H locs ls hP hD hS hl hok hres => ?_)
  subst hQ
  exact W.vret hx hb hr (fun t ht hW => ⟨⟨(F30, G31), rfl, hres, by rw [ht]; exact hP, va_K.moved hW.alike hK, hD⟩, hS.F ht⟩) hS.2.2 (dd_of dX8_measure_1 29 rfl) hlk
set_option maxHeartbeats 4000000 in
set_option maxRecDepth 100000 in
theorem qX8_nextFrom (l : Launch) (D : va_G) (yy : Nat → ClassId) (B : Nat → Nat) (F : jF) (G : jG) (sz : Nat) (p1 : Int32) (p2 : Int32) (hok : okX8_nextFrom F G p1 p2) : Met l yX8_nextFrom (Cond.code yX8_nextFrom cX8_nextFrom 4 (some .int) :: wsL_law) rmX8_nextFrom (va_Pc [.ref (B 7), .int p1, .int p2] (jP D yy (lW yy B F G) sz)) (va_Qi (fun r (u : jS) => (r, u) = gX8_nextFrom F G p1 p2) (fun (u : jS) t => jB D yy (va_A (lW yy B F G) sz) (lW yy B u.1 u.2) t) (va_A (lW yy B F G) sz)) 0 0 (va_A (lW yy B F G) sz) := by
  generalize hres : gX8_nextFrom F G p1 p2 = RES
  refine jM (vs := [.ref (B 7), .int p1, .int p2]) (own := RX8) (by decide +kernel) rfl (Nat.le_of_ble_eq_true rfl) ?_
  intro p e s m args below meth c ls Q hQ hargs S hr hlk hinit hB hl
  obtain ⟨hx, hb, hml, hown, hts⟩ := S
  have hl : lv_has ls 4 [(0, .ref (B 7)), (1, .int p1), (2, .int p2)] := hl
  obtain ⟨hsz, hP, hK, hD0⟩ := hB
  subst hsz
  have hD := hD0.self (sz := s.heap.size)
  generalize hZ : va_A (lW yy B F G) s.heap.size = Z at hD hQ
  have hA : ∀ q : Nat, s.heap.size ≤ q → Z q := fun q h => by rw [← hZ]; exact Or.inr h
  obtain ⟨H, hH⟩ : ∃ z, z = s.heap := ⟨_, rfl⟩
  obtain ⟨locs, hlocs⟩ : ∃ z : List Loc, z = [] := ⟨_, rfl⟩
  have hS : va_S Z s.heap H locs := by rw [hH, hlocs]; exact va_S.rf
  rw [← hH] at hP
  suffices hgo : W p l e rmX8_nextFrom s m args below meth c H locs 0 0 Q (F0 m 0 ls []) by rw [hH, hlocs] at hgo; exact hgo
  unfold gX8_nextFrom at hres
  unfold okX8_nextFrom at hok
  refine lv_iload_n hx hb (dd_of dX8_nextFrom_0 0 rfl) rfl (lv_at hl 1 rfl) ?_
  refine lv_if_lt (tgt := 13) hx hb (dd_of dX8_nextFrom_0 1 rfl) (by decide) (fun c1 => ?_) (fun c1 => ?_)
  · replace hres := ifE c1 hres
    refine lv_iload_n hx hb (dd_of dX8_nextFrom_0 7 rfl) rfl (lv_at hl 1 rfl) ?_
    subst hQ
    exact W.iret (v := p1) hx hb hr (fun t ht hW => ⟨⟨p1, (F, G), rfl, hres, by rw [ht]; exact hP, va_K.moved hW.alike hK, hD⟩, hS.F ht⟩) hS.2.2 (dd_of dX8_nextFrom_0 8 rfl) hlk
  · replace hres := ifN c1 hres
    replace hok := hok.2 c1
    refine lv_iload_n hx hb (dd_of dX8_nextFrom_0 2 rfl) rfl (lv_at hl 1 rfl) ?_
    refine lv_aload_n hx hb (dd_of dX8_nextFrom_0 3 rfl) rfl (lv_at hl 0 rfl) ?_
    refine va_get (D := D) (cl := vwCl) (tys := jT yy) (ci := 8) (v := .ref (B 18)) (C := RX8) (T := TX8) (N := 3) hx hb hts (fun w h => List.mem_cons_of_mem _ (inlX8 w h)) hown hK hP 3 rfl rfl 2 (by decide) (jw hts gw113) (fun _ h9 => h9) rfl (dd_of dX8_nextFrom_0 4 rfl) ?_
    refine va_alen (v := 8) hx hb hK hP 18 0 rfl rfl rfl (dd_of dX8_nextFrom_0 5 rfl) ?_
    refine lv_icmp_lt (tgt := 15) hx hb (dd_of dX8_nextFrom_0 6 rfl) (by decide) (fun c2 => ?_) (fun c2 => ?_)
    · replace hres := ifE c2 hres
      replace hok := hok.1 c2
      refine lv_aload_n hx hb (dd_of dX8_nextFrom_0 9 rfl) rfl (lv_at hl 0 rfl) ?_
      refine lv_iload_n hx hb (dd_of dX8_nextFrom_0 10 rfl) rfl (lv_at hl 2 rfl) ?_
      have h3 := hok.1
      replace hok := hok.2
      refine jm_v (As := [.int p2]) (rest := []) (w := (lW yy B F G)) (w1 := fun u : jS => (lW yy B u.1 u.2)) (D := D) (yy := yy) ⟨hx, hb, hml, hown, hts⟩ (qX8_measure l D yy B F G H.size  p2 h3) (cwV 1 hts (jgV gw535 gw536 gw537 gw42 gw538) rfl rfl rfl (by decide +kernel) ⟨Nat.le_of_ble_eq_true rfl, Nat.le_of_ble_eq_true rfl⟩) hP hK hD hS hA (va_recv hK hP (ci := 8) (q0 := 3) rfl rfl) rfl hl.1 rfl (Nat.le_of_ble_eq_true rfl) (dd_of dX8_nextFrom_0 11 rfl) ⟨Nat.zero_le _, Nat.zero_le _⟩ (fun u9 H locs w6 hP hD hS => ?_)
      obtain ⟨F4, G5⟩ := u9
      have hP : va_P D vwCl (lW yy B F4 G5) H := hP
      have hD : va_D Z (lW yy B F4 G5) := hD
      replace hres := bsE w6 hres
      replace hok := bsO w6 hok
      refine lv_iconst (v := 0) hx hb (dd_of dX8_nextFrom_0 12 rfl) (by decide) ?_
      refine lv_istore_n (lv' := [(3, .int 0), (0, .ref (B 7)), (1, .int p1), (2, .int p2)]) hx hb (dd_of dX8_nextFrom_0 13 rfl) rfl hl (by decide) rfl (fun ls hl => ?_)
      have LP22 : ∀ (f1 : Int32), ∀ (K : Int32 → (Int32 × jS)) (okK : Int32 → Prop) (n : Nat), ∀ (v3 : Int32), ∀ (ls : Array Slot), lv_has ls 4 [(3, .int v3), (0, .ref (B 7)), (1, .int f1)] → okX8_nextFrom_L22 F4 G5 f1 okK n v3 → gX8_nextFrom_L22 F4 G5 f1 K n v3 = RES → (∀ (v3 : Int32), ∀ (ls : Array Slot), lv_has ls 4 [(3, .int v3), (0, .ref (B 7)), (1, .int f1)] → okK v3 → K v3 = RES → W p l e rmX8_nextFrom s m args below meth c H locs 0 0 Q (F0 m 74 ls [])) → W p l e rmX8_nextFrom s m args below meth c H locs 0 0 Q (F0 m 22 ls []) := by
        intro f1 K okK n
        induction n with
        | zero =>
          intro v3 ls hl hok _ _
          exact absurd hok (by unfold okX8_nextFrom_L22; exact id)
        | succ n9 ih =>
          intro v3 ls hl hok hres hexit
          unfold gX8_nextFrom_L22 at hres
          unfold okX8_nextFrom_L22 at hok
          refine lv_iload_n hx hb (dd_of dX8_nextFrom_0 14 rfl) rfl (lv_at hl 0 rfl) ?_
          refine lv_aload_n hx hb (dd_of dX8_nextFrom_0 15 rfl) rfl (lv_at hl 1 rfl) ?_
          refine va_get (D := D) (cl := vwCl) (tys := jT yy) (ci := 8) (v := .ref (B 18)) (C := RX8) (T := TX8) (N := 3) hx hb hts (fun w h => List.mem_cons_of_mem _ (inlX8 w h)) hown hK hP 3 rfl rfl 2 (by decide) (jw hts gw113) (fun _ h9 => h9) rfl (dd_of dX8_nextFrom_0 16 rfl) ?_
          refine va_alen (v := 8) hx hb hK hP 18 0 rfl rfl rfl (dd_of dX8_nextFrom_0 17 rfl) ?_
          refine lv_icmp_ge (tgt := 74) hx hb (dd_of dX8_nextFrom_0 18 rfl) (by decide) (fun c7 => ?_) (fun c7 => ?_)
          · replace hres := ifE c7 hres
            replace hok := hok.1 c7
            exact hexit v3 ls (lv_sub hl [0, 1, 2] rfl) hok hres
          · replace hres := ifN c7 hres
            replace hok := hok.2 c7
            refine lv_aload_n hx hb (dd_of dX8_nextFrom_0 19 rfl) rfl (lv_at hl 1 rfl) ?_
            refine va_get (D := D) (cl := vwCl) (tys := jT yy) (ci := 8) (v := .ref (B 18)) (C := RX8) (T := TX8) (N := 3) hx hb hts (fun w h => List.mem_cons_of_mem _ (inlX8 w h)) hown hK hP 3 rfl rfl 2 (by decide) (jw hts gw113) (fun _ h9 => h9) rfl (dd_of dX8_nextFrom_0 20 rfl) ?_
            refine lv_iload_n hx hb (dd_of dX8_nextFrom_0 21 rfl) rfl (lv_at hl 0 rfl) ?_
            have h8 := hok.1
            replace hok := hok.2
            refine va_iald hx hb hK hP 18 0 rfl rfl h8 (dd_of dX8_nextFrom_0 22 rfl) ?_
            refine lv_if_lt (tgt := 68) hx hb (dd_of dX8_nextFrom_0 23 rfl) (by decide) (fun c9 => ?_) (fun c9 => ?_)
            · replace hres := ifE c9 hres
              replace hok := hok.1 c9
              refine lv_iinc (v := (v3 + 1)) (lv' := [(3, .int (v3 + 1)), (0, .ref (B 7)), (1, .int f1)]) hx hb (dd_of dX8_nextFrom_1 2 rfl) hl (k := 0) rfl rfl (by decide) rfl (fun ls hl => ?_)
              refine lv_goto (tgt := 22) hx hb (dd_of dX8_nextFrom_1 3 rfl) (by decide) ?_
              exact ih (v3 + 1) ls (lv_sub hl [0, 1, 2] rfl) hok hres hexit
            · replace hres := ifN c9 hres
              replace hok := hok.2 c9
              refine lv_aload_n hx hb (dd_of dX8_nextFrom_0 24 rfl) rfl (lv_at hl 1 rfl) ?_
              refine va_get (D := D) (cl := vwCl) (tys := jT yy) (ci := 8) (v := .ref (B 18)) (C := RX8) (T := TX8) (N := 3) hx hb hts (fun w h => List.mem_cons_of_mem _ (inlX8 w h)) hown hK hP 3 rfl rfl 2 (by decide) (jw hts gw113) (fun _ h9 => h9) rfl (dd_of dX8_nextFrom_0 25 rfl) ?_
              refine lv_iload_n hx hb (dd_of dX8_nextFrom_0 26 rfl) rfl (lv_at hl 0 rfl) ?_
              have h10 := hok.1
              replace hok := hok.2
              refine va_iald hx hb hK hP 18 0 rfl rfl h10 (dd_of dX8_nextFrom_0 27 rfl) ?_
              refine lv_aload_n hx hb (dd_of dX8_nextFrom_0 28 rfl) rfl (lv_at hl 1 rfl) ?_
              refine va_get (D := D) (cl := vwCl) (tys := jT yy) (ci := 8) (v := .ref (B 18)) (C := RX8) (T := TX8) (N := 3) hx hb hts (fun w h => List.mem_cons_of_mem _ (inlX8 w h)) hown hK hP 3 rfl rfl 2 (by decide) (jw hts gw113) (fun _ h9 => h9) rfl (dd_of dX8_nextFrom_0 29 rfl) ?_
              refine lv_iload_n hx hb (dd_of dX8_nextFrom_0 30 rfl) rfl (lv_at hl 2 rfl) ?_
              have h11 := hok.1
              replace hok := hok.2
              refine va_iald hx hb hK hP 18 0 rfl rfl h11 (dd_of dX8_nextFrom_0 31 rfl) ?_
              refine lv_iconst (v := 1) hx hb (dd_of dX8_nextFrom_0 32 rfl) (by decide) ?_
              refine lv_isub hx hb (dd_of dX8_nextFrom_0 33 rfl) ?_
              refine lv_icmp_ne (tgt := 68) hx hb (dd_of dX8_nextFrom_0 34 rfl) (by decide) (fun c12 => ?_) (fun c12 => ?_)
              · replace hres := ifN c12 hres
                replace hok := hok.2 c12
                refine lv_iinc (v := (v3 + 1)) (lv' := [(3, .int (v3 + 1)), (0, .ref (B 7)), (1, .int f1)]) hx hb (dd_of dX8_nextFrom_1 2 rfl) hl (k := 0) rfl rfl (by decide) rfl (fun ls hl => ?_)
                refine lv_goto (tgt := 22) hx hb (dd_of dX8_nextFrom_1 3 rfl) (by decide) ?_
                exact ih (v3 + 1) ls (lv_sub hl [0, 1, 2] rfl) hok hres hexit
              · replace hres := ifE c12 hres
                replace hok := hok.1 c12
                refine lv_aload_n hx hb (dd_of dX8_nextFrom_0 35 rfl) rfl (lv_at hl 1 rfl) ?_
                refine lv_iload_n hx hb (dd_of dX8_nextFrom_0 36 rfl) rfl (lv_at hl 2 rfl) ?_
                refine lv_iload_n hx hb (dd_of dX8_nextFrom_0 37 rfl) rfl (lv_at hl 0 rfl) ?_
                have h13 := hok.1
                replace hok := hok.2
                refine jc_i (As := [.int f1, .int v3]) (rest := []) (w := (lW yy B F4 G5)) (D := D) (yy := yy) ⟨hx, hb, hml, hown, hts⟩ (qX8_isFree l D yy B F4 G5  f1 v3 h13) (cwV 2 hts (jgV gw539 gw540 gw541 gw42 gw542) rfl rfl rfl (by decide +kernel) ⟨Nat.le_of_ble_eq_true rfl, Nat.le_of_ble_eq_true rfl⟩) hP hK (va_recv hK hP (ci := 8) (q0 := 3) rfl rfl) rfl hl.1 rfl (Nat.le_of_ble_eq_true rfl) (dd_of dX8_nextFrom_0 38 rfl) ⟨Nat.zero_le _, Nat.zero_le _⟩ (fun x14 ex14 => ?_)
                replace hres := bvE ex14 hres
                replace hok := bvO ex14 hok
                refine lv_if_eq (tgt := 68) hx hb (dd_of dX8_nextFrom_0 39 rfl) (by decide) (fun c15 => ?_) (fun c15 => ?_)
                · replace hres := ifE c15 hres
                  replace hok := hok.1 c15
                  refine lv_iinc (v := (v3 + 1)) (lv' := [(3, .int (v3 + 1)), (0, .ref (B 7)), (1, .int f1)]) hx hb (dd_of dX8_nextFrom_1 2 rfl) hl (k := 0) rfl rfl (by decide) rfl (fun ls hl => ?_)
                  refine lv_goto (tgt := 22) hx hb (dd_of dX8_nextFrom_1 3 rfl) (by decide) ?_
                  exact ih (v3 + 1) ls (lv_sub hl [0, 1, 2] rfl) hok hres hexit
                · replace hres := ifN c15 hres
                  refine lv_iload_n hx hb (dd_of dX8_nextFrom_1 0 rfl) rfl (lv_at hl 0 rfl) ?_
                  subst hQ
                  exact W.iret (v := v3) hx hb hr (fun t ht hW => ⟨⟨v3, (F4, G5), rfl, hres, by rw [ht]; exact hP, va_K.moved hW.alike hK, hD⟩, hS.F ht⟩) hS.2.2 (dd_of dX8_nextFrom_1 1 rfl) hlk
      refine LP22 p1 _ _ 80 0 ls (lv_sub hl [0, 1, 2] rfl) hok hres (fun y16 ls hl hok hres => ?_)
      refine lv_iload_n hx hb (dd_of dX8_nextFrom_1 4 rfl) rfl (lv_at hl 2 rfl) ?_
      subst hQ
      exact W.iret (v := p1) hx hb hr (fun t ht hW => ⟨⟨p1, (F4, G5), rfl, hres, by rw [ht]; exact hP, va_K.moved hW.alike hK, hD⟩, hS.F ht⟩) hS.2.2 (dd_of dX8_nextFrom_1 5 rfl) hlk
    · replace hres := ifN c2 hres
      refine lv_iload_n hx hb (dd_of dX8_nextFrom_0 7 rfl) rfl (lv_at hl 1 rfl) ?_
      subst hQ
      exact W.iret (v := p1) hx hb hr (fun t ht hW => ⟨⟨p1, (F, G), rfl, hres, by rw [ht]; exact hP, va_K.moved hW.alike hK, hD⟩, hS.F ht⟩) hS.2.2 (dd_of dX8_nextFrom_0 8 rfl) hlk
set_option maxHeartbeats 4000000 in
set_option maxRecDepth 100000 in
theorem qX2_toil (l : Launch) (D : va_G) (yy : Nat → ClassId) (B : Nat → Nat) (F : jF) (G : jG) (sz : Nat) (k0 : Nat) (p1 : Option Nat) (hok : okX2_toil F G k0 p1) : Met l yX2_toil (Cond.code yX2_toil cX2_toil 5 none :: wsL_law) rmX2_toil (va_Pc [.ref (B (700 + k0)), va_rf (oB B 400 p1), .ref (B 7), .ref (B 1)] (jP D yy (lW yy B F G) sz)) (va_Qv (fun u : jS => u = gX2_toil F G k0 p1) (fun (u : jS) t => jB D yy (va_A (lW yy B F G) sz) (lW yy B u.1 u.2) t) (va_A (lW yy B F G) sz)) 0 0 (va_A (lW yy B F G) sz) := by
  rcases p1 with _ | k9
  · skip
    generalize hres : gX2_toil F G k0 none = RES
    refine jM (vs := [.ref (B (700 + k0)), .null, .ref (B 7), .ref (B 1)]) (own := RX2) (by decide +kernel) rfl (Nat.le_of_ble_eq_true rfl) ?_
    intro p e s m args below meth c ls Q hQ hargs S hr hlk hinit hB hl
    obtain ⟨hx, hb, hml, hown, hts⟩ := S
    have hl : lv_has ls 5 [(0, .ref (B (700 + k0))), (1, .null), (2, .ref (B 7)), (3, .ref (B 1))] := hl
    obtain ⟨hsz, hP, hK, hD0⟩ := hB
    subst hsz
    have hD := hD0.self (sz := s.heap.size)
    generalize hZ : va_A (lW yy B F G) s.heap.size = Z at hD hQ
    have hA : ∀ q : Nat, s.heap.size ≤ q → Z q := fun q h => by rw [← hZ]; exact Or.inr h
    obtain ⟨H, hH⟩ : ∃ z, z = s.heap := ⟨_, rfl⟩
    obtain ⟨locs, hlocs⟩ : ∃ z : List Loc, z = [] := ⟨_, rfl⟩
    have hS : va_S Z s.heap H locs := by rw [hH, hlocs]; exact va_S.rf
    rw [← hH] at hP
    suffices hgo : W p l e rmX2_toil s m args below meth c H locs 0 0 Q (F0 m 0 ls []) by rw [hH, hlocs] at hgo; exact hgo
    unfold gX2_toil at hres
    unfold okX2_toil at hok
    replace hres := omN hres
    replace hok := opN hok
    refine lv_aload_nN hx hb (dd_of dX2_toil_0 0 rfl) rfl (lv_at hl 1 rfl) ?_
    refine lv_ifnonnullN hx hb (dd_of dX2_toil_0 1 rfl) ?_
    subst hQ
    exact W.vret hx hb hr (fun t ht hW => ⟨⟨(F, G), rfl, hres, by rw [ht]; exact hP, va_K.moved hW.alike hK, hD⟩, hS.F ht⟩) hS.2.2 (dd_of dX2_toil_0 2 rfl) hlk
  · skip
    generalize hres : gX2_toil F G k0 (some k9) = RES
    refine jM (vs := [.ref (B (700 + k0)), .ref (B (400 + k9)), .ref (B 7), .ref (B 1)]) (own := RX2) (by decide +kernel) rfl (Nat.le_of_ble_eq_true rfl) ?_
    intro p e s m args below meth c ls Q hQ hargs S hr hlk hinit hB hl
    obtain ⟨hx, hb, hml, hown, hts⟩ := S
    have hl : lv_has ls 5 [(0, .ref (B (700 + k0))), (1, .ref (B (400 + k9))), (2, .ref (B 7)), (3, .ref (B 1))] := hl
    obtain ⟨hsz, hP, hK, hD0⟩ := hB
    subst hsz
    have hD := hD0.self (sz := s.heap.size)
    generalize hZ : va_A (lW yy B F G) s.heap.size = Z at hD hQ
    have hA : ∀ q : Nat, s.heap.size ≤ q → Z q := fun q h => by rw [← hZ]; exact Or.inr h
    obtain ⟨H, hH⟩ : ∃ z, z = s.heap := ⟨_, rfl⟩
    obtain ⟨locs, hlocs⟩ : ∃ z : List Loc, z = [] := ⟨_, rfl⟩
    have hS : va_S Z s.heap H locs := by rw [hH, hlocs]; exact va_S.rf
    rw [← hH] at hP
    suffices hgo : W p l e rmX2_toil s m args below meth c H locs 0 0 Q (F0 m 0 ls []) by rw [hH, hlocs] at hgo; exact hgo
    unfold gX2_toil at hres
    unfold okX2_toil at hok
    replace hres := omS hres
    replace hok := opS hok
    refine lv_aload_n hx hb (dd_of dX2_toil_0 0 rfl) rfl (lv_at hl 1 rfl) ?_
    refine lv_ifnonnull (tgt := 5) hx hb (dd_of dX2_toil_0 1 rfl) (by decide) ?_
    refine lv_aload_n hx hb (dd_of dX2_toil_0 3 rfl) rfl (lv_at hl 1 rfl) ?_
    refine lv_aload_n hx hb (dd_of dX2_toil_0 4 rfl) rfl (lv_at hl 3 rfl) ?_
    have h1 := hok.1
    replace hok := hok.2
    have h2 := hok.1
    replace hok := hok.2
    obtain ⟨q9, hq9⟩ := lWg_dyke (yy := yy) (B := B) (F := F) (G := G) h1
    refine jc_i (As := [.ref (B 1)]) (rest := []) (w := (lW yy B F G)) (D := D) (yy := yy) ⟨hx, hb, hml, hown, hts⟩ (qX3_workplace l D yy B F G k9  h2) (cwV 1 hts (jgV gw527 gw528 gw529 gw207 gw530) rfl rfl rfl (by decide +kernel) ⟨Nat.le_of_ble_eq_true rfl, Nat.le_of_ble_eq_true rfl⟩) hP hK (va_recv hK hP (ci := 3) (q0 := q9) rfl hq9) rfl hl.1 rfl (Nat.le_of_ble_eq_true rfl) (dd_of dX2_toil_0 5 rfl) ⟨Nat.zero_le _, Nat.zero_le _⟩ (fun x3 ex3 => ?_)
    replace hres := bvE ex3 hres
    replace hok := bvO ex3 hok
    refine lv_istore (lv' := [(4, .int x3), (0, .ref (B (700 + k0))), (1, .ref (B (400 + k9))), (2, .ref (B 7)), (3, .ref (B 1))]) hx hb (dd_of dX2_toil_0 6 rfl) hl (by decide) rfl (fun ls hl => ?_)
    refine lv_aload_n hx hb (dd_of dX2_toil_0 7 rfl) rfl (lv_at hl 1 rfl) ?_
    have h4 := hok.1
    replace hok := hok.2
    obtain ⟨q9, hq9⟩ := lWg_crew (yy := yy) (B := B) (F := F) (G := G) h4
    refine va_get (D := D) (cl := vwCl) (tys := jT yy) (ci := 2) (v := .int (F 49 k0)) (C := RX2) (T := TX2) (N := 3) hx hb hts (fun w h => List.mem_cons_of_mem _ (inlX2 w h)) hown hK hP q9 hq9 rfl 0 (by decide) (jw hts gw526) (fun _ h9 => h9) rfl (dd_of dX2_toil_0 8 rfl) ?_
    refine lv_iload hx hb (dd_of dX2_toil_0 9 rfl) (lv_at hl 0 rfl) ?_
    refine lv_icmp_eq (tgt := 38) hx hb (dd_of dX2_toil_0 10 rfl) (by decide) (fun c5 => ?_) (fun c5 => ?_)
    · replace hres := ifE c5 hres
      replace hok := hok.1 c5
      refine lv_aload_n hx hb (dd_of dX2_toil_0 19 rfl) rfl (lv_at hl 1 rfl) ?_
      have h6 := hok.1
      replace hok := hok.2
      obtain ⟨q9, hq9⟩ := lWg_crew (yy := yy) (B := B) (F := F) (G := G) h6
      refine va_get (D := D) (cl := vwCl) (tys := jT yy) (ci := 2) (v := .int (F 50 k0)) (C := RX2) (T := TX2) (N := 3) hx hb hts (fun w h => List.mem_cons_of_mem _ (inlX2 w h)) hown hK hP q9 hq9 rfl 1 (by decide) (jw hts gw117) (fun _ h9 => h9) rfl (dd_of dX2_toil_0 20 rfl) ?_
      refine lv_if_le (tgt := 66) hx hb (dd_of dX2_toil_0 21 rfl) (by decide) (fun c7 => ?_) (fun c7 => ?_)
      · replace hres := ifE c7 hres
        subst hQ
        exact W.vret hx hb hr (fun t ht hW => ⟨⟨(F, G), rfl, hres, by rw [ht]; exact hP, va_K.moved hW.alike hK, hD⟩, hS.F ht⟩) hS.2.2 (dd_of dX2_toil_0 33 rfl) hlk
      · replace hres := ifN c7 hres
        replace hok := hok.2 c7
        refine lv_aload_n hx hb (dd_of dX2_toil_0 22 rfl) rfl (lv_at hl 2 rfl) ?_
        have h8 := hok.1
        replace hok := hok.2
        have h9 := hok.1
        replace hok := hok.2
        obtain ⟨q9, hq9⟩ := lWg_dyke (yy := yy) (B := B) (F := F) (G := G) h8
        refine jc_i (As := []) (rest := []) (w := (lW yy B F G)) (D := D) (yy := yy) ⟨hx, hb, hml, hown, hts⟩ (qX3_isHurt l D yy B F G k9  h9) (cwV 0 hts (jgV gw543 gw544 gw545 gw207 gw546) rfl rfl rfl (by decide +kernel) ⟨Nat.le_of_ble_eq_true rfl, Nat.le_of_ble_eq_true rfl⟩) hP hK (va_recv hK hP (ci := 3) (q0 := q9) rfl hq9) rfl hl.1 rfl (Nat.le_of_ble_eq_true rfl) (dd_of dX2_toil_0 23 rfl) ⟨Nat.zero_le _, Nat.zero_le _⟩ (fun x10 ex10 => ?_)
        replace hres := bvE ex10 hres
        replace hok := bvO ex10 hok
        refine lv_if_eq (tgt := 66) hx hb (dd_of dX2_toil_0 24 rfl) (by decide) (fun c11 => ?_) (fun c11 => ?_)
        · replace hres := ifE c11 hres
          subst hQ
          exact W.vret hx hb hr (fun t ht hW => ⟨⟨(F, G), rfl, hres, by rw [ht]; exact hP, va_K.moved hW.alike hK, hD⟩, hS.F ht⟩) hS.2.2 (dd_of dX2_toil_0 33 rfl) hlk
        · replace hres := ifN c11 hres
          replace hok := hok.2 c11
          refine lv_aload_n hx hb (dd_of dX2_toil_0 25 rfl) rfl (lv_at hl 1 rfl) ?_
          refine lv_dup hx hb (dd_of dX2_toil_0 26 rfl) rfl ?_
          have h12 := hok.1
          replace hok := hok.2
          obtain ⟨q9, hq9⟩ := lWg_crew (yy := yy) (B := B) (F := F) (G := G) h12
          refine va_get (D := D) (cl := vwCl) (tys := jT yy) (ci := 2) (v := .int (F 50 k0)) (C := RX2) (T := TX2) (N := 3) hx hb hts (fun w h => List.mem_cons_of_mem _ (inlX2 w h)) hown hK hP q9 hq9 rfl 1 (by decide) (jw hts gw117) (fun _ h9 => h9) rfl (dd_of dX2_toil_0 27 rfl) ?_
          refine lv_iconst (v := 1) hx hb (dd_of dX2_toil_0 28 rfl) (by decide) ?_
          refine lv_isub hx hb (dd_of dX2_toil_0 29 rfl) ?_
          have h13 := hok.1
          replace hok := hok.2
          obtain ⟨q9, hq9, hs9⟩ := lWs_crew_bags (yy := yy) (B := B) (F := F) (G := G) (v := ((F 50 k0) - 1)) h13
          refine va_put (D := D) (cl := vwCl) (tys := jT yy) (ci := 2) (v := .int ((F 50 k0) - 1)) (ty := .int) (C := RX2) (T := TX2) (N := 3) hx hb hts (fun w h => List.mem_cons_of_mem _ (inlX2 w h)) tyX2 tyX2_ok nmX2 hown hK hP hD hS q9 hq9 rfl 1 (by decide) (jw hts gw117) (fun _ h9 => h9) rfl (by decide +kernel) rfl rfl (Nat.le_of_ble_eq_true rfl) (dd_of dX2_toil_0 30 rfl) (fun H locs hP hD hS => ?_)
          obtain ⟨F14, e15⟩ : ∃ z : jF, z = u2 F 50 k0 ((F 50 k0) - 1) := ⟨_, rfl⟩
          have hP : va_P D vwCl (lW yy B F14 G) H := by rw [e15, ← hs9]; exact hP
          have hD : va_D Z (lW yy B F14 G) := by rw [e15, ← hs9]; exact hD
          replace hres := bvE e15 hres
          replace hok := bvO e15 hok
          refine lv_aload_n hx hb (dd_of dX2_toil_0 31 rfl) rfl (lv_at hl 2 rfl) ?_
          have h16 := hok.1
          replace hok := hok.2
          have h17 := hok
          obtain ⟨q9, hq9⟩ := lWg_dyke (yy := yy) (B := B) (F := F14) (G := G) h16
          refine jm_v (As := []) (rest := []) (w := (lW yy B F14 G)) (w1 := fun u : jS => (lW yy B u.1 u.2)) (D := D) (yy := yy) ⟨hx, hb, hml, hown, hts⟩ (qX3_bag l D yy B F14 G H.size k9  h17) (cwV 0 hts (jgV gw547 gw548 gw549 gw207 gw550) rfl rfl rfl (by decide +kernel) ⟨Nat.le_of_ble_eq_true rfl, Nat.le_of_ble_eq_true rfl⟩) hP hK hD hS hA (va_recv hK hP (ci := 3) (q0 := q9) rfl hq9) rfl hl.1 rfl (Nat.le_of_ble_eq_true rfl) (dd_of dX2_toil_0 32 rfl) ⟨Nat.zero_le _, Nat.zero_le _⟩ (fun u9 H locs w20 hP hD hS => ?_)
          obtain ⟨F18, G19⟩ := u9
          have hP : va_P D vwCl (lW yy B F18 G19) H := hP
          have hD : va_D Z (lW yy B F18 G19) := hD
          replace hres := bsE w20 hres
          subst hQ
          exact W.vret hx hb hr (fun t ht hW => ⟨⟨(F18, G19), rfl, hres, by rw [ht]; exact hP, va_K.moved hW.alike hK, hD⟩, hS.F ht⟩) hS.2.2 (dd_of dX2_toil_0 33 rfl) hlk
    · replace hres := ifN c5 hres
      replace hok := hok.2 c5
      refine lv_aload_n hx hb (dd_of dX2_toil_0 11 rfl) rfl (lv_at hl 1 rfl) ?_
      refine lv_aload_n hx hb (dd_of dX2_toil_0 12 rfl) rfl (lv_at hl 3 rfl) ?_
      refine lv_aload_n hx hb (dd_of dX2_toil_0 13 rfl) rfl (lv_at hl 1 rfl) ?_
      have h21 := hok.1
      replace hok := hok.2
      obtain ⟨q9, hq9⟩ := lWg_crew (yy := yy) (B := B) (F := F) (G := G) h21
      refine va_get (D := D) (cl := vwCl) (tys := jT yy) (ci := 2) (v := .int (F 49 k0)) (C := RX2) (T := TX2) (N := 3) hx hb hts (fun w h => List.mem_cons_of_mem _ (inlX2 w h)) hown hK hP q9 hq9 rfl 0 (by decide) (jw hts gw526) (fun _ h9 => h9) rfl (dd_of dX2_toil_0 14 rfl) ?_
      refine lv_iload hx hb (dd_of dX2_toil_0 15 rfl) (lv_at hl 0 rfl) ?_
      have h22 := hok.1
      replace hok := hok.2
      refine jm_i (As := [.int (F 49 k0), .int x3]) (rest := [.ref (B (700 + k0))]) (w := (lW yy B F G)) (w1 := fun u : jS => (lW yy B u.1 u.2)) (D := D) (yy := yy) ⟨hx, hb, hml, hown, hts⟩ (qX8_nextFrom l D yy B F G H.size  (F 49 k0) x3 h22) (cwV 2 hts (jgV gw531 gw532 gw533 gw42 gw534) rfl rfl rfl (by decide +kernel) ⟨Nat.le_of_ble_eq_true rfl, Nat.le_of_ble_eq_true rfl⟩) hP hK hD hS hA (va_recv hK hP (ci := 8) (q0 := 3) rfl rfl) rfl hl.1 rfl (Nat.le_of_ble_eq_true rfl) (dd_of dX2_toil_0 16 rfl) ⟨Nat.zero_le _, Nat.zero_le _⟩ (fun x26 u9 H locs w25 hP hD hS => ?_)
      obtain ⟨F23, G24⟩ := u9
      have hP : va_P D vwCl (lW yy B F23 G24) H := hP
      have hD : va_D Z (lW yy B F23 G24) := hD
      replace hres := brE w25 hres
      replace hok := brO w25 hok
      have h27 := hok
      obtain ⟨q9, hq9, hs9⟩ := lWs_crew_basin (yy := yy) (B := B) (F := F23) (G := G24) (v := x26) h27
      refine va_put (D := D) (cl := vwCl) (tys := jT yy) (ci := 2) (v := .int x26) (ty := .int) (C := RX2) (T := TX2) (N := 3) hx hb hts (fun w h => List.mem_cons_of_mem _ (inlX2 w h)) tyX2 tyX2_ok nmX2 hown hK hP hD hS q9 hq9 rfl 0 (by decide) (jw hts gw526) (fun _ h9 => h9) rfl (by decide +kernel) rfl rfl (Nat.le_of_ble_eq_true rfl) (dd_of dX2_toil_0 17 rfl) (fun H locs hP hD hS => ?_)
      obtain ⟨F28, e29⟩ : ∃ z : jF, z = u2 F23 49 k0 x26 := ⟨_, rfl⟩
      have hP : va_P D vwCl (lW yy B F28 G24) H := by rw [e29, ← hs9]; exact hP
      have hD : va_D Z (lW yy B F28 G24) := by rw [e29, ← hs9]; exact hD
      replace hres := bvE e29 hres
      refine lv_goto (tgt := 66) hx hb (dd_of dX2_toil_0 18 rfl) (by decide) ?_
      subst hQ
      exact W.vret hx hb hr (fun t ht hW => ⟨⟨(F28, G24), rfl, hres, by rw [ht]; exact hP, va_K.moved hW.alike hK, hD⟩, hS.F ht⟩) hS.2.2 (dd_of dX2_toil_0 33 rfl) hlk
set_option maxHeartbeats 4000000 in
set_option maxRecDepth 100000 in
theorem qX1_grant (l : Launch) (D : va_G) (yy : Nat → ClassId) (B : Nat → Nat) (F : jF) (G : jG) (sz : Nat) (p1 : Int32) (p2 : Int32) : Met l yX1_grant (Cond.code yX1_grant cX1_grant 3 (some .int) :: wsL_law) rmX1_grant (va_Pc [.ref (B 2), .int p1, .int p2] (jP D yy (lW yy B F G) sz)) (va_Qi (fun r (u : jS) => (r, u) = gX1_grant F G p1 p2) (fun (u : jS) t => jB D yy (va_A (lW yy B F G) sz) (lW yy B u.1 u.2) t) (va_A (lW yy B F G) sz)) 0 0 (va_A (lW yy B F G) sz) := by
  generalize hres : gX1_grant F G p1 p2 = RES
  refine jM (vs := [.ref (B 2), .int p1, .int p2]) (own := RX1) (by decide +kernel) rfl (Nat.le_of_ble_eq_true rfl) ?_
  intro p e s m args below meth c ls Q hQ hargs S hr hlk hinit hB hl
  obtain ⟨hx, hb, hml, hown, hts⟩ := S
  have hl : lv_has ls 3 [(0, .ref (B 2)), (1, .int p1), (2, .int p2)] := hl
  obtain ⟨hsz, hP, hK, hD0⟩ := hB
  subst hsz
  have hD := hD0.self (sz := s.heap.size)
  generalize hZ : va_A (lW yy B F G) s.heap.size = Z at hD hQ
  have hA : ∀ q : Nat, s.heap.size ≤ q → Z q := fun q h => by rw [← hZ]; exact Or.inr h
  obtain ⟨H, hH⟩ : ∃ z, z = s.heap := ⟨_, rfl⟩
  obtain ⟨locs, hlocs⟩ : ∃ z : List Loc, z = [] := ⟨_, rfl⟩
  have hS : va_S Z s.heap H locs := by rw [hH, hlocs]; exact va_S.rf
  rw [← hH] at hP
  suffices hgo : W p l e rmX1_grant s m args below meth c H locs 0 0 Q (F0 m 0 ls []) by rw [hH, hlocs] at hgo; exact hgo
  unfold gX1_grant at hres
  refine lv_aload_n hx hb (dd_of dX1_grant_0 0 rfl) rfl (lv_at hl 0 rfl) ?_
  refine lv_iload_n hx hb (dd_of dX1_grant_0 1 rfl) rfl (lv_at hl 1 rfl) ?_
  refine va_put (D := D) (cl := vwCl) (tys := jT yy) (ci := 1) (v := .int p1) (ty := .int) (C := RX1) (T := TX1) (N := 8) hx hb hts (fun w h => List.mem_cons_of_mem _ (inlX1 w h)) tyX1 tyX1_ok nmX1 hown hK hP hD hS 2 rfl rfl 1 (by decide) (jw hts gw406) (fun _ h9 => h9) rfl (by decide +kernel) rfl rfl (Nat.le_of_ble_eq_true rfl) (dd_of dX1_grant_0 2 rfl) (fun H locs hP hD hS => ?_)
  obtain ⟨F1, e2⟩ : ∃ z : jF, z = u2 F 3 0 p1 := ⟨_, rfl⟩
  have hP : va_P D vwCl (lW yy B F1 G) H := by rw [e2]; exact hP
  have hD : va_D Z (lW yy B F1 G) := by rw [e2]; exact hD
  replace hres := bvE e2 hres
  refine lv_aload_n hx hb (dd_of dX1_grant_0 3 rfl) rfl (lv_at hl 0 rfl) ?_
  refine lv_dup hx hb (dd_of dX1_grant_0 4 rfl) rfl ?_
  refine va_get (D := D) (cl := vwCl) (tys := jT yy) (ci := 1) (v := .int (F1 62 0)) (C := RX1) (T := TX1) (N := 8) hx hb hts (fun w h => List.mem_cons_of_mem _ (inlX1 w h)) hown hK hP 2 rfl rfl 0 (by decide) (jw hts gw407) (fun _ h9 => h9) rfl (dd_of dX1_grant_0 5 rfl) ?_
  refine lv_iload_n hx hb (dd_of dX1_grant_0 6 rfl) rfl (lv_at hl 2 rfl) ?_
  refine lv_iadd hx hb (dd_of dX1_grant_0 7 rfl) ?_
  refine va_put (D := D) (cl := vwCl) (tys := jT yy) (ci := 1) (v := .int ((F1 62 0) + p2)) (ty := .int) (C := RX1) (T := TX1) (N := 8) hx hb hts (fun w h => List.mem_cons_of_mem _ (inlX1 w h)) tyX1 tyX1_ok nmX1 hown hK hP hD hS 2 rfl rfl 0 (by decide) (jw hts gw407) (fun _ h9 => h9) rfl (by decide +kernel) rfl rfl (Nat.le_of_ble_eq_true rfl) (dd_of dX1_grant_0 8 rfl) (fun H locs hP hD hS => ?_)
  obtain ⟨F3, e4⟩ : ∃ z : jF, z = u2 F1 62 0 ((F1 62 0) + p2) := ⟨_, rfl⟩
  have hP : va_P D vwCl (lW yy B F3 G) H := by rw [e4]; exact hP
  have hD : va_D Z (lW yy B F3 G) := by rw [e4]; exact hD
  replace hres := bvE e4 hres
  refine lv_aload_n hx hb (dd_of dX1_grant_0 9 rfl) rfl (lv_at hl 0 rfl) ?_
  refine va_get (D := D) (cl := vwCl) (tys := jT yy) (ci := 1) (v := .int (F3 62 0)) (C := RX1) (T := TX1) (N := 8) hx hb hts (fun w h => List.mem_cons_of_mem _ (inlX1 w h)) hown hK hP 2 rfl rfl 0 (by decide) (jw hts gw407) (fun _ h9 => h9) rfl (dd_of dX1_grant_0 10 rfl) ?_
  subst hQ
  exact W.iret (v := (F3 62 0)) hx hb hr (fun t ht hW => ⟨⟨(F3 62 0), (F3, G), rfl, hres, by rw [ht]; exact hP, va_K.moved hW.alike hK, hD⟩, hS.F ht⟩) hS.2.2 (dd_of dX1_grant_0 11 rfl) hlk
set_option maxHeartbeats 4000000 in
set_option maxRecDepth 100000 in
theorem qX1_countWorks (l : Launch) (D : va_G) (yy : Nat → ClassId) (B : Nat → Nat) (F : jF) (G : jG)  (hok : okX1_countWorks F G ) : Met l yX1_countWorks (Cond.code yX1_countWorks cX1_countWorks 3 (some .int) :: wsL_law) rmX1_countWorks (va_Pc [.ref (B 2)] (jR D yy (lW yy B F G))) (vp_Si (fun r => r = gX1_countWorks F G )) 0 0 (fun _ => False) := by
  generalize hres : gX1_countWorks F G  = RES
  refine jM (vs := [.ref (B 2)]) (own := RX1) (by decide +kernel) rfl (Nat.le_of_ble_eq_true rfl) ?_
  intro p e s m args below meth c ls Q hQ hargs S hr hlk hinit hB hl
  obtain ⟨hx, hb, hml, hown, hts⟩ := S
  have hl : lv_has ls 3 [(0, .ref (B 2))] := hl
  obtain ⟨hP, hK⟩ := hB
  unfold gX1_countWorks at hres
  unfold okX1_countWorks at hok
  refine lv_iconst (v := 0) hx hb (dd_of dX1_countWorks_0 0 rfl) (by decide) ?_
  refine lv_istore_n (lv' := [(1, .int 0), (0, .ref (B 2))]) hx hb (dd_of dX1_countWorks_0 1 rfl) rfl hl (by decide) rfl (fun ls hl => ?_)
  refine lv_iconst (v := 0) hx hb (dd_of dX1_countWorks_0 2 rfl) (by decide) ?_
  refine lv_istore_n (lv' := [(2, .int 0), (1, .int 0), (0, .ref (B 2))]) hx hb (dd_of dX1_countWorks_0 3 rfl) rfl hl (by decide) rfl (fun ls hl => ?_)
  have LP4 : ∀ (K : Int32 → Int32 → Int32) (okK : Int32 → Int32 → Prop) (n : Nat), ∀ (v2 : Int32) (v1 : Int32), ∀ (ls : Array Slot), lv_has ls 3 [(2, .int v2), (1, .int v1), (0, .ref (B 2))] → okX1_countWorks_L4 F G  okK n v2 v1 → gX1_countWorks_L4 F G  K n v2 v1 = RES → (∀ (v2 : Int32) (v1 : Int32), ∀ (ls : Array Slot), lv_has ls 3 [(2, .int v2), (1, .int v1), (0, .ref (B 2))] → okK v2 v1 → K v2 v1 = RES → W p l e rmX1_countWorks s m args below meth c s.heap [] 0 0 Q (F0 m 28 ls [])) → W p l e rmX1_countWorks s m args below meth c s.heap [] 0 0 Q (F0 m 4 ls []) := by
    intro  K okK n
    induction n with
    | zero =>
      intro v2 v1 ls hl hok _ _
      exact absurd hok (by unfold okX1_countWorks_L4; exact id)
    | succ n9 ih =>
      intro v2 v1 ls hl hok hres hexit
      unfold gX1_countWorks_L4 at hres
      unfold okX1_countWorks_L4 at hok
      refine lv_iload_n hx hb (dd_of dX1_countWorks_0 4 rfl) rfl (lv_at hl 0 rfl) ?_
      refine lv_bipush (v := 6) hx hb (dd_of dX1_countWorks_0 5 rfl) (by decide) ?_
      refine lv_icmp_ge (tgt := 28) hx hb (dd_of dX1_countWorks_0 6 rfl) (by decide) (fun c1 => ?_) (fun c1 => ?_)
      · replace hres := ifE c1 hres
        replace hok := hok.1 c1
        exact hexit v2 v1 ls (lv_sub hl [0, 1, 2] rfl) hok hres
      · replace hres := ifN c1 hres
        replace hok := hok.2 c1
        refine lv_aload_n hx hb (dd_of dX1_countWorks_0 7 rfl) rfl (lv_at hl 2 rfl) ?_
        refine va_get (D := D) (cl := vwCl) (tys := jT yy) (ci := 1) (v := .ref (B 13)) (C := RX1) (T := TX1) (N := 8) hx hb hts (fun w h => List.mem_cons_of_mem _ (inlX1 w h)) hown hK hP 2 rfl rfl 5 (by decide) (jw hts gw104) (fun _ h9 => h9) rfl (dd_of dX1_countWorks_0 8 rfl) ?_
        refine lv_iload_n hx hb (dd_of dX1_countWorks_0 9 rfl) rfl (lv_at hl 0 rfl) ?_
        have h3 := hok.1
        replace hok := hok.2
        refine va_aldq hx hb hK hP 13 5 rfl rfl h3 (dd_of dX1_countWorks_0 10 rfl) ?_
        refine jo_nm (B := B) (off := 400) (e0 := (opi (F 65 (Int32.toNatClampNeg v2)))) (fun o2 eo2 => ?_)
        replace hres := bvE eo2 hres
        replace hok := bvO eo2 hok
        rcases o2 with _ | k4
        · replace hres := omN hres
          replace hok := opN hok
          refine lv_ifnullN (tgt := 22) hx hb (dd_of dX1_countWorks_0 11 rfl) (by decide) ?_
          refine lv_iinc (v := (v2 + 1)) (lv' := [(2, .int (v2 + 1)), (1, .int v1), (0, .ref (B 2))]) hx hb (dd_of dX1_countWorks_0 13 rfl) hl (k := 0) rfl rfl (by decide) rfl (fun ls hl => ?_)
          refine lv_goto (tgt := 4) hx hb (dd_of dX1_countWorks_0 14 rfl) (by decide) ?_
          exact ih (v2 + 1) v1 ls (lv_sub hl [0, 1, 2] rfl) hok hres hexit
        · replace hres := omS hres
          replace hok := opS hok
          refine lv_ifnull hx hb (dd_of dX1_countWorks_0 11 rfl) ?_
          refine lv_iinc (v := (v1 + 1)) (lv' := [(1, .int (v1 + 1)), (2, .int v2), (0, .ref (B 2))]) hx hb (dd_of dX1_countWorks_0 12 rfl) hl (k := 1) rfl rfl (by decide) rfl (fun ls hl => ?_)
          refine lv_iinc (v := (v2 + 1)) (lv' := [(2, .int (v2 + 1)), (1, .int (v1 + 1)), (0, .ref (B 2))]) hx hb (dd_of dX1_countWorks_0 13 rfl) hl (k := 1) rfl rfl (by decide) rfl (fun ls hl => ?_)
          refine lv_goto (tgt := 4) hx hb (dd_of dX1_countWorks_0 14 rfl) (by decide) ?_
          exact ih (v2 + 1) (v1 + 1) ls (lv_sub hl [0, 1, 2] rfl) hok hres hexit
  refine LP4  _ _ 80 0 0 ls (lv_sub hl [0, 1, 2] rfl) hok hres (fun y5 y6 ls hl hok hres => ?_)
  refine lv_iload_n hx hb (dd_of dX1_countWorks_0 15 rfl) rfl (lv_at hl 1 rfl) ?_
  subst hQ
  exact W.iret (v := y6) hx hb hr (fun t ht _ => ⟨_, rfl, hres, ht⟩) (fun _ h => absurd h List.not_mem_nil) (dd_of dX1_countWorks_0 16 rfl) hlk
set_option maxHeartbeats 4000000 in
set_option maxRecDepth 100000 in
theorem qX1_beginWork (l : Launch) (D : va_G) (yy : Nat → ClassId) (B : Nat → Nat) (F : jF) (G : jG) (sz : Nat) (p1 : Option Nat) (p2 : Int32) (p3 : Int32) (hok : okX1_beginWork F G p1 p2 p3) : Met l yX1_beginWork (Cond.code yX1_beginWork cX1_beginWork 5 (some .int) :: wsL_law) rmX1_beginWork (va_Pc [.ref (B 2), va_rf (oB B 400 p1), .int p2, .int p3] (jP D yy (lW yy B F G) sz)) (va_Qi (fun r (u : jS) => (r, u) = gX1_beginWork F G p1 p2 p3) (fun (u : jS) t => jB D yy (va_A (lW yy B F G) sz) (lW yy B u.1 u.2) t) (va_A (lW yy B F G) sz)) 0 0 (va_A (lW yy B F G) sz) := by
  rcases p1 with _ | k9
  · skip
    generalize hres : gX1_beginWork F G none p2 p3 = RES
    refine jM (vs := [.ref (B 2), .null, .int p2, .int p3]) (own := RX1) (by decide +kernel) rfl (Nat.le_of_ble_eq_true rfl) ?_
    intro p e s m args below meth c ls Q hQ hargs S hr hlk hinit hB hl
    obtain ⟨hx, hb, hml, hown, hts⟩ := S
    have hl : lv_has ls 5 [(0, .ref (B 2)), (1, .null), (2, .int p2), (3, .int p3)] := hl
    obtain ⟨hsz, hP, hK, hD0⟩ := hB
    subst hsz
    have hD := hD0.self (sz := s.heap.size)
    generalize hZ : va_A (lW yy B F G) s.heap.size = Z at hD hQ
    have hA : ∀ q : Nat, s.heap.size ≤ q → Z q := fun q h => by rw [← hZ]; exact Or.inr h
    obtain ⟨H, hH⟩ : ∃ z, z = s.heap := ⟨_, rfl⟩
    obtain ⟨locs, hlocs⟩ : ∃ z : List Loc, z = [] := ⟨_, rfl⟩
    have hS : va_S Z s.heap H locs := by rw [hH, hlocs]; exact va_S.rf
    rw [← hH] at hP
    suffices hgo : W p l e rmX1_beginWork s m args below meth c H locs 0 0 Q (F0 m 0 ls []) by rw [hH, hlocs] at hgo; exact hgo
    unfold gX1_beginWork at hres
    unfold okX1_beginWork at hok
    replace hres := omN hres
    replace hok := opN hok
    refine lv_iconst (v := 0) hx hb (dd_of dX1_beginWork_0 0 rfl) (by decide) ?_
    refine lv_istore (lv' := [(4, .int 0), (0, .ref (B 2)), (1, .null), (2, .int p2), (3, .int p3)]) hx hb (dd_of dX1_beginWork_0 1 rfl) hl (by decide) rfl (fun ls hl => ?_)
    have LP3 : ∀ (f2 : Int32) (f3 : Int32), ∀ (K : Int32 → jF → jG → (Int32 × jS)) (okK : Int32 → jF → jG → Prop) (n : Nat), ∀ (v4 : Int32) (F : jF) (G : jG), ∀ (H : Heap) (locs : List Loc) (ls : Array Slot), va_P D vwCl (lW yy B F G) H → va_D Z (lW yy B F G) → va_S Z s.heap H locs → lv_has ls 5 [(4, .int v4), (0, .ref (B 2)), (1, .null), (2, .int f2), (3, .int f3)] → okX1_beginWork_L3 f2 f3 okK n v4 F G → gX1_beginWork_L3 f2 f3 K n v4 F G = RES → (∀ (v4 : Int32) (F : jF) (G : jG), ∀ (H : Heap) (locs : List Loc) (ls : Array Slot), va_P D vwCl (lW yy B F G) H → va_D Z (lW yy B F G) → va_S Z s.heap H locs → lv_has ls 5 [(4, .int v4), (0, .ref (B 2)), (1, .null), (2, .int f2), (3, .int f3)] → okK v4 F G → K v4 F G = RES → W p l e rmX1_beginWork s m args below meth c H locs 0 0 Q (F0 m 72 ls [])) → W p l e rmX1_beginWork s m args below meth c H locs 0 0 Q (F0 m 3 ls []) := by
      intro f2 f3 K okK n
      induction n with
      | zero =>
        intro v4 F G H locs ls hP hD hS hl hok _ _
        exact absurd hok (by unfold okX1_beginWork_L3; exact id)
      | succ n9 ih =>
        intro v4 F G H locs ls hP hD hS hl hok hres hexit
        unfold gX1_beginWork_L3 at hres
        unfold okX1_beginWork_L3 at hok
        refine lv_iload hx hb (dd_of dX1_beginWork_0 2 rfl) (lv_at hl 0 rfl) ?_
        refine lv_bipush (v := 6) hx hb (dd_of dX1_beginWork_0 3 rfl) (by decide) ?_
        refine lv_icmp_ge (tgt := 72) hx hb (dd_of dX1_beginWork_0 4 rfl) (by decide) (fun c1 => ?_) (fun c1 => ?_)
        · replace hres := ifE c1 hres
          replace hok := hok.1 c1
          exact hexit v4 F G H locs ls hP hD hS (lv_sub hl [0, 1, 2, 3, 4] rfl) hok hres
        · replace hres := ifN c1 hres
          replace hok := hok.2 c1
          refine lv_aload_n hx hb (dd_of dX1_beginWork_0 5 rfl) rfl (lv_at hl 1 rfl) ?_
          refine va_get (D := D) (cl := vwCl) (tys := jT yy) (ci := 1) (v := .ref (B 13)) (C := RX1) (T := TX1) (N := 8) hx hb hts (fun w h => List.mem_cons_of_mem _ (inlX1 w h)) hown hK hP 2 rfl rfl 5 (by decide) (jw hts gw104) (fun _ h9 => h9) rfl (dd_of dX1_beginWork_0 6 rfl) ?_
          refine lv_iload hx hb (dd_of dX1_beginWork_0 7 rfl) (lv_at hl 0 rfl) ?_
          have h3 := hok.1
          replace hok := hok.2
          refine va_aldq hx hb hK hP 13 5 rfl rfl h3 (dd_of dX1_beginWork_0 8 rfl) ?_
          refine jo_nm (B := B) (off := 400) (e0 := (opi (F 65 (Int32.toNatClampNeg v4)))) (fun o2 eo2 => ?_)
          replace hres := bvE eo2 hres
          replace hok := bvO eo2 hok
          rcases o2 with _ | k4
          · replace hres := omN hres
            replace hok := opN hok
            refine lv_ifnonnullN hx hb (dd_of dX1_beginWork_0 9 rfl) ?_
            refine lv_aload_nN hx hb (dd_of dX1_beginWork_0 10 rfl) rfl (lv_at hl 2 rfl) ?_
            refine lv_ifnullN (tgt := 66) hx hb (dd_of dX1_beginWork_0 11 rfl) (by decide) ?_
            refine lv_iinc (v := (v4 + 1)) (lv' := [(4, .int (v4 + 1)), (0, .ref (B 2)), (1, .null), (2, .int f2), (3, .int f3)]) hx hb (dd_of dX1_beginWork_0 38 rfl) hl (k := 0) rfl rfl (by decide) rfl (fun ls hl => ?_)
            refine lv_goto (tgt := 3) hx hb (dd_of dX1_beginWork_0 39 rfl) (by decide) ?_
            exact ih (v4 + 1) F G H locs ls hP hD hS (lv_sub hl [0, 1, 2, 3, 4] rfl) hok hres hexit
          · replace hres := omS hres
            replace hok := opS hok
            refine lv_ifnonnull (tgt := 66) hx hb (dd_of dX1_beginWork_0 9 rfl) (by decide) ?_
            refine lv_iinc (v := (v4 + 1)) (lv' := [(4, .int (v4 + 1)), (0, .ref (B 2)), (1, .null), (2, .int f2), (3, .int f3)]) hx hb (dd_of dX1_beginWork_0 38 rfl) hl (k := 0) rfl rfl (by decide) rfl (fun ls hl => ?_)
            refine lv_goto (tgt := 3) hx hb (dd_of dX1_beginWork_0 39 rfl) (by decide) ?_
            exact ih (v4 + 1) F G H locs ls hP hD hS (lv_sub hl [0, 1, 2, 3, 4] rfl) hok hres hexit
    refine LP3 p2 p3 _ _ 80 0 F G H locs ls hP hD hS (lv_sub hl [0, 1, 2, 3, 4] rfl) hok hres (fun y5 F6 G7 H locs ls hP hD hS hl hok hres => ?_)
    refine lv_aload_n hx hb (dd_of dX1_beginWork_1 0 rfl) rfl (lv_at hl 1 rfl) ?_
    refine va_get (D := D) (cl := vwCl) (tys := jT yy) (ci := 1) (v := .int (F6 62 0)) (C := RX1) (T := TX1) (N := 8) hx hb hts (fun w h => List.mem_cons_of_mem _ (inlX1 w h)) hown hK hP 2 rfl rfl 0 (by decide) (jw hts gw407) (fun _ h9 => h9) rfl (dd_of dX1_beginWork_1 1 rfl) ?_
    subst hQ
    exact W.iret (v := (F6 62 0)) hx hb hr (fun t ht hW => ⟨⟨(F6 62 0), (F6, G7), rfl, hres, by rw [ht]; exact hP, va_K.moved hW.alike hK, hD⟩, hS.F ht⟩) hS.2.2 (dd_of dX1_beginWork_1 2 rfl) hlk
  · skip
    generalize hres : gX1_beginWork F G (some k9) p2 p3 = RES
    refine jM (vs := [.ref (B 2), .ref (B (400 + k9)), .int p2, .int p3]) (own := RX1) (by decide +kernel) rfl (Nat.le_of_ble_eq_true rfl) ?_
    intro p e s m args below meth c ls Q hQ hargs S hr hlk hinit hB hl
    obtain ⟨hx, hb, hml, hown, hts⟩ := S
    have hl : lv_has ls 5 [(0, .ref (B 2)), (1, .ref (B (400 + k9))), (2, .int p2), (3, .int p3)] := hl
    obtain ⟨hsz, hP, hK, hD0⟩ := hB
    subst hsz
    have hD := hD0.self (sz := s.heap.size)
    generalize hZ : va_A (lW yy B F G) s.heap.size = Z at hD hQ
    have hA : ∀ q : Nat, s.heap.size ≤ q → Z q := fun q h => by rw [← hZ]; exact Or.inr h
    obtain ⟨H, hH⟩ : ∃ z, z = s.heap := ⟨_, rfl⟩
    obtain ⟨locs, hlocs⟩ : ∃ z : List Loc, z = [] := ⟨_, rfl⟩
    have hS : va_S Z s.heap H locs := by rw [hH, hlocs]; exact va_S.rf
    rw [← hH] at hP
    suffices hgo : W p l e rmX1_beginWork s m args below meth c H locs 0 0 Q (F0 m 0 ls []) by rw [hH, hlocs] at hgo; exact hgo
    unfold gX1_beginWork at hres
    unfold okX1_beginWork at hok
    replace hres := omS hres
    replace hok := opS hok
    refine lv_iconst (v := 0) hx hb (dd_of dX1_beginWork_0 0 rfl) (by decide) ?_
    refine lv_istore (lv' := [(4, .int 0), (0, .ref (B 2)), (1, .ref (B (400 + k9))), (2, .int p2), (3, .int p3)]) hx hb (dd_of dX1_beginWork_0 1 rfl) hl (by decide) rfl (fun ls hl => ?_)
    have LP3 : ∀ (f2 : Int32) (f3 : Int32), ∀ (K : Int32 → jF → jG → (Int32 × jS)) (okK : Int32 → jF → jG → Prop) (n : Nat), ∀ (v4 : Int32) (F : jF) (G : jG), ∀ (H : Heap) (locs : List Loc) (ls : Array Slot), va_P D vwCl (lW yy B F G) H → va_D Z (lW yy B F G) → va_S Z s.heap H locs → lv_has ls 5 [(4, .int v4), (0, .ref (B 2)), (1, .ref (B (400 + k9))), (2, .int f2), (3, .int f3)] → okX1_beginWork_L3s k9 f2 f3 okK n v4 F G → gX1_beginWork_L3s k9 f2 f3 K n v4 F G = RES → (∀ (v4 : Int32) (F : jF) (G : jG), ∀ (H : Heap) (locs : List Loc) (ls : Array Slot), va_P D vwCl (lW yy B F G) H → va_D Z (lW yy B F G) → va_S Z s.heap H locs → lv_has ls 5 [(4, .int v4), (0, .ref (B 2)), (1, .ref (B (400 + k9))), (2, .int f2), (3, .int f3)] → okK v4 F G → K v4 F G = RES → W p l e rmX1_beginWork s m args below meth c H locs 0 0 Q (F0 m 72 ls [])) → W p l e rmX1_beginWork s m args below meth c H locs 0 0 Q (F0 m 3 ls []) := by
      intro f2 f3 K okK n
      induction n with
      | zero =>
        intro v4 F G H locs ls hP hD hS hl hok _ _
        exact absurd hok (by unfold okX1_beginWork_L3s; exact id)
      | succ n9 ih =>
        intro v4 F G H locs ls hP hD hS hl hok hres hexit
        unfold gX1_beginWork_L3s at hres
        unfold okX1_beginWork_L3s at hok
        refine lv_iload hx hb (dd_of dX1_beginWork_0 2 rfl) (lv_at hl 0 rfl) ?_
        refine lv_bipush (v := 6) hx hb (dd_of dX1_beginWork_0 3 rfl) (by decide) ?_
        refine lv_icmp_ge (tgt := 72) hx hb (dd_of dX1_beginWork_0 4 rfl) (by decide) (fun c8 => ?_) (fun c8 => ?_)
        · replace hres := ifE c8 hres
          replace hok := hok.1 c8
          exact hexit v4 F G H locs ls hP hD hS (lv_sub hl [0, 1, 2, 3, 4] rfl) hok hres
        · replace hres := ifN c8 hres
          replace hok := hok.2 c8
          refine lv_aload_n hx hb (dd_of dX1_beginWork_0 5 rfl) rfl (lv_at hl 1 rfl) ?_
          refine va_get (D := D) (cl := vwCl) (tys := jT yy) (ci := 1) (v := .ref (B 13)) (C := RX1) (T := TX1) (N := 8) hx hb hts (fun w h => List.mem_cons_of_mem _ (inlX1 w h)) hown hK hP 2 rfl rfl 5 (by decide) (jw hts gw104) (fun _ h9 => h9) rfl (dd_of dX1_beginWork_0 6 rfl) ?_
          refine lv_iload hx hb (dd_of dX1_beginWork_0 7 rfl) (lv_at hl 0 rfl) ?_
          have h10 := hok.1
          replace hok := hok.2
          refine va_aldq hx hb hK hP 13 5 rfl rfl h10 (dd_of dX1_beginWork_0 8 rfl) ?_
          refine jo_nm (B := B) (off := 400) (e0 := (opi (F 65 (Int32.toNatClampNeg v4)))) (fun o9 eo9 => ?_)
          replace hres := bvE eo9 hres
          replace hok := bvO eo9 hok
          rcases o9 with _ | k11
          · replace hres := omN hres
            replace hok := opN hok
            refine lv_ifnonnullN hx hb (dd_of dX1_beginWork_0 9 rfl) ?_
            refine lv_aload_n hx hb (dd_of dX1_beginWork_0 10 rfl) rfl (lv_at hl 2 rfl) ?_
            refine lv_ifnull hx hb (dd_of dX1_beginWork_0 11 rfl) ?_
            refine lv_aload_n hx hb (dd_of dX1_beginWork_0 12 rfl) rfl (lv_at hl 1 rfl) ?_
            refine va_get (D := D) (cl := vwCl) (tys := jT yy) (ci := 1) (v := .ref (B 13)) (C := RX1) (T := TX1) (N := 8) hx hb hts (fun w h => List.mem_cons_of_mem _ (inlX1 w h)) hown hK hP 2 rfl rfl 5 (by decide) (jw hts gw104) (fun _ h9 => h9) rfl (dd_of dX1_beginWork_0 13 rfl) ?_
            refine lv_iload hx hb (dd_of dX1_beginWork_0 14 rfl) (lv_at hl 0 rfl) ?_
            refine lv_aload_n hx hb (dd_of dX1_beginWork_0 15 rfl) rfl (lv_at hl 2 rfl) ?_
            have h12 := hok.1
            replace hok := hok.2
            have h13 := hok.1
            replace hok := hok.2
            obtain ⟨q9, hq9⟩ := lWg_dyke (yy := yy) (B := B) (F := F) (G := G) h13
            refine va_astq (r := (RX3, TX3, 7)) hx hb hK hP hD hS 13 5 q9 3 rfl rfl hq9 rfl h12 (dd_of dX1_beginWork_0 16 rfl) (fun H locs hP hD hS => ?_)
            obtain ⟨F14, e15⟩ : ∃ z : jF, z = u2 F 65 (Int32.toNatClampNeg v4) (nI k9) := ⟨_, rfl⟩
            have hP : va_P D vwCl (lW yy B F14 G) H := by rw [e15, ← lW_raised yy B F G (cn_lt h13)]; exact hP
            have hD : va_D Z (lW yy B F14 G) := by rw [e15, ← lW_raised yy B F G (cn_lt h13)]; exact hD
            replace hres := bvE e15 hres
            replace hok := bvO e15 hok
            refine lv_aload_n hx hb (dd_of dX1_beginWork_0 17 rfl) rfl (lv_at hl 1 rfl) ?_
            refine va_get (D := D) (cl := vwCl) (tys := jT yy) (ci := 1) (v := .ref (B 14)) (C := RX1) (T := TX1) (N := 8) hx hb hts (fun w h => List.mem_cons_of_mem _ (inlX1 w h)) hown hK hP 2 rfl rfl 6 (by decide) (jw hts gw105) (fun _ h9 => h9) rfl (dd_of dX1_beginWork_0 18 rfl) ?_
            refine lv_iload hx hb (dd_of dX1_beginWork_0 19 rfl) (lv_at hl 0 rfl) ?_
            refine lv_iload_n hx hb (dd_of dX1_beginWork_0 20 rfl) rfl (lv_at hl 3 rfl) ?_
            have h16 := hok.1
            replace hok := hok.2
            refine va_iast hx hb hK hP hD hS 14 0 rfl rfl h16 (dd_of dX1_beginWork_0 21 rfl) (fun H locs hP hD hS => ?_)
            obtain ⟨F17, e18⟩ : ∃ z : jF, z = u2 F14 66 (Int32.toNatClampNeg v4) f2 := ⟨_, rfl⟩
            have hP : va_P D vwCl (lW yy B F17 G) H := by rw [e18]; exact hP
            have hD : va_D Z (lW yy B F17 G) := by rw [e18]; exact hD
            replace hres := bvE e18 hres
            replace hok := bvO e18 hok
            refine lv_aload_n hx hb (dd_of dX1_beginWork_0 22 rfl) rfl (lv_at hl 1 rfl) ?_
            refine va_get (D := D) (cl := vwCl) (tys := jT yy) (ci := 1) (v := .ref (B 15)) (C := RX1) (T := TX1) (N := 8) hx hb hts (fun w h => List.mem_cons_of_mem _ (inlX1 w h)) hown hK hP 2 rfl rfl 7 (by decide) (jw hts gw106) (fun _ h9 => h9) rfl (dd_of dX1_beginWork_0 23 rfl) ?_
            refine lv_iload hx hb (dd_of dX1_beginWork_0 24 rfl) (lv_at hl 0 rfl) ?_
            refine lv_iload_n hx hb (dd_of dX1_beginWork_0 25 rfl) rfl (lv_at hl 4 rfl) ?_
            have h19 := hok
            refine va_iast hx hb hK hP hD hS 15 0 rfl rfl h19 (dd_of dX1_beginWork_0 26 rfl) (fun H locs hP hD hS => ?_)
            obtain ⟨F20, e21⟩ : ∃ z : jF, z = u2 F17 67 (Int32.toNatClampNeg v4) f3 := ⟨_, rfl⟩
            have hP : va_P D vwCl (lW yy B F20 G) H := by rw [e21]; exact hP
            have hD : va_D Z (lW yy B F20 G) := by rw [e21]; exact hD
            replace hres := bvE e21 hres
            refine lv_aload_n hx hb (dd_of dX1_beginWork_0 27 rfl) rfl (lv_at hl 1 rfl) ?_
            refine lv_dup hx hb (dd_of dX1_beginWork_0 28 rfl) rfl ?_
            refine va_get (D := D) (cl := vwCl) (tys := jT yy) (ci := 1) (v := .int (F20 62 0)) (C := RX1) (T := TX1) (N := 8) hx hb hts (fun w h => List.mem_cons_of_mem _ (inlX1 w h)) hown hK hP 2 rfl rfl 0 (by decide) (jw hts gw407) (fun _ h9 => h9) rfl (dd_of dX1_beginWork_0 29 rfl) ?_
            refine lv_iload_n hx hb (dd_of dX1_beginWork_0 30 rfl) rfl (lv_at hl 3 rfl) ?_
            refine lv_bipush (v := 10) hx hb (dd_of dX1_beginWork_0 31 rfl) (by decide) ?_
            refine lv_imul hx hb (dd_of dX1_beginWork_0 32 rfl) ?_
            refine lv_isub hx hb (dd_of dX1_beginWork_0 33 rfl) ?_
            refine va_put (D := D) (cl := vwCl) (tys := jT yy) (ci := 1) (v := .int ((F20 62 0) - (f2 * 10))) (ty := .int) (C := RX1) (T := TX1) (N := 8) hx hb hts (fun w h => List.mem_cons_of_mem _ (inlX1 w h)) tyX1 tyX1_ok nmX1 hown hK hP hD hS 2 rfl rfl 0 (by decide) (jw hts gw407) (fun _ h9 => h9) rfl (by decide +kernel) rfl rfl (Nat.le_of_ble_eq_true rfl) (dd_of dX1_beginWork_0 34 rfl) (fun H locs hP hD hS => ?_)
            obtain ⟨F22, e23⟩ : ∃ z : jF, z = u2 F20 62 0 ((F20 62 0) - (f2 * 10)) := ⟨_, rfl⟩
            have hP : va_P D vwCl (lW yy B F22 G) H := by rw [e23]; exact hP
            have hD : va_D Z (lW yy B F22 G) := by rw [e23]; exact hD
            replace hres := bvE e23 hres
            refine lv_aload_n hx hb (dd_of dX1_beginWork_0 35 rfl) rfl (lv_at hl 1 rfl) ?_
            refine va_get (D := D) (cl := vwCl) (tys := jT yy) (ci := 1) (v := .int (F22 62 0)) (C := RX1) (T := TX1) (N := 8) hx hb hts (fun w h => List.mem_cons_of_mem _ (inlX1 w h)) hown hK hP 2 rfl rfl 0 (by decide) (jw hts gw407) (fun _ h9 => h9) rfl (dd_of dX1_beginWork_0 36 rfl) ?_
            subst hQ
            exact W.iret (v := (F22 62 0)) hx hb hr (fun t ht hW => ⟨⟨(F22 62 0), (F22, G), rfl, hres, by rw [ht]; exact hP, va_K.moved hW.alike hK, hD⟩, hS.F ht⟩) hS.2.2 (dd_of dX1_beginWork_0 37 rfl) hlk
          · replace hres := omS hres
            replace hok := opS hok
            refine lv_ifnonnull (tgt := 66) hx hb (dd_of dX1_beginWork_0 9 rfl) (by decide) ?_
            refine lv_iinc (v := (v4 + 1)) (lv' := [(4, .int (v4 + 1)), (0, .ref (B 2)), (1, .ref (B (400 + k9))), (2, .int f2), (3, .int f3)]) hx hb (dd_of dX1_beginWork_0 38 rfl) hl (k := 0) rfl rfl (by decide) rfl (fun ls hl => ?_)
            refine lv_goto (tgt := 3) hx hb (dd_of dX1_beginWork_0 39 rfl) (by decide) ?_
            exact ih (v4 + 1) F G H locs ls hP hD hS (lv_sub hl [0, 1, 2, 3, 4] rfl) hok hres hexit
    refine LP3 p2 p3 _ _ 80 0 F G H locs ls hP hD hS (lv_sub hl [0, 1, 2, 3, 4] rfl) hok hres (fun y24 F25 G26 H locs ls hP hD hS hl hok hres => ?_)
    refine lv_aload_n hx hb (dd_of dX1_beginWork_1 0 rfl) rfl (lv_at hl 1 rfl) ?_
    refine va_get (D := D) (cl := vwCl) (tys := jT yy) (ci := 1) (v := .int (F25 62 0)) (C := RX1) (T := TX1) (N := 8) hx hb hts (fun w h => List.mem_cons_of_mem _ (inlX1 w h)) hown hK hP 2 rfl rfl 0 (by decide) (jw hts gw407) (fun _ h9 => h9) rfl (dd_of dX1_beginWork_1 1 rfl) ?_
    subst hQ
    exact W.iret (v := (F25 62 0)) hx hb hr (fun t ht hW => ⟨⟨(F25 62 0), (F25, G26), rfl, hres, by rw [ht]; exact hP, va_K.moved hW.alike hK, hD⟩, hS.F ht⟩) hS.2.2 (dd_of dX1_beginWork_1 2 rfl) hlk
set_option maxHeartbeats 4000000 in
set_option maxRecDepth 100000 in
theorem qX1_goOnWithWorks (l : Launch) (D : va_G) (yy : Nat → ClassId) (B : Nat → Nat) (F : jF) (G : jG) (sz : Nat)  (hok : okX1_goOnWithWorks F G ) : Met l yX1_goOnWithWorks (Cond.code yX1_goOnWithWorks cX1_goOnWithWorks 2 none :: wsL_law) rmX1_goOnWithWorks (va_Pc [.ref (B 2)] (jP D yy (lW yy B F G) sz)) (va_Qv (fun u : jS => u = gX1_goOnWithWorks F G ) (fun (u : jS) t => jB D yy (va_A (lW yy B F G) sz) (lW yy B u.1 u.2) t) (va_A (lW yy B F G) sz)) 0 0 (va_A (lW yy B F G) sz) := by
  generalize hres : gX1_goOnWithWorks F G  = RES
  refine jM (vs := [.ref (B 2)]) (own := RX1) (by decide +kernel) rfl (Nat.le_of_ble_eq_true rfl) ?_
  intro p e s m args below meth c ls Q hQ hargs S hr hlk hinit hB hl
  obtain ⟨hx, hb, hml, hown, hts⟩ := S
  have hl : lv_has ls 2 [(0, .ref (B 2))] := hl
  obtain ⟨hsz, hP, hK, hD0⟩ := hB
  subst hsz
  have hD := hD0.self (sz := s.heap.size)
  generalize hZ : va_A (lW yy B F G) s.heap.size = Z at hD hQ
  have hA : ∀ q : Nat, s.heap.size ≤ q → Z q := fun q h => by rw [← hZ]; exact Or.inr h
  obtain ⟨H, hH⟩ : ∃ z, z = s.heap := ⟨_, rfl⟩
  obtain ⟨locs, hlocs⟩ : ∃ z : List Loc, z = [] := ⟨_, rfl⟩
  have hS : va_S Z s.heap H locs := by rw [hH, hlocs]; exact va_S.rf
  rw [← hH] at hP
  suffices hgo : W p l e rmX1_goOnWithWorks s m args below meth c H locs 0 0 Q (F0 m 0 ls []) by rw [hH, hlocs] at hgo; exact hgo
  unfold gX1_goOnWithWorks at hres
  unfold okX1_goOnWithWorks at hok
  refine lv_iconst (v := 0) hx hb (dd_of dX1_goOnWithWorks_0 0 rfl) (by decide) ?_
  refine lv_istore_n (lv' := [(1, .int 0), (0, .ref (B 2))]) hx hb (dd_of dX1_goOnWithWorks_0 1 rfl) rfl hl (by decide) rfl (fun ls hl => ?_)
  have LP2 : ∀ (K : Int32 → jF → jG → jS) (okK : Int32 → jF → jG → Prop) (n : Nat), ∀ (v1 : Int32) (F : jF) (G : jG), ∀ (H : Heap) (locs : List Loc) (ls : Array Slot), va_P D vwCl (lW yy B F G) H → va_D Z (lW yy B F G) → va_S Z s.heap H locs → lv_has ls 2 [(1, .int v1), (0, .ref (B 2))] → okX1_goOnWithWorks_L2  okK n v1 F G → gX1_goOnWithWorks_L2  K n v1 F G = RES → (∀ (v1 : Int32) (F : jF) (G : jG), ∀ (H : Heap) (locs : List Loc) (ls : Array Slot), va_P D vwCl (lW yy B F G) H → va_D Z (lW yy B F G) → va_S Z s.heap H locs → lv_has ls 2 [(1, .int v1), (0, .ref (B 2))] → okK v1 F G → K v1 F G = RES → W p l e rmX1_goOnWithWorks s m args below meth c H locs 0 0 Q (F0 m 72 ls [])) → W p l e rmX1_goOnWithWorks s m args below meth c H locs 0 0 Q (F0 m 2 ls []) := by
    intro  K okK n
    induction n with
    | zero =>
      intro v1 F G H locs ls hP hD hS hl hok _ _
      exact absurd hok (by unfold okX1_goOnWithWorks_L2; exact id)
    | succ n9 ih =>
      intro v1 F G H locs ls hP hD hS hl hok hres hexit
      unfold gX1_goOnWithWorks_L2 at hres
      unfold okX1_goOnWithWorks_L2 at hok
      refine lv_iload_n hx hb (dd_of dX1_goOnWithWorks_0 2 rfl) rfl (lv_at hl 0 rfl) ?_
      refine lv_bipush (v := 6) hx hb (dd_of dX1_goOnWithWorks_0 3 rfl) (by decide) ?_
      refine lv_icmp_ge (tgt := 72) hx hb (dd_of dX1_goOnWithWorks_0 4 rfl) (by decide) (fun c1 => ?_) (fun c1 => ?_)
      · replace hres := ifE c1 hres
        replace hok := hok.1 c1
        exact hexit v1 F G H locs ls hP hD hS (lv_sub hl [0, 1] rfl) hok hres
      · replace hres := ifN c1 hres
        replace hok := hok.2 c1
        refine lv_aload_n hx hb (dd_of dX1_goOnWithWorks_0 5 rfl) rfl (lv_at hl 1 rfl) ?_
        refine va_get (D := D) (cl := vwCl) (tys := jT yy) (ci := 1) (v := .ref (B 13)) (C := RX1) (T := TX1) (N := 8) hx hb hts (fun w h => List.mem_cons_of_mem _ (inlX1 w h)) hown hK hP 2 rfl rfl 5 (by decide) (jw hts gw104) (fun _ h9 => h9) rfl (dd_of dX1_goOnWithWorks_0 6 rfl) ?_
        refine lv_iload_n hx hb (dd_of dX1_goOnWithWorks_0 7 rfl) rfl (lv_at hl 0 rfl) ?_
        have h3 := hok.1
        replace hok := hok.2
        refine va_aldq hx hb hK hP 13 5 rfl rfl h3 (dd_of dX1_goOnWithWorks_0 8 rfl) ?_
        refine jo_nm (B := B) (off := 400) (e0 := (opi (F 65 (Int32.toNatClampNeg v1)))) (fun o2 eo2 => ?_)
        replace hres := bvE eo2 hres
        replace hok := bvO eo2 hok
        rcases o2 with _ | k4
        · replace hres := omN hres
          replace hok := opN hok
          refine lv_ifnonnullN hx hb (dd_of dX1_goOnWithWorks_0 9 rfl) ?_
          refine lv_goto (tgt := 66) hx hb (dd_of dX1_goOnWithWorks_0 10 rfl) (by decide) ?_
          refine lv_iinc (v := (v1 + 1)) (lv' := [(1, .int (v1 + 1)), (0, .ref (B 2))]) hx hb (dd_of dX1_goOnWithWorks_1 1 rfl) hl (k := 0) rfl rfl (by decide) rfl (fun ls hl => ?_)
          refine lv_goto (tgt := 2) hx hb (dd_of dX1_goOnWithWorks_1 2 rfl) (by decide) ?_
          exact ih (v1 + 1) F G H locs ls hP hD hS (lv_sub hl [0, 1] rfl) hok hres hexit
        · replace hres := omS hres
          replace hok := opS hok
          refine lv_ifnonnull (tgt := 20) hx hb (dd_of dX1_goOnWithWorks_0 9 rfl) (by decide) ?_
          refine lv_aload_n hx hb (dd_of dX1_goOnWithWorks_0 11 rfl) rfl (lv_at hl 1 rfl) ?_
          refine va_get (D := D) (cl := vwCl) (tys := jT yy) (ci := 1) (v := .ref (B 15)) (C := RX1) (T := TX1) (N := 8) hx hb hts (fun w h => List.mem_cons_of_mem _ (inlX1 w h)) hown hK hP 2 rfl rfl 7 (by decide) (jw hts gw106) (fun _ h9 => h9) rfl (dd_of dX1_goOnWithWorks_0 12 rfl) ?_
          refine lv_iload_n hx hb (dd_of dX1_goOnWithWorks_0 13 rfl) rfl (lv_at hl 0 rfl) ?_
          refine lv_dup2_11 hx hb (dd_of dX1_goOnWithWorks_0 14 rfl) rfl rfl ?_
          have h5 := hok.1
          replace hok := hok.2
          refine va_iald hx hb hK hP 15 0 rfl rfl h5 (dd_of dX1_goOnWithWorks_0 15 rfl) ?_
          refine lv_iconst (v := 1) hx hb (dd_of dX1_goOnWithWorks_0 16 rfl) (by decide) ?_
          refine lv_isub hx hb (dd_of dX1_goOnWithWorks_0 17 rfl) ?_
          have h6 := hok.1
          replace hok := hok.2
          refine va_iast hx hb hK hP hD hS 15 0 rfl rfl h6 (dd_of dX1_goOnWithWorks_0 18 rfl) (fun H locs hP hD hS => ?_)
          obtain ⟨F7, e8⟩ : ∃ z : jF, z = u2 F 67 (Int32.toNatClampNeg v1) ((F 67 (Int32.toNatClampNeg v1)) - 1) := ⟨_, rfl⟩
          have hP : va_P D vwCl (lW yy B F7 G) H := by rw [e8]; exact hP
          have hD : va_D Z (lW yy B F7 G) := by rw [e8]; exact hD
          replace hres := bvE e8 hres
          replace hok := bvO e8 hok
          refine lv_aload_n hx hb (dd_of dX1_goOnWithWorks_0 19 rfl) rfl (lv_at hl 1 rfl) ?_
          refine va_get (D := D) (cl := vwCl) (tys := jT yy) (ci := 1) (v := .ref (B 15)) (C := RX1) (T := TX1) (N := 8) hx hb hts (fun w h => List.mem_cons_of_mem _ (inlX1 w h)) hown hK hP 2 rfl rfl 7 (by decide) (jw hts gw106) (fun _ h9 => h9) rfl (dd_of dX1_goOnWithWorks_0 20 rfl) ?_
          refine lv_iload_n hx hb (dd_of dX1_goOnWithWorks_0 21 rfl) rfl (lv_at hl 0 rfl) ?_
          have h9 := hok.1
          replace hok := hok.2
          refine va_iald hx hb hK hP 15 0 rfl rfl h9 (dd_of dX1_goOnWithWorks_0 22 rfl) ?_
          refine lv_if_gt (tgt := 66) hx hb (dd_of dX1_goOnWithWorks_0 23 rfl) (by decide) (fun c10 => ?_) (fun c10 => ?_)
          · replace hres := ifE c10 hres
            replace hok := hok.1 c10
            refine lv_iinc (v := (v1 + 1)) (lv' := [(1, .int (v1 + 1)), (0, .ref (B 2))]) hx hb (dd_of dX1_goOnWithWorks_1 1 rfl) hl (k := 0) rfl rfl (by decide) rfl (fun ls hl => ?_)
            refine lv_goto (tgt := 2) hx hb (dd_of dX1_goOnWithWorks_1 2 rfl) (by decide) ?_
            exact ih (v1 + 1) F7 G H locs ls hP hD hS (lv_sub hl [0, 1] rfl) hok hres hexit
          · replace hres := ifN c10 hres
            replace hok := hok.2 c10
            refine lv_aload_n hx hb (dd_of dX1_goOnWithWorks_0 24 rfl) rfl (lv_at hl 1 rfl) ?_
            refine va_get (D := D) (cl := vwCl) (tys := jT yy) (ci := 1) (v := .ref (B 13)) (C := RX1) (T := TX1) (N := 8) hx hb hts (fun w h => List.mem_cons_of_mem _ (inlX1 w h)) hown hK hP 2 rfl rfl 5 (by decide) (jw hts gw104) (fun _ h9 => h9) rfl (dd_of dX1_goOnWithWorks_0 25 rfl) ?_
            refine lv_iload_n hx hb (dd_of dX1_goOnWithWorks_0 26 rfl) rfl (lv_at hl 0 rfl) ?_
            have h12 := hok.1
            replace hok := hok.2
            refine va_aldq hx hb hK hP 13 5 rfl rfl h12 (dd_of dX1_goOnWithWorks_0 27 rfl) ?_
            refine jo_nm (B := B) (off := 400) (e0 := (opi (F7 65 (Int32.toNatClampNeg v1)))) (fun o11 eo11 => ?_)
            replace hres := bvE eo11 hres
            replace hok := bvO eo11 hok
            refine lv_dup hx hb (dd_of dX1_goOnWithWorks_0 28 rfl) (cat_o _) ?_
            rcases o11 with _ | k13
            · replace hres := omN hres
              replace hok := opN hok
              exact False.elim hok
            · replace hres := omS hres
              replace hok := opS hok
              have h14 := hok.1
              replace hok := hok.2
              obtain ⟨q9, hq9⟩ := lWg_dyke (yy := yy) (B := B) (F := F7) (G := G) h14
              refine va_get (D := D) (cl := vwCl) (tys := jT yy) (ci := 3) (v := .int (F7 35 k13)) (C := RX3) (T := TX3) (N := 7) hx hb hts (fun w h => List.mem_cons_of_mem _ (inlX3 w h)) hown hK hP q9 hq9 rfl 2 (by decide) (jw hts gw584) (fun _ h9 => h9) rfl (dd_of dX1_goOnWithWorks_0 29 rfl) ?_
              refine lv_aload_n hx hb (dd_of dX1_goOnWithWorks_0 30 rfl) rfl (lv_at hl 1 rfl) ?_
              refine va_get (D := D) (cl := vwCl) (tys := jT yy) (ci := 1) (v := .ref (B 14)) (C := RX1) (T := TX1) (N := 8) hx hb hts (fun w h => List.mem_cons_of_mem _ (inlX1 w h)) hown hK hP 2 rfl rfl 6 (by decide) (jw hts gw105) (fun _ h9 => h9) rfl (dd_of dX1_goOnWithWorks_0 31 rfl) ?_
              refine lv_iload_n hx hb (dd_of dX1_goOnWithWorks_0 32 rfl) rfl (lv_at hl 0 rfl) ?_
              have h15 := hok.1
              replace hok := hok.2
              refine va_iald hx hb hK hP 14 0 rfl rfl h15 (dd_of dX1_goOnWithWorks_0 33 rfl) ?_
              refine lv_iadd hx hb (dd_of dX1_goOnWithWorks_0 34 rfl) ?_
              have h16 := hok.1
              replace hok := hok.2
              obtain ⟨q9, hq9, hs9⟩ := lWs_dyke_crest (yy := yy) (B := B) (F := F7) (G := G) (v := ((F7 35 k13) + (F7 66 (Int32.toNatClampNeg v1)))) h16
              refine va_put (D := D) (cl := vwCl) (tys := jT yy) (ci := 3) (v := .int ((F7 35 k13) + (F7 66 (Int32.toNatClampNeg v1)))) (ty := .int) (C := RX3) (T := TX3) (N := 7) hx hb hts (fun w h => List.mem_cons_of_mem _ (inlX3 w h)) tyX3 tyX3_ok nmX3 hown hK hP hD hS q9 hq9 rfl 2 (by decide) (jw hts gw584) (fun _ h9 => h9) rfl (by decide +kernel) rfl rfl (Nat.le_of_ble_eq_true rfl) (dd_of dX1_goOnWithWorks_0 35 rfl) (fun H locs hP hD hS => ?_)
              obtain ⟨F17, e18⟩ : ∃ z : jF, z = u2 F7 35 k13 ((F7 35 k13) + (F7 66 (Int32.toNatClampNeg v1))) := ⟨_, rfl⟩
              have hP : va_P D vwCl (lW yy B F17 G) H := by rw [e18, ← hs9]; exact hP
              have hD : va_D Z (lW yy B F17 G) := by rw [e18, ← hs9]; exact hD
              replace hres := bvE e18 hres
              replace hok := bvO e18 hok
              refine lv_aload_n hx hb (dd_of dX1_goOnWithWorks_0 36 rfl) rfl (lv_at hl 1 rfl) ?_
              refine va_get (D := D) (cl := vwCl) (tys := jT yy) (ci := 1) (v := .ref (B 13)) (C := RX1) (T := TX1) (N := 8) hx hb hts (fun w h => List.mem_cons_of_mem _ (inlX1 w h)) hown hK hP 2 rfl rfl 5 (by decide) (jw hts gw104) (fun _ h9 => h9) rfl (dd_of dX1_goOnWithWorks_0 37 rfl) ?_
              refine lv_iload_n hx hb (dd_of dX1_goOnWithWorks_0 38 rfl) rfl (lv_at hl 0 rfl) ?_
              refine lv_null hx hb (dd_of dX1_goOnWithWorks_0 39 rfl) ?_
              have h19 := hok.1
              replace hok := hok.2
              refine va_astqN hx hb hK hP hD hS 13 5 rfl rfl h19 (dd_of dX1_goOnWithWorks_1 0 rfl) (fun H locs hP hD hS => ?_)
              obtain ⟨F20, e21⟩ : ∃ z : jF, z = u2 F17 65 (Int32.toNatClampNeg v1) (-1) := ⟨_, rfl⟩
              have hP : va_P D vwCl (lW yy B F20 G) H := by rw [e21, ← lW_raisedN yy B F17 G]; exact hP
              have hD : va_D Z (lW yy B F20 G) := by rw [e21, ← lW_raisedN yy B F17 G]; exact hD
              replace hres := bvE e21 hres
              replace hok := bvO e21 hok
              refine lv_iinc (v := (v1 + 1)) (lv' := [(1, .int (v1 + 1)), (0, .ref (B 2))]) hx hb (dd_of dX1_goOnWithWorks_1 1 rfl) hl (k := 0) rfl rfl (by decide) rfl (fun ls hl => ?_)
              refine lv_goto (tgt := 2) hx hb (dd_of dX1_goOnWithWorks_1 2 rfl) (by decide) ?_
              exact ih (v1 + 1) F20 G H locs ls hP hD hS (lv_sub hl [0, 1] rfl) hok hres hexit
  refine LP2  _ _ 80 0 F G H locs ls hP hD hS (lv_sub hl [0, 1] rfl) hok hres (fun y22 F23 G24 H locs ls hP hD hS hl hok hres => ?_)
  subst hQ
  exact W.vret hx hb hr (fun t ht hW => ⟨⟨(F23, G24), rfl, hres, by rw [ht]; exact hP, va_K.moved hW.alike hK, hD⟩, hS.F ht⟩) hS.2.2 (dd_of dX1_goOnWithWorks_1 3 rfl) hlk
set_option maxHeartbeats 4000000 in
set_option maxRecDepth 100000 in
theorem qX1_noteSea (l : Launch) (D : va_G) (yy : Nat → ClassId) (B : Nat → Nat) (F : jF) (G : jG) (sz : Nat) (p1 : Int64) : Met l yX1_noteSea (Cond.code yX1_noteSea cX1_noteSea 3 none :: wsL_law) rmX1_noteSea (va_Pc [.ref (B 2), .long p1] (jP D yy (lW yy B F G) sz)) (va_Qv (fun u : jS => u = gX1_noteSea F G p1) (fun (u : jS) t => jB D yy (va_A (lW yy B F G) sz) (lW yy B u.1 u.2) t) (va_A (lW yy B F G) sz)) 0 0 (va_A (lW yy B F G) sz) := by
  generalize hres : gX1_noteSea F G p1 = RES
  refine jM (vs := [.ref (B 2), .long p1]) (own := RX1) (by decide +kernel) rfl (Nat.le_of_ble_eq_true rfl) ?_
  intro p e s m args below meth c ls Q hQ hargs S hr hlk hinit hB hl
  obtain ⟨hx, hb, hml, hown, hts⟩ := S
  have hl : lv_has ls 3 [(0, .ref (B 2)), (1, .long p1)] := hl
  obtain ⟨hsz, hP, hK, hD0⟩ := hB
  subst hsz
  have hD := hD0.self (sz := s.heap.size)
  generalize hZ : va_A (lW yy B F G) s.heap.size = Z at hD hQ
  have hA : ∀ q : Nat, s.heap.size ≤ q → Z q := fun q h => by rw [← hZ]; exact Or.inr h
  obtain ⟨H, hH⟩ : ∃ z, z = s.heap := ⟨_, rfl⟩
  obtain ⟨locs, hlocs⟩ : ∃ z : List Loc, z = [] := ⟨_, rfl⟩
  have hS : va_S Z s.heap H locs := by rw [hH, hlocs]; exact va_S.rf
  rw [← hH] at hP
  suffices hgo : W p l e rmX1_noteSea s m args below meth c H locs 0 0 Q (F0 m 0 ls []) by rw [hH, hlocs] at hgo; exact hgo
  unfold gX1_noteSea at hres
  refine lv_aload_n hx hb (dd_of dX1_noteSea_0 0 rfl) rfl (lv_at hl 0 rfl) ?_
  refine lv_aload_n hx hb (dd_of dX1_noteSea_0 1 rfl) rfl (lv_at hl 0 rfl) ?_
  refine va_get (D := D) (cl := vwCl) (tys := jT yy) (ci := 1) (v := .long (G 58 0)) (C := RX1) (T := TX1) (N := 8) hx hb hts (fun w h => List.mem_cons_of_mem _ (inlX1 w h)) hown hK hP 2 rfl rfl 3 (by decide) (jw hts gw101) (fun _ h9 => h9) rfl (dd_of dX1_noteSea_0 2 rfl) ?_
  refine lv_lload_n hx hb (dd_of dX1_noteSea_0 3 rfl) rfl (lv_at hl 1 rfl) ?_
  refine va_mmax_long hx hb (hml.trans hl.1.symm) hown (jw hts gw560) (jw hts gw81) (jw hts gw82) (jw hts gw83) (Nat.le_of_ble_eq_true rfl) (Nat.le_of_ble_eq_true rfl) (Nat.zero_le _) (Nat.zero_le _) (dd_of dX1_noteSea_0 4 rfl) ?_
  refine lv_topl (fun x1 ex1 => ?_)
  replace hres := bvE ex1 hres
  refine va_put (D := D) (cl := vwCl) (tys := jT yy) (ci := 1) (v := .long x1) (ty := .long) (C := RX1) (T := TX1) (N := 8) hx hb hts (fun w h => List.mem_cons_of_mem _ (inlX1 w h)) tyX1 tyX1_ok nmX1 hown hK hP hD hS 2 rfl rfl 3 (by decide) (jw hts gw101) (fun _ h9 => h9) rfl (by decide +kernel) rfl rfl (Nat.le_of_ble_eq_true rfl) (dd_of dX1_noteSea_0 5 rfl) (fun H locs hP hD hS => ?_)
  obtain ⟨G2, e3⟩ : ∃ z : jG, z = u2 G 58 0 x1 := ⟨_, rfl⟩
  have hP : va_P D vwCl (lW yy B F G2) H := by rw [e3]; exact hP
  have hD : va_D Z (lW yy B F G2) := by rw [e3]; exact hD
  replace hres := bvE e3 hres
  subst hQ
  exact W.vret hx hb hr (fun t ht hW => ⟨⟨(F, G2), rfl, hres, by rw [ht]; exact hP, va_K.moved hW.alike hK, hD⟩, hS.F ht⟩) hS.2.2 (dd_of dX1_noteSea_0 6 rfl) hlk
set_option maxHeartbeats 4000000 in
set_option maxRecDepth 100000 in
theorem qX1_close (l : Launch) (D : va_G) (yy : Nat → ClassId) (B : Nat → Nat) (F : jF) (G : jG) (sz : Nat)  (hok : okX1_close F G ) : Met l yX1_close (Cond.code yX1_close cX1_close 1 none :: wsL_law) rmX1_close (va_Pc [.ref (B 2)] (jP D yy (lW yy B F G) sz)) (va_Qv (fun u : jS => u = gX1_close F G ) (fun (u : jS) t => jB D yy (va_A (lW yy B F G) sz) (lW yy B u.1 u.2) t) (va_A (lW yy B F G) sz)) 0 0 (va_A (lW yy B F G) sz) := by
  generalize hres : gX1_close F G  = RES
  refine jM (vs := [.ref (B 2)]) (own := RX1) (by decide +kernel) rfl (Nat.le_of_ble_eq_true rfl) ?_
  intro p e s m args below meth c ls Q hQ hargs S hr hlk hinit hB hl
  obtain ⟨hx, hb, hml, hown, hts⟩ := S
  have hl : lv_has ls 1 [(0, .ref (B 2))] := hl
  obtain ⟨hsz, hP, hK, hD0⟩ := hB
  subst hsz
  have hD := hD0.self (sz := s.heap.size)
  generalize hZ : va_A (lW yy B F G) s.heap.size = Z at hD hQ
  have hA : ∀ q : Nat, s.heap.size ≤ q → Z q := fun q h => by rw [← hZ]; exact Or.inr h
  obtain ⟨H, hH⟩ : ∃ z, z = s.heap := ⟨_, rfl⟩
  obtain ⟨locs, hlocs⟩ : ∃ z : List Loc, z = [] := ⟨_, rfl⟩
  have hS : va_S Z s.heap H locs := by rw [hH, hlocs]; exact va_S.rf
  rw [← hH] at hP
  suffices hgo : W p l e rmX1_close s m args below meth c H locs 0 0 Q (F0 m 0 ls []) by rw [hH, hlocs] at hgo; exact hgo
  unfold gX1_close at hres
  unfold okX1_close at hok
  refine lv_aload_n hx hb (dd_of dX1_close_0 0 rfl) rfl (lv_at hl 0 rfl) ?_
  refine va_get (D := D) (cl := vwCl) (tys := jT yy) (ci := 1) (v := .int (F 1 0)) (C := RX1) (T := TX1) (N := 8) hx hb hts (fun w h => List.mem_cons_of_mem _ (inlX1 w h)) hown hK hP 2 rfl rfl 2 (by decide) (jw hts gw579) (fun _ h9 => h9) rfl (dd_of dX1_close_0 1 rfl) ?_
  refine lv_if_lt (tgt := 19) hx hb (dd_of dX1_close_0 2 rfl) (by decide) (fun c1 => ?_) (fun c1 => ?_)
  · replace hres := ifE c1 hres
    subst hQ
    exact W.vret hx hb hr (fun t ht hW => ⟨⟨(F, G), rfl, hres, by rw [ht]; exact hP, va_K.moved hW.alike hK, hD⟩, hS.F ht⟩) hS.2.2 (dd_of dX1_close_0 9 rfl) hlk
  · replace hres := ifN c1 hres
    replace hok := hok.2 c1
    refine lv_aload_n hx hb (dd_of dX1_close_0 3 rfl) rfl (lv_at hl 0 rfl) ?_
    refine va_get (D := D) (cl := vwCl) (tys := jT yy) (ci := 1) (v := .int (F 1 0)) (C := RX1) (T := TX1) (N := 8) hx hb hts (fun w h => List.mem_cons_of_mem _ (inlX1 w h)) hown hK hP 2 rfl rfl 2 (by decide) (jw hts gw579) (fun _ h9 => h9) rfl (dd_of dX1_close_0 4 rfl) ?_
    refine lv_aload_n hx hb (dd_of dX1_close_0 5 rfl) rfl (lv_at hl 0 rfl) ?_
    refine va_get (D := D) (cl := vwCl) (tys := jT yy) (ci := 1) (v := .ref (B 12)) (C := RX1) (T := TX1) (N := 8) hx hb hts (fun w h => List.mem_cons_of_mem _ (inlX1 w h)) hown hK hP 2 rfl rfl 4 (by decide) (jw hts gw102) (fun _ h9 => h9) rfl (dd_of dX1_close_0 6 rfl) ?_
    refine va_alen (v := 20) hx hb hK hP 12 1 rfl rfl rfl (dd_of dX1_close_0 7 rfl) ?_
    refine lv_icmp_lt (tgt := 20) hx hb (dd_of dX1_close_0 8 rfl) (by decide) (fun c2 => ?_) (fun c2 => ?_)
    · replace hres := ifE c2 hres
      replace hok := hok.1 c2
      refine lv_aload_n hx hb (dd_of dX1_close_0 10 rfl) rfl (lv_at hl 0 rfl) ?_
      refine lv_dup hx hb (dd_of dX1_close_0 11 rfl) rfl ?_
      refine va_get (D := D) (cl := vwCl) (tys := jT yy) (ci := 1) (v := .int (F 62 0)) (C := RX1) (T := TX1) (N := 8) hx hb hts (fun w h => List.mem_cons_of_mem _ (inlX1 w h)) hown hK hP 2 rfl rfl 0 (by decide) (jw hts gw407) (fun _ h9 => h9) rfl (dd_of dX1_close_0 12 rfl) ?_
      refine lv_aload_n hx hb (dd_of dX1_close_0 13 rfl) rfl (lv_at hl 0 rfl) ?_
      refine va_get (D := D) (cl := vwCl) (tys := jT yy) (ci := 1) (v := .int (F 3 0)) (C := RX1) (T := TX1) (N := 8) hx hb hts (fun w h => List.mem_cons_of_mem _ (inlX1 w h)) hown hK hP 2 rfl rfl 1 (by decide) (jw hts gw406) (fun _ h9 => h9) rfl (dd_of dX1_close_0 14 rfl) ?_
      refine lv_iadd hx hb (dd_of dX1_close_0 15 rfl) ?_
      refine va_put (D := D) (cl := vwCl) (tys := jT yy) (ci := 1) (v := .int ((F 62 0) + (F 3 0))) (ty := .int) (C := RX1) (T := TX1) (N := 8) hx hb hts (fun w h => List.mem_cons_of_mem _ (inlX1 w h)) tyX1 tyX1_ok nmX1 hown hK hP hD hS 2 rfl rfl 0 (by decide) (jw hts gw407) (fun _ h9 => h9) rfl (by decide +kernel) rfl rfl (Nat.le_of_ble_eq_true rfl) (dd_of dX1_close_0 16 rfl) (fun H locs hP hD hS => ?_)
      obtain ⟨F3, e4⟩ : ∃ z : jF, z = u2 F 62 0 ((F 62 0) + (F 3 0)) := ⟨_, rfl⟩
      have hP : va_P D vwCl (lW yy B F3 G) H := by rw [e4]; exact hP
      have hD : va_D Z (lW yy B F3 G) := by rw [e4]; exact hD
      replace hres := bvE e4 hres
      replace hok := bvO e4 hok
      refine lv_aload_n hx hb (dd_of dX1_close_0 17 rfl) rfl (lv_at hl 0 rfl) ?_
      have h5 := hok.1
      replace hok := hok.2
      refine jm_v (As := []) (rest := []) (w := (lW yy B F3 G)) (w1 := fun u : jS => (lW yy B u.1 u.2)) (D := D) (yy := yy) ⟨hx, hb, hml, hown, hts⟩ (qX1_goOnWithWorks l D yy B F3 G H.size   h5) (cwV 0 hts (jgV gw580 gw581 gw582 gw30 gw583) rfl rfl rfl (by decide +kernel) ⟨Nat.le_of_ble_eq_true rfl, Nat.le_of_ble_eq_true rfl⟩) hP hK hD hS hA (va_recv hK hP (ci := 1) (q0 := 2) rfl rfl) rfl hl.1 rfl (Nat.le_of_ble_eq_true rfl) (dd_of dX1_close_0 18 rfl) ⟨Nat.zero_le _, Nat.zero_le _⟩ (fun u9 H locs w8 hP hD hS => ?_)
      obtain ⟨F6, G7⟩ := u9
      have hP : va_P D vwCl (lW yy B F6 G7) H := hP
      have hD : va_D Z (lW yy B F6 G7) := hD
      replace hres := bsE w8 hres
      replace hok := bsO w8 hok
      refine lv_aload_n hx hb (dd_of dX1_close_0 19 rfl) rfl (lv_at hl 0 rfl) ?_
      refine va_get (D := D) (cl := vwCl) (tys := jT yy) (ci := 1) (v := .ref (B 12)) (C := RX1) (T := TX1) (N := 8) hx hb hts (fun w h => List.mem_cons_of_mem _ (inlX1 w h)) hown hK hP 2 rfl rfl 4 (by decide) (jw hts gw102) (fun _ h9 => h9) rfl (dd_of dX1_close_0 20 rfl) ?_
      refine lv_aload_n hx hb (dd_of dX1_close_0 21 rfl) rfl (lv_at hl 0 rfl) ?_
      refine va_get (D := D) (cl := vwCl) (tys := jT yy) (ci := 1) (v := .int (F6 1 0)) (C := RX1) (T := TX1) (N := 8) hx hb hts (fun w h => List.mem_cons_of_mem _ (inlX1 w h)) hown hK hP 2 rfl rfl 2 (by decide) (jw hts gw579) (fun _ h9 => h9) rfl (dd_of dX1_close_0 22 rfl) ?_
      refine lv_aload_n hx hb (dd_of dX1_close_0 23 rfl) rfl (lv_at hl 0 rfl) ?_
      refine va_get (D := D) (cl := vwCl) (tys := jT yy) (ci := 1) (v := .long (G7 58 0)) (C := RX1) (T := TX1) (N := 8) hx hb hts (fun w h => List.mem_cons_of_mem _ (inlX1 w h)) hown hK hP 2 rfl rfl 3 (by decide) (jw hts gw101) (fun _ h9 => h9) rfl (dd_of dX1_close_0 24 rfl) ?_
      have h9 := hok
      refine va_last hx hb hK hP hD hS 12 1 rfl rfl h9 (dd_of dX1_close_0 25 rfl) (fun H locs hP hD hS => ?_)
      obtain ⟨G10, e11⟩ : ∃ z : jG, z = u2 G7 57 (Int32.toNatClampNeg (F6 1 0)) (G7 58 0) := ⟨_, rfl⟩
      have hP : va_P D vwCl (lW yy B F6 G10) H := by rw [e11]; exact hP
      have hD : va_D Z (lW yy B F6 G10) := by rw [e11]; exact hD
      replace hres := bvE e11 hres
      refine lv_aload_n hx hb (dd_of dX1_close_0 26 rfl) rfl (lv_at hl 0 rfl) ?_
      refine lv_ldc2 (v := (-9223372036854775808)) hx hb hown (jw hts gw100) (dd_of dX1_close_0 27 rfl) ?_
      refine va_put (D := D) (cl := vwCl) (tys := jT yy) (ci := 1) (v := .long (-9223372036854775808)) (ty := .long) (C := RX1) (T := TX1) (N := 8) hx hb hts (fun w h => List.mem_cons_of_mem _ (inlX1 w h)) tyX1 tyX1_ok nmX1 hown hK hP hD hS 2 rfl rfl 3 (by decide) (jw hts gw101) (fun _ h9 => h9) rfl (by decide +kernel) rfl rfl (Nat.le_of_ble_eq_true rfl) (dd_of dX1_close_0 28 rfl) (fun H locs hP hD hS => ?_)
      obtain ⟨G12, e13⟩ : ∃ z : jG, z = u2 G10 58 0 (-9223372036854775808) := ⟨_, rfl⟩
      have hP : va_P D vwCl (lW yy B F6 G12) H := by rw [e13]; exact hP
      have hD : va_D Z (lW yy B F6 G12) := by rw [e13]; exact hD
      replace hres := bvE e13 hres
      refine lv_aload_n hx hb (dd_of dX1_close_0 29 rfl) rfl (lv_at hl 0 rfl) ?_
      refine lv_dup hx hb (dd_of dX1_close_0 30 rfl) rfl ?_
      refine va_get (D := D) (cl := vwCl) (tys := jT yy) (ci := 1) (v := .int (F6 1 0)) (C := RX1) (T := TX1) (N := 8) hx hb hts (fun w h => List.mem_cons_of_mem _ (inlX1 w h)) hown hK hP 2 rfl rfl 2 (by decide) (jw hts gw579) (fun _ h9 => h9) rfl (dd_of dX1_close_0 31 rfl) ?_
      refine lv_iconst (v := 1) hx hb (dd_of dX1_close_0 32 rfl) (by decide) ?_
      refine lv_iadd hx hb (dd_of dX1_close_0 33 rfl) ?_
      refine va_put (D := D) (cl := vwCl) (tys := jT yy) (ci := 1) (v := .int ((F6 1 0) + 1)) (ty := .int) (C := RX1) (T := TX1) (N := 8) hx hb hts (fun w h => List.mem_cons_of_mem _ (inlX1 w h)) tyX1 tyX1_ok nmX1 hown hK hP hD hS 2 rfl rfl 2 (by decide) (jw hts gw579) (fun _ h9 => h9) rfl (by decide +kernel) rfl rfl (Nat.le_of_ble_eq_true rfl) (dd_of dX1_close_0 34 rfl) (fun H locs hP hD hS => ?_)
      obtain ⟨F14, e15⟩ : ∃ z : jF, z = u2 F6 1 0 ((F6 1 0) + 1) := ⟨_, rfl⟩
      have hP : va_P D vwCl (lW yy B F14 G12) H := by rw [e15]; exact hP
      have hD : va_D Z (lW yy B F14 G12) := by rw [e15]; exact hD
      replace hres := bvE e15 hres
      subst hQ
      exact W.vret hx hb hr (fun t ht hW => ⟨⟨(F14, G12), rfl, hres, by rw [ht]; exact hP, va_K.moved hW.alike hK, hD⟩, hS.F ht⟩) hS.2.2 (dd_of dX1_close_0 35 rfl) hlk
    · replace hres := ifN c2 hres
      subst hQ
      exact W.vret hx hb hr (fun t ht hW => ⟨⟨(F, G), rfl, hres, by rw [ht]; exact hP, va_K.moved hW.alike hK, hD⟩, hS.F ht⟩) hS.2.2 (dd_of dX1_close_0 9 rfl) hlk
set_option maxHeartbeats 4000000 in
set_option maxRecDepth 100000 in
theorem qX1_greatestIn (l : Launch) (D : va_G) (yy : Nat → ClassId) (B : Nat → Nat) (F : jF) (G : jG) (p1 : Int32) (hok : okX1_greatestIn F G p1) : Met l yX1_greatestIn (Cond.code yX1_greatestIn cX1_greatestIn 2 (some .long) :: wsL_law) rmX1_greatestIn (va_Pc [.ref (B 2), .int p1] (jR D yy (lW yy B F G))) (vp_Sl (fun r => r = gX1_greatestIn F G p1)) 0 0 (fun _ => False) := by
  generalize hres : gX1_greatestIn F G p1 = RES
  refine jM (vs := [.ref (B 2), .int p1]) (own := RX1) (by decide +kernel) rfl (Nat.le_of_ble_eq_true rfl) ?_
  intro p e s m args below meth c ls Q hQ hargs S hr hlk hinit hB hl
  obtain ⟨hx, hb, hml, hown, hts⟩ := S
  have hl : lv_has ls 2 [(0, .ref (B 2)), (1, .int p1)] := hl
  obtain ⟨hP, hK⟩ := hB
  unfold gX1_greatestIn at hres
  unfold okX1_greatestIn at hok
  refine lv_iload_n hx hb (dd_of dX1_greatestIn_0 0 rfl) rfl (lv_at hl 1 rfl) ?_
  obtain ⟨z6, q5⟩ : ∃ z : Int64, (if p1 < 0 then (-9223372036854775808) else (if p1 < 20 then (G 57 (Int32.toNatClampNeg p1)) else (-9223372036854775808))) = z := ⟨_, rfl⟩
  have o8 := hok
  refine jn_l (ls := ls) (v := z6) 25 [] (fun v4 ev4 => ?_) (fun K7 => ?_)
  · replace hres := bvE (ev4.trans q5.symm) hres
    subst hQ
    exact W.lret (v := v4) hx hb hr (fun t ht _ => ⟨_, rfl, hres, ht⟩) (fun _ h => absurd h List.not_mem_nil) (dd_of dX1_greatestIn_0 13 rfl) hlk
  · skip
    refine lv_if_lt (tgt := 13) hx hb (dd_of dX1_greatestIn_0 1 rfl) (by decide) (fun c1 => ?_) (fun c1 => ?_)
    · replace q5 := ifE c1 q5
      refine lv_ldc2 (v := (-9223372036854775808)) hx hb hown (jw hts gw100) (dd_of dX1_greatestIn_0 7 rfl) ?_
      refine lv_goto (tgt := 25) hx hb (dd_of dX1_greatestIn_0 8 rfl) (by decide) ?_
      exact K7 _ q5
    · replace q5 := ifN c1 q5
      replace o8 := o8.2 c1
      refine lv_iload_n hx hb (dd_of dX1_greatestIn_0 2 rfl) rfl (lv_at hl 1 rfl) ?_
      refine lv_aload_n hx hb (dd_of dX1_greatestIn_0 3 rfl) rfl (lv_at hl 0 rfl) ?_
      refine va_get (D := D) (cl := vwCl) (tys := jT yy) (ci := 1) (v := .ref (B 12)) (C := RX1) (T := TX1) (N := 8) hx hb hts (fun w h => List.mem_cons_of_mem _ (inlX1 w h)) hown hK hP 2 rfl rfl 4 (by decide) (jw hts gw102) (fun _ h9 => h9) rfl (dd_of dX1_greatestIn_0 4 rfl) ?_
      refine va_alen (v := 20) hx hb hK hP 12 1 rfl rfl rfl (dd_of dX1_greatestIn_0 5 rfl) ?_
      refine lv_icmp_lt (tgt := 19) hx hb (dd_of dX1_greatestIn_0 6 rfl) (by decide) (fun c2 => ?_) (fun c2 => ?_)
      · replace q5 := ifE c2 q5
        replace o8 := o8.1 c2
        refine lv_aload_n hx hb (dd_of dX1_greatestIn_0 9 rfl) rfl (lv_at hl 0 rfl) ?_
        refine va_get (D := D) (cl := vwCl) (tys := jT yy) (ci := 1) (v := .ref (B 12)) (C := RX1) (T := TX1) (N := 8) hx hb hts (fun w h => List.mem_cons_of_mem _ (inlX1 w h)) hown hK hP 2 rfl rfl 4 (by decide) (jw hts gw102) (fun _ h9 => h9) rfl (dd_of dX1_greatestIn_0 10 rfl) ?_
        refine lv_iload_n hx hb (dd_of dX1_greatestIn_0 11 rfl) rfl (lv_at hl 1 rfl) ?_
        have h3 := o8
        refine va_lald hx hb hK hP 12 1 rfl rfl h3 (dd_of dX1_greatestIn_0 12 rfl) ?_
        exact K7 _ q5
      · replace q5 := ifN c2 q5
        refine lv_ldc2 (v := (-9223372036854775808)) hx hb hown (jw hts gw100) (dd_of dX1_greatestIn_0 7 rfl) ?_
        refine lv_goto (tgt := 25) hx hb (dd_of dX1_greatestIn_0 8 rfl) (by decide) ?_
        exact K7 _ q5
