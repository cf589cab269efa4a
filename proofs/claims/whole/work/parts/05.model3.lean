def gX12_water (F : jF) (G : jG) (p1 : Int32) : (Int64 × jS) := bv (gX12_isBasin F G p1) (fun x2 : Int32 => bv ((if x2 = 0 then 1 else 0) : Int32) (fun v4 : Int32 => bv (u2 F 60 0 v4) (fun F5 : jF => bv ((if (F5 60 0) = 0 then (G 14 (Int32.toNatClampNeg p1)) else 0) : Int64) (fun v9 : Int64 => (v9, (F5, G))))))
def okX12_water (F : jF) (G : jG) (p1 : Int32) : Prop := ((okX12_isBasin F G p1) ∧ bv (gX12_isBasin F G p1) (fun x2 : Int32 => bv ((if x2 = 0 then 1 else 0) : Int32) (fun v4 : Int32 => bv (u2 F 60 0 v4) (fun F5 : jF => (((F5 60 0) = 0 → (vp_in p1 8)) ∧ (¬ (F5 60 0) = 0 → True))))))
abbrev rmX12_water : Room := { frames := 2, cells := 0, slots := 0, locals := 43 }
def gX12_harm (F : jF) (G : jG) (p1 : Int32) : (Int64 × jS) := bv (gX12_isBasin F G p1) (fun x2 : Int32 => bv ((if x2 = 0 then 1 else 0) : Int32) (fun v4 : Int32 => bv (u2 F 60 0 v4) (fun F5 : jF => bv ((if (F5 60 0) = 0 then (G 15 (Int32.toNatClampNeg p1)) else 0) : Int64) (fun v9 : Int64 => (v9, (F5, G))))))
def okX12_harm (F : jF) (G : jG) (p1 : Int32) : Prop := ((okX12_isBasin F G p1) ∧ bv (gX12_isBasin F G p1) (fun x2 : Int32 => bv ((if x2 = 0 then 1 else 0) : Int32) (fun v4 : Int32 => bv (u2 F 60 0 v4) (fun F5 : jF => (((F5 60 0) = 0 → (vp_in p1 8)) ∧ (¬ (F5 60 0) = 0 → True))))))
abbrev rmX12_harm : Room := { frames := 2, cells := 0, slots := 0, locals := 43 }
def gX12_ledger (F : jF) (G : jG) (p1 : Int32) : (Int64 × jS) := bv (gX12_in p1 0 3) (fun x1 : Int32 => bv ((if x1 = 0 then 1 else 0) : Int32) (fun v3 : Int32 => bv (u2 F 60 0 v3) (fun F4 : jF => bv ((if (F4 60 0) = 0 then (G 56 (Int32.toNatClampNeg p1)) else 0) : Int64) (fun v8 : Int64 => (v8, (F4, G))))))
def okX12_ledger (F : jF) (G : jG) (p1 : Int32) : Prop := bv (gX12_in p1 0 3) (fun x1 : Int32 => bv ((if x1 = 0 then 1 else 0) : Int32) (fun v3 : Int32 => bv (u2 F 60 0 v3) (fun F4 : jF => (((F4 60 0) = 0 → (vp_in p1 4)) ∧ (¬ (F4 60 0) = 0 → True)))))
abbrev rmX12_ledger : Room := { frames := 1, cells := 0, slots := 0, locals := 22 }
def gX12_isOpen (F : jF) (G : jG) (p1 : Int32) : (Int32 × jS) := bv (gX12_in p1 0 ((F 17 0) - 1)) (fun x1 : Int32 => bv ((if x1 = 0 then 1 else 0) : Int32) (fun v3 : Int32 => bv (u2 F 60 0 v3) (fun F4 : jF => (if (F4 60 0) = 0 then (if (F4 22 (Int32.toNatClampNeg p1)) = 1 then (1, (F4, G)) else (0, (F4, G))) else (0, (F4, G))))))
def okX12_isOpen (F : jF) (G : jG) (p1 : Int32) : Prop := bv (gX12_in p1 0 ((F 17 0) - 1)) (fun x1 : Int32 => bv ((if x1 = 0 then 1 else 0) : Int32) (fun v3 : Int32 => bv (u2 F 60 0 v3) (fun F4 : jF => (((F4 60 0) = 0 → (vp_in p1 8)) ∧ (¬ (F4 60 0) = 0 → True)))))
abbrev rmX12_isOpen : Room := { frames := 1, cells := 0, slots := 0, locals := 22 }
def gX12_pump (F : jF) (G : jG) (p1 : Int32) (p2 : Int32) : (Int32 × jS) := bv (gX12_in p1 0 ((F 23 0) - 1)) (fun x1 : Int32 => bv ((if x1 = 0 then 1 else bv (gX12_in p2 0 2) (fun x3 : Int32 => (if x3 = 0 then 2 else 0))) : Int32) (fun v5 : Int32 => bv (u2 F 60 0 v5) (fun F6 : jF => bv ((if (F6 60 0) ≤ 0 then (if p2 = 0 then (F6 29 (Int32.toNatClampNeg p1)) else (if p2 = 1 then (F6 30 (Int32.toNatClampNeg p1)) else (F6 31 (Int32.toNatClampNeg p1)))) else 0) : Int32) (fun v14 : Int32 => (v14, (F6, G))))))
def okX12_pump (F : jF) (G : jG) (p1 : Int32) (p2 : Int32) : Prop := bv (gX12_in p1 0 ((F 23 0) - 1)) (fun x1 : Int32 => bv ((if x1 = 0 then 1 else bv (gX12_in p2 0 2) (fun x3 : Int32 => (if x3 = 0 then 2 else 0))) : Int32) (fun v5 : Int32 => bv (u2 F 60 0 v5) (fun F6 : jF => (((F6 60 0) ≤ 0 → ((p2 = 0 → (vp_in p1 8)) ∧ (¬ p2 = 0 → ((p2 = 1 → (vp_in p1 8)) ∧ (¬ p2 = 1 → (vp_in p1 8)))))) ∧ (¬ (F6 60 0) ≤ 0 → True)))))
abbrev rmX12_pump : Room := { frames := 1, cells := 0, slots := 0, locals := 22 }
def gX12_dyke (F : jF) (G : jG) (p1 : Int32) (p2 : Int32) : (Int32 × jS) := bv (gX12_in p1 0 ((F 32 0) - 1)) (fun x1 : Int32 => bv ((if x1 = 0 then 1 else bv (gX12_in p2 0 2) (fun x3 : Int32 => (if x3 = 0 then 2 else 0))) : Int32) (fun v5 : Int32 => bv (u2 F 60 0 v5) (fun F6 : jF => bv ((if (F6 60 0) ≤ 0 then (if p2 = 0 then (F6 35 (Int32.toNatClampNeg p1)) else (if p2 = 1 then (F6 38 (Int32.toNatClampNeg p1)) else (F6 39 (Int32.toNatClampNeg p1)))) else 0) : Int32) (fun v14 : Int32 => (v14, (F6, G))))))
def okX12_dyke (F : jF) (G : jG) (p1 : Int32) (p2 : Int32) : Prop := bv (gX12_in p1 0 ((F 32 0) - 1)) (fun x1 : Int32 => bv ((if x1 = 0 then 1 else bv (gX12_in p2 0 2) (fun x3 : Int32 => (if x3 = 0 then 2 else 0))) : Int32) (fun v5 : Int32 => bv (u2 F 60 0 v5) (fun F6 : jF => (((F6 60 0) ≤ 0 → ((p2 = 0 → (vp_in p1 8)) ∧ (¬ p2 = 0 → ((p2 = 1 → (vp_in p1 8)) ∧ (¬ p2 = 1 → (vp_in p1 8)))))) ∧ (¬ (F6 60 0) ≤ 0 → True)))))
abbrev rmX12_dyke : Room := { frames := 1, cells := 0, slots := 0, locals := 22 }
def gX12_crew (F : jF) (G : jG) (p1 : Int32) (p2 : Int32) : (Int32 × jS) := bv (gX12_in p1 0 2) (fun x1 : Int32 => bv ((if x1 = 0 then 1 else bv (gX12_in p2 0 2) (fun x3 : Int32 => (if x3 = 0 then 2 else 0))) : Int32) (fun v5 : Int32 => bv (u2 F 60 0 v5) (fun F6 : jF => bv ((if (F6 60 0) ≤ 0 then (if p2 = 0 then (F6 49 (Int32.toNatClampNeg p1)) else (if p2 = 1 then (F6 50 (Int32.toNatClampNeg p1)) else ((F6 51 (Int32.toNatClampNeg p1)) - 1))) else 0) : Int32) (fun v14 : Int32 => (v14, (F6, G))))))
def okX12_crew (F : jF) (G : jG) (p1 : Int32) (p2 : Int32) : Prop := bv (gX12_in p1 0 2) (fun x1 : Int32 => bv ((if x1 = 0 then 1 else bv (gX12_in p2 0 2) (fun x3 : Int32 => (if x3 = 0 then 2 else 0))) : Int32) (fun v5 : Int32 => bv (u2 F 60 0 v5) (fun F6 : jF => (((F6 60 0) ≤ 0 → ((p2 = 0 → (vp_in p1 3)) ∧ (¬ p2 = 0 → ((p2 = 1 → (vp_in p1 3)) ∧ (¬ p2 = 1 → (vp_in p1 3)))))) ∧ (¬ (F6 60 0) ≤ 0 → True)))))
abbrev rmX12_crew : Room := { frames := 1, cells := 0, slots := 0, locals := 22 }
def gX12_sea (F : jF) (G : jG) (p1 : Int32) : (Int64 × jS) := bv (gX12_in p1 0 9999) (fun x1 : Int32 => bv ((if x1 = 0 then 1 else 0) : Int32) (fun v3 : Int32 => bv (u2 F 60 0 v3) (fun F4 : jF => bv ((if (F4 60 0) = 0 then bv (gX12_seaAt F4 G p1) (fun x8 : Int64 => x8) else 0) : Int64) (fun v9 : Int64 => (v9, (F4, G))))))
def okX12_sea (F : jF) (G : jG) (p1 : Int32) : Prop := bv (gX12_in p1 0 9999) (fun x1 : Int32 => bv ((if x1 = 0 then 1 else 0) : Int32) (fun v3 : Int32 => bv (u2 F 60 0 v3) (fun F4 : jF => (((F4 60 0) = 0 → (okX12_seaAt F4 G p1)) ∧ (¬ (F4 60 0) = 0 → True)))))
abbrev rmX12_sea : Room := { frames := 2, cells := 0, slots := 0, locals := 53 }
def gX12_forecast (F : jF) (G : jG) (p1 : Int32) : (Int64 × jS) := bv (gX12_in p1 1 48) (fun x1 : Int32 => bv ((if x1 = 0 then 1 else 0) : Int32) (fun v3 : Int32 => bv (u2 F 60 0 v3) (fun F4 : jF => (if (F4 60 0) ≤ 0 then bv ((((75 * (F4 0 0)) + (1009 * p1)) + (F4 4 0)) - (((75 * (F4 0 0)) + (1009 * p1)) + (F4 4 0)) / 65537 * 65537) (fun x7 : Int32 => bv (gX12_seaAt F4 G ((F4 0 0) + p1)) (fun x9 : Int64 => ((x9 + (10 * (Int32.toInt64 ((x7 - x7 / ((2 * p1) + 1) * ((2 * p1) + 1)) - p1)))), (F4, G)))) else (0, (F4, G))))))
def okX12_forecast (F : jF) (G : jG) (p1 : Int32) : Prop := bv (gX12_in p1 1 48) (fun x1 : Int32 => bv ((if x1 = 0 then 1 else 0) : Int32) (fun v3 : Int32 => bv (u2 F 60 0 v3) (fun F4 : jF => (((F4 60 0) ≤ 0 → bv ((((75 * (F4 0 0)) + (1009 * p1)) + (F4 4 0)) - (((75 * (F4 0 0)) + (1009 * p1)) + (F4 4 0)) / 65537 * 65537) (fun x7 : Int32 => ((okX12_seaAt F4 G ((F4 0 0) + p1)) ∧ bv (gX12_seaAt F4 G ((F4 0 0) + p1)) (fun x9 : Int64 => (¬ ((2 * p1) + 1) = (0 : Int32)))))) ∧ (¬ (F4 60 0) ≤ 0 → True)))))
abbrev rmX12_forecast : Room := { frames := 2, cells := 0, slots := 0, locals := 53 }
def gX12_record (F : jF) (G : jG) (p1 : Int32) : (Int64 × jS) := bv (gX12_in p1 0 ((F 1 0) - 1)) (fun x1 : Int32 => bv ((if x1 = 0 then 1 else 0) : Int32) (fun v3 : Int32 => bv (u2 F 60 0 v3) (fun F4 : jF => bv ((if (F4 60 0) = 0 then (G 57 (Int32.toNatClampNeg p1)) else 0) : Int64) (fun v8 : Int64 => (v8, (F4, G))))))
def okX12_record (F : jF) (G : jG) (p1 : Int32) : Prop := bv (gX12_in p1 0 ((F 1 0) - 1)) (fun x1 : Int32 => bv ((if x1 = 0 then 1 else 0) : Int32) (fun v3 : Int32 => bv (u2 F 60 0 v3) (fun F4 : jF => (((F4 60 0) = 0 → (vp_in p1 20)) ∧ (¬ (F4 60 0) = 0 → True)))))
abbrev rmX12_record : Room := { frames := 1, cells := 0, slots := 0, locals := 22 }
def gX12_wholes (p1 : Int64) : Int64 := bv (p1 / 100) (fun x1 : Int64 => bv ((if (x1 * 100) ≤ p1 then x1 else (x1 - 1)) : Int64) (fun v3 : Int64 => v3))
abbrev rmX12_wholes : Room := { frames := 0, cells := 0, slots := 0, locals := 0 }
def gX12_nextHeight_L84 (F7 : jF) (G : jG) (f5 : Int32) (f3 : Int64) (f1 : Int32) (f2 : Int32) (K : Int32 → Int32 → Int32 → (Int64 × jS)) : Nat → Int32 → Int32 → Int32 → (Int64 × jS)
  | 0, _, _, _ => (0, (F7, G))
  | n9 + 1, v8, v7, v6 => (if (F7 1 0) ≤ v8 then (K v8 v7 v6 ) else bv ((if (G 57 (Int32.toNatClampNeg v8)) ≤ (G 57 (Int32.toNatClampNeg f5)) then 0 else 1) : Int32) (fun v17 : Int32 => bv (v6 + v17) (fun x18 : Int32 => bv ((if (G 57 (Int32.toNatClampNeg v8)) = (G 57 (Int32.toNatClampNeg f5)) then 1 else 0) : Int32) (fun v22 : Int32 => bv (v7 + v22) (fun x23 : Int32 => (gX12_nextHeight_L84 F7 G f5 f3 f1 f2 K n9 (v8 + 1) x23 x18 ))))))
def okX12_nextHeight_L84 (F7 : jF) (G : jG) (f5 : Int32) (f3 : Int64) (f1 : Int32) (f2 : Int32) (okK : Int32 → Int32 → Int32 → Prop) : Nat → Int32 → Int32 → Int32 → Prop
  | 0, _, _, _ => False
  | n9 + 1, v8, v7, v6 => (((F7 1 0) ≤ v8 → (okK v8 v7 v6 )) ∧ (¬ (F7 1 0) ≤ v8 → (vp_in v8 20 ∧ (vp_in f5 20 ∧ bv ((if (G 57 (Int32.toNatClampNeg v8)) ≤ (G 57 (Int32.toNatClampNeg f5)) then 0 else 1) : Int32) (fun v17 : Int32 => bv (v6 + v17) (fun x18 : Int32 => (vp_in v8 20 ∧ (vp_in f5 20 ∧ bv ((if (G 57 (Int32.toNatClampNeg v8)) = (G 57 (Int32.toNatClampNeg f5)) then 1 else 0) : Int32) (fun v22 : Int32 => bv (v7 + v22) (fun x23 : Int32 => (okX12_nextHeight_L84 F7 G f5 f3 f1 f2 okK n9 (v8 + 1) x23 x18 )))))))))))
def gX12_nextHeight_L61 (F7 : jF) (G : jG) (f1 : Int32) (f2 : Int32) (K : Int32 → Int64 → (Int64 × jS)) : Nat → Int32 → Int64 → (Int64 × jS)
  | 0, _, _ => (0, (F7, G))
  | n9 + 1, v5, v3 => (if (F7 1 0) ≤ v5 then (K v5 v3 ) else bv ((F7 1 0) - f1) (fun x12 : Int32 => (gX12_nextHeight_L84 F7 G v5 v3 f1 f2 (fun (y24 : Int32) (y25 : Int32) (y26 : Int32) => bv ((if f2 ≤ y26 then v3 else (if (y26 + y25) < f2 then v3 else (G 57 (Int32.toNatClampNeg v5)))) : Int64) (fun v30 : Int64 => (gX12_nextHeight_L61 F7 G f1 f2 K n9 (v5 + 1) v30 ))) 80 x12 0 0 )))
def okX12_nextHeight_L61 (F7 : jF) (G : jG) (f1 : Int32) (f2 : Int32) (okK : Int32 → Int64 → Prop) : Nat → Int32 → Int64 → Prop
  | 0, _, _ => False
  | n9 + 1, v5, v3 => (((F7 1 0) ≤ v5 → (okK v5 v3 )) ∧ (¬ (F7 1 0) ≤ v5 → bv ((F7 1 0) - f1) (fun x12 : Int32 => (okX12_nextHeight_L84 F7 G v5 v3 f1 f2 (fun (y24 : Int32) (y25 : Int32) (y26 : Int32) => (((f2 ≤ y26 → True) ∧ (¬ f2 ≤ y26 → (((y26 + y25) < f2 → True) ∧ (¬ (y26 + y25) < f2 → (vp_in v5 20))))) ∧ bv ((if f2 ≤ y26 then v3 else (if (y26 + y25) < f2 then v3 else (G 57 (Int32.toNatClampNeg v5)))) : Int64) (fun v30 : Int64 => (okX12_nextHeight_L61 F7 G f1 f2 okK n9 (v5 + 1) v30 )))) 80 x12 0 0 ))))
def gX12_nextHeight (F : jF) (G : jG) (p1 : Int32) (p2 : Int32) : (Int64 × jS) := bv (gX12_in p1 1 20) (fun x1 : Int32 => bv ((if x1 = 0 then 1 else bv (gX12_in p2 1 p1) (fun x3 : Int32 => (if x3 = 0 then 1 else (if p1 ≤ (F 1 0) then 0 else 2)))) : Int32) (fun v6 : Int32 => bv (u2 F 60 0 v6) (fun F7 : jF => (if (F7 60 0) ≤ 0 then bv ((F7 1 0) - p1) (fun x10 : Int32 => (gX12_nextHeight_L61 F7 G p1 p2 (fun (y31 : Int32) (y32 : Int64) => bv ((if y32 = (-9223372036854775808) then 2 else 0) : Int32) (fun v34 : Int32 => bv (u2 F7 60 0 v34) (fun F35 : jF => bv ((if (F35 60 0) ≤ 0 then bv (gX12_wholes (-y32)) (fun x38 : Int64 => (50 - x38)) else 0) : Int64) (fun v39 : Int64 => (v39, (F35, G)))))) 80 x10 (-9223372036854775808) )) else (0, (F7, G))))))
def okX12_nextHeight (F : jF) (G : jG) (p1 : Int32) (p2 : Int32) : Prop := bv (gX12_in p1 1 20) (fun x1 : Int32 => bv ((if x1 = 0 then 1 else bv (gX12_in p2 1 p1) (fun x3 : Int32 => (if x3 = 0 then 1 else (if p1 ≤ (F 1 0) then 0 else 2)))) : Int32) (fun v6 : Int32 => bv (u2 F 60 0 v6) (fun F7 : jF => (((F7 60 0) ≤ 0 → bv ((F7 1 0) - p1) (fun x10 : Int32 => (okX12_nextHeight_L61 F7 G p1 p2 (fun (y31 : Int32) (y32 : Int64) => True) 80 x10 (-9223372036854775808) ))) ∧ (¬ (F7 60 0) ≤ 0 → True)))))
abbrev rmX12_nextHeight : Room := { frames := 1, cells := 0, slots := 0, locals := 23 }
def gX12_heightOf_L6 (F : jF) (G : jG)  (K : Int32 → Int64 → Int64) : Nat → Int32 → Int64 → Int64
  | 0, _, _ => 0
  | n9 + 1, v3, v1 => (if (F 1 0) ≤ v3 then (K v3 v1 ) else bv ((if (G 57 (Int32.toNatClampNeg v3)) ≤ v1 then v1 else (G 57 (Int32.toNatClampNeg v3))) : Int64) (fun v5 : Int64 => (gX12_heightOf_L6 F G  K n9 (v3 + 1) v5 )))
def okX12_heightOf_L6 (F : jF) (G : jG)  (okK : Int32 → Int64 → Prop) : Nat → Int32 → Int64 → Prop
  | 0, _, _ => False
  | n9 + 1, v3, v1 => (((F 1 0) ≤ v3 → (okK v3 v1 )) ∧ (¬ (F 1 0) ≤ v3 → (vp_in v3 20 ∧ ((((G 57 (Int32.toNatClampNeg v3)) ≤ v1 → True) ∧ (¬ (G 57 (Int32.toNatClampNeg v3)) ≤ v1 → (vp_in v3 20))) ∧ bv ((if (G 57 (Int32.toNatClampNeg v3)) ≤ v1 then v1 else (G 57 (Int32.toNatClampNeg v3))) : Int64) (fun v5 : Int64 => (okX12_heightOf_L6 F G  okK n9 (v3 + 1) v5 ))))))
def gX12_heightOf (F : jF) (G : jG)  : Int64 := (gX12_heightOf_L6 F G  (fun (y6 : Int32) (y7 : Int64) => bv ((if y7 = (-9223372036854775808) then (Int32.toInt64 ((F 5 0) + (F 6 0))) else bv (gX12_wholes y7) (fun x9 : Int64 => x9)) : Int64) (fun v10 : Int64 => v10)) 80 0 (-9223372036854775808) )
def okX12_heightOf (F : jF) (G : jG)  : Prop := (okX12_heightOf_L6 F G  (fun (y6 : Int32) (y7 : Int64) => True) 80 0 (-9223372036854775808) )
abbrev rmX12_heightOf : Room := { frames := 1, cells := 0, slots := 0, locals := 23 }
def gX12_weightOf_L4 (F : jF) (G : jG) (f1 : Int32) (K : Int32 → Int32 → Int64) : Nat → Int32 → Int32 → Int64
  | 0, _, _ => 0
  | n9 + 1, v3, v2 => (if (F 32 0) ≤ v3 then (K v3 v2 ) else bv ((if v2 = 0 then (if (F 33 (Int32.toNatClampNeg v3)) = 20 then (if (F 34 (Int32.toNatClampNeg v3)) = f1 then 1 else (if (F 34 (Int32.toNatClampNeg v3)) = 20 then (if (F 33 (Int32.toNatClampNeg v3)) = f1 then 1 else 0) else 0)) else (if (F 34 (Int32.toNatClampNeg v3)) = 20 then (if (F 33 (Int32.toNatClampNeg v3)) = f1 then 1 else 0) else 0)) else 1) : Int32) (fun v15 : Int32 => (gX12_weightOf_L4 F G f1 K n9 (v3 + 1) v15 )))
def okX12_weightOf_L4 (F : jF) (G : jG) (f1 : Int32) (okK : Int32 → Int32 → Prop) : Nat → Int32 → Int32 → Prop
  | 0, _, _ => False
  | n9 + 1, v3, v2 => (((F 32 0) ≤ v3 → (okK v3 v2 )) ∧ (¬ (F 32 0) ≤ v3 → (((v2 = 0 → (vp_in v3 8 ∧ (((F 33 (Int32.toNatClampNeg v3)) = 20 → (vp_in v3 8 ∧ (((F 34 (Int32.toNatClampNeg v3)) = f1 → True) ∧ (¬ (F 34 (Int32.toNatClampNeg v3)) = f1 → (vp_in v3 8 ∧ (((F 34 (Int32.toNatClampNeg v3)) = 20 → (vp_in v3 8)) ∧ (¬ (F 34 (Int32.toNatClampNeg v3)) = 20 → True))))))) ∧ (¬ (F 33 (Int32.toNatClampNeg v3)) = 20 → (vp_in v3 8 ∧ (((F 34 (Int32.toNatClampNeg v3)) = 20 → (vp_in v3 8)) ∧ (¬ (F 34 (Int32.toNatClampNeg v3)) = 20 → True))))))) ∧ (¬ v2 = 0 → True)) ∧ bv ((if v2 = 0 then (if (F 33 (Int32.toNatClampNeg v3)) = 20 then (if (F 34 (Int32.toNatClampNeg v3)) = f1 then 1 else (if (F 34 (Int32.toNatClampNeg v3)) = 20 then (if (F 33 (Int32.toNatClampNeg v3)) = f1 then 1 else 0) else 0)) else (if (F 34 (Int32.toNatClampNeg v3)) = 20 then (if (F 33 (Int32.toNatClampNeg v3)) = f1 then 1 else 0) else 0)) else 1) : Int32) (fun v15 : Int32 => (okX12_weightOf_L4 F G f1 okK n9 (v3 + 1) v15 )))))
def gX12_weightOf (F : jF) (G : jG) (p1 : Int32) : Int64 := (gX12_weightOf_L4 F G p1 (fun (y16 : Int32) (y17 : Int32) => bv (gX12_heightOf F G) (fun x19 : Int64 => bv (x19 - (Int32.toInt64 (F 10 (Int32.toNatClampNeg p1)))) (fun x21 : Int64 => bv ((if y17 = 0 then 0 else (if x21 ≤ 0 then 0 else ((Int32.toInt64 (F 9 (Int32.toNatClampNeg p1))) * x21))) : Int64) (fun v25 : Int64 => v25)))) 80 0 0 )
def okX12_weightOf (F : jF) (G : jG) (p1 : Int32) : Prop := (okX12_weightOf_L4 F G p1 (fun (y16 : Int32) (y17 : Int32) => ((okX12_heightOf F G ) ∧ bv (gX12_heightOf F G) (fun x19 : Int64 => (vp_in p1 8 ∧ bv (x19 - (Int32.toInt64 (F 10 (Int32.toNatClampNeg p1)))) (fun x21 : Int64 => ((y17 = 0 → True) ∧ (¬ y17 = 0 → ((x21 ≤ 0 → True) ∧ (¬ x21 ≤ 0 → (vp_in p1 8)))))))))) 80 0 0 )
abbrev rmX12_weightOf : Room := { frames := 2, cells := 0, slots := 0, locals := 46 }
def gX12_share_L56 (F7 : jF) (G : jG) (f1 : Int32) (f2 : Int32) (K : Int32 → Int64 → (Int32 × jS)) : Nat → Int32 → Int64 → (Int32 × jS)
  | 0, _, _ => (0, (F7, G))
  | n9 + 1, v5, v3 => (if (F7 8 0) ≤ v5 then (K v5 v3 ) else bv (gX12_weightOf F7 G v5) (fun x15 : Int64 => bv (v3 + x15) (fun x16 : Int64 => (gX12_share_L56 F7 G f1 f2 K n9 (v5 + 1) x16 ))))
def okX12_share_L56 (F7 : jF) (G : jG) (f1 : Int32) (f2 : Int32) (okK : Int32 → Int64 → Prop) : Nat → Int32 → Int64 → Prop
  | 0, _, _ => False
  | n9 + 1, v5, v3 => (((F7 8 0) ≤ v5 → (okK v5 v3 )) ∧ (¬ (F7 8 0) ≤ v5 → ((okX12_weightOf F7 G v5) ∧ bv (gX12_weightOf F7 G v5) (fun x15 : Int64 => bv (v3 + x15) (fun x16 : Int64 => (okX12_share_L56 F7 G f1 f2 okK n9 (v5 + 1) x16 ))))))
def gX12_share_L102 (F7 : jF) (G : jG) (f8 : Int64) (f3 : Int64) (f1 : Int32) (f2 : Int32) (K : Int32 → Int32 → Int64 → (Int32 × jS)) : Nat → Int32 → Int32 → Int64 → (Int32 × jS)
  | 0, _, _, _ => (0, (F7, G))
  | n9 + 1, v10, v7, v5 => (if (F7 8 0) ≤ v10 then (K v10 v7 v5 ) else bv (gX12_weightOf F7 G v10) (fun x26 : Int64 => bv (((Int32.toInt64 f1) * x26) - ((Int32.toInt64 f1) * x26) / f3 * f3) (fun x28 : Int64 => bv (gX12_weightOf F7 G v10) (fun x30 : Int64 => bv (v5 - (((Int32.toInt64 f1) * x30) / f3)) (fun x32 : Int64 => bv (gX12_weightOf F7 G v10) (fun x34 : Int64 => bv ((if x34 ≤ 0 then 0 else (if f8 < x28 then 1 else (if x28 = f8 then (if f2 ≤ v10 then 0 else 1) else 0))) : Int32) (fun v39 : Int32 => bv (v7 + v39) (fun x40 : Int32 => (gX12_share_L102 F7 G f8 f3 f1 f2 K n9 (v10 + 1) x40 x32 )))))))))
def okX12_share_L102 (F7 : jF) (G : jG) (f8 : Int64) (f3 : Int64) (f1 : Int32) (f2 : Int32) (okK : Int32 → Int32 → Int64 → Prop) : Nat → Int32 → Int32 → Int64 → Prop
  | 0, _, _, _ => False
  | n9 + 1, v10, v7, v5 => (((F7 8 0) ≤ v10 → (okK v10 v7 v5 )) ∧ (¬ (F7 8 0) ≤ v10 → ((okX12_weightOf F7 G v10) ∧ bv (gX12_weightOf F7 G v10) (fun x26 : Int64 => (¬ f3 = (0 : Int64) ∧ bv (((Int32.toInt64 f1) * x26) - ((Int32.toInt64 f1) * x26) / f3 * f3) (fun x28 : Int64 => ((okX12_weightOf F7 G v10) ∧ bv (gX12_weightOf F7 G v10) (fun x30 : Int64 => (¬ f3 = (0 : Int64) ∧ bv (v5 - (((Int32.toInt64 f1) * x30) / f3)) (fun x32 : Int64 => ((okX12_weightOf F7 G v10) ∧ bv (gX12_weightOf F7 G v10) (fun x34 : Int64 => bv ((if x34 ≤ 0 then 0 else (if f8 < x28 then 1 else (if x28 = f8 then (if f2 ≤ v10 then 0 else 1) else 0))) : Int32) (fun v39 : Int32 => bv (v7 + v39) (fun x40 : Int32 => (okX12_share_L102 F7 G f8 f3 f1 f2 okK n9 (v10 + 1) x40 x32 )))))))))))))))
def gX12_share (F : jF) (G : jG) (p1 : Int32) (p2 : Int32) : (Int32 × jS) := bv (gX12_isBasin F G p2) (fun x2 : Int32 => bv ((if x2 = 0 then 1 else bv (gX12_in p1 0 999999) (fun x4 : Int32 => (if x4 = 0 then 2 else 0))) : Int32) (fun v6 : Int32 => bv (u2 F 60 0 v6) (fun F7 : jF => (if 0 < (F7 60 0) then (0, (F7, G)) else bv (gX12_weightOf F7 G p2) (fun x11 : Int64 => (if x11 = 0 then (0, (F7, G)) else (gX12_share_L56 F7 G p1 p2 (fun (y17 : Int32) (y18 : Int64) => bv (Int32.toInt64 p1) (fun x19 : Int64 => bv (gX12_weightOf F7 G p2) (fun x21 : Int64 => bv (((Int32.toInt64 p1) * x21) - ((Int32.toInt64 p1) * x21) / y18 * y18) (fun x23 : Int64 => (gX12_share_L102 F7 G x23 y18 p1 p2 (fun (y41 : Int32) (y42 : Int32) (y43 : Int64) => bv (gX12_weightOf F7 G p2) (fun x45 : Int64 => bv ((if y43 ≤ (Int32.toInt64 y42) then 0 else 1) : Int32) (fun v48 : Int32 => (((Int64.toInt32 (((Int32.toInt64 p1) * x45) / y18)) + v48), (F7, G))))) 80 0 0 x19 ))))) 80 0 0 )))))))
def okX12_share (F : jF) (G : jG) (p1 : Int32) (p2 : Int32) : Prop := ((okX12_isBasin F G p2) ∧ bv (gX12_isBasin F G p2) (fun x2 : Int32 => bv ((if x2 = 0 then 1 else bv (gX12_in p1 0 999999) (fun x4 : Int32 => (if x4 = 0 then 2 else 0))) : Int32) (fun v6 : Int32 => bv (u2 F 60 0 v6) (fun F7 : jF => ((0 < (F7 60 0) → True) ∧ (¬ 0 < (F7 60 0) → ((okX12_weightOf F7 G p2) ∧ bv (gX12_weightOf F7 G p2) (fun x11 : Int64 => ((x11 = 0 → True) ∧ (¬ x11 = 0 → (okX12_share_L56 F7 G p1 p2 (fun (y17 : Int32) (y18 : Int64) => bv (Int32.toInt64 p1) (fun x19 : Int64 => ((okX12_weightOf F7 G p2) ∧ bv (gX12_weightOf F7 G p2) (fun x21 : Int64 => (¬ y18 = (0 : Int64) ∧ bv (((Int32.toInt64 p1) * x21) - ((Int32.toInt64 p1) * x21) / y18 * y18) (fun x23 : Int64 => (okX12_share_L102 F7 G x23 y18 p1 p2 (fun (y41 : Int32) (y42 : Int32) (y43 : Int64) => ((okX12_weightOf F7 G p2) ∧ bv (gX12_weightOf F7 G p2) (fun x45 : Int64 => (¬ y18 = (0 : Int64))))) 80 0 0 x19 ))))))) 80 0 0 )))))))))))
abbrev rmX12_share : Room := { frames := 3, cells := 0, slots := 0, locals := 70 }
def gX12_digest_L34 (F1 : jF) (G : jG)  (K : Int32 → Int64 → (Int64 × jS)) : Nat → Int32 → Int64 → (Int64 × jS)
  | 0, _, _ => (0, (F1, G))
  | n9 + 1, v3, v1 => (if (F1 8 0) ≤ v3 then (K v3 v1 ) else bv ((31 * v1) + (G 14 (Int32.toNatClampNeg v3))) (fun x7 : Int64 => bv (gX12_levelOf F1 G v3) (fun x9 : Int64 => bv ((31 * x7) + x9) (fun x10 : Int64 => bv ((31 * x10) + (G 15 (Int32.toNatClampNeg v3))) (fun x12 : Int64 => (gX12_digest_L34 F1 G  K n9 (v3 + 1) x12 ))))))
def okX12_digest_L34 (F1 : jF) (G : jG)  (okK : Int32 → Int64 → Prop) : Nat → Int32 → Int64 → Prop
  | 0, _, _ => False
  | n9 + 1, v3, v1 => (((F1 8 0) ≤ v3 → (okK v3 v1 )) ∧ (¬ (F1 8 0) ≤ v3 → (vp_in v3 8 ∧ bv ((31 * v1) + (G 14 (Int32.toNatClampNeg v3))) (fun x7 : Int64 => ((okX12_levelOf F1 G v3) ∧ bv (gX12_levelOf F1 G v3) (fun x9 : Int64 => bv ((31 * x7) + x9) (fun x10 : Int64 => (vp_in v3 8 ∧ bv ((31 * x10) + (G 15 (Int32.toNatClampNeg v3))) (fun x12 : Int64 => (okX12_digest_L34 F1 G  okK n9 (v3 + 1) x12 ))))))))))
def gX12_digest_L88 (F1 : jF) (G : jG)  (K : Int32 → Int64 → (Int64 × jS)) : Nat → Int32 → Int64 → (Int64 × jS)
  | 0, _, _ => (0, (F1, G))
  | n9 + 1, v3, v1 => (if (F1 32 0) ≤ v3 then (K v3 v1 ) else bv ((31 * v1) + (Int32.toInt64 (F1 35 (Int32.toNatClampNeg v3)))) (fun x17 : Int64 => bv ((31 * x17) + (Int32.toInt64 (F1 38 (Int32.toNatClampNeg v3)))) (fun x19 : Int64 => bv ((31 * x19) + (Int32.toInt64 (F1 39 (Int32.toNatClampNeg v3)))) (fun x21 : Int64 => (gX12_digest_L88 F1 G  K n9 (v3 + 1) x21 )))))
def okX12_digest_L88 (F1 : jF) (G : jG)  (okK : Int32 → Int64 → Prop) : Nat → Int32 → Int64 → Prop
  | 0, _, _ => False
  | n9 + 1, v3, v1 => (((F1 32 0) ≤ v3 → (okK v3 v1 )) ∧ (¬ (F1 32 0) ≤ v3 → (vp_in v3 8 ∧ bv ((31 * v1) + (Int32.toInt64 (F1 35 (Int32.toNatClampNeg v3)))) (fun x17 : Int64 => (vp_in v3 8 ∧ bv ((31 * x17) + (Int32.toInt64 (F1 38 (Int32.toNatClampNeg v3)))) (fun x19 : Int64 => (vp_in v3 8 ∧ bv ((31 * x19) + (Int32.toInt64 (F1 39 (Int32.toNatClampNeg v3)))) (fun x21 : Int64 => (okX12_digest_L88 F1 G  okK n9 (v3 + 1) x21 )))))))))
def gX12_digest_L146 (F1 : jF) (G : jG)  (K : Int32 → Int64 → (Int64 × jS)) : Nat → Int32 → Int64 → (Int64 × jS)
  | 0, _, _ => (0, (F1, G))
  | n9 + 1, v3, v1 => (if (F1 23 0) ≤ v3 then (K v3 v1 ) else bv ((31 * v1) + (Int32.toInt64 (F1 30 (Int32.toNatClampNeg v3)))) (fun x26 : Int64 => bv ((31 * x26) + (Int32.toInt64 (F1 31 (Int32.toNatClampNeg v3)))) (fun x28 : Int64 => (gX12_digest_L146 F1 G  K n9 (v3 + 1) x28 ))))
def okX12_digest_L146 (F1 : jF) (G : jG)  (okK : Int32 → Int64 → Prop) : Nat → Int32 → Int64 → Prop
  | 0, _, _ => False
  | n9 + 1, v3, v1 => (((F1 23 0) ≤ v3 → (okK v3 v1 )) ∧ (¬ (F1 23 0) ≤ v3 → (vp_in v3 8 ∧ bv ((31 * v1) + (Int32.toInt64 (F1 30 (Int32.toNatClampNeg v3)))) (fun x26 : Int64 => (vp_in v3 8 ∧ bv ((31 * x26) + (Int32.toInt64 (F1 31 (Int32.toNatClampNeg v3)))) (fun x28 : Int64 => (okX12_digest_L146 F1 G  okK n9 (v3 + 1) x28 )))))))
def gX12_digest (F : jF) (G : jG)  : (Int64 × jS) := bv (u2 F 60 0 0) (fun F1 : jF => bv ((31 * 7) + (Int32.toInt64 (F1 0 0))) (fun x3 : Int64 => bv ((31 * x3) + (G 2 0)) (fun x4 : Int64 => (gX12_digest_L34 F1 G  (fun (y13 : Int32) (y14 : Int64) => (gX12_digest_L88 F1 G  (fun (y22 : Int32) (y23 : Int64) => (gX12_digest_L146 F1 G  (fun (y29 : Int32) (y30 : Int64) => (y30, (F1, G))) 80 0 y23 )) 80 0 y14 )) 80 0 x4 ))))
def okX12_digest (F : jF) (G : jG)  : Prop := bv (u2 F 60 0 0) (fun F1 : jF => bv ((31 * 7) + (Int32.toInt64 (F1 0 0))) (fun x3 : Int64 => bv ((31 * x3) + (G 2 0)) (fun x4 : Int64 => (okX12_digest_L34 F1 G  (fun (y13 : Int32) (y14 : Int64) => (okX12_digest_L88 F1 G  (fun (y22 : Int32) (y23 : Int64) => (okX12_digest_L146 F1 G  (fun (y29 : Int32) (y30 : Int64) => True) 80 0 y23 )) 80 0 y14 )) 80 0 x4 ))))
abbrev rmX12_digest : Room := { frames := 3, cells := 0, slots := 0, locals := 74 }
def gX12_digestAnew (F : jF) (G : jG)  : (Int64 × jS) := br (gX12_digest F G) (fun (x5 : Int64) (F2 : jF) (G3 : jG) => (x5, (F2, G3)))
def okX12_digestAnew (F : jF) (G : jG)  : Prop := (okX12_digest F G )
abbrev rmX12_digestAnew : Room := { frames := 4, cells := 0, slots := 0, locals := 97 }
set_option maxHeartbeats 4000000 in
set_option maxRecDepth 100000 in
theorem qX12_water (l : Launch) (D : va_G) (yy : Nat → ClassId) (A : Nat → Nat) (F : jF) (G : jG) (sz : Nat) (p1 : Int32) (hok : okX12_water F G p1) : Met l yX12_water (Cond.code yX12_water cX12_water 2 (some .long) :: wsL_law) rmX12_water (va_Pc [.ref (A 99), .int p1] (jP D yy (mW yy A F G) sz)) (va_Ql (fun r (u : jS) => (r, u) = gX12_water F G p1) (fun (u : jS) t => jB D yy (va_A (mW yy A F G) sz) (mW yy A u.1 u.2) t) (va_A (mW yy A F G) sz)) 0 0 (va_A (mW yy A F G) sz) := by
  generalize hres : gX12_water F G p1 = RES
  refine jM (own := RX12) (by decide) rfl (Nat.le_of_ble_eq_true rfl) ?_
  intro p e s m args below meth c ls Q hQ hargs S hr hlk hinit hB hl
  obtain ⟨hx, hb, hml, hown, hts⟩ := S
  have hl : lv_has ls 2 [(0, .ref (A 99)), (1, .int p1)] := hl
  have hin12 : ∀ w ∈ u_ws RX12 TX12 61, w ∈ (Cond.code yX12_water cX12_water 2 (some .long) :: wsL_law) := fun w h => List.mem_cons_of_mem _ (inlX12 w h)
  obtain ⟨hsz, hP, hK, hD0⟩ := hB
  subst hsz
  have hD := hD0.self (sz := s.heap.size)
  generalize hZ : va_A (mW yy A F G) s.heap.size = Z at hD hQ
  have hA : ∀ q : Nat, s.heap.size ≤ q → Z q := fun q h => by rw [← hZ]; exact Or.inr h
  obtain ⟨H, hH⟩ : ∃ z, z = s.heap := ⟨_, rfl⟩
  obtain ⟨locs, hlocs⟩ : ∃ z : List Loc, z = [] := ⟨_, rfl⟩
  have hS : va_S Z s.heap H locs := by rw [hH, hlocs]; exact va_S.rf
  rw [← hH] at hP
  suffices hgo : W p l e rmX12_water s m args below meth c H locs 0 0 Q (F0 m 0 ls []) by rw [hH, hlocs] at hgo; exact hgo
  unfold gX12_water at hres
  unfold okX12_water at hok
  refine lv_aload_n hx hb (dd_of dX12_water_0 0 rfl) rfl (lv_at hl 0 rfl) ?_
  refine lv_aload_n hx hb (dd_of dX12_water_0 1 rfl) rfl (lv_at hl 0 rfl) ?_
  refine lv_iload_n hx hb (dd_of dX12_water_0 2 rfl) rfl (lv_at hl 1 rfl) ?_
  have h1 := hok.1
  replace hok := hok.2
  refine jc_i (As := [.int p1]) (rest := [.ref (A 99)]) (w := (mW yy A F G)) (D := D) (yy := yy) ⟨hx, hb, hml, hown, hts⟩ (qX12_isBasin l D yy A F G p1 h1) (cwV 1 hts (jgV gw617 gw618 gw619 gw5 gw620) rfl rfl rfl (by decide +kernel) ⟨Nat.le_of_ble_eq_true rfl, Nat.le_of_ble_eq_true rfl⟩) hP hK (va_recv hK hP (ci := 12) (q0 := 0) rfl rfl) rfl hl.1 rfl (Nat.le_of_ble_eq_true rfl) (dd_of dX12_water_0 3 rfl) ⟨Nat.zero_le _, Nat.zero_le _⟩ (fun x2 ex2 => ?_)
  replace hres := bvE ex2 hres
  replace hok := bvO ex2 hok
  obtain ⟨z11, q10⟩ : ∃ z : Int32, (if x2 = 0 then 1 else 0) = z := ⟨_, rfl⟩
  refine jn_i (ls := ls) (v := z11) 14 [.ref (A 99)] (fun v4 ev4 => ?_) (fun K12 => ?_)
  · replace hres := bvE (ev4.trans q10.symm) hres
    replace hok := bvO (ev4.trans q10.symm) hok
    refine va_put (D := D) (cl := vwCl) (tys := jT yy) (ci := 12) (v := .int v4) (ty := .int) (C := RX12) (T := TX12) (N := 61) hx hb hts hin12 tyX12 tyX12_ok nmX12 hown hK hP hD hS 0 rfl rfl 60 (by decide) (jw hts gw590) (fun _ h9 => h9) rfl (by decide +kernel) rfl rfl (Nat.le_of_ble_eq_true rfl) (dd_of dX12_water_0 8 rfl) (fun H locs hP hD hS => ?_)
    obtain ⟨F5, e6⟩ : ∃ z : jF, z = u2 F 60 0 v4 := ⟨_, rfl⟩
    have hP : va_P D vwCl (mW yy A F5 G) H := by rw [e6]; exact hP
    have hD : va_D Z (mW yy A F5 G) := by rw [e6]; exact hD
    replace hres := bvE e6 hres
    replace hok := bvO e6 hok
    refine lv_aload_n hx hb (dd_of dX12_water_0 9 rfl) rfl (lv_at hl 0 rfl) ?_
    refine va_get (D := D) (cl := vwCl) (tys := jT yy) (ci := 12) (v := .int (F5 60 0)) (C := RX12) (T := TX12) (N := 61) hx hb hts hin12 hown hK hP 0 rfl rfl 60 (by decide) (jw hts gw590) (fun _ h9 => h9) rfl (dd_of dX12_water_0 10 rfl) ?_
    obtain ⟨z14, q13⟩ : ∃ z : Int64, (if (F5 60 0) = 0 then (G 14 (Int32.toNatClampNeg p1)) else 0) = z := ⟨_, rfl⟩
    have o16 := hok
    refine jn_l (ls := ls) (v := z14) 34 [] (fun v9 ev9 => ?_) (fun K15 => ?_)
    · replace hres := bvE (ev9.trans q13.symm) hres
      subst hQ
      exact W.lret (v := v9) hx hb hr (fun t ht hW => ⟨⟨v9, (F5, G), rfl, hres, by rw [ht]; exact hP, va_K.moved hW.alike hK, hD⟩, hS.F ht⟩) hS.2.2 (dd_of dX12_water_0 18 rfl) hlk
    · skip
      refine lv_if_ne (tgt := 33) hx hb (dd_of dX12_water_0 11 rfl) (by decide) (fun c7 => ?_) (fun c7 => ?_)
      · replace q13 := ifN c7 q13
        refine lv_lconst (v := 0) hx hb (dd_of dX12_water_0 17 rfl) (by decide) ?_
        exact K15 _ q13
      · replace q13 := ifE c7 q13
        replace o16 := o16.1 c7
        refine lv_aload_n hx hb (dd_of dX12_water_0 12 rfl) rfl (lv_at hl 0 rfl) ?_
        refine va_get (D := D) (cl := vwCl) (tys := jT yy) (ci := 12) (v := .ref (A 14)) (C := RX12) (T := TX12) (N := 61) hx hb hts hin12 hown hK hP 0 rfl rfl 14 (by decide) (jw hts gw130) (fun _ h9 => h9) rfl (dd_of dX12_water_0 13 rfl) ?_
        refine lv_iload_n hx hb (dd_of dX12_water_0 14 rfl) rfl (lv_at hl 1 rfl) ?_
        have h8 := o16
        refine va_lald hx hb hK hP 6 1 rfl rfl h8 (dd_of dX12_water_0 15 rfl) ?_
        refine lv_goto (tgt := 34) hx hb (dd_of dX12_water_0 16 rfl) (by decide) ?_
        exact K15 _ q13
  · skip
    refine lv_if_eq (tgt := 13) hx hb (dd_of dX12_water_0 4 rfl) (by decide) (fun c3 => ?_) (fun c3 => ?_)
    · replace q10 := ifE c3 q10
      refine lv_iconst (v := 1) hx hb (dd_of dX12_water_0 7 rfl) (by decide) ?_
      exact K12 _ q10
    · replace q10 := ifN c3 q10
      refine lv_iconst (v := 0) hx hb (dd_of dX12_water_0 5 rfl) (by decide) ?_
      refine lv_goto (tgt := 14) hx hb (dd_of dX12_water_0 6 rfl) (by decide) ?_
      exact K12 _ q10
set_option maxHeartbeats 4000000 in
set_option maxRecDepth 100000 in
theorem qX12_harm (l : Launch) (D : va_G) (yy : Nat → ClassId) (A : Nat → Nat) (F : jF) (G : jG) (sz : Nat) (p1 : Int32) (hok : okX12_harm F G p1) : Met l yX12_harm (Cond.code yX12_harm cX12_harm 2 (some .long) :: wsL_law) rmX12_harm (va_Pc [.ref (A 99), .int p1] (jP D yy (mW yy A F G) sz)) (va_Ql (fun r (u : jS) => (r, u) = gX12_harm F G p1) (fun (u : jS) t => jB D yy (va_A (mW yy A F G) sz) (mW yy A u.1 u.2) t) (va_A (mW yy A F G) sz)) 0 0 (va_A (mW yy A F G) sz) := by
  generalize hres : gX12_harm F G p1 = RES
  refine jM (own := RX12) (by decide) rfl (Nat.le_of_ble_eq_true rfl) ?_
  intro p e s m args below meth c ls Q hQ hargs S hr hlk hinit hB hl
  obtain ⟨hx, hb, hml, hown, hts⟩ := S
  have hl : lv_has ls 2 [(0, .ref (A 99)), (1, .int p1)] := hl
  have hin12 : ∀ w ∈ u_ws RX12 TX12 61, w ∈ (Cond.code yX12_harm cX12_harm 2 (some .long) :: wsL_law) := fun w h => List.mem_cons_of_mem _ (inlX12 w h)
  obtain ⟨hsz, hP, hK, hD0⟩ := hB
  subst hsz
  have hD := hD0.self (sz := s.heap.size)
  generalize hZ : va_A (mW yy A F G) s.heap.size = Z at hD hQ
  have hA : ∀ q : Nat, s.heap.size ≤ q → Z q := fun q h => by rw [← hZ]; exact Or.inr h
  obtain ⟨H, hH⟩ : ∃ z, z = s.heap := ⟨_, rfl⟩
  obtain ⟨locs, hlocs⟩ : ∃ z : List Loc, z = [] := ⟨_, rfl⟩
  have hS : va_S Z s.heap H locs := by rw [hH, hlocs]; exact va_S.rf
  rw [← hH] at hP
  suffices hgo : W p l e rmX12_harm s m args below meth c H locs 0 0 Q (F0 m 0 ls []) by rw [hH, hlocs] at hgo; exact hgo
  unfold gX12_harm at hres
  unfold okX12_harm at hok
  refine lv_aload_n hx hb (dd_of dX12_harm_0 0 rfl) rfl (lv_at hl 0 rfl) ?_
  refine lv_aload_n hx hb (dd_of dX12_harm_0 1 rfl) rfl (lv_at hl 0 rfl) ?_
  refine lv_iload_n hx hb (dd_of dX12_harm_0 2 rfl) rfl (lv_at hl 1 rfl) ?_
  have h1 := hok.1
  replace hok := hok.2
  refine jc_i (As := [.int p1]) (rest := [.ref (A 99)]) (w := (mW yy A F G)) (D := D) (yy := yy) ⟨hx, hb, hml, hown, hts⟩ (qX12_isBasin l D yy A F G p1 h1) (cwV 1 hts (jgV gw617 gw618 gw619 gw5 gw620) rfl rfl rfl (by decide +kernel) ⟨Nat.le_of_ble_eq_true rfl, Nat.le_of_ble_eq_true rfl⟩) hP hK (va_recv hK hP (ci := 12) (q0 := 0) rfl rfl) rfl hl.1 rfl (Nat.le_of_ble_eq_true rfl) (dd_of dX12_harm_0 3 rfl) ⟨Nat.zero_le _, Nat.zero_le _⟩ (fun x2 ex2 => ?_)
  replace hres := bvE ex2 hres
  replace hok := bvO ex2 hok
  obtain ⟨z11, q10⟩ : ∃ z : Int32, (if x2 = 0 then 1 else 0) = z := ⟨_, rfl⟩
  refine jn_i (ls := ls) (v := z11) 14 [.ref (A 99)] (fun v4 ev4 => ?_) (fun K12 => ?_)
  · replace hres := bvE (ev4.trans q10.symm) hres
    replace hok := bvO (ev4.trans q10.symm) hok
    refine va_put (D := D) (cl := vwCl) (tys := jT yy) (ci := 12) (v := .int v4) (ty := .int) (C := RX12) (T := TX12) (N := 61) hx hb hts hin12 tyX12 tyX12_ok nmX12 hown hK hP hD hS 0 rfl rfl 60 (by decide) (jw hts gw590) (fun _ h9 => h9) rfl (by decide +kernel) rfl rfl (Nat.le_of_ble_eq_true rfl) (dd_of dX12_harm_0 8 rfl) (fun H locs hP hD hS => ?_)
    obtain ⟨F5, e6⟩ : ∃ z : jF, z = u2 F 60 0 v4 := ⟨_, rfl⟩
    have hP : va_P D vwCl (mW yy A F5 G) H := by rw [e6]; exact hP
    have hD : va_D Z (mW yy A F5 G) := by rw [e6]; exact hD
    replace hres := bvE e6 hres
    replace hok := bvO e6 hok
    refine lv_aload_n hx hb (dd_of dX12_harm_0 9 rfl) rfl (lv_at hl 0 rfl) ?_
    refine va_get (D := D) (cl := vwCl) (tys := jT yy) (ci := 12) (v := .int (F5 60 0)) (C := RX12) (T := TX12) (N := 61) hx hb hts hin12 hown hK hP 0 rfl rfl 60 (by decide) (jw hts gw590) (fun _ h9 => h9) rfl (dd_of dX12_harm_0 10 rfl) ?_
    obtain ⟨z14, q13⟩ : ∃ z : Int64, (if (F5 60 0) = 0 then (G 15 (Int32.toNatClampNeg p1)) else 0) = z := ⟨_, rfl⟩
    have o16 := hok
    refine jn_l (ls := ls) (v := z14) 34 [] (fun v9 ev9 => ?_) (fun K15 => ?_)
    · replace hres := bvE (ev9.trans q13.symm) hres
      subst hQ
      exact W.lret (v := v9) hx hb hr (fun t ht hW => ⟨⟨v9, (F5, G), rfl, hres, by rw [ht]; exact hP, va_K.moved hW.alike hK, hD⟩, hS.F ht⟩) hS.2.2 (dd_of dX12_harm_0 18 rfl) hlk
    · skip
      refine lv_if_ne (tgt := 33) hx hb (dd_of dX12_harm_0 11 rfl) (by decide) (fun c7 => ?_) (fun c7 => ?_)
      · replace q13 := ifN c7 q13
        refine lv_lconst (v := 0) hx hb (dd_of dX12_harm_0 17 rfl) (by decide) ?_
        exact K15 _ q13
      · replace q13 := ifE c7 q13
        replace o16 := o16.1 c7
        refine lv_aload_n hx hb (dd_of dX12_harm_0 12 rfl) rfl (lv_at hl 0 rfl) ?_
        refine va_get (D := D) (cl := vwCl) (tys := jT yy) (ci := 12) (v := .ref (A 15)) (C := RX12) (T := TX12) (N := 61) hx hb hts hin12 hown hK hP 0 rfl rfl 15 (by decide) (jw hts gw131) (fun _ h9 => h9) rfl (dd_of dX12_harm_0 13 rfl) ?_
        refine lv_iload_n hx hb (dd_of dX12_harm_0 14 rfl) rfl (lv_at hl 1 rfl) ?_
        have h8 := o16
        refine va_lald hx hb hK hP 7 1 rfl rfl h8 (dd_of dX12_harm_0 15 rfl) ?_
        refine lv_goto (tgt := 34) hx hb (dd_of dX12_harm_0 16 rfl) (by decide) ?_
        exact K15 _ q13
  · skip
    refine lv_if_eq (tgt := 13) hx hb (dd_of dX12_harm_0 4 rfl) (by decide) (fun c3 => ?_) (fun c3 => ?_)
    · replace q10 := ifE c3 q10
      refine lv_iconst (v := 1) hx hb (dd_of dX12_harm_0 7 rfl) (by decide) ?_
      exact K12 _ q10
    · replace q10 := ifN c3 q10
      refine lv_iconst (v := 0) hx hb (dd_of dX12_harm_0 5 rfl) (by decide) ?_
      refine lv_goto (tgt := 14) hx hb (dd_of dX12_harm_0 6 rfl) (by decide) ?_
      exact K12 _ q10
set_option maxHeartbeats 4000000 in
set_option maxRecDepth 100000 in
theorem qX12_ledger (l : Launch) (D : va_G) (yy : Nat → ClassId) (A : Nat → Nat) (F : jF) (G : jG) (sz : Nat) (p1 : Int32) (hok : okX12_ledger F G p1) : Met l yX12_ledger (Cond.code yX12_ledger cX12_ledger 2 (some .long) :: wsL_law) rmX12_ledger (va_Pc [.ref (A 99), .int p1] (jP D yy (mW yy A F G) sz)) (va_Ql (fun r (u : jS) => (r, u) = gX12_ledger F G p1) (fun (u : jS) t => jB D yy (va_A (mW yy A F G) sz) (mW yy A u.1 u.2) t) (va_A (mW yy A F G) sz)) 0 0 (va_A (mW yy A F G) sz) := by
  generalize hres : gX12_ledger F G p1 = RES
  refine jM (own := RX12) (by decide) rfl (Nat.le_of_ble_eq_true rfl) ?_
  intro p e s m args below meth c ls Q hQ hargs S hr hlk hinit hB hl
  obtain ⟨hx, hb, hml, hown, hts⟩ := S
  have hl : lv_has ls 2 [(0, .ref (A 99)), (1, .int p1)] := hl
  have hin12 : ∀ w ∈ u_ws RX12 TX12 61, w ∈ (Cond.code yX12_ledger cX12_ledger 2 (some .long) :: wsL_law) := fun w h => List.mem_cons_of_mem _ (inlX12 w h)
  obtain ⟨hsz, hP, hK, hD0⟩ := hB
  subst hsz
  have hD := hD0.self (sz := s.heap.size)
  generalize hZ : va_A (mW yy A F G) s.heap.size = Z at hD hQ
  have hA : ∀ q : Nat, s.heap.size ≤ q → Z q := fun q h => by rw [← hZ]; exact Or.inr h
  obtain ⟨H, hH⟩ : ∃ z, z = s.heap := ⟨_, rfl⟩
  obtain ⟨locs, hlocs⟩ : ∃ z : List Loc, z = [] := ⟨_, rfl⟩
  have hS : va_S Z s.heap H locs := by rw [hH, hlocs]; exact va_S.rf
  rw [← hH] at hP
  suffices hgo : W p l e rmX12_ledger s m args below meth c H locs 0 0 Q (F0 m 0 ls []) by rw [hH, hlocs] at hgo; exact hgo
  unfold gX12_ledger at hres
  unfold okX12_ledger at hok
  refine lv_aload_n hx hb (dd_of dX12_ledger_0 0 rfl) rfl (lv_at hl 0 rfl) ?_
  refine lv_iload_n hx hb (dd_of dX12_ledger_0 1 rfl) rfl (lv_at hl 1 rfl) ?_
  refine lv_iconst (v := 0) hx hb (dd_of dX12_ledger_0 2 rfl) (by decide) ?_
  refine lv_iconst (v := 3) hx hb (dd_of dX12_ledger_0 3 rfl) (by decide) ?_
  refine jc_si (As := [.int p1, .int 0, .int 3]) (rest := [.ref (A 99)]) ⟨hx, hb, hml, hown, hts⟩ (qX12_in l p1 0 3 ) (cwS 3 hts (jgS gw591 gw592 gw5 gw593) rfl rfl rfl (by decide +kernel) ⟨Nat.le_of_ble_eq_true rfl, Nat.le_of_ble_eq_true rfl⟩) rfl hl.1 rfl (Nat.le_of_ble_eq_true rfl) (dd_of dX12_ledger_0 4 rfl) ⟨Nat.zero_le _, Nat.zero_le _⟩ (fun x1 ex1 => ?_)
  replace hres := bvE ex1 hres
  replace hok := bvO ex1 hok
  obtain ⟨z10, q9⟩ : ∃ z : Int32, (if x1 = 0 then 1 else 0) = z := ⟨_, rfl⟩
  refine jn_i (ls := ls) (v := z10) 15 [.ref (A 99)] (fun v3 ev3 => ?_) (fun K11 => ?_)
  · replace hres := bvE (ev3.trans q9.symm) hres
    replace hok := bvO (ev3.trans q9.symm) hok
    refine va_put (D := D) (cl := vwCl) (tys := jT yy) (ci := 12) (v := .int v3) (ty := .int) (C := RX12) (T := TX12) (N := 61) hx hb hts hin12 tyX12 tyX12_ok nmX12 hown hK hP hD hS 0 rfl rfl 60 (by decide) (jw hts gw590) (fun _ h9 => h9) rfl (by decide +kernel) rfl rfl (Nat.le_of_ble_eq_true rfl) (dd_of dX12_ledger_0 9 rfl) (fun H locs hP hD hS => ?_)
    obtain ⟨F4, e5⟩ : ∃ z : jF, z = u2 F 60 0 v3 := ⟨_, rfl⟩
    have hP : va_P D vwCl (mW yy A F4 G) H := by rw [e5]; exact hP
    have hD : va_D Z (mW yy A F4 G) := by rw [e5]; exact hD
    replace hres := bvE e5 hres
    replace hok := bvO e5 hok
    refine lv_aload_n hx hb (dd_of dX12_ledger_0 10 rfl) rfl (lv_at hl 0 rfl) ?_
    refine va_get (D := D) (cl := vwCl) (tys := jT yy) (ci := 12) (v := .int (F4 60 0)) (C := RX12) (T := TX12) (N := 61) hx hb hts hin12 hown hK hP 0 rfl rfl 60 (by decide) (jw hts gw590) (fun _ h9 => h9) rfl (dd_of dX12_ledger_0 11 rfl) ?_
    obtain ⟨z13, q12⟩ : ∃ z : Int64, (if (F4 60 0) = 0 then (G 56 (Int32.toNatClampNeg p1)) else 0) = z := ⟨_, rfl⟩
    have o15 := hok
    refine jn_l (ls := ls) (v := z13) 35 [] (fun v8 ev8 => ?_) (fun K14 => ?_)
    · replace hres := bvE (ev8.trans q12.symm) hres
      subst hQ
      exact W.lret (v := v8) hx hb hr (fun t ht hW => ⟨⟨v8, (F4, G), rfl, hres, by rw [ht]; exact hP, va_K.moved hW.alike hK, hD⟩, hS.F ht⟩) hS.2.2 (dd_of dX12_ledger_0 19 rfl) hlk
    · skip
      refine lv_if_ne (tgt := 34) hx hb (dd_of dX12_ledger_0 12 rfl) (by decide) (fun c6 => ?_) (fun c6 => ?_)
      · replace q12 := ifN c6 q12
        refine lv_lconst (v := 0) hx hb (dd_of dX12_ledger_0 18 rfl) (by decide) ?_
        exact K14 _ q12
      · replace q12 := ifE c6 q12
        replace o15 := o15.1 c6
        refine lv_aload_n hx hb (dd_of dX12_ledger_0 13 rfl) rfl (lv_at hl 0 rfl) ?_
        refine va_get (D := D) (cl := vwCl) (tys := jT yy) (ci := 12) (v := .ref (A 56)) (C := RX12) (T := TX12) (N := 61) hx hb hts hin12 hown hK hP 0 rfl rfl 56 (by decide) (jw hts gw166) (fun _ h9 => h9) rfl (dd_of dX12_ledger_0 14 rfl) ?_
        refine lv_iload_n hx hb (dd_of dX12_ledger_0 15 rfl) rfl (lv_at hl 1 rfl) ?_
        have h7 := o15
        refine va_lald hx hb hK hP 42 1 rfl rfl h7 (dd_of dX12_ledger_0 16 rfl) ?_
        refine lv_goto (tgt := 35) hx hb (dd_of dX12_ledger_0 17 rfl) (by decide) ?_
        exact K14 _ q12
  · skip
    refine lv_if_eq (tgt := 14) hx hb (dd_of dX12_ledger_0 5 rfl) (by decide) (fun c2 => ?_) (fun c2 => ?_)
    · replace q9 := ifE c2 q9
      refine lv_iconst (v := 1) hx hb (dd_of dX12_ledger_0 8 rfl) (by decide) ?_
      exact K11 _ q9
    · replace q9 := ifN c2 q9
      refine lv_iconst (v := 0) hx hb (dd_of dX12_ledger_0 6 rfl) (by decide) ?_
      refine lv_goto (tgt := 15) hx hb (dd_of dX12_ledger_0 7 rfl) (by decide) ?_
      exact K11 _ q9
set_option maxHeartbeats 4000000 in
set_option maxRecDepth 100000 in
theorem qX12_isOpen (l : Launch) (D : va_G) (yy : Nat → ClassId) (A : Nat → Nat) (F : jF) (G : jG) (sz : Nat) (p1 : Int32) (hok : okX12_isOpen F G p1) : Met l yX12_isOpen (Cond.code yX12_isOpen cX12_isOpen 2 (some .boolean) :: wsL_law) rmX12_isOpen (va_Pc [.ref (A 99), .int p1] (jP D yy (mW yy A F G) sz)) (va_Qi (fun r (u : jS) => (r, u) = gX12_isOpen F G p1) (fun (u : jS) t => jB D yy (va_A (mW yy A F G) sz) (mW yy A u.1 u.2) t) (va_A (mW yy A F G) sz)) 0 0 (va_A (mW yy A F G) sz) := by
  generalize hres : gX12_isOpen F G p1 = RES
  refine jM (own := RX12) (by decide) rfl (Nat.le_of_ble_eq_true rfl) ?_
  intro p e s m args below meth c ls Q hQ hargs S hr hlk hinit hB hl
  obtain ⟨hx, hb, hml, hown, hts⟩ := S
  have hl : lv_has ls 2 [(0, .ref (A 99)), (1, .int p1)] := hl
  have hin12 : ∀ w ∈ u_ws RX12 TX12 61, w ∈ (Cond.code yX12_isOpen cX12_isOpen 2 (some .boolean) :: wsL_law) := fun w h => List.mem_cons_of_mem _ (inlX12 w h)
  obtain ⟨hsz, hP, hK, hD0⟩ := hB
  subst hsz
  have hD := hD0.self (sz := s.heap.size)
  generalize hZ : va_A (mW yy A F G) s.heap.size = Z at hD hQ
  have hA : ∀ q : Nat, s.heap.size ≤ q → Z q := fun q h => by rw [← hZ]; exact Or.inr h
  obtain ⟨H, hH⟩ : ∃ z, z = s.heap := ⟨_, rfl⟩
  obtain ⟨locs, hlocs⟩ : ∃ z : List Loc, z = [] := ⟨_, rfl⟩
  have hS : va_S Z s.heap H locs := by rw [hH, hlocs]; exact va_S.rf
  rw [← hH] at hP
  suffices hgo : W p l e rmX12_isOpen s m args below meth c H locs 0 0 Q (F0 m 0 ls []) by rw [hH, hlocs] at hgo; exact hgo
  unfold gX12_isOpen at hres
  unfold okX12_isOpen at hok
  refine lv_aload_n hx hb (dd_of dX12_isOpen_0 0 rfl) rfl (lv_at hl 0 rfl) ?_
  refine lv_iload_n hx hb (dd_of dX12_isOpen_0 1 rfl) rfl (lv_at hl 1 rfl) ?_
  refine lv_iconst (v := 0) hx hb (dd_of dX12_isOpen_0 2 rfl) (by decide) ?_
  refine lv_aload_n hx hb (dd_of dX12_isOpen_0 3 rfl) rfl (lv_at hl 0 rfl) ?_
  refine va_get (D := D) (cl := vwCl) (tys := jT yy) (ci := 12) (v := .int (F 17 0)) (C := RX12) (T := TX12) (N := 61) hx hb hts hin12 hown hK hP 0 rfl rfl 17 (by decide) (jw hts gw673) (fun _ h9 => h9) rfl (dd_of dX12_isOpen_0 4 rfl) ?_
  refine lv_iconst (v := 1) hx hb (dd_of dX12_isOpen_0 5 rfl) (by decide) ?_
  refine lv_isub hx hb (dd_of dX12_isOpen_0 6 rfl) ?_
  refine jc_si (As := [.int p1, .int 0, .int ((F 17 0) - 1)]) (rest := [.ref (A 99)]) ⟨hx, hb, hml, hown, hts⟩ (qX12_in l p1 0 ((F 17 0) - 1) ) (cwS 3 hts (jgS gw591 gw592 gw5 gw593) rfl rfl rfl (by decide +kernel) ⟨Nat.le_of_ble_eq_true rfl, Nat.le_of_ble_eq_true rfl⟩) rfl hl.1 rfl (Nat.le_of_ble_eq_true rfl) (dd_of dX12_isOpen_0 7 rfl) ⟨Nat.zero_le _, Nat.zero_le _⟩ (fun x1 ex1 => ?_)
  replace hres := bvE ex1 hres
  replace hok := bvO ex1 hok
  obtain ⟨z10, q9⟩ : ∃ z : Int32, (if x1 = 0 then 1 else 0) = z := ⟨_, rfl⟩
  refine jn_i (ls := ls) (v := z10) 20 [.ref (A 99)] (fun v3 ev3 => ?_) (fun K11 => ?_)
  · replace hres := bvE (ev3.trans q9.symm) hres
    replace hok := bvO (ev3.trans q9.symm) hok
    refine va_put (D := D) (cl := vwCl) (tys := jT yy) (ci := 12) (v := .int v3) (ty := .int) (C := RX12) (T := TX12) (N := 61) hx hb hts hin12 tyX12 tyX12_ok nmX12 hown hK hP hD hS 0 rfl rfl 60 (by decide) (jw hts gw590) (fun _ h9 => h9) rfl (by decide +kernel) rfl rfl (Nat.le_of_ble_eq_true rfl) (dd_of dX12_isOpen_0 12 rfl) (fun H locs hP hD hS => ?_)
    obtain ⟨F4, e5⟩ : ∃ z : jF, z = u2 F 60 0 v3 := ⟨_, rfl⟩
    have hP : va_P D vwCl (mW yy A F4 G) H := by rw [e5]; exact hP
    have hD : va_D Z (mW yy A F4 G) := by rw [e5]; exact hD
    replace hres := bvE e5 hres
    replace hok := bvO e5 hok
    refine lv_aload_n hx hb (dd_of dX12_isOpen_0 13 rfl) rfl (lv_at hl 0 rfl) ?_
    refine va_get (D := D) (cl := vwCl) (tys := jT yy) (ci := 12) (v := .int (F4 60 0)) (C := RX12) (T := TX12) (N := 61) hx hb hts hin12 hown hK hP 0 rfl rfl 60 (by decide) (jw hts gw590) (fun _ h9 => h9) rfl (dd_of dX12_isOpen_0 14 rfl) ?_
    refine lv_if_ne (tgt := 44) hx hb (dd_of dX12_isOpen_0 15 rfl) (by decide) (fun c6 => ?_) (fun c6 => ?_)
    · replace hres := ifN c6 hres
      refine lv_iconst (v := 0) hx hb (dd_of dX12_isOpen_0 24 rfl) (by decide) ?_
      subst hQ
      exact W.zret (ty := .boolean) (v := 0) hx hb hr (jb_nz (Or.inl rfl)) (fun t ht hW => ⟨⟨0, (F4, G), rfl, hres, by rw [ht]; exact hP, va_K.moved hW.alike hK, hD⟩, hS.F ht⟩) hS.2.2 (dd_of dX12_isOpen_0 25 rfl) hlk
    · replace hres := ifE c6 hres
      replace hok := hok.1 c6
      refine lv_aload_n hx hb (dd_of dX12_isOpen_0 16 rfl) rfl (lv_at hl 0 rfl) ?_
      refine va_get (D := D) (cl := vwCl) (tys := jT yy) (ci := 12) (v := .ref (A 22)) (C := RX12) (T := TX12) (N := 61) hx hb hts hin12 hown hK hP 0 rfl rfl 22 (by decide) (jw hts gw137) (fun _ h9 => h9) rfl (dd_of dX12_isOpen_0 17 rfl) ?_
      refine lv_iload_n hx hb (dd_of dX12_isOpen_0 18 rfl) rfl (lv_at hl 1 rfl) ?_
      have h7 := hok
      refine va_iald hx hb hK hP 13 0 rfl rfl h7 (dd_of dX12_isOpen_0 19 rfl) ?_
      refine lv_iconst (v := 1) hx hb (dd_of dX12_isOpen_0 20 rfl) (by decide) ?_
      refine lv_icmp_ne (tgt := 44) hx hb (dd_of dX12_isOpen_0 21 rfl) (by decide) (fun c8 => ?_) (fun c8 => ?_)
      · replace hres := ifN c8 hres
        refine lv_iconst (v := 0) hx hb (dd_of dX12_isOpen_0 24 rfl) (by decide) ?_
        subst hQ
        exact W.zret (ty := .boolean) (v := 0) hx hb hr (jb_nz (Or.inl rfl)) (fun t ht hW => ⟨⟨0, (F4, G), rfl, hres, by rw [ht]; exact hP, va_K.moved hW.alike hK, hD⟩, hS.F ht⟩) hS.2.2 (dd_of dX12_isOpen_0 25 rfl) hlk
      · replace hres := ifE c8 hres
        refine lv_iconst (v := 1) hx hb (dd_of dX12_isOpen_0 22 rfl) (by decide) ?_
        refine lv_goto (tgt := 45) hx hb (dd_of dX12_isOpen_0 23 rfl) (by decide) ?_
        subst hQ
        exact W.zret (ty := .boolean) (v := 1) hx hb hr (jb_nz (Or.inr rfl)) (fun t ht hW => ⟨⟨1, (F4, G), rfl, hres, by rw [ht]; exact hP, va_K.moved hW.alike hK, hD⟩, hS.F ht⟩) hS.2.2 (dd_of dX12_isOpen_0 25 rfl) hlk
  · skip
    refine lv_if_eq (tgt := 19) hx hb (dd_of dX12_isOpen_0 8 rfl) (by decide) (fun c2 => ?_) (fun c2 => ?_)
    · replace q9 := ifE c2 q9
      refine lv_iconst (v := 1) hx hb (dd_of dX12_isOpen_0 11 rfl) (by decide) ?_
      exact K11 _ q9
    · replace q9 := ifN c2 q9
      refine lv_iconst (v := 0) hx hb (dd_of dX12_isOpen_0 9 rfl) (by decide) ?_
      refine lv_goto (tgt := 20) hx hb (dd_of dX12_isOpen_0 10 rfl) (by decide) ?_
      exact K11 _ q9
set_option maxHeartbeats 4000000 in
set_option maxRecDepth 100000 in
theorem qX12_pump (l : Launch) (D : va_G) (yy : Nat → ClassId) (A : Nat → Nat) (F : jF) (G : jG) (sz : Nat) (p1 : Int32) (p2 : Int32) (hok : okX12_pump F G p1 p2) : Met l yX12_pump (Cond.code yX12_pump cX12_pump 3 (some .int) :: wsL_law) rmX12_pump (va_Pc [.ref (A 99), .int p1, .int p2] (jP D yy (mW yy A F G) sz)) (va_Qi (fun r (u : jS) => (r, u) = gX12_pump F G p1 p2) (fun (u : jS) t => jB D yy (va_A (mW yy A F G) sz) (mW yy A u.1 u.2) t) (va_A (mW yy A F G) sz)) 0 0 (va_A (mW yy A F G) sz) := by
  generalize hres : gX12_pump F G p1 p2 = RES
  refine jM (own := RX12) (by decide) rfl (Nat.le_of_ble_eq_true rfl) ?_
  intro p e s m args below meth c ls Q hQ hargs S hr hlk hinit hB hl
  obtain ⟨hx, hb, hml, hown, hts⟩ := S
  have hl : lv_has ls 3 [(0, .ref (A 99)), (1, .int p1), (2, .int p2)] := hl
  have hin12 : ∀ w ∈ u_ws RX12 TX12 61, w ∈ (Cond.code yX12_pump cX12_pump 3 (some .int) :: wsL_law) := fun w h => List.mem_cons_of_mem _ (inlX12 w h)
  obtain ⟨hsz, hP, hK, hD0⟩ := hB
  subst hsz
  have hD := hD0.self (sz := s.heap.size)
  generalize hZ : va_A (mW yy A F G) s.heap.size = Z at hD hQ
  have hA : ∀ q : Nat, s.heap.size ≤ q → Z q := fun q h => by rw [← hZ]; exact Or.inr h
  obtain ⟨H, hH⟩ : ∃ z, z = s.heap := ⟨_, rfl⟩
  obtain ⟨locs, hlocs⟩ : ∃ z : List Loc, z = [] := ⟨_, rfl⟩
  have hS : va_S Z s.heap H locs := by rw [hH, hlocs]; exact va_S.rf
  rw [← hH] at hP
  suffices hgo : W p l e rmX12_pump s m args below meth c H locs 0 0 Q (F0 m 0 ls []) by rw [hH, hlocs] at hgo; exact hgo
  unfold gX12_pump at hres
  unfold okX12_pump at hok
  refine lv_aload_n hx hb (dd_of dX12_pump_0 0 rfl) rfl (lv_at hl 0 rfl) ?_
  refine lv_iload_n hx hb (dd_of dX12_pump_0 1 rfl) rfl (lv_at hl 1 rfl) ?_
  refine lv_iconst (v := 0) hx hb (dd_of dX12_pump_0 2 rfl) (by decide) ?_
  refine lv_aload_n hx hb (dd_of dX12_pump_0 3 rfl) rfl (lv_at hl 0 rfl) ?_
  refine va_get (D := D) (cl := vwCl) (tys := jT yy) (ci := 12) (v := .int (F 23 0)) (C := RX12) (T := TX12) (N := 61) hx hb hts hin12 hown hK hP 0 rfl rfl 23 (by decide) (jw hts gw694) (fun _ h9 => h9) rfl (dd_of dX12_pump_0 4 rfl) ?_
  refine lv_iconst (v := 1) hx hb (dd_of dX12_pump_0 5 rfl) (by decide) ?_
  refine lv_isub hx hb (dd_of dX12_pump_0 6 rfl) ?_
  refine jc_si (As := [.int p1, .int 0, .int ((F 23 0) - 1)]) (rest := [.ref (A 99)]) ⟨hx, hb, hml, hown, hts⟩ (qX12_in l p1 0 ((F 23 0) - 1) ) (cwS 3 hts (jgS gw591 gw592 gw5 gw593) rfl rfl rfl (by decide +kernel) ⟨Nat.le_of_ble_eq_true rfl, Nat.le_of_ble_eq_true rfl⟩) rfl hl.1 rfl (Nat.le_of_ble_eq_true rfl) (dd_of dX12_pump_0 7 rfl) ⟨Nat.zero_le _, Nat.zero_le _⟩ (fun x1 ex1 => ?_)
  replace hres := bvE ex1 hres
  replace hok := bvO ex1 hok
  obtain ⟨z16, q15⟩ : ∃ z : Int32, (if x1 = 0 then 1 else bv (gX12_in p2 0 2) (fun x3 : Int32 => (if x3 = 0 then 2 else 0))) = z := ⟨_, rfl⟩
  refine jn_i (ls := ls) (v := z16) 33 [.ref (A 99)] (fun v5 ev5 => ?_) (fun K17 => ?_)
  · replace hres := bvE (ev5.trans q15.symm) hres
    replace hok := bvO (ev5.trans q15.symm) hok
    refine va_put (D := D) (cl := vwCl) (tys := jT yy) (ci := 12) (v := .int v5) (ty := .int) (C := RX12) (T := TX12) (N := 61) hx hb hts hin12 tyX12 tyX12_ok nmX12 hown hK hP hD hS 0 rfl rfl 60 (by decide) (jw hts gw590) (fun _ h9 => h9) rfl (by decide +kernel) rfl rfl (Nat.le_of_ble_eq_true rfl) (dd_of dX12_pump_0 19 rfl) (fun H locs hP hD hS => ?_)
    obtain ⟨F6, e7⟩ : ∃ z : jF, z = u2 F 60 0 v5 := ⟨_, rfl⟩
    have hP : va_P D vwCl (mW yy A F6 G) H := by rw [e7]; exact hP
    have hD : va_D Z (mW yy A F6 G) := by rw [e7]; exact hD
    replace hres := bvE e7 hres
    replace hok := bvO e7 hok
    refine lv_aload_n hx hb (dd_of dX12_pump_0 20 rfl) rfl (lv_at hl 0 rfl) ?_
    refine va_get (D := D) (cl := vwCl) (tys := jT yy) (ci := 12) (v := .int (F6 60 0)) (C := RX12) (T := TX12) (N := 61) hx hb hts hin12 hown hK hP 0 rfl rfl 60 (by decide) (jw hts gw590) (fun _ h9 => h9) rfl (dd_of dX12_pump_0 21 rfl) ?_
    obtain ⟨z19, q18⟩ : ∃ z : Int32, (if (F6 60 0) ≤ 0 then (if p2 = 0 then (F6 29 (Int32.toNatClampNeg p1)) else (if p2 = 1 then (F6 30 (Int32.toNatClampNeg p1)) else (F6 31 (Int32.toNatClampNeg p1)))) else 0) = z := ⟨_, rfl⟩
    have o21 := hok
    refine jn_i (ls := ls) (v := z19) 80 [] (fun v14 ev14 => ?_) (fun K20 => ?_)
    · replace hres := bvE (ev14.trans q18.symm) hres
      subst hQ
      exact W.iret (v := v14) hx hb hr (fun t ht hW => ⟨⟨v14, (F6, G), rfl, hres, by rw [ht]; exact hP, va_K.moved hW.alike hK, hD⟩, hS.F ht⟩) hS.2.2 (dd_of dX12_pump_1 4 rfl) hlk
    · skip
      refine lv_if_le (tgt := 47) hx hb (dd_of dX12_pump_0 22 rfl) (by decide) (fun c8 => ?_) (fun c8 => ?_)
      · replace q18 := ifE c8 q18
        replace o21 := o21.1 c8
        refine lv_iload_n hx hb (dd_of dX12_pump_0 25 rfl) rfl (lv_at hl 2 rfl) ?_
        refine lv_if_ne (tgt := 60) hx hb (dd_of dX12_pump_0 26 rfl) (by decide) (fun c9 => ?_) (fun c9 => ?_)
        · replace q18 := ifN c9 q18
          replace o21 := o21.2 c9
          refine lv_iload_n hx hb (dd_of dX12_pump_0 32 rfl) rfl (lv_at hl 2 rfl) ?_
          refine lv_iconst (v := 1) hx hb (dd_of dX12_pump_0 33 rfl) (by decide) ?_
          refine lv_icmp_ne (tgt := 74) hx hb (dd_of dX12_pump_0 34 rfl) (by decide) (fun c10 => ?_) (fun c10 => ?_)
          · replace q18 := ifN c10 q18
            replace o21 := o21.2 c10
            refine lv_aload_n hx hb (dd_of dX12_pump_1 0 rfl) rfl (lv_at hl 0 rfl) ?_
            refine va_get (D := D) (cl := vwCl) (tys := jT yy) (ci := 12) (v := .ref (A 31)) (C := RX12) (T := TX12) (N := 61) hx hb hts hin12 hown hK hP 0 rfl rfl 31 (by decide) (jw hts gw145) (fun _ h9 => h9) rfl (dd_of dX12_pump_1 1 rfl) ?_
            refine lv_iload_n hx hb (dd_of dX12_pump_1 2 rfl) rfl (lv_at hl 1 rfl) ?_
            have h11 := o21
            refine va_iald hx hb hK hP 21 0 rfl rfl h11 (dd_of dX12_pump_1 3 rfl) ?_
            exact K20 _ q18
          · replace q18 := ifE c10 q18
            replace o21 := o21.1 c10
            refine lv_aload_n hx hb (dd_of dX12_pump_0 35 rfl) rfl (lv_at hl 0 rfl) ?_
            refine va_get (D := D) (cl := vwCl) (tys := jT yy) (ci := 12) (v := .ref (A 30)) (C := RX12) (T := TX12) (N := 61) hx hb hts hin12 hown hK hP 0 rfl rfl 30 (by decide) (jw hts gw144) (fun _ h9 => h9) rfl (dd_of dX12_pump_0 36 rfl) ?_
            refine lv_iload_n hx hb (dd_of dX12_pump_0 37 rfl) rfl (lv_at hl 1 rfl) ?_
            have h12 := o21
            refine va_iald hx hb hK hP 20 0 rfl rfl h12 (dd_of dX12_pump_0 38 rfl) ?_
            refine lv_goto (tgt := 80) hx hb (dd_of dX12_pump_0 39 rfl) (by decide) ?_
            exact K20 _ q18
        · replace q18 := ifE c9 q18
          replace o21 := o21.1 c9
          refine lv_aload_n hx hb (dd_of dX12_pump_0 27 rfl) rfl (lv_at hl 0 rfl) ?_
          refine va_get (D := D) (cl := vwCl) (tys := jT yy) (ci := 12) (v := .ref (A 29)) (C := RX12) (T := TX12) (N := 61) hx hb hts hin12 hown hK hP 0 rfl rfl 29 (by decide) (jw hts gw143) (fun _ h9 => h9) rfl (dd_of dX12_pump_0 28 rfl) ?_
          refine lv_iload_n hx hb (dd_of dX12_pump_0 29 rfl) rfl (lv_at hl 1 rfl) ?_
          have h13 := o21
          refine va_iald hx hb hK hP 19 0 rfl rfl h13 (dd_of dX12_pump_0 30 rfl) ?_
          refine lv_goto (tgt := 80) hx hb (dd_of dX12_pump_0 31 rfl) (by decide) ?_
          exact K20 _ q18
      · replace q18 := ifN c8 q18
        refine lv_iconst (v := 0) hx hb (dd_of dX12_pump_0 23 rfl) (by decide) ?_
        refine lv_goto (tgt := 80) hx hb (dd_of dX12_pump_0 24 rfl) (by decide) ?_
        exact K20 _ q18
  · skip
    refine lv_if_ne (tgt := 19) hx hb (dd_of dX12_pump_0 8 rfl) (by decide) (fun c2 => ?_) (fun c2 => ?_)
    · replace q15 := ifN c2 q15
      refine lv_iload_n hx hb (dd_of dX12_pump_0 11 rfl) rfl (lv_at hl 2 rfl) ?_
      refine lv_iconst (v := 0) hx hb (dd_of dX12_pump_0 12 rfl) (by decide) ?_
      refine lv_iconst (v := 2) hx hb (dd_of dX12_pump_0 13 rfl) (by decide) ?_
      refine jc_si (As := [.int p2, .int 0, .int 2]) (rest := [.ref (A 99)]) ⟨hx, hb, hml, hown, hts⟩ (qX12_in l p2 0 2 ) (cwS 3 hts (jgS gw591 gw592 gw5 gw593) rfl rfl rfl (by decide +kernel) ⟨Nat.le_of_ble_eq_true rfl, Nat.le_of_ble_eq_true rfl⟩) rfl hl.1 rfl (Nat.le_of_ble_eq_true rfl) (dd_of dX12_pump_0 14 rfl) ⟨Nat.zero_le _, Nat.zero_le _⟩ (fun x3 ex3 => ?_)
      replace q15 := bvE ex3 q15
      refine lv_if_ne (tgt := 32) hx hb (dd_of dX12_pump_0 15 rfl) (by decide) (fun c4 => ?_) (fun c4 => ?_)
      · replace q15 := ifN c4 q15
        refine lv_iconst (v := 0) hx hb (dd_of dX12_pump_0 18 rfl) (by decide) ?_
        exact K17 _ q15
      · replace q15 := ifE c4 q15
        refine lv_iconst (v := 2) hx hb (dd_of dX12_pump_0 16 rfl) (by decide) ?_
        refine lv_goto (tgt := 33) hx hb (dd_of dX12_pump_0 17 rfl) (by decide) ?_
        exact K17 _ q15
    · replace q15 := ifE c2 q15
      refine lv_iconst (v := 1) hx hb (dd_of dX12_pump_0 9 rfl) (by decide) ?_
      refine lv_goto (tgt := 33) hx hb (dd_of dX12_pump_0 10 rfl) (by decide) ?_
      exact K17 _ q15
set_option maxHeartbeats 4000000 in
set_option maxRecDepth 100000 in
theorem qX12_dyke (l : Launch) (D : va_G) (yy : Nat → ClassId) (A : Nat → Nat) (F : jF) (G : jG) (sz : Nat) (p1 : Int32) (p2 : Int32) (hok : okX12_dyke F G p1 p2) : Met l yX12_dyke (Cond.code yX12_dyke cX12_dyke 3 (some .int) :: wsL_law) rmX12_dyke (va_Pc [.ref (A 99), .int p1, .int p2] (jP D yy (mW yy A F G) sz)) (va_Qi (fun r (u : jS) => (r, u) = gX12_dyke F G p1 p2) (fun (u : jS) t => jB D yy (va_A (mW yy A F G) sz) (mW yy A u.1 u.2) t) (va_A (mW yy A F G) sz)) 0 0 (va_A (mW yy A F G) sz) := by
  generalize hres : gX12_dyke F G p1 p2 = RES
  refine jM (own := RX12) (by decide) rfl (Nat.le_of_ble_eq_true rfl) ?_
  intro p e s m args below meth c ls Q hQ hargs S hr hlk hinit hB hl
  obtain ⟨hx, hb, hml, hown, hts⟩ := S
  have hl : lv_has ls 3 [(0, .ref (A 99)), (1, .int p1), (2, .int p2)] := hl
  have hin12 : ∀ w ∈ u_ws RX12 TX12 61, w ∈ (Cond.code yX12_dyke cX12_dyke 3 (some .int) :: wsL_law) := fun w h => List.mem_cons_of_mem _ (inlX12 w h)
  obtain ⟨hsz, hP, hK, hD0⟩ := hB
  subst hsz
  have hD := hD0.self (sz := s.heap.size)
  generalize hZ : va_A (mW yy A F G) s.heap.size = Z at hD hQ
  have hA : ∀ q : Nat, s.heap.size ≤ q → Z q := fun q h => by rw [← hZ]; exact Or.inr h
  obtain ⟨H, hH⟩ : ∃ z, z = s.heap := ⟨_, rfl⟩
  obtain ⟨locs, hlocs⟩ : ∃ z : List Loc, z = [] := ⟨_, rfl⟩
  have hS : va_S Z s.heap H locs := by rw [hH, hlocs]; exact va_S.rf
  rw [← hH] at hP
  suffices hgo : W p l e rmX12_dyke s m args below meth c H locs 0 0 Q (F0 m 0 ls []) by rw [hH, hlocs] at hgo; exact hgo
  unfold gX12_dyke at hres
  unfold okX12_dyke at hok
  refine lv_aload_n hx hb (dd_of dX12_dyke_0 0 rfl) rfl (lv_at hl 0 rfl) ?_
  refine lv_iload_n hx hb (dd_of dX12_dyke_0 1 rfl) rfl (lv_at hl 1 rfl) ?_
  refine lv_iconst (v := 0) hx hb (dd_of dX12_dyke_0 2 rfl) (by decide) ?_
  refine lv_aload_n hx hb (dd_of dX12_dyke_0 3 rfl) rfl (lv_at hl 0 rfl) ?_
  refine va_get (D := D) (cl := vwCl) (tys := jT yy) (ci := 12) (v := .int (F 32 0)) (C := RX12) (T := TX12) (N := 61) hx hb hts hin12 hown hK hP 0 rfl rfl 32 (by decide) (jw hts gw707) (fun _ h9 => h9) rfl (dd_of dX12_dyke_0 4 rfl) ?_
  refine lv_iconst (v := 1) hx hb (dd_of dX12_dyke_0 5 rfl) (by decide) ?_
  refine lv_isub hx hb (dd_of dX12_dyke_0 6 rfl) ?_
  refine jc_si (As := [.int p1, .int 0, .int ((F 32 0) - 1)]) (rest := [.ref (A 99)]) ⟨hx, hb, hml, hown, hts⟩ (qX12_in l p1 0 ((F 32 0) - 1) ) (cwS 3 hts (jgS gw591 gw592 gw5 gw593) rfl rfl rfl (by decide +kernel) ⟨Nat.le_of_ble_eq_true rfl, Nat.le_of_ble_eq_true rfl⟩) rfl hl.1 rfl (Nat.le_of_ble_eq_true rfl) (dd_of dX12_dyke_0 7 rfl) ⟨Nat.zero_le _, Nat.zero_le _⟩ (fun x1 ex1 => ?_)
  replace hres := bvE ex1 hres
  replace hok := bvO ex1 hok
  obtain ⟨z16, q15⟩ : ∃ z : Int32, (if x1 = 0 then 1 else bv (gX12_in p2 0 2) (fun x3 : Int32 => (if x3 = 0 then 2 else 0))) = z := ⟨_, rfl⟩
  refine jn_i (ls := ls) (v := z16) 33 [.ref (A 99)] (fun v5 ev5 => ?_) (fun K17 => ?_)
  · replace hres := bvE (ev5.trans q15.symm) hres
    replace hok := bvO (ev5.trans q15.symm) hok
    refine va_put (D := D) (cl := vwCl) (tys := jT yy) (ci := 12) (v := .int v5) (ty := .int) (C := RX12) (T := TX12) (N := 61) hx hb hts hin12 tyX12 tyX12_ok nmX12 hown hK hP hD hS 0 rfl rfl 60 (by decide) (jw hts gw590) (fun _ h9 => h9) rfl (by decide +kernel) rfl rfl (Nat.le_of_ble_eq_true rfl) (dd_of dX12_dyke_0 19 rfl) (fun H locs hP hD hS => ?_)
    obtain ⟨F6, e7⟩ : ∃ z : jF, z = u2 F 60 0 v5 := ⟨_, rfl⟩
    have hP : va_P D vwCl (mW yy A F6 G) H := by rw [e7]; exact hP
    have hD : va_D Z (mW yy A F6 G) := by rw [e7]; exact hD
    replace hres := bvE e7 hres
    replace hok := bvO e7 hok
    refine lv_aload_n hx hb (dd_of dX12_dyke_0 20 rfl) rfl (lv_at hl 0 rfl) ?_
    refine va_get (D := D) (cl := vwCl) (tys := jT yy) (ci := 12) (v := .int (F6 60 0)) (C := RX12) (T := TX12) (N := 61) hx hb hts hin12 hown hK hP 0 rfl rfl 60 (by decide) (jw hts gw590) (fun _ h9 => h9) rfl (dd_of dX12_dyke_0 21 rfl) ?_
    obtain ⟨z19, q18⟩ : ∃ z : Int32, (if (F6 60 0) ≤ 0 then (if p2 = 0 then (F6 35 (Int32.toNatClampNeg p1)) else (if p2 = 1 then (F6 38 (Int32.toNatClampNeg p1)) else (F6 39 (Int32.toNatClampNeg p1)))) else 0) = z := ⟨_, rfl⟩
    have o21 := hok
    refine jn_i (ls := ls) (v := z19) 80 [] (fun v14 ev14 => ?_) (fun K20 => ?_)
    · replace hres := bvE (ev14.trans q18.symm) hres
      subst hQ
      exact W.iret (v := v14) hx hb hr (fun t ht hW => ⟨⟨v14, (F6, G), rfl, hres, by rw [ht]; exact hP, va_K.moved hW.alike hK, hD⟩, hS.F ht⟩) hS.2.2 (dd_of dX12_dyke_1 4 rfl) hlk
    · skip
      refine lv_if_le (tgt := 47) hx hb (dd_of dX12_dyke_0 22 rfl) (by decide) (fun c8 => ?_) (fun c8 => ?_)
      · replace q18 := ifE c8 q18
        replace o21 := o21.1 c8
        refine lv_iload_n hx hb (dd_of dX12_dyke_0 25 rfl) rfl (lv_at hl 2 rfl) ?_
        refine lv_if_ne (tgt := 60) hx hb (dd_of dX12_dyke_0 26 rfl) (by decide) (fun c9 => ?_) (fun c9 => ?_)
        · replace q18 := ifN c9 q18
          replace o21 := o21.2 c9
          refine lv_iload_n hx hb (dd_of dX12_dyke_0 32 rfl) rfl (lv_at hl 2 rfl) ?_
          refine lv_iconst (v := 1) hx hb (dd_of dX12_dyke_0 33 rfl) (by decide) ?_
          refine lv_icmp_ne (tgt := 74) hx hb (dd_of dX12_dyke_0 34 rfl) (by decide) (fun c10 => ?_) (fun c10 => ?_)
          · replace q18 := ifN c10 q18
            replace o21 := o21.2 c10
            refine lv_aload_n hx hb (dd_of dX12_dyke_1 0 rfl) rfl (lv_at hl 0 rfl) ?_
            refine va_get (D := D) (cl := vwCl) (tys := jT yy) (ci := 12) (v := .ref (A 39)) (C := RX12) (T := TX12) (N := 61) hx hb hts hin12 hown hK hP 0 rfl rfl 39 (by decide) (jw hts gw152) (fun _ h9 => h9) rfl (dd_of dX12_dyke_1 1 rfl) ?_
            refine lv_iload_n hx hb (dd_of dX12_dyke_1 2 rfl) rfl (lv_at hl 1 rfl) ?_
            have h11 := o21
            refine va_iald hx hb hK hP 28 0 rfl rfl h11 (dd_of dX12_dyke_1 3 rfl) ?_
            exact K20 _ q18
          · replace q18 := ifE c10 q18
            replace o21 := o21.1 c10
            refine lv_aload_n hx hb (dd_of dX12_dyke_0 35 rfl) rfl (lv_at hl 0 rfl) ?_
            refine va_get (D := D) (cl := vwCl) (tys := jT yy) (ci := 12) (v := .ref (A 38)) (C := RX12) (T := TX12) (N := 61) hx hb hts hin12 hown hK hP 0 rfl rfl 38 (by decide) (jw hts gw151) (fun _ h9 => h9) rfl (dd_of dX12_dyke_0 36 rfl) ?_
            refine lv_iload_n hx hb (dd_of dX12_dyke_0 37 rfl) rfl (lv_at hl 1 rfl) ?_
            have h12 := o21
            refine va_iald hx hb hK hP 27 0 rfl rfl h12 (dd_of dX12_dyke_0 38 rfl) ?_
            refine lv_goto (tgt := 80) hx hb (dd_of dX12_dyke_0 39 rfl) (by decide) ?_
            exact K20 _ q18
        · replace q18 := ifE c9 q18
          replace o21 := o21.1 c9
          refine lv_aload_n hx hb (dd_of dX12_dyke_0 27 rfl) rfl (lv_at hl 0 rfl) ?_
          refine va_get (D := D) (cl := vwCl) (tys := jT yy) (ci := 12) (v := .ref (A 35)) (C := RX12) (T := TX12) (N := 61) hx hb hts hin12 hown hK hP 0 rfl rfl 35 (by decide) (jw hts gw148) (fun _ h9 => h9) rfl (dd_of dX12_dyke_0 28 rfl) ?_
          refine lv_iload_n hx hb (dd_of dX12_dyke_0 29 rfl) rfl (lv_at hl 1 rfl) ?_
          have h13 := o21
          refine va_iald hx hb hK hP 24 0 rfl rfl h13 (dd_of dX12_dyke_0 30 rfl) ?_
          refine lv_goto (tgt := 80) hx hb (dd_of dX12_dyke_0 31 rfl) (by decide) ?_
          exact K20 _ q18
      · replace q18 := ifN c8 q18
        refine lv_iconst (v := 0) hx hb (dd_of dX12_dyke_0 23 rfl) (by decide) ?_
        refine lv_goto (tgt := 80) hx hb (dd_of dX12_dyke_0 24 rfl) (by decide) ?_
        exact K20 _ q18
  · skip
    refine lv_if_ne (tgt := 19) hx hb (dd_of dX12_dyke_0 8 rfl) (by decide) (fun c2 => ?_) (fun c2 => ?_)
    · replace q15 := ifN c2 q15
      refine lv_iload_n hx hb (dd_of dX12_dyke_0 11 rfl) rfl (lv_at hl 2 rfl) ?_
      refine lv_iconst (v := 0) hx hb (dd_of dX12_dyke_0 12 rfl) (by decide) ?_
      refine lv_iconst (v := 2) hx hb (dd_of dX12_dyke_0 13 rfl) (by decide) ?_
      refine jc_si (As := [.int p2, .int 0, .int 2]) (rest := [.ref (A 99)]) ⟨hx, hb, hml, hown, hts⟩ (qX12_in l p2 0 2 ) (cwS 3 hts (jgS gw591 gw592 gw5 gw593) rfl rfl rfl (by decide +kernel) ⟨Nat.le_of_ble_eq_true rfl, Nat.le_of_ble_eq_true rfl⟩) rfl hl.1 rfl (Nat.le_of_ble_eq_true rfl) (dd_of dX12_dyke_0 14 rfl) ⟨Nat.zero_le _, Nat.zero_le _⟩ (fun x3 ex3 => ?_)
      replace q15 := bvE ex3 q15
      refine lv_if_ne (tgt := 32) hx hb (dd_of dX12_dyke_0 15 rfl) (by decide) (fun c4 => ?_) (fun c4 => ?_)
      · replace q15 := ifN c4 q15
        refine lv_iconst (v := 0) hx hb (dd_of dX12_dyke_0 18 rfl) (by decide) ?_
        exact K17 _ q15
      · replace q15 := ifE c4 q15
        refine lv_iconst (v := 2) hx hb (dd_of dX12_dyke_0 16 rfl) (by decide) ?_
        refine lv_goto (tgt := 33) hx hb (dd_of dX12_dyke_0 17 rfl) (by decide) ?_
        exact K17 _ q15
    · replace q15 := ifE c2 q15
      refine lv_iconst (v := 1) hx hb (dd_of dX12_dyke_0 9 rfl) (by decide) ?_
      refine lv_goto (tgt := 33) hx hb (dd_of dX12_dyke_0 10 rfl) (by decide) ?_
      exact K17 _ q15
set_option maxHeartbeats 4000000 in
set_option maxRecDepth 100000 in
theorem qX12_crew (l : Launch) (D : va_G) (yy : Nat → ClassId) (A : Nat → Nat) (F : jF) (G : jG) (sz : Nat) (p1 : Int32) (p2 : Int32) (hok : okX12_crew F G p1 p2) : Met l yX12_crew (Cond.code yX12_crew cX12_crew 3 (some .int) :: wsL_law) rmX12_crew (va_Pc [.ref (A 99), .int p1, .int p2] (jP D yy (mW yy A F G) sz)) (va_Qi (fun r (u : jS) => (r, u) = gX12_crew F G p1 p2) (fun (u : jS) t => jB D yy (va_A (mW yy A F G) sz) (mW yy A u.1 u.2) t) (va_A (mW yy A F G) sz)) 0 0 (va_A (mW yy A F G) sz) := by
  generalize hres : gX12_crew F G p1 p2 = RES
  refine jM (own := RX12) (by decide) rfl (Nat.le_of_ble_eq_true rfl) ?_
  intro p e s m args below meth c ls Q hQ hargs S hr hlk hinit hB hl
  obtain ⟨hx, hb, hml, hown, hts⟩ := S
  have hl : lv_has ls 3 [(0, .ref (A 99)), (1, .int p1), (2, .int p2)] := hl
  have hin12 : ∀ w ∈ u_ws RX12 TX12 61, w ∈ (Cond.code yX12_crew cX12_crew 3 (some .int) :: wsL_law) := fun w h => List.mem_cons_of_mem _ (inlX12 w h)
  obtain ⟨hsz, hP, hK, hD0⟩ := hB
  subst hsz
  have hD := hD0.self (sz := s.heap.size)
  generalize hZ : va_A (mW yy A F G) s.heap.size = Z at hD hQ
  have hA : ∀ q : Nat, s.heap.size ≤ q → Z q := fun q h => by rw [← hZ]; exact Or.inr h
  obtain ⟨H, hH⟩ : ∃ z, z = s.heap := ⟨_, rfl⟩
  obtain ⟨locs, hlocs⟩ : ∃ z : List Loc, z = [] := ⟨_, rfl⟩
  have hS : va_S Z s.heap H locs := by rw [hH, hlocs]; exact va_S.rf
  rw [← hH] at hP
  suffices hgo : W p l e rmX12_crew s m args below meth c H locs 0 0 Q (F0 m 0 ls []) by rw [hH, hlocs] at hgo; exact hgo
  unfold gX12_crew at hres
  unfold okX12_crew at hok
  refine lv_aload_n hx hb (dd_of dX12_crew_0 0 rfl) rfl (lv_at hl 0 rfl) ?_
  refine lv_iload_n hx hb (dd_of dX12_crew_0 1 rfl) rfl (lv_at hl 1 rfl) ?_
  refine lv_iconst (v := 0) hx hb (dd_of dX12_crew_0 2 rfl) (by decide) ?_
  refine lv_iconst (v := 2) hx hb (dd_of dX12_crew_0 3 rfl) (by decide) ?_
  refine jc_si (As := [.int p1, .int 0, .int 2]) (rest := [.ref (A 99)]) ⟨hx, hb, hml, hown, hts⟩ (qX12_in l p1 0 2 ) (cwS 3 hts (jgS gw591 gw592 gw5 gw593) rfl rfl rfl (by decide +kernel) ⟨Nat.le_of_ble_eq_true rfl, Nat.le_of_ble_eq_true rfl⟩) rfl hl.1 rfl (Nat.le_of_ble_eq_true rfl) (dd_of dX12_crew_0 4 rfl) ⟨Nat.zero_le _, Nat.zero_le _⟩ (fun x1 ex1 => ?_)
  replace hres := bvE ex1 hres
  replace hok := bvO ex1 hok
  obtain ⟨z16, q15⟩ : ∃ z : Int32, (if x1 = 0 then 1 else bv (gX12_in p2 0 2) (fun x3 : Int32 => (if x3 = 0 then 2 else 0))) = z := ⟨_, rfl⟩
  refine jn_i (ls := ls) (v := z16) 28 [.ref (A 99)] (fun v5 ev5 => ?_) (fun K17 => ?_)
  · replace hres := bvE (ev5.trans q15.symm) hres
    replace hok := bvO (ev5.trans q15.symm) hok
    refine va_put (D := D) (cl := vwCl) (tys := jT yy) (ci := 12) (v := .int v5) (ty := .int) (C := RX12) (T := TX12) (N := 61) hx hb hts hin12 tyX12 tyX12_ok nmX12 hown hK hP hD hS 0 rfl rfl 60 (by decide) (jw hts gw590) (fun _ h9 => h9) rfl (by decide +kernel) rfl rfl (Nat.le_of_ble_eq_true rfl) (dd_of dX12_crew_0 16 rfl) (fun H locs hP hD hS => ?_)
    obtain ⟨F6, e7⟩ : ∃ z : jF, z = u2 F 60 0 v5 := ⟨_, rfl⟩
    have hP : va_P D vwCl (mW yy A F6 G) H := by rw [e7]; exact hP
    have hD : va_D Z (mW yy A F6 G) := by rw [e7]; exact hD
    replace hres := bvE e7 hres
    replace hok := bvO e7 hok
    refine lv_aload_n hx hb (dd_of dX12_crew_0 17 rfl) rfl (lv_at hl 0 rfl) ?_
    refine va_get (D := D) (cl := vwCl) (tys := jT yy) (ci := 12) (v := .int (F6 60 0)) (C := RX12) (T := TX12) (N := 61) hx hb hts hin12 hown hK hP 0 rfl rfl 60 (by decide) (jw hts gw590) (fun _ h9 => h9) rfl (dd_of dX12_crew_0 18 rfl) ?_
    obtain ⟨z19, q18⟩ : ∃ z : Int32, (if (F6 60 0) ≤ 0 then (if p2 = 0 then (F6 49 (Int32.toNatClampNeg p1)) else (if p2 = 1 then (F6 50 (Int32.toNatClampNeg p1)) else ((F6 51 (Int32.toNatClampNeg p1)) - 1))) else 0) = z := ⟨_, rfl⟩
    have o21 := hok
    refine jn_i (ls := ls) (v := z19) 77 [] (fun v14 ev14 => ?_) (fun K20 => ?_)
    · replace hres := bvE (ev14.trans q18.symm) hres
      subst hQ
      exact W.iret (v := v14) hx hb hr (fun t ht hW => ⟨⟨v14, (F6, G), rfl, hres, by rw [ht]; exact hP, va_K.moved hW.alike hK, hD⟩, hS.F ht⟩) hS.2.2 (dd_of dX12_crew_1 3 rfl) hlk
    · skip
      refine lv_if_le (tgt := 42) hx hb (dd_of dX12_crew_0 19 rfl) (by decide) (fun c8 => ?_) (fun c8 => ?_)
      · replace q18 := ifE c8 q18
        replace o21 := o21.1 c8
        refine lv_iload_n hx hb (dd_of dX12_crew_0 22 rfl) rfl (lv_at hl 2 rfl) ?_
        refine lv_if_ne (tgt := 55) hx hb (dd_of dX12_crew_0 23 rfl) (by decide) (fun c9 => ?_) (fun c9 => ?_)
        · replace q18 := ifN c9 q18
          replace o21 := o21.2 c9
          refine lv_iload_n hx hb (dd_of dX12_crew_0 29 rfl) rfl (lv_at hl 2 rfl) ?_
          refine lv_iconst (v := 1) hx hb (dd_of dX12_crew_0 30 rfl) (by decide) ?_
          refine lv_icmp_ne (tgt := 69) hx hb (dd_of dX12_crew_0 31 rfl) (by decide) (fun c10 => ?_) (fun c10 => ?_)
          · replace q18 := ifN c10 q18
            replace o21 := o21.2 c10
            refine lv_aload_n hx hb (dd_of dX12_crew_0 37 rfl) rfl (lv_at hl 0 rfl) ?_
            refine va_get (D := D) (cl := vwCl) (tys := jT yy) (ci := 12) (v := .ref (A 51)) (C := RX12) (T := TX12) (N := 61) hx hb hts hin12 hown hK hP 0 rfl rfl 51 (by decide) (jw hts gw162) (fun _ h9 => h9) rfl (dd_of dX12_crew_0 38 rfl) ?_
            refine lv_iload_n hx hb (dd_of dX12_crew_0 39 rfl) rfl (lv_at hl 1 rfl) ?_
            have h11 := o21
            refine va_iald hx hb hK hP 38 0 rfl rfl h11 (dd_of dX12_crew_1 0 rfl) ?_
            refine lv_iconst (v := 1) hx hb (dd_of dX12_crew_1 1 rfl) (by decide) ?_
            refine lv_isub hx hb (dd_of dX12_crew_1 2 rfl) ?_
            exact K20 _ q18
          · replace q18 := ifE c10 q18
            replace o21 := o21.1 c10
            refine lv_aload_n hx hb (dd_of dX12_crew_0 32 rfl) rfl (lv_at hl 0 rfl) ?_
            refine va_get (D := D) (cl := vwCl) (tys := jT yy) (ci := 12) (v := .ref (A 50)) (C := RX12) (T := TX12) (N := 61) hx hb hts hin12 hown hK hP 0 rfl rfl 50 (by decide) (jw hts gw161) (fun _ h9 => h9) rfl (dd_of dX12_crew_0 33 rfl) ?_
            refine lv_iload_n hx hb (dd_of dX12_crew_0 34 rfl) rfl (lv_at hl 1 rfl) ?_
            have h12 := o21
            refine va_iald hx hb hK hP 37 0 rfl rfl h12 (dd_of dX12_crew_0 35 rfl) ?_
            refine lv_goto (tgt := 77) hx hb (dd_of dX12_crew_0 36 rfl) (by decide) ?_
            exact K20 _ q18
        · replace q18 := ifE c9 q18
          replace o21 := o21.1 c9
          refine lv_aload_n hx hb (dd_of dX12_crew_0 24 rfl) rfl (lv_at hl 0 rfl) ?_
          refine va_get (D := D) (cl := vwCl) (tys := jT yy) (ci := 12) (v := .ref (A 49)) (C := RX12) (T := TX12) (N := 61) hx hb hts hin12 hown hK hP 0 rfl rfl 49 (by decide) (jw hts gw160) (fun _ h9 => h9) rfl (dd_of dX12_crew_0 25 rfl) ?_
          refine lv_iload_n hx hb (dd_of dX12_crew_0 26 rfl) rfl (lv_at hl 1 rfl) ?_
          have h13 := o21
          refine va_iald hx hb hK hP 36 0 rfl rfl h13 (dd_of dX12_crew_0 27 rfl) ?_
          refine lv_goto (tgt := 77) hx hb (dd_of dX12_crew_0 28 rfl) (by decide) ?_
          exact K20 _ q18
      · replace q18 := ifN c8 q18
        refine lv_iconst (v := 0) hx hb (dd_of dX12_crew_0 20 rfl) (by decide) ?_
        refine lv_goto (tgt := 77) hx hb (dd_of dX12_crew_0 21 rfl) (by decide) ?_
        exact K20 _ q18
  · skip
    refine lv_if_ne (tgt := 14) hx hb (dd_of dX12_crew_0 5 rfl) (by decide) (fun c2 => ?_) (fun c2 => ?_)
    · replace q15 := ifN c2 q15
      refine lv_iload_n hx hb (dd_of dX12_crew_0 8 rfl) rfl (lv_at hl 2 rfl) ?_
      refine lv_iconst (v := 0) hx hb (dd_of dX12_crew_0 9 rfl) (by decide) ?_
      refine lv_iconst (v := 2) hx hb (dd_of dX12_crew_0 10 rfl) (by decide) ?_
      refine jc_si (As := [.int p2, .int 0, .int 2]) (rest := [.ref (A 99)]) ⟨hx, hb, hml, hown, hts⟩ (qX12_in l p2 0 2 ) (cwS 3 hts (jgS gw591 gw592 gw5 gw593) rfl rfl rfl (by decide +kernel) ⟨Nat.le_of_ble_eq_true rfl, Nat.le_of_ble_eq_true rfl⟩) rfl hl.1 rfl (Nat.le_of_ble_eq_true rfl) (dd_of dX12_crew_0 11 rfl) ⟨Nat.zero_le _, Nat.zero_le _⟩ (fun x3 ex3 => ?_)
      replace q15 := bvE ex3 q15
      refine lv_if_ne (tgt := 27) hx hb (dd_of dX12_crew_0 12 rfl) (by decide) (fun c4 => ?_) (fun c4 => ?_)
      · replace q15 := ifN c4 q15
        refine lv_iconst (v := 0) hx hb (dd_of dX12_crew_0 15 rfl) (by decide) ?_
        exact K17 _ q15
      · replace q15 := ifE c4 q15
        refine lv_iconst (v := 2) hx hb (dd_of dX12_crew_0 13 rfl) (by decide) ?_
        refine lv_goto (tgt := 28) hx hb (dd_of dX12_crew_0 14 rfl) (by decide) ?_
        exact K17 _ q15
    · replace q15 := ifE c2 q15
      refine lv_iconst (v := 1) hx hb (dd_of dX12_crew_0 6 rfl) (by decide) ?_
      refine lv_goto (tgt := 28) hx hb (dd_of dX12_crew_0 7 rfl) (by decide) ?_
      exact K17 _ q15
set_option maxHeartbeats 4000000 in
set_option maxRecDepth 100000 in
theorem qX12_sea (l : Launch) (D : va_G) (yy : Nat → ClassId) (A : Nat → Nat) (F : jF) (G : jG) (sz : Nat) (p1 : Int32) (hok : okX12_sea F G p1) : Met l yX12_sea (Cond.code yX12_sea cX12_sea 2 (some .long) :: wsL_law) rmX12_sea (va_Pc [.ref (A 99), .int p1] (jP D yy (mW yy A F G) sz)) (va_Ql (fun r (u : jS) => (r, u) = gX12_sea F G p1) (fun (u : jS) t => jB D yy (va_A (mW yy A F G) sz) (mW yy A u.1 u.2) t) (va_A (mW yy A F G) sz)) 0 0 (va_A (mW yy A F G) sz) := by
  generalize hres : gX12_sea F G p1 = RES
  refine jM (own := RX12) (by decide) rfl (Nat.le_of_ble_eq_true rfl) ?_
  intro p e s m args below meth c ls Q hQ hargs S hr hlk hinit hB hl
  obtain ⟨hx, hb, hml, hown, hts⟩ := S
  have hl : lv_has ls 2 [(0, .ref (A 99)), (1, .int p1)] := hl
  have hin12 : ∀ w ∈ u_ws RX12 TX12 61, w ∈ (Cond.code yX12_sea cX12_sea 2 (some .long) :: wsL_law) := fun w h => List.mem_cons_of_mem _ (inlX12 w h)
  obtain ⟨hsz, hP, hK, hD0⟩ := hB
  subst hsz
  have hD := hD0.self (sz := s.heap.size)
  generalize hZ : va_A (mW yy A F G) s.heap.size = Z at hD hQ
  have hA : ∀ q : Nat, s.heap.size ≤ q → Z q := fun q h => by rw [← hZ]; exact Or.inr h
  obtain ⟨H, hH⟩ : ∃ z, z = s.heap := ⟨_, rfl⟩
  obtain ⟨locs, hlocs⟩ : ∃ z : List Loc, z = [] := ⟨_, rfl⟩
  have hS : va_S Z s.heap H locs := by rw [hH, hlocs]; exact va_S.rf
  rw [← hH] at hP
  suffices hgo : W p l e rmX12_sea s m args below meth c H locs 0 0 Q (F0 m 0 ls []) by rw [hH, hlocs] at hgo; exact hgo
  unfold gX12_sea at hres
  unfold okX12_sea at hok
  refine lv_aload_n hx hb (dd_of dX12_sea_0 0 rfl) rfl (lv_at hl 0 rfl) ?_
  refine lv_iload_n hx hb (dd_of dX12_sea_0 1 rfl) rfl (lv_at hl 1 rfl) ?_
  refine lv_iconst (v := 0) hx hb (dd_of dX12_sea_0 2 rfl) (by decide) ?_
  refine lv_sipush (v := 9999) hx hb (dd_of dX12_sea_0 3 rfl) (by decide) ?_
  refine jc_si (As := [.int p1, .int 0, .int 9999]) (rest := [.ref (A 99)]) ⟨hx, hb, hml, hown, hts⟩ (qX12_in l p1 0 9999 ) (cwS 3 hts (jgS gw591 gw592 gw5 gw593) rfl rfl rfl (by decide +kernel) ⟨Nat.le_of_ble_eq_true rfl, Nat.le_of_ble_eq_true rfl⟩) rfl hl.1 rfl (Nat.le_of_ble_eq_true rfl) (dd_of dX12_sea_0 4 rfl) ⟨Nat.zero_le _, Nat.zero_le _⟩ (fun x1 ex1 => ?_)
  replace hres := bvE ex1 hres
  replace hok := bvO ex1 hok
  obtain ⟨z11, q10⟩ : ∃ z : Int32, (if x1 = 0 then 1 else 0) = z := ⟨_, rfl⟩
  refine jn_i (ls := ls) (v := z11) 17 [.ref (A 99)] (fun v3 ev3 => ?_) (fun K12 => ?_)
  · replace hres := bvE (ev3.trans q10.symm) hres
    replace hok := bvO (ev3.trans q10.symm) hok
    refine va_put (D := D) (cl := vwCl) (tys := jT yy) (ci := 12) (v := .int v3) (ty := .int) (C := RX12) (T := TX12) (N := 61) hx hb hts hin12 tyX12 tyX12_ok nmX12 hown hK hP hD hS 0 rfl rfl 60 (by decide) (jw hts gw590) (fun _ h9 => h9) rfl (by decide +kernel) rfl rfl (Nat.le_of_ble_eq_true rfl) (dd_of dX12_sea_0 9 rfl) (fun H locs hP hD hS => ?_)
    obtain ⟨F4, e5⟩ : ∃ z : jF, z = u2 F 60 0 v3 := ⟨_, rfl⟩
    have hP : va_P D vwCl (mW yy A F4 G) H := by rw [e5]; exact hP
    have hD : va_D Z (mW yy A F4 G) := by rw [e5]; exact hD
    replace hres := bvE e5 hres
    replace hok := bvO e5 hok
    refine lv_aload_n hx hb (dd_of dX12_sea_0 10 rfl) rfl (lv_at hl 0 rfl) ?_
    refine va_get (D := D) (cl := vwCl) (tys := jT yy) (ci := 12) (v := .int (F4 60 0)) (C := RX12) (T := TX12) (N := 61) hx hb hts hin12 hown hK hP 0 rfl rfl 60 (by decide) (jw hts gw590) (fun _ h9 => h9) rfl (dd_of dX12_sea_0 11 rfl) ?_
    obtain ⟨z14, q13⟩ : ∃ z : Int64, (if (F4 60 0) = 0 then bv (gX12_seaAt F4 G p1) (fun x8 : Int64 => x8) else 0) = z := ⟨_, rfl⟩
    have o16 := hok
    refine jn_l (ls := ls) (v := z14) 36 [] (fun v9 ev9 => ?_) (fun K15 => ?_)
    · replace hres := bvE (ev9.trans q13.symm) hres
      subst hQ
      exact W.lret (v := v9) hx hb hr (fun t ht hW => ⟨⟨v9, (F4, G), rfl, hres, by rw [ht]; exact hP, va_K.moved hW.alike hK, hD⟩, hS.F ht⟩) hS.2.2 (dd_of dX12_sea_0 18 rfl) hlk
    · skip
      refine lv_if_ne (tgt := 35) hx hb (dd_of dX12_sea_0 12 rfl) (by decide) (fun c6 => ?_) (fun c6 => ?_)
      · replace q13 := ifN c6 q13
        refine lv_lconst (v := 0) hx hb (dd_of dX12_sea_0 17 rfl) (by decide) ?_
        exact K15 _ q13
      · replace q13 := ifE c6 q13
        replace o16 := o16.1 c6
        refine lv_aload_n hx hb (dd_of dX12_sea_0 13 rfl) rfl (lv_at hl 0 rfl) ?_
        refine lv_iload_n hx hb (dd_of dX12_sea_0 14 rfl) rfl (lv_at hl 1 rfl) ?_
        have h7 := o16
        refine jc_l (As := [.int p1]) (rest := []) (w := (mW yy A F4 G)) (D := D) (yy := yy) ⟨hx, hb, hml, hown, hts⟩ (qX12_seaAt l D yy A F4 G p1 h7) (cwV 1 hts (jgV gw787 gw788 gw789 gw5 gw790) rfl rfl rfl (by decide +kernel) ⟨Nat.le_of_ble_eq_true rfl, Nat.le_of_ble_eq_true rfl⟩) hP hK (va_recv hK hP (ci := 12) (q0 := 0) rfl rfl) rfl hl.1 rfl (Nat.le_of_ble_eq_true rfl) (dd_of dX12_sea_0 15 rfl) ⟨Nat.zero_le _, Nat.zero_le _⟩ (fun x8 ex8 => ?_)
        replace q13 := bvE ex8 q13
        refine lv_goto (tgt := 36) hx hb (dd_of dX12_sea_0 16 rfl) (by decide) ?_
        exact K15 _ q13
  · skip
    refine lv_if_eq (tgt := 16) hx hb (dd_of dX12_sea_0 5 rfl) (by decide) (fun c2 => ?_) (fun c2 => ?_)
    · replace q10 := ifE c2 q10
      refine lv_iconst (v := 1) hx hb (dd_of dX12_sea_0 8 rfl) (by decide) ?_
      exact K12 _ q10
    · replace q10 := ifN c2 q10
      refine lv_iconst (v := 0) hx hb (dd_of dX12_sea_0 6 rfl) (by decide) ?_
      refine lv_goto (tgt := 17) hx hb (dd_of dX12_sea_0 7 rfl) (by decide) ?_
      exact K12 _ q10
set_option maxHeartbeats 4000000 in
set_option maxRecDepth 100000 in
theorem qX12_forecast (l : Launch) (D : va_G) (yy : Nat → ClassId) (A : Nat → Nat) (F : jF) (G : jG) (sz : Nat) (p1 : Int32) (hok : okX12_forecast F G p1) : Met l yX12_forecast (Cond.code yX12_forecast cX12_forecast 3 (some .long) :: wsL_law) rmX12_forecast (va_Pc [.ref (A 99), .int p1] (jP D yy (mW yy A F G) sz)) (va_Ql (fun r (u : jS) => (r, u) = gX12_forecast F G p1) (fun (u : jS) t => jB D yy (va_A (mW yy A F G) sz) (mW yy A u.1 u.2) t) (va_A (mW yy A F G) sz)) 0 0 (va_A (mW yy A F G) sz) := by
  generalize hres : gX12_forecast F G p1 = RES
  refine jM (own := RX12) (by decide) rfl (Nat.le_of_ble_eq_true rfl) ?_
  intro p e s m args below meth c ls Q hQ hargs S hr hlk hinit hB hl
  obtain ⟨hx, hb, hml, hown, hts⟩ := S
  have hl : lv_has ls 3 [(0, .ref (A 99)), (1, .int p1)] := hl
  have hin12 : ∀ w ∈ u_ws RX12 TX12 61, w ∈ (Cond.code yX12_forecast cX12_forecast 3 (some .long) :: wsL_law) := fun w h => List.mem_cons_of_mem _ (inlX12 w h)
  obtain ⟨hsz, hP, hK, hD0⟩ := hB
  subst hsz
  have hD := hD0.self (sz := s.heap.size)
  generalize hZ : va_A (mW yy A F G) s.heap.size = Z at hD hQ
  have hA : ∀ q : Nat, s.heap.size ≤ q → Z q := fun q h => by rw [← hZ]; exact Or.inr h
  obtain ⟨H, hH⟩ : ∃ z, z = s.heap := ⟨_, rfl⟩
  obtain ⟨locs, hlocs⟩ : ∃ z : List Loc, z = [] := ⟨_, rfl⟩
  have hS : va_S Z s.heap H locs := by rw [hH, hlocs]; exact va_S.rf
  rw [← hH] at hP
  suffices hgo : W p l e rmX12_forecast s m args below meth c H locs 0 0 Q (F0 m 0 ls []) by rw [hH, hlocs] at hgo; exact hgo
  unfold gX12_forecast at hres
  unfold okX12_forecast at hok
  refine lv_aload_n hx hb (dd_of dX12_forecast_0 0 rfl) rfl (lv_at hl 0 rfl) ?_
  refine lv_iload_n hx hb (dd_of dX12_forecast_0 1 rfl) rfl (lv_at hl 1 rfl) ?_
  refine lv_iconst (v := 1) hx hb (dd_of dX12_forecast_0 2 rfl) (by decide) ?_
  refine lv_bipush (v := 48) hx hb (dd_of dX12_forecast_0 3 rfl) (by decide) ?_
  refine jc_si (As := [.int p1, .int 1, .int 48]) (rest := [.ref (A 99)]) ⟨hx, hb, hml, hown, hts⟩ (qX12_in l p1 1 48 ) (cwS 3 hts (jgS gw591 gw592 gw5 gw593) rfl rfl rfl (by decide +kernel) ⟨Nat.le_of_ble_eq_true rfl, Nat.le_of_ble_eq_true rfl⟩) rfl hl.1 rfl (Nat.le_of_ble_eq_true rfl) (dd_of dX12_forecast_0 4 rfl) ⟨Nat.zero_le _, Nat.zero_le _⟩ (fun x1 ex1 => ?_)
  replace hres := bvE ex1 hres
  replace hok := bvO ex1 hok
  obtain ⟨z12, q11⟩ : ∃ z : Int32, (if x1 = 0 then 1 else 0) = z := ⟨_, rfl⟩
  refine jn_i (ls := ls) (v := z12) 16 [.ref (A 99)] (fun v3 ev3 => ?_) (fun K13 => ?_)
  · replace hres := bvE (ev3.trans q11.symm) hres
    replace hok := bvO (ev3.trans q11.symm) hok
    refine va_put (D := D) (cl := vwCl) (tys := jT yy) (ci := 12) (v := .int v3) (ty := .int) (C := RX12) (T := TX12) (N := 61) hx hb hts hin12 tyX12 tyX12_ok nmX12 hown hK hP hD hS 0 rfl rfl 60 (by decide) (jw hts gw590) (fun _ h9 => h9) rfl (by decide +kernel) rfl rfl (Nat.le_of_ble_eq_true rfl) (dd_of dX12_forecast_0 9 rfl) (fun H locs hP hD hS => ?_)
    obtain ⟨F4, e5⟩ : ∃ z : jF, z = u2 F 60 0 v3 := ⟨_, rfl⟩
    have hP : va_P D vwCl (mW yy A F4 G) H := by rw [e5]; exact hP
    have hD : va_D Z (mW yy A F4 G) := by rw [e5]; exact hD
    replace hres := bvE e5 hres
    replace hok := bvO e5 hok
    refine lv_aload_n hx hb (dd_of dX12_forecast_0 10 rfl) rfl (lv_at hl 0 rfl) ?_
    refine va_get (D := D) (cl := vwCl) (tys := jT yy) (ci := 12) (v := .int (F4 60 0)) (C := RX12) (T := TX12) (N := 61) hx hb hts hin12 hown hK hP 0 rfl rfl 60 (by decide) (jw hts gw590) (fun _ h9 => h9) rfl (dd_of dX12_forecast_0 11 rfl) ?_
    refine lv_if_le (tgt := 28) hx hb (dd_of dX12_forecast_0 12 rfl) (by decide) (fun c6 => ?_) (fun c6 => ?_)
    · replace hres := ifE c6 hres
      replace hok := hok.1 c6
      refine lv_bipush (v := 75) hx hb (dd_of dX12_forecast_0 15 rfl) (by decide) ?_
      refine lv_aload_n hx hb (dd_of dX12_forecast_0 16 rfl) rfl (lv_at hl 0 rfl) ?_
      refine va_get (D := D) (cl := vwCl) (tys := jT yy) (ci := 12) (v := .int (F4 0 0)) (C := RX12) (T := TX12) (N := 61) hx hb hts hin12 hown hK hP 0 rfl rfl 0 (by decide) (jw hts gw785) (fun _ h9 => h9) rfl (dd_of dX12_forecast_0 17 rfl) ?_
      refine lv_imul hx hb (dd_of dX12_forecast_0 18 rfl) ?_
      refine lv_sipush (v := 1009) hx hb (dd_of dX12_forecast_0 19 rfl) (by decide) ?_
      refine lv_iload_n hx hb (dd_of dX12_forecast_0 20 rfl) rfl (lv_at hl 1 rfl) ?_
      refine lv_imul hx hb (dd_of dX12_forecast_0 21 rfl) ?_
      refine lv_iadd hx hb (dd_of dX12_forecast_0 22 rfl) ?_
      refine lv_aload_n hx hb (dd_of dX12_forecast_0 23 rfl) rfl (lv_at hl 0 rfl) ?_
      refine va_get (D := D) (cl := vwCl) (tys := jT yy) (ci := 12) (v := .int (F4 4 0)) (C := RX12) (T := TX12) (N := 61) hx hb hts hin12 hown hK hP 0 rfl rfl 4 (by decide) (jw hts gw123) (fun _ h9 => h9) rfl (dd_of dX12_forecast_0 24 rfl) ?_
      refine lv_iadd hx hb (dd_of dX12_forecast_0 25 rfl) ?_
      refine lv_ldcw (v := 65537) hx hb hown (jw hts gw1120) (dd_of dX12_forecast_0 26 rfl) ?_
      refine lv_irem hx hb (dd_of dX12_forecast_0 27 rfl) (by decide) ?_
      refine lv_topi (fun x7 ex7 => ?_)
      replace hres := bvE ex7 hres
      replace hok := bvO ex7 hok
      refine lv_istore_n (lv' := [(2, .int x7), (0, .ref (A 99)), (1, .int p1)]) hx hb (dd_of dX12_forecast_0 28 rfl) rfl hl (by decide) rfl (fun ls hl => ?_)
      refine lv_aload_n hx hb (dd_of dX12_forecast_0 29 rfl) rfl (lv_at hl 1 rfl) ?_
      refine lv_aload_n hx hb (dd_of dX12_forecast_0 30 rfl) rfl (lv_at hl 1 rfl) ?_
      refine va_get (D := D) (cl := vwCl) (tys := jT yy) (ci := 12) (v := .int (F4 0 0)) (C := RX12) (T := TX12) (N := 61) hx hb hts hin12 hown hK hP 0 rfl rfl 0 (by decide) (jw hts gw785) (fun _ h9 => h9) rfl (dd_of dX12_forecast_0 31 rfl) ?_
      refine lv_iload_n hx hb (dd_of dX12_forecast_0 32 rfl) rfl (lv_at hl 2 rfl) ?_
      refine lv_iadd hx hb (dd_of dX12_forecast_0 33 rfl) ?_
      have h8 := hok.1
      replace hok := hok.2
      refine jc_l (As := [.int ((F4 0 0) + p1)]) (rest := []) (w := (mW yy A F4 G)) (D := D) (yy := yy) ⟨hx, hb, hml, hown, hts⟩ (qX12_seaAt l D yy A F4 G ((F4 0 0) + p1) h8) (cwV 1 hts (jgV gw787 gw788 gw789 gw5 gw790) rfl rfl rfl (by decide +kernel) ⟨Nat.le_of_ble_eq_true rfl, Nat.le_of_ble_eq_true rfl⟩) hP hK (va_recv hK hP (ci := 12) (q0 := 0) rfl rfl) rfl hl.1 rfl (Nat.le_of_ble_eq_true rfl) (dd_of dX12_forecast_0 34 rfl) ⟨Nat.zero_le _, Nat.zero_le _⟩ (fun x9 ex9 => ?_)
      replace hres := bvE ex9 hres
      replace hok := bvO ex9 hok
      refine lv_ldc2 (v := 10) hx hb hown (jw hts gw875) (dd_of dX12_forecast_0 35 rfl) ?_
      refine lv_iload_n hx hb (dd_of dX12_forecast_0 36 rfl) rfl (lv_at hl 0 rfl) ?_
      refine lv_iconst (v := 2) hx hb (dd_of dX12_forecast_0 37 rfl) (by decide) ?_
      refine lv_iload_n hx hb (dd_of dX12_forecast_0 38 rfl) rfl (lv_at hl 2 rfl) ?_
      refine lv_imul hx hb (dd_of dX12_forecast_0 39 rfl) ?_
      refine lv_iconst (v := 1) hx hb (dd_of dX12_forecast_1 0 rfl) (by decide) ?_
      refine lv_iadd hx hb (dd_of dX12_forecast_1 1 rfl) ?_
      have h10 := hok
      refine lv_irem hx hb (dd_of dX12_forecast_1 2 rfl) h10 ?_
      refine lv_iload_n hx hb (dd_of dX12_forecast_1 3 rfl) rfl (lv_at hl 2 rfl) ?_
      refine lv_isub hx hb (dd_of dX12_forecast_1 4 rfl) ?_
      refine lv_i2l (v := (Int32.toInt64 ((x7 - x7 / ((2 * p1) + 1) * ((2 * p1) + 1)) - p1))) hx hb (dd_of dX12_forecast_1 5 rfl) rfl ?_
      refine lv_lmul hx hb (dd_of dX12_forecast_1 6 rfl) ?_
      refine lv_ladd hx hb (dd_of dX12_forecast_1 7 rfl) ?_
      subst hQ
      exact W.lret (v := (x9 + (10 * (Int32.toInt64 ((x7 - x7 / ((2 * p1) + 1) * ((2 * p1) + 1)) - p1))))) hx hb hr (fun t ht hW => ⟨⟨(x9 + (10 * (Int32.toInt64 ((x7 - x7 / ((2 * p1) + 1) * ((2 * p1) + 1)) - p1)))), (F4, G), rfl, hres, by rw [ht]; exact hP, va_K.moved hW.alike hK, hD⟩, hS.F ht⟩) hS.2.2 (dd_of dX12_forecast_1 8 rfl) hlk
    · replace hres := ifN c6 hres
      refine lv_lconst (v := 0) hx hb (dd_of dX12_forecast_0 13 rfl) (by decide) ?_
      subst hQ
      exact W.lret (v := 0) hx hb hr (fun t ht hW => ⟨⟨0, (F4, G), rfl, hres, by rw [ht]; exact hP, va_K.moved hW.alike hK, hD⟩, hS.F ht⟩) hS.2.2 (dd_of dX12_forecast_0 14 rfl) hlk
  · skip
    refine lv_if_eq (tgt := 15) hx hb (dd_of dX12_forecast_0 5 rfl) (by decide) (fun c2 => ?_) (fun c2 => ?_)
    · replace q11 := ifE c2 q11
      refine lv_iconst (v := 1) hx hb (dd_of dX12_forecast_0 8 rfl) (by decide) ?_
      exact K13 _ q11
    · replace q11 := ifN c2 q11
      refine lv_iconst (v := 0) hx hb (dd_of dX12_forecast_0 6 rfl) (by decide) ?_
      refine lv_goto (tgt := 16) hx hb (dd_of dX12_forecast_0 7 rfl) (by decide) ?_
      exact K13 _ q11
set_option maxHeartbeats 4000000 in
set_option maxRecDepth 100000 in
theorem qX12_record (l : Launch) (D : va_G) (yy : Nat → ClassId) (A : Nat → Nat) (F : jF) (G : jG) (sz : Nat) (p1 : Int32) (hok : okX12_record F G p1) : Met l yX12_record (Cond.code yX12_record cX12_record 2 (some .long) :: wsL_law) rmX12_record (va_Pc [.ref (A 99), .int p1] (jP D yy (mW yy A F G) sz)) (va_Ql (fun r (u : jS) => (r, u) = gX12_record F G p1) (fun (u : jS) t => jB D yy (va_A (mW yy A F G) sz) (mW yy A u.1 u.2) t) (va_A (mW yy A F G) sz)) 0 0 (va_A (mW yy A F G) sz) := by
  generalize hres : gX12_record F G p1 = RES
  refine jM (own := RX12) (by decide) rfl (Nat.le_of_ble_eq_true rfl) ?_
  intro p e s m args below meth c ls Q hQ hargs S hr hlk hinit hB hl
  obtain ⟨hx, hb, hml, hown, hts⟩ := S
  have hl : lv_has ls 2 [(0, .ref (A 99)), (1, .int p1)] := hl
  have hin12 : ∀ w ∈ u_ws RX12 TX12 61, w ∈ (Cond.code yX12_record cX12_record 2 (some .long) :: wsL_law) := fun w h => List.mem_cons_of_mem _ (inlX12 w h)
  obtain ⟨hsz, hP, hK, hD0⟩ := hB
  subst hsz
  have hD := hD0.self (sz := s.heap.size)
  generalize hZ : va_A (mW yy A F G) s.heap.size = Z at hD hQ
  have hA : ∀ q : Nat, s.heap.size ≤ q → Z q := fun q h => by rw [← hZ]; exact Or.inr h
  obtain ⟨H, hH⟩ : ∃ z, z = s.heap := ⟨_, rfl⟩
  obtain ⟨locs, hlocs⟩ : ∃ z : List Loc, z = [] := ⟨_, rfl⟩
  have hS : va_S Z s.heap H locs := by rw [hH, hlocs]; exact va_S.rf
  rw [← hH] at hP
  suffices hgo : W p l e rmX12_record s m args below meth c H locs 0 0 Q (F0 m 0 ls []) by rw [hH, hlocs] at hgo; exact hgo
  unfold gX12_record at hres
  unfold okX12_record at hok
  refine lv_aload_n hx hb (dd_of dX12_record_0 0 rfl) rfl (lv_at hl 0 rfl) ?_
  refine lv_iload_n hx hb (dd_of dX12_record_0 1 rfl) rfl (lv_at hl 1 rfl) ?_
  refine lv_iconst (v := 0) hx hb (dd_of dX12_record_0 2 rfl) (by decide) ?_
  refine lv_aload_n hx hb (dd_of dX12_record_0 3 rfl) rfl (lv_at hl 0 rfl) ?_
  refine va_get (D := D) (cl := vwCl) (tys := jT yy) (ci := 12) (v := .int (F 1 0)) (C := RX12) (T := TX12) (N := 61) hx hb hts hin12 hown hK hP 0 rfl rfl 1 (by decide) (jw hts gw968) (fun _ h9 => h9) rfl (dd_of dX12_record_0 4 rfl) ?_
  refine lv_iconst (v := 1) hx hb (dd_of dX12_record_0 5 rfl) (by decide) ?_
  refine lv_isub hx hb (dd_of dX12_record_0 6 rfl) ?_
  refine jc_si (As := [.int p1, .int 0, .int ((F 1 0) - 1)]) (rest := [.ref (A 99)]) ⟨hx, hb, hml, hown, hts⟩ (qX12_in l p1 0 ((F 1 0) - 1) ) (cwS 3 hts (jgS gw591 gw592 gw5 gw593) rfl rfl rfl (by decide +kernel) ⟨Nat.le_of_ble_eq_true rfl, Nat.le_of_ble_eq_true rfl⟩) rfl hl.1 rfl (Nat.le_of_ble_eq_true rfl) (dd_of dX12_record_0 7 rfl) ⟨Nat.zero_le _, Nat.zero_le _⟩ (fun x1 ex1 => ?_)
  replace hres := bvE ex1 hres
  replace hok := bvO ex1 hok
  obtain ⟨z10, q9⟩ : ∃ z : Int32, (if x1 = 0 then 1 else 0) = z := ⟨_, rfl⟩
  refine jn_i (ls := ls) (v := z10) 20 [.ref (A 99)] (fun v3 ev3 => ?_) (fun K11 => ?_)
  · replace hres := bvE (ev3.trans q9.symm) hres
    replace hok := bvO (ev3.trans q9.symm) hok
    refine va_put (D := D) (cl := vwCl) (tys := jT yy) (ci := 12) (v := .int v3) (ty := .int) (C := RX12) (T := TX12) (N := 61) hx hb hts hin12 tyX12 tyX12_ok nmX12 hown hK hP hD hS 0 rfl rfl 60 (by decide) (jw hts gw590) (fun _ h9 => h9) rfl (by decide +kernel) rfl rfl (Nat.le_of_ble_eq_true rfl) (dd_of dX12_record_0 12 rfl) (fun H locs hP hD hS => ?_)
    obtain ⟨F4, e5⟩ : ∃ z : jF, z = u2 F 60 0 v3 := ⟨_, rfl⟩
    have hP : va_P D vwCl (mW yy A F4 G) H := by rw [e5]; exact hP
    have hD : va_D Z (mW yy A F4 G) := by rw [e5]; exact hD
    replace hres := bvE e5 hres
    replace hok := bvO e5 hok
    refine lv_aload_n hx hb (dd_of dX12_record_0 13 rfl) rfl (lv_at hl 0 rfl) ?_
    refine va_get (D := D) (cl := vwCl) (tys := jT yy) (ci := 12) (v := .int (F4 60 0)) (C := RX12) (T := TX12) (N := 61) hx hb hts hin12 hown hK hP 0 rfl rfl 60 (by decide) (jw hts gw590) (fun _ h9 => h9) rfl (dd_of dX12_record_0 14 rfl) ?_
    obtain ⟨z13, q12⟩ : ∃ z : Int64, (if (F4 60 0) = 0 then (G 57 (Int32.toNatClampNeg p1)) else 0) = z := ⟨_, rfl⟩
    have o15 := hok
    refine jn_l (ls := ls) (v := z13) 40 [] (fun v8 ev8 => ?_) (fun K14 => ?_)
    · replace hres := bvE (ev8.trans q12.symm) hres
      subst hQ
      exact W.lret (v := v8) hx hb hr (fun t ht hW => ⟨⟨v8, (F4, G), rfl, hres, by rw [ht]; exact hP, va_K.moved hW.alike hK, hD⟩, hS.F ht⟩) hS.2.2 (dd_of dX12_record_0 22 rfl) hlk
    · skip
      refine lv_if_ne (tgt := 39) hx hb (dd_of dX12_record_0 15 rfl) (by decide) (fun c6 => ?_) (fun c6 => ?_)
      · replace q12 := ifN c6 q12
        refine lv_lconst (v := 0) hx hb (dd_of dX12_record_0 21 rfl) (by decide) ?_
        exact K14 _ q12
      · replace q12 := ifE c6 q12
        replace o15 := o15.1 c6
        refine lv_aload_n hx hb (dd_of dX12_record_0 16 rfl) rfl (lv_at hl 0 rfl) ?_
        refine va_get (D := D) (cl := vwCl) (tys := jT yy) (ci := 12) (v := .ref (A 57)) (C := RX12) (T := TX12) (N := 61) hx hb hts hin12 hown hK hP 0 rfl rfl 57 (by decide) (jw hts gw167) (fun _ h9 => h9) rfl (dd_of dX12_record_0 17 rfl) ?_
        refine lv_iload_n hx hb (dd_of dX12_record_0 18 rfl) rfl (lv_at hl 1 rfl) ?_
        have h7 := o15
        refine va_lald hx hb hK hP 43 1 rfl rfl h7 (dd_of dX12_record_0 19 rfl) ?_
        refine lv_goto (tgt := 40) hx hb (dd_of dX12_record_0 20 rfl) (by decide) ?_
        exact K14 _ q12
  · skip
    refine lv_if_eq (tgt := 19) hx hb (dd_of dX12_record_0 8 rfl) (by decide) (fun c2 => ?_) (fun c2 => ?_)
    · replace q9 := ifE c2 q9
      refine lv_iconst (v := 1) hx hb (dd_of dX12_record_0 11 rfl) (by decide) ?_
      exact K11 _ q9
    · replace q9 := ifN c2 q9
      refine lv_iconst (v := 0) hx hb (dd_of dX12_record_0 9 rfl) (by decide) ?_
      refine lv_goto (tgt := 20) hx hb (dd_of dX12_record_0 10 rfl) (by decide) ?_
      exact K11 _ q9
set_option maxHeartbeats 4000000 in
set_option maxRecDepth 100000 in
theorem qX12_wholes (l : Launch) (p1 : Int64) : Met l yX12_wholes (Cond.code yX12_wholes cX12_wholes 4 (some .long) :: wsL_law) rmX12_wholes (va_Pc [.long p1] jRn) (vp_Sl (fun r => r = gX12_wholes p1)) 0 0 (fun _ => False) := by
  generalize hres : gX12_wholes p1 = RES
  refine jM (own := RX12) (by decide) rfl (Nat.le_of_ble_eq_true rfl) ?_
  intro p e s m args below meth c ls Q hQ hargs S hr hlk hinit hB hl
  obtain ⟨hx, hb, hml, hown, hts⟩ := S
  have hl : lv_has ls 4 [(0, .long p1)] := hl
  unfold gX12_wholes at hres
  refine lv_lload_n hx hb (dd_of dX12_wholes_0 0 rfl) rfl (lv_at hl 0 rfl) ?_
  refine lv_ldc2 (v := 100) hx hb hown (jw hts gw786) (dd_of dX12_wholes_0 1 rfl) ?_
  refine lv_ldiv hx hb (dd_of dX12_wholes_0 2 rfl) (by decide) ?_
  refine lv_topl (fun x1 ex1 => ?_)
  replace hres := bvE ex1 hres
  refine lv_lstore_n (lv' := [(2, .long x1), (0, .long p1)]) hx hb (dd_of dX12_wholes_0 3 rfl) rfl hl (by decide) rfl (fun ls hl => ?_)
  refine lv_lload_n hx hb (dd_of dX12_wholes_0 4 rfl) rfl (lv_at hl 0 rfl) ?_
  refine lv_ldc2 (v := 100) hx hb hown (jw hts gw786) (dd_of dX12_wholes_0 5 rfl) ?_
  refine lv_lmul hx hb (dd_of dX12_wholes_0 6 rfl) ?_
  refine lv_lload_n hx hb (dd_of dX12_wholes_0 7 rfl) rfl (lv_at hl 1 rfl) ?_
  obtain ⟨z5, q4⟩ : ∃ z : Int64, (if (x1 * 100) ≤ p1 then x1 else (x1 - 1)) = z := ⟨_, rfl⟩
  refine jn_l (ls := ls) (v := z5) 23 [] (fun v3 ev3 => ?_) (fun K6 => ?_)
  · replace hres := bvE (ev3.trans q4.symm) hres
    subst hQ
    exact W.lret (v := v3) hx hb hr (fun t ht _ => ⟨_, rfl, hres, ht⟩) (fun _ h => absurd h List.not_mem_nil) (dd_of dX12_wholes_0 15 rfl) hlk
  · skip
    refine jl_le (tgt := 22) hx hb (dd_of dX12_wholes_0 8 rfl) (dd_of dX12_wholes_0 9 rfl) (by decide) (fun c2 => ?_) (fun c2 => ?_)
    · replace q4 := ifE c2 q4
      refine lv_lload_n hx hb (dd_of dX12_wholes_0 14 rfl) rfl (lv_at hl 0 rfl) ?_
      exact K6 _ q4
    · replace q4 := ifN c2 q4
      refine lv_lload_n hx hb (dd_of dX12_wholes_0 10 rfl) rfl (lv_at hl 0 rfl) ?_
      refine lv_lconst (v := 1) hx hb (dd_of dX12_wholes_0 11 rfl) (by decide) ?_
      refine lv_lsub hx hb (dd_of dX12_wholes_0 12 rfl) ?_
      refine lv_goto (tgt := 23) hx hb (dd_of dX12_wholes_0 13 rfl) (by decide) ?_
      exact K6 _ q4
set_option maxHeartbeats 4000000 in
set_option maxRecDepth 100000 in
theorem qX12_nextHeight (l : Launch) (D : va_G) (yy : Nat → ClassId) (A : Nat → Nat) (F : jF) (G : jG) (sz : Nat) (p1 : Int32) (p2 : Int32) (hok : okX12_nextHeight F G p1 p2) : Met l yX12_nextHeight (Cond.code yX12_nextHeight cX12_nextHeight 9 (some .long) :: wsL_law) rmX12_nextHeight (va_Pc [.ref (A 99), .int p1, .int p2] (jP D yy (mW yy A F G) sz)) (va_Ql (fun r (u : jS) => (r, u) = gX12_nextHeight F G p1 p2) (fun (u : jS) t => jB D yy (va_A (mW yy A F G) sz) (mW yy A u.1 u.2) t) (va_A (mW yy A F G) sz)) 0 0 (va_A (mW yy A F G) sz) := by
  generalize hres : gX12_nextHeight F G p1 p2 = RES
  refine jM (own := RX12) (by decide) rfl (Nat.le_of_ble_eq_true rfl) ?_
  intro p e s m args below meth c ls Q hQ hargs S hr hlk hinit hB hl
  obtain ⟨hx, hb, hml, hown, hts⟩ := S
  have hl : lv_has ls 9 [(0, .ref (A 99)), (1, .int p1), (2, .int p2)] := hl
  have hin12 : ∀ w ∈ u_ws RX12 TX12 61, w ∈ (Cond.code yX12_nextHeight cX12_nextHeight 9 (some .long) :: wsL_law) := fun w h => List.mem_cons_of_mem _ (inlX12 w h)
  obtain ⟨hsz, hP, hK, hD0⟩ := hB
  subst hsz
  have hD := hD0.self (sz := s.heap.size)
  generalize hZ : va_A (mW yy A F G) s.heap.size = Z at hD hQ
  have hA : ∀ q : Nat, s.heap.size ≤ q → Z q := fun q h => by rw [← hZ]; exact Or.inr h
  obtain ⟨H, hH⟩ : ∃ z, z = s.heap := ⟨_, rfl⟩
  obtain ⟨locs, hlocs⟩ : ∃ z : List Loc, z = [] := ⟨_, rfl⟩
  have hS : va_S Z s.heap H locs := by rw [hH, hlocs]; exact va_S.rf
  rw [← hH] at hP
  suffices hgo : W p l e rmX12_nextHeight s m args below meth c H locs 0 0 Q (F0 m 0 ls []) by rw [hH, hlocs] at hgo; exact hgo
  unfold gX12_nextHeight at hres
  unfold okX12_nextHeight at hok
  refine lv_aload_n hx hb (dd_of dX12_nextHeight_0 0 rfl) rfl (lv_at hl 0 rfl) ?_
  refine lv_iload_n hx hb (dd_of dX12_nextHeight_0 1 rfl) rfl (lv_at hl 1 rfl) ?_
  refine lv_iconst (v := 1) hx hb (dd_of dX12_nextHeight_0 2 rfl) (by decide) ?_
  refine lv_bipush (v := 20) hx hb (dd_of dX12_nextHeight_0 3 rfl) (by decide) ?_
  refine jc_si (As := [.int p1, .int 1, .int 20]) (rest := [.ref (A 99)]) ⟨hx, hb, hml, hown, hts⟩ (qX12_in l p1 1 20 ) (cwS 3 hts (jgS gw591 gw592 gw5 gw593) rfl rfl rfl (by decide +kernel) ⟨Nat.le_of_ble_eq_true rfl, Nat.le_of_ble_eq_true rfl⟩) rfl hl.1 rfl (Nat.le_of_ble_eq_true rfl) (dd_of dX12_nextHeight_0 4 rfl) ⟨Nat.zero_le _, Nat.zero_le _⟩ (fun x1 ex1 => ?_)
  replace hres := bvE ex1 hres
  replace hok := bvO ex1 hok
  obtain ⟨z41, q40⟩ : ∃ z : Int32, (if x1 = 0 then 1 else bv (gX12_in p2 1 p1) (fun x3 : Int32 => (if x3 = 0 then 1 else (if p1 ≤ (F 1 0) then 0 else 2)))) = z := ⟨_, rfl⟩
  refine jn_i (ls := ls) (v := z41) 37 [.ref (A 99)] (fun v6 ev6 => ?_) (fun K42 => ?_)
  · replace hres := bvE (ev6.trans q40.symm) hres
    replace hok := bvO (ev6.trans q40.symm) hok
    refine va_put (D := D) (cl := vwCl) (tys := jT yy) (ci := 12) (v := .int v6) (ty := .int) (C := RX12) (T := TX12) (N := 61) hx hb hts hin12 tyX12 tyX12_ok nmX12 hown hK hP hD hS 0 rfl rfl 60 (by decide) (jw hts gw590) (fun _ h9 => h9) rfl (by decide +kernel) rfl rfl (Nat.le_of_ble_eq_true rfl) (dd_of dX12_nextHeight_0 20 rfl) (fun H locs hP hD hS => ?_)
    obtain ⟨F7, e8⟩ : ∃ z : jF, z = u2 F 60 0 v6 := ⟨_, rfl⟩
    have hP : va_P D vwCl (mW yy A F7 G) H := by rw [e8]; exact hP
    have hD : va_D Z (mW yy A F7 G) := by rw [e8]; exact hD
    replace hres := bvE e8 hres
    replace hok := bvO e8 hok
    refine lv_aload_n hx hb (dd_of dX12_nextHeight_0 21 rfl) rfl (lv_at hl 0 rfl) ?_
    refine va_get (D := D) (cl := vwCl) (tys := jT yy) (ci := 12) (v := .int (F7 60 0)) (C := RX12) (T := TX12) (N := 61) hx hb hts hin12 hown hK hP 0 rfl rfl 60 (by decide) (jw hts gw590) (fun _ h9 => h9) rfl (dd_of dX12_nextHeight_0 22 rfl) ?_
    refine lv_if_le (tgt := 49) hx hb (dd_of dX12_nextHeight_0 23 rfl) (by decide) (fun c9 => ?_) (fun c9 => ?_)
    · replace hres := ifE c9 hres
      replace hok := hok.1 c9
      refine lv_ldc2 (v := (-9223372036854775808)) hx hb hown (jw hts gw168) (dd_of dX12_nextHeight_0 26 rfl) ?_
      refine lv_lstore_n (lv' := [(3, .long (-9223372036854775808)), (0, .ref (A 99)), (1, .int p1), (2, .int p2)]) hx hb (dd_of dX12_nextHeight_0 27 rfl) rfl hl (by decide) rfl (fun ls hl => ?_)
      refine lv_aload_n hx hb (dd_of dX12_nextHeight_0 28 rfl) rfl (lv_at hl 1 rfl) ?_
      refine va_get (D := D) (cl := vwCl) (tys := jT yy) (ci := 12) (v := .int (F7 1 0)) (C := RX12) (T := TX12) (N := 61) hx hb hts hin12 hown hK hP 0 rfl rfl 1 (by decide) (jw hts gw968) (fun _ h9 => h9) rfl (dd_of dX12_nextHeight_0 29 rfl) ?_
      refine lv_iload_n hx hb (dd_of dX12_nextHeight_0 30 rfl) rfl (lv_at hl 2 rfl) ?_
      refine lv_isub hx hb (dd_of dX12_nextHeight_0 31 rfl) ?_
      refine lv_topi (fun x10 ex10 => ?_)
      replace hres := bvE ex10 hres
      replace hok := bvO ex10 hok
      refine lv_istore (lv' := [(5, .int x10), (3, .long (-9223372036854775808)), (0, .ref (A 99)), (1, .int p1), (2, .int p2)]) hx hb (dd_of dX12_nextHeight_0 32 rfl) hl (by decide) rfl (fun ls hl => ?_)
      have LP61 : ∀ (f1 : Int32) (f2 : Int32), ∀ (K : Int32 → Int64 → (Int64 × jS)) (okK : Int32 → Int64 → Prop) (n : Nat), ∀ (v5 : Int32) (v3 : Int64), ∀ (ls : Array Slot), lv_has ls 9 [(5, .int v5), (3, .long v3), (0, .ref (A 99)), (1, .int f1), (2, .int f2)] → okX12_nextHeight_L61 F7 G f1 f2 okK n v5 v3 → gX12_nextHeight_L61 F7 G f1 f2 K n v5 v3 = RES → (∀ (v5 : Int32) (v3 : Int64), ∀ (ls : Array Slot), lv_has ls 9 [(5, .int v5), (3, .long v3), (0, .ref (A 99)), (1, .int f1), (2, .int f2)] → okK v5 v3 → K v5 v3 = RES → W p l e rmX12_nextHeight s m args below meth c H locs 0 0 Q (F0 m 188 ls [])) → W p l e rmX12_nextHeight s m args below meth c H locs 0 0 Q (F0 m 61 ls []) := by
        intro f1 f2 K okK n
        induction n with
        | zero =>
          intro v5 v3 ls hl hok _ _
          exact absurd hok (by unfold okX12_nextHeight_L61; exact id)
        | succ n9 ih =>
          intro v5 v3 ls hl hok hres hexit
          unfold gX12_nextHeight_L61 at hres
          unfold okX12_nextHeight_L61 at hok
          refine lv_iload hx hb (dd_of dX12_nextHeight_0 33 rfl) (lv_at hl 0 rfl) ?_
          refine lv_aload_n hx hb (dd_of dX12_nextHeight_0 34 rfl) rfl (lv_at hl 2 rfl) ?_
          refine va_get (D := D) (cl := vwCl) (tys := jT yy) (ci := 12) (v := .int (F7 1 0)) (C := RX12) (T := TX12) (N := 61) hx hb hts hin12 hown hK hP 0 rfl rfl 1 (by decide) (jw hts gw968) (fun _ h9 => h9) rfl (dd_of dX12_nextHeight_0 35 rfl) ?_
          refine lv_icmp_ge (tgt := 188) hx hb (dd_of dX12_nextHeight_0 36 rfl) (by decide) (fun c11 => ?_) (fun c11 => ?_)
          · replace hres := ifE c11 hres
            replace hok := hok.1 c11
            exact hexit v5 v3 ls (lv_sub hl [0, 1, 2, 3, 4] rfl) hok hres
          · replace hres := ifN c11 hres
            replace hok := hok.2 c11
            refine lv_iconst (v := 0) hx hb (dd_of dX12_nextHeight_0 37 rfl) (by decide) ?_
            refine lv_istore (lv' := [(6, .int 0), (5, .int v5), (3, .long v3), (0, .ref (A 99)), (1, .int f1), (2, .int f2)]) hx hb (dd_of dX12_nextHeight_0 38 rfl) hl (by decide) rfl (fun ls hl => ?_)
            refine lv_iconst (v := 0) hx hb (dd_of dX12_nextHeight_0 39 rfl) (by decide) ?_
            refine lv_istore (lv' := [(7, .int 0), (6, .int 0), (5, .int v5), (3, .long v3), (0, .ref (A 99)), (1, .int f1), (2, .int f2)]) hx hb (dd_of dX12_nextHeight_1 0 rfl) hl (by decide) rfl (fun ls hl => ?_)
            refine lv_aload_n hx hb (dd_of dX12_nextHeight_1 1 rfl) rfl (lv_at hl 4 rfl) ?_
            refine va_get (D := D) (cl := vwCl) (tys := jT yy) (ci := 12) (v := .int (F7 1 0)) (C := RX12) (T := TX12) (N := 61) hx hb hts hin12 hown hK hP 0 rfl rfl 1 (by decide) (jw hts gw968) (fun _ h9 => h9) rfl (dd_of dX12_nextHeight_1 2 rfl) ?_
            refine lv_iload_n hx hb (dd_of dX12_nextHeight_1 3 rfl) rfl (lv_at hl 5 rfl) ?_
            refine lv_isub hx hb (dd_of dX12_nextHeight_1 4 rfl) ?_
            refine lv_topi (fun x12 ex12 => ?_)
            replace hres := bvE ex12 hres
            replace hok := bvO ex12 hok
            refine lv_istore (lv' := [(8, .int x12), (7, .int 0), (6, .int 0), (5, .int v5), (3, .long v3), (0, .ref (A 99)), (1, .int f1), (2, .int f2)]) hx hb (dd_of dX12_nextHeight_1 5 rfl) hl (by decide) rfl (fun ls hl => ?_)
            have LP84 : ∀ (f5 : Int32) (f3 : Int64) (f1 : Int32) (f2 : Int32), ∀ (K : Int32 → Int32 → Int32 → (Int64 × jS)) (okK : Int32 → Int32 → Int32 → Prop) (n : Nat), ∀ (v8 : Int32) (v7 : Int32) (v6 : Int32), ∀ (ls : Array Slot), lv_has ls 9 [(8, .int v8), (7, .int v7), (6, .int v6), (5, .int f5), (3, .long f3), (0, .ref (A 99)), (1, .int f1), (2, .int f2)] → okX12_nextHeight_L84 F7 G f5 f3 f1 f2 okK n v8 v7 v6 → gX12_nextHeight_L84 F7 G f5 f3 f1 f2 K n v8 v7 v6 = RES → (∀ (v8 : Int32) (v7 : Int32) (v6 : Int32), ∀ (ls : Array Slot), lv_has ls 9 [(8, .int v8), (7, .int v7), (6, .int v6), (5, .int f5), (3, .long f3), (0, .ref (A 99)), (1, .int f1), (2, .int f2)] → okK v8 v7 v6 → K v8 v7 v6 = RES → W p l e rmX12_nextHeight s m args below meth c H locs 0 0 Q (F0 m 155 ls [])) → W p l e rmX12_nextHeight s m args below meth c H locs 0 0 Q (F0 m 84 ls []) := by
              intro f5 f3 f1 f2 K okK n
              induction n with
              | zero =>
                intro v8 v7 v6 ls hl hok _ _
                exact absurd hok (by unfold okX12_nextHeight_L84; exact id)
              | succ n9 ih =>
                intro v8 v7 v6 ls hl hok hres hexit
                unfold gX12_nextHeight_L84 at hres
                unfold okX12_nextHeight_L84 at hok
                refine lv_iload hx hb (dd_of dX12_nextHeight_1 6 rfl) (lv_at hl 0 rfl) ?_
                refine lv_aload_n hx hb (dd_of dX12_nextHeight_1 7 rfl) rfl (lv_at hl 5 rfl) ?_
                refine va_get (D := D) (cl := vwCl) (tys := jT yy) (ci := 12) (v := .int (F7 1 0)) (C := RX12) (T := TX12) (N := 61) hx hb hts hin12 hown hK hP 0 rfl rfl 1 (by decide) (jw hts gw968) (fun _ h9 => h9) rfl (dd_of dX12_nextHeight_1 8 rfl) ?_
                refine lv_icmp_ge (tgt := 155) hx hb (dd_of dX12_nextHeight_1 9 rfl) (by decide) (fun c13 => ?_) (fun c13 => ?_)
                · replace hres := ifE c13 hres
                  replace hok := hok.1 c13
                  exact hexit v8 v7 v6 ls (lv_sub hl [0, 1, 2, 3, 4, 5, 6, 7] rfl) hok hres
                · replace hres := ifN c13 hres
                  replace hok := hok.2 c13
                  refine lv_iload hx hb (dd_of dX12_nextHeight_1 10 rfl) (lv_at hl 2 rfl) ?_
                  refine lv_aload_n hx hb (dd_of dX12_nextHeight_1 11 rfl) rfl (lv_at hl 5 rfl) ?_
                  refine va_get (D := D) (cl := vwCl) (tys := jT yy) (ci := 12) (v := .ref (A 57)) (C := RX12) (T := TX12) (N := 61) hx hb hts hin12 hown hK hP 0 rfl rfl 57 (by decide) (jw hts gw167) (fun _ h9 => h9) rfl (dd_of dX12_nextHeight_1 12 rfl) ?_
                  refine lv_iload hx hb (dd_of dX12_nextHeight_1 13 rfl) (lv_at hl 0 rfl) ?_
                  have h14 := hok.1
                  replace hok := hok.2
                  refine va_lald hx hb hK hP 43 1 rfl rfl h14 (dd_of dX12_nextHeight_1 14 rfl) ?_
                  refine lv_aload_n hx hb (dd_of dX12_nextHeight_1 15 rfl) rfl (lv_at hl 5 rfl) ?_
                  refine va_get (D := D) (cl := vwCl) (tys := jT yy) (ci := 12) (v := .ref (A 57)) (C := RX12) (T := TX12) (N := 61) hx hb hts hin12 hown hK hP 0 rfl rfl 57 (by decide) (jw hts gw167) (fun _ h9 => h9) rfl (dd_of dX12_nextHeight_1 16 rfl) ?_
                  refine lv_iload hx hb (dd_of dX12_nextHeight_1 17 rfl) (lv_at hl 3 rfl) ?_
                  have h15 := hok.1
                  replace hok := hok.2
                  refine va_lald hx hb hK hP 43 1 rfl rfl h15 (dd_of dX12_nextHeight_1 18 rfl) ?_
                  obtain ⟨z44, q43⟩ : ∃ z : Int32, (if (G 57 (Int32.toNatClampNeg v8)) ≤ (G 57 (Int32.toNatClampNeg f5)) then 0 else 1) = z := ⟨_, rfl⟩
                  refine jn_i (ls := ls) (v := z44) 118 [.int v6] (fun v17 ev17 => ?_) (fun K45 => ?_)
                  · replace hres := bvE (ev17.trans q43.symm) hres
                    replace hok := bvO (ev17.trans q43.symm) hok
                    refine lv_iadd hx hb (dd_of dX12_nextHeight_1 24 rfl) ?_
                    refine lv_topi (fun x18 ex18 => ?_)
                    replace hres := bvE ex18 hres
                    replace hok := bvO ex18 hok
                    refine lv_istore (lv' := [(6, .int x18), (8, .int v8), (7, .int v7), (5, .int f5), (3, .long f3), (0, .ref (A 99)), (1, .int f1), (2, .int f2)]) hx hb (dd_of dX12_nextHeight_1 25 rfl) hl (by decide) rfl (fun ls hl => ?_)
                    refine lv_iload hx hb (dd_of dX12_nextHeight_1 26 rfl) (lv_at hl 2 rfl) ?_
                    refine lv_aload_n hx hb (dd_of dX12_nextHeight_1 27 rfl) rfl (lv_at hl 5 rfl) ?_
                    refine va_get (D := D) (cl := vwCl) (tys := jT yy) (ci := 12) (v := .ref (A 57)) (C := RX12) (T := TX12) (N := 61) hx hb hts hin12 hown hK hP 0 rfl rfl 57 (by decide) (jw hts gw167) (fun _ h9 => h9) rfl (dd_of dX12_nextHeight_1 28 rfl) ?_
                    refine lv_iload hx hb (dd_of dX12_nextHeight_1 29 rfl) (lv_at hl 1 rfl) ?_
                    have h19 := hok.1
                    replace hok := hok.2
                    refine va_lald hx hb hK hP 43 1 rfl rfl h19 (dd_of dX12_nextHeight_1 30 rfl) ?_
                    refine lv_aload_n hx hb (dd_of dX12_nextHeight_1 31 rfl) rfl (lv_at hl 5 rfl) ?_
                    refine va_get (D := D) (cl := vwCl) (tys := jT yy) (ci := 12) (v := .ref (A 57)) (C := RX12) (T := TX12) (N := 61) hx hb hts hin12 hown hK hP 0 rfl rfl 57 (by decide) (jw hts gw167) (fun _ h9 => h9) rfl (dd_of dX12_nextHeight_1 32 rfl) ?_
                    refine lv_iload hx hb (dd_of dX12_nextHeight_1 33 rfl) (lv_at hl 3 rfl) ?_
                    have h20 := hok.1
                    replace hok := hok.2
                    refine va_lald hx hb hK hP 43 1 rfl rfl h20 (dd_of dX12_nextHeight_1 34 rfl) ?_
                    obtain ⟨z47, q46⟩ : ∃ z : Int32, (if (G 57 (Int32.toNatClampNeg v8)) = (G 57 (Int32.toNatClampNeg f5)) then 1 else 0) = z := ⟨_, rfl⟩
                    refine jn_i (ls := ls) (v := z47) 146 [.int v7] (fun v22 ev22 => ?_) (fun K48 => ?_)
                    · replace hres := bvE (ev22.trans q46.symm) hres
                      replace hok := bvO (ev22.trans q46.symm) hok
                      refine lv_iadd hx hb (dd_of dX12_nextHeight_2 0 rfl) ?_
                      refine lv_topi (fun x23 ex23 => ?_)
                      replace hres := bvE ex23 hres
                      replace hok := bvO ex23 hok
                      refine lv_istore (lv' := [(7, .int x23), (6, .int x18), (8, .int v8), (5, .int f5), (3, .long f3), (0, .ref (A 99)), (1, .int f1), (2, .int f2)]) hx hb (dd_of dX12_nextHeight_2 1 rfl) hl (by decide) rfl (fun ls hl => ?_)
                      refine lv_iinc (v := (v8 + 1)) (lv' := [(8, .int (v8 + 1)), (7, .int x23), (6, .int x18), (5, .int f5), (3, .long f3), (0, .ref (A 99)), (1, .int f1), (2, .int f2)]) hx hb (dd_of dX12_nextHeight_2 2 rfl) hl (k := 2) rfl rfl (by decide) rfl (fun ls hl => ?_)
                      refine lv_goto (tgt := 84) hx hb (dd_of dX12_nextHeight_2 3 rfl) (by decide) ?_
                      exact ih (v8 + 1) x23 x18 ls (lv_sub hl [0, 1, 2, 3, 4, 5, 6, 7] rfl) hok hres hexit
                    · skip
                      refine jl_ne (tgt := 145) hx hb (dd_of dX12_nextHeight_1 35 rfl) (dd_of dX12_nextHeight_1 36 rfl) (by decide) (fun c21 => ?_) (fun c21 => ?_)
                      · replace q46 := ifN c21 q46
                        refine lv_iconst (v := 0) hx hb (dd_of dX12_nextHeight_1 39 rfl) (by decide) ?_
                        exact K48 _ q46
                      · replace q46 := ifE c21 q46
                        refine lv_iconst (v := 1) hx hb (dd_of dX12_nextHeight_1 37 rfl) (by decide) ?_
                        refine lv_goto (tgt := 146) hx hb (dd_of dX12_nextHeight_1 38 rfl) (by decide) ?_
                        exact K48 _ q46
                  · skip
                    refine jl_le (tgt := 117) hx hb (dd_of dX12_nextHeight_1 19 rfl) (dd_of dX12_nextHeight_1 20 rfl) (by decide) (fun c16 => ?_) (fun c16 => ?_)
                    · replace q43 := ifE c16 q43
                      refine lv_iconst (v := 0) hx hb (dd_of dX12_nextHeight_1 23 rfl) (by decide) ?_
                      exact K45 _ q43
                    · replace q43 := ifN c16 q43
                      refine lv_iconst (v := 1) hx hb (dd_of dX12_nextHeight_1 21 rfl) (by decide) ?_
                      refine lv_goto (tgt := 118) hx hb (dd_of dX12_nextHeight_1 22 rfl) (by decide) ?_
                      exact K45 _ q43
            refine LP84 v5 v3 f1 f2 _ _ 80 x12 0 0 ls (lv_sub hl [0, 1, 2, 3, 4, 5, 6, 7] rfl) hok hres (fun y24 y25 y26 ls hl hok hres => ?_)
            refine lv_iload hx hb (dd_of dX12_nextHeight_2 4 rfl) (lv_at hl 2 rfl) ?_
            refine lv_iload_n hx hb (dd_of dX12_nextHeight_2 5 rfl) rfl (lv_at hl 7 rfl) ?_
            obtain ⟨z50, q49⟩ : ∃ z : Int64, (if f2 ≤ y26 then v3 else (if (y26 + y25) < f2 then v3 else (G 57 (Int32.toNatClampNeg v5)))) = z := ⟨_, rfl⟩
            have o52 := hok.1
            replace hok := hok.2
            refine jn_l (ls := ls) (v := z50) 181 [] (fun v30 ev30 => ?_) (fun K51 => ?_)
            · replace hres := bvE (ev30.trans q49.symm) hres
              replace hok := bvO (ev30.trans q49.symm) hok
              refine lv_lstore_n (lv' := [(3, .long v30), (8, .int y24), (7, .int y25), (6, .int y26), (5, .int v5), (0, .ref (A 99)), (1, .int f1), (2, .int f2)]) hx hb (dd_of dX12_nextHeight_2 18 rfl) rfl hl (by decide) rfl (fun ls hl => ?_)
              refine lv_iinc (v := (v5 + 1)) (lv' := [(5, .int (v5 + 1)), (3, .long v30), (8, .int y24), (7, .int y25), (6, .int y26), (0, .ref (A 99)), (1, .int f1), (2, .int f2)]) hx hb (dd_of dX12_nextHeight_2 19 rfl) hl (k := 4) rfl rfl (by decide) rfl (fun ls hl => ?_)
              refine lv_goto (tgt := 61) hx hb (dd_of dX12_nextHeight_2 20 rfl) (by decide) ?_
              exact ih (v5 + 1) v30 ls (lv_sub hl [0, 1, 5, 6, 7] rfl) hok hres hexit
            · skip
              refine lv_icmp_ge (tgt := 180) hx hb (dd_of dX12_nextHeight_2 6 rfl) (by decide) (fun c27 => ?_) (fun c27 => ?_)
              · replace q49 := ifE c27 q49
                refine lv_lload_n hx hb (dd_of dX12_nextHeight_2 17 rfl) rfl (lv_at hl 4 rfl) ?_
                exact K51 _ q49
              · replace q49 := ifN c27 q49
                replace o52 := o52.2 c27
                refine lv_iload hx hb (dd_of dX12_nextHeight_2 7 rfl) (lv_at hl 2 rfl) ?_
                refine lv_iload hx hb (dd_of dX12_nextHeight_2 8 rfl) (lv_at hl 1 rfl) ?_
                refine lv_iadd hx hb (dd_of dX12_nextHeight_2 9 rfl) ?_
                refine lv_iload_n hx hb (dd_of dX12_nextHeight_2 10 rfl) rfl (lv_at hl 7 rfl) ?_
                refine lv_icmp_lt (tgt := 180) hx hb (dd_of dX12_nextHeight_2 11 rfl) (by decide) (fun c28 => ?_) (fun c28 => ?_)
                · replace q49 := ifE c28 q49
                  refine lv_lload_n hx hb (dd_of dX12_nextHeight_2 17 rfl) rfl (lv_at hl 4 rfl) ?_
                  exact K51 _ q49
                · replace q49 := ifN c28 q49
                  replace o52 := o52.2 c28
                  refine lv_aload_n hx hb (dd_of dX12_nextHeight_2 12 rfl) rfl (lv_at hl 5 rfl) ?_
                  refine va_get (D := D) (cl := vwCl) (tys := jT yy) (ci := 12) (v := .ref (A 57)) (C := RX12) (T := TX12) (N := 61) hx hb hts hin12 hown hK hP 0 rfl rfl 57 (by decide) (jw hts gw167) (fun _ h9 => h9) rfl (dd_of dX12_nextHeight_2 13 rfl) ?_
                  refine lv_iload hx hb (dd_of dX12_nextHeight_2 14 rfl) (lv_at hl 3 rfl) ?_
                  have h29 := o52
                  refine va_lald hx hb hK hP 43 1 rfl rfl h29 (dd_of dX12_nextHeight_2 15 rfl) ?_
                  refine lv_goto (tgt := 181) hx hb (dd_of dX12_nextHeight_2 16 rfl) (by decide) ?_
                  exact K51 _ q49
      refine LP61 p1 p2 _ _ 80 x10 (-9223372036854775808) ls (lv_sub hl [0, 1, 2, 3, 4] rfl) hok hres (fun y31 y32 ls hl hok hres => ?_)
      refine lv_aload_n hx hb (dd_of dX12_nextHeight_2 21 rfl) rfl (lv_at hl 2 rfl) ?_
      refine lv_lload_n hx hb (dd_of dX12_nextHeight_2 22 rfl) rfl (lv_at hl 1 rfl) ?_
      refine lv_ldc2 (v := (-9223372036854775808)) hx hb hown (jw hts gw168) (dd_of dX12_nextHeight_2 23 rfl) ?_
      obtain ⟨z54, q53⟩ : ∃ z : Int32, (if y32 = (-9223372036854775808) then 2 else 0) = z := ⟨_, rfl⟩
      refine jn_i (ls := ls) (v := z54) 202 [.ref (A 99)] (fun v34 ev34 => ?_) (fun K55 => ?_)
      · replace hres := bvE (ev34.trans q53.symm) hres
        refine va_put (D := D) (cl := vwCl) (tys := jT yy) (ci := 12) (v := .int v34) (ty := .int) (C := RX12) (T := TX12) (N := 61) hx hb hts hin12 tyX12 tyX12_ok nmX12 hown hK hP hD hS 0 rfl rfl 60 (by decide) (jw hts gw590) (fun _ h9 => h9) rfl (by decide +kernel) rfl rfl (Nat.le_of_ble_eq_true rfl) (dd_of dX12_nextHeight_2 29 rfl) (fun H locs hP hD hS => ?_)
        obtain ⟨F35, e36⟩ : ∃ z : jF, z = u2 F7 60 0 v34 := ⟨_, rfl⟩
        have hP : va_P D vwCl (mW yy A F35 G) H := by rw [e36]; exact hP
        have hD : va_D Z (mW yy A F35 G) := by rw [e36]; exact hD
        replace hres := bvE e36 hres
        refine lv_aload_n hx hb (dd_of dX12_nextHeight_2 30 rfl) rfl (lv_at hl 2 rfl) ?_
        refine va_get (D := D) (cl := vwCl) (tys := jT yy) (ci := 12) (v := .int (F35 60 0)) (C := RX12) (T := TX12) (N := 61) hx hb hts hin12 hown hK hP 0 rfl rfl 60 (by decide) (jw hts gw590) (fun _ h9 => h9) rfl (dd_of dX12_nextHeight_2 31 rfl) ?_
        obtain ⟨z57, q56⟩ : ∃ z : Int64, (if (F35 60 0) ≤ 0 then bv (gX12_wholes (-y32)) (fun x38 : Int64 => (50 - x38)) else 0) = z := ⟨_, rfl⟩
        refine jn_l (ls := ls) (v := z57) 225 [] (fun v39 ev39 => ?_) (fun K58 => ?_)
        · replace hres := bvE (ev39.trans q56.symm) hres
          subst hQ
          exact W.lret (v := v39) hx hb hr (fun t ht hW => ⟨⟨v39, (F35, G), rfl, hres, by rw [ht]; exact hP, va_K.moved hW.alike hK, hD⟩, hS.F ht⟩) hS.2.2 (dd_of dX12_nextHeight_3 0 rfl) hlk
        · skip
          refine lv_if_le (tgt := 216) hx hb (dd_of dX12_nextHeight_2 32 rfl) (by decide) (fun c37 => ?_) (fun c37 => ?_)
          · replace q56 := ifE c37 q56
            refine lv_ldc2 (v := 50) hx hb hown (jw hts gw921) (dd_of dX12_nextHeight_2 35 rfl) ?_
            refine lv_lload_n hx hb (dd_of dX12_nextHeight_2 36 rfl) rfl (lv_at hl 1 rfl) ?_
            refine lv_lneg hx hb (dd_of dX12_nextHeight_2 37 rfl) ?_
            refine jc_sl (As := [.long (-y32)]) (rest := [.long 50]) ⟨hx, hb, hml, hown, hts⟩ (qX12_wholes l (-y32) ) (cwS 1 hts (jgS gw1163 gw1164 gw5 gw1165) rfl rfl rfl (by decide +kernel) ⟨Nat.le_of_ble_eq_true rfl, Nat.le_of_ble_eq_true rfl⟩) rfl hl.1 rfl (Nat.le_of_ble_eq_true rfl) (dd_of dX12_nextHeight_2 38 rfl) ⟨Nat.zero_le _, Nat.zero_le _⟩ (fun x38 ex38 => ?_)
            replace q56 := bvE ex38 q56
            refine lv_lsub hx hb (dd_of dX12_nextHeight_2 39 rfl) ?_
            exact K58 _ q56
          · replace q56 := ifN c37 q56
            refine lv_lconst (v := 0) hx hb (dd_of dX12_nextHeight_2 33 rfl) (by decide) ?_
            refine lv_goto (tgt := 225) hx hb (dd_of dX12_nextHeight_2 34 rfl) (by decide) ?_
            exact K58 _ q56
      · skip
        refine jl_ne (tgt := 201) hx hb (dd_of dX12_nextHeight_2 24 rfl) (dd_of dX12_nextHeight_2 25 rfl) (by decide) (fun c33 => ?_) (fun c33 => ?_)
        · replace q53 := ifN c33 q53
          refine lv_iconst (v := 0) hx hb (dd_of dX12_nextHeight_2 28 rfl) (by decide) ?_
          exact K55 _ q53
        · replace q53 := ifE c33 q53
          refine lv_iconst (v := 2) hx hb (dd_of dX12_nextHeight_2 26 rfl) (by decide) ?_
          refine lv_goto (tgt := 202) hx hb (dd_of dX12_nextHeight_2 27 rfl) (by decide) ?_
          exact K55 _ q53
    · replace hres := ifN c9 hres
      refine lv_lconst (v := 0) hx hb (dd_of dX12_nextHeight_0 24 rfl) (by decide) ?_
      subst hQ
      exact W.lret (v := 0) hx hb hr (fun t ht hW => ⟨⟨0, (F7, G), rfl, hres, by rw [ht]; exact hP, va_K.moved hW.alike hK, hD⟩, hS.F ht⟩) hS.2.2 (dd_of dX12_nextHeight_0 25 rfl) hlk
  · skip
    refine lv_if_eq (tgt := 20) hx hb (dd_of dX12_nextHeight_0 5 rfl) (by decide) (fun c2 => ?_) (fun c2 => ?_)
    · replace q40 := ifE c2 q40
      refine lv_iconst (v := 1) hx hb (dd_of dX12_nextHeight_0 11 rfl) (by decide) ?_
      refine lv_goto (tgt := 37) hx hb (dd_of dX12_nextHeight_0 12 rfl) (by decide) ?_
      exact K42 _ q40
    · replace q40 := ifN c2 q40
      refine lv_iload_n hx hb (dd_of dX12_nextHeight_0 6 rfl) rfl (lv_at hl 2 rfl) ?_
      refine lv_iconst (v := 1) hx hb (dd_of dX12_nextHeight_0 7 rfl) (by decide) ?_
      refine lv_iload_n hx hb (dd_of dX12_nextHeight_0 8 rfl) rfl (lv_at hl 1 rfl) ?_
      refine jc_si (As := [.int p2, .int 1, .int p1]) (rest := [.ref (A 99)]) ⟨hx, hb, hml, hown, hts⟩ (qX12_in l p2 1 p1 ) (cwS 3 hts (jgS gw591 gw592 gw5 gw593) rfl rfl rfl (by decide +kernel) ⟨Nat.le_of_ble_eq_true rfl, Nat.le_of_ble_eq_true rfl⟩) rfl hl.1 rfl (Nat.le_of_ble_eq_true rfl) (dd_of dX12_nextHeight_0 9 rfl) ⟨Nat.zero_le _, Nat.zero_le _⟩ (fun x3 ex3 => ?_)
      replace q40 := bvE ex3 q40
      refine lv_if_ne (tgt := 24) hx hb (dd_of dX12_nextHeight_0 10 rfl) (by decide) (fun c4 => ?_) (fun c4 => ?_)
      · replace q40 := ifN c4 q40
        refine lv_iload_n hx hb (dd_of dX12_nextHeight_0 13 rfl) rfl (lv_at hl 1 rfl) ?_
        refine lv_aload_n hx hb (dd_of dX12_nextHeight_0 14 rfl) rfl (lv_at hl 0 rfl) ?_
        refine va_get (D := D) (cl := vwCl) (tys := jT yy) (ci := 12) (v := .int (F 1 0)) (C := RX12) (T := TX12) (N := 61) hx hb hts hin12 hown hK hP 0 rfl rfl 1 (by decide) (jw hts gw968) (fun _ h9 => h9) rfl (dd_of dX12_nextHeight_0 15 rfl) ?_
        refine lv_icmp_le (tgt := 36) hx hb (dd_of dX12_nextHeight_0 16 rfl) (by decide) (fun c5 => ?_) (fun c5 => ?_)
        · replace q40 := ifE c5 q40
          refine lv_iconst (v := 0) hx hb (dd_of dX12_nextHeight_0 19 rfl) (by decide) ?_
          exact K42 _ q40
        · replace q40 := ifN c5 q40
          refine lv_iconst (v := 2) hx hb (dd_of dX12_nextHeight_0 17 rfl) (by decide) ?_
          refine lv_goto (tgt := 37) hx hb (dd_of dX12_nextHeight_0 18 rfl) (by decide) ?_
          exact K42 _ q40
      · replace q40 := ifE c4 q40
        refine lv_iconst (v := 1) hx hb (dd_of dX12_nextHeight_0 11 rfl) (by decide) ?_
        refine lv_goto (tgt := 37) hx hb (dd_of dX12_nextHeight_0 12 rfl) (by decide) ?_
        exact K42 _ q40
set_option maxHeartbeats 4000000 in
set_option maxRecDepth 100000 in
theorem qX12_heightOf (l : Launch) (D : va_G) (yy : Nat → ClassId) (A : Nat → Nat) (F : jF) (G : jG)  (hok : okX12_heightOf F G ) : Met l yX12_heightOf (Cond.code yX12_heightOf cX12_heightOf 4 (some .long) :: wsL_law) rmX12_heightOf (va_Pc [.ref (A 99)] (jR D yy (mW yy A F G))) (vp_Sl (fun r => r = gX12_heightOf F G )) 0 0 (fun _ => False) := by
  generalize hres : gX12_heightOf F G  = RES
  refine jM (own := RX12) (by decide) rfl (Nat.le_of_ble_eq_true rfl) ?_
  intro p e s m args below meth c ls Q hQ hargs S hr hlk hinit hB hl
  obtain ⟨hx, hb, hml, hown, hts⟩ := S
  have hl : lv_has ls 4 [(0, .ref (A 99))] := hl
  have hin12 : ∀ w ∈ u_ws RX12 TX12 61, w ∈ (Cond.code yX12_heightOf cX12_heightOf 4 (some .long) :: wsL_law) := fun w h => List.mem_cons_of_mem _ (inlX12 w h)
  obtain ⟨hP, hK⟩ := hB
  unfold gX12_heightOf at hres
  unfold okX12_heightOf at hok
  refine lv_ldc2 (v := (-9223372036854775808)) hx hb hown (jw hts gw168) (dd_of dX12_heightOf_0 0 rfl) ?_
  refine lv_lstore_n (lv' := [(1, .long (-9223372036854775808)), (0, .ref (A 99))]) hx hb (dd_of dX12_heightOf_0 1 rfl) rfl hl (by decide) rfl (fun ls hl => ?_)
  refine lv_iconst (v := 0) hx hb (dd_of dX12_heightOf_0 2 rfl) (by decide) ?_
  refine lv_istore_n (lv' := [(3, .int 0), (1, .long (-9223372036854775808)), (0, .ref (A 99))]) hx hb (dd_of dX12_heightOf_0 3 rfl) rfl hl (by decide) rfl (fun ls hl => ?_)
  have LP6 : ∀ (K : Int32 → Int64 → Int64) (okK : Int32 → Int64 → Prop) (n : Nat), ∀ (v3 : Int32) (v1 : Int64), ∀ (ls : Array Slot), lv_has ls 4 [(3, .int v3), (1, .long v1), (0, .ref (A 99))] → okX12_heightOf_L6 F G  okK n v3 v1 → gX12_heightOf_L6 F G  K n v3 v1 = RES → (∀ (v3 : Int32) (v1 : Int64), ∀ (ls : Array Slot), lv_has ls 4 [(3, .int v3), (1, .long v1), (0, .ref (A 99))] → okK v3 v1 → K v3 v1 = RES → W p l e rmX12_heightOf s m args below meth c s.heap [] 0 0 Q (F0 m 42 ls [])) → W p l e rmX12_heightOf s m args below meth c s.heap [] 0 0 Q (F0 m 6 ls []) := by
    intro  K okK n
    induction n with
    | zero =>
      intro v3 v1 ls hl hok _ _
      exact absurd hok (by unfold okX12_heightOf_L6; exact id)
    | succ n9 ih =>
      intro v3 v1 ls hl hok hres hexit
      unfold gX12_heightOf_L6 at hres
      unfold okX12_heightOf_L6 at hok
      refine lv_iload_n hx hb (dd_of dX12_heightOf_0 4 rfl) rfl (lv_at hl 0 rfl) ?_
      refine lv_aload_n hx hb (dd_of dX12_heightOf_0 5 rfl) rfl (lv_at hl 2 rfl) ?_
      refine va_get (D := D) (cl := vwCl) (tys := jT yy) (ci := 12) (v := .int (F 1 0)) (C := RX12) (T := TX12) (N := 61) hx hb hts hin12 hown hK hP 0 rfl rfl 1 (by decide) (jw hts gw968) (fun _ h9 => h9) rfl (dd_of dX12_heightOf_0 6 rfl) ?_
      refine lv_icmp_ge (tgt := 42) hx hb (dd_of dX12_heightOf_0 7 rfl) (by decide) (fun c1 => ?_) (fun c1 => ?_)
      · replace hres := ifE c1 hres
        replace hok := hok.1 c1
        exact hexit v3 v1 ls (lv_sub hl [0, 1, 2] rfl) hok hres
      · replace hres := ifN c1 hres
        replace hok := hok.2 c1
        refine lv_aload_n hx hb (dd_of dX12_heightOf_0 8 rfl) rfl (lv_at hl 2 rfl) ?_
        refine va_get (D := D) (cl := vwCl) (tys := jT yy) (ci := 12) (v := .ref (A 57)) (C := RX12) (T := TX12) (N := 61) hx hb hts hin12 hown hK hP 0 rfl rfl 57 (by decide) (jw hts gw167) (fun _ h9 => h9) rfl (dd_of dX12_heightOf_0 9 rfl) ?_
        refine lv_iload_n hx hb (dd_of dX12_heightOf_0 10 rfl) rfl (lv_at hl 0 rfl) ?_
        have h2 := hok.1
        replace hok := hok.2
        refine va_lald hx hb hK hP 43 1 rfl rfl h2 (dd_of dX12_heightOf_0 11 rfl) ?_
        refine lv_lload_n hx hb (dd_of dX12_heightOf_0 12 rfl) rfl (lv_at hl 1 rfl) ?_
        obtain ⟨z12, q11⟩ : ∃ z : Int64, (if (G 57 (Int32.toNatClampNeg v3)) ≤ v1 then v1 else (G 57 (Int32.toNatClampNeg v3))) = z := ⟨_, rfl⟩
        have o14 := hok.1
        replace hok := hok.2
        refine jn_l (ls := ls) (v := z12) 35 [] (fun v5 ev5 => ?_) (fun K13 => ?_)
        · replace hres := bvE (ev5.trans q11.symm) hres
          replace hok := bvO (ev5.trans q11.symm) hok
          refine lv_lstore_n (lv' := [(1, .long v5), (3, .int v3), (0, .ref (A 99))]) hx hb (dd_of dX12_heightOf_0 21 rfl) rfl hl (by decide) rfl (fun ls hl => ?_)
          refine lv_iinc (v := (v3 + 1)) (lv' := [(3, .int (v3 + 1)), (1, .long v5), (0, .ref (A 99))]) hx hb (dd_of dX12_heightOf_0 22 rfl) hl (k := 1) rfl rfl (by decide) rfl (fun ls hl => ?_)
          refine lv_goto (tgt := 6) hx hb (dd_of dX12_heightOf_0 23 rfl) (by decide) ?_
          exact ih (v3 + 1) v5 ls (lv_sub hl [0, 1, 2] rfl) hok hres hexit
        · skip
          refine jl_le (tgt := 34) hx hb (dd_of dX12_heightOf_0 13 rfl) (dd_of dX12_heightOf_0 14 rfl) (by decide) (fun c3 => ?_) (fun c3 => ?_)
          · replace q11 := ifE c3 q11
            refine lv_lload_n hx hb (dd_of dX12_heightOf_0 20 rfl) rfl (lv_at hl 1 rfl) ?_
            exact K13 _ q11
          · replace q11 := ifN c3 q11
            replace o14 := o14.2 c3
            refine lv_aload_n hx hb (dd_of dX12_heightOf_0 15 rfl) rfl (lv_at hl 2 rfl) ?_
            refine va_get (D := D) (cl := vwCl) (tys := jT yy) (ci := 12) (v := .ref (A 57)) (C := RX12) (T := TX12) (N := 61) hx hb hts hin12 hown hK hP 0 rfl rfl 57 (by decide) (jw hts gw167) (fun _ h9 => h9) rfl (dd_of dX12_heightOf_0 16 rfl) ?_
            refine lv_iload_n hx hb (dd_of dX12_heightOf_0 17 rfl) rfl (lv_at hl 0 rfl) ?_
            have h4 := o14
            refine va_lald hx hb hK hP 43 1 rfl rfl h4 (dd_of dX12_heightOf_0 18 rfl) ?_
            refine lv_goto (tgt := 35) hx hb (dd_of dX12_heightOf_0 19 rfl) (by decide) ?_
            exact K13 _ q11
  refine LP6  _ _ 80 0 (-9223372036854775808) ls (lv_sub hl [0, 1, 2] rfl) hok hres (fun y6 y7 ls hl hok hres => ?_)
  refine lv_lload_n hx hb (dd_of dX12_heightOf_0 24 rfl) rfl (lv_at hl 1 rfl) ?_
  refine lv_ldc2 (v := (-9223372036854775808)) hx hb hown (jw hts gw168) (dd_of dX12_heightOf_0 25 rfl) ?_
  obtain ⟨z16, q15⟩ : ∃ z : Int64, (if y7 = (-9223372036854775808) then (Int32.toInt64 ((F 5 0) + (F 6 0))) else bv (gX12_wholes y7) (fun x9 : Int64 => x9)) = z := ⟨_, rfl⟩
  refine jn_l (ls := ls) (v := z16) 67 [] (fun v10 ev10 => ?_) (fun K17 => ?_)
  · replace hres := bvE (ev10.trans q15.symm) hres
    subst hQ
    exact W.lret (v := v10) hx hb hr (fun t ht _ => ⟨_, rfl, hres, ht⟩) (fun _ h => absurd h List.not_mem_nil) (dd_of dX12_heightOf_0 37 rfl) hlk
  · skip
    refine jl_ne (tgt := 63) hx hb (dd_of dX12_heightOf_0 26 rfl) (dd_of dX12_heightOf_0 27 rfl) (by decide) (fun c8 => ?_) (fun c8 => ?_)
    · replace q15 := ifN c8 q15
      refine lv_lload_n hx hb (dd_of dX12_heightOf_0 35 rfl) rfl (lv_at hl 1 rfl) ?_
      refine jc_sl (As := [.long y7]) (rest := []) ⟨hx, hb, hml, hown, hts⟩ (qX12_wholes l y7 ) (cwS 1 hts (jgS gw1163 gw1164 gw5 gw1165) rfl rfl rfl (by decide +kernel) ⟨Nat.le_of_ble_eq_true rfl, Nat.le_of_ble_eq_true rfl⟩) rfl hl.1 rfl (Nat.le_of_ble_eq_true rfl) (dd_of dX12_heightOf_0 36 rfl) ⟨Nat.zero_le _, Nat.zero_le _⟩ (fun x9 ex9 => ?_)
      replace q15 := bvE ex9 q15
      exact K17 _ q15
    · replace q15 := ifE c8 q15
      refine lv_aload_n hx hb (dd_of dX12_heightOf_0 28 rfl) rfl (lv_at hl 2 rfl) ?_
      refine va_get (D := D) (cl := vwCl) (tys := jT yy) (ci := 12) (v := .int (F 5 0)) (C := RX12) (T := TX12) (N := 61) hx hb hts hin12 hown hK hP 0 rfl rfl 5 (by decide) (jw hts gw721) (fun _ h9 => h9) rfl (dd_of dX12_heightOf_0 29 rfl) ?_
      refine lv_aload_n hx hb (dd_of dX12_heightOf_0 30 rfl) rfl (lv_at hl 2 rfl) ?_
      refine va_get (D := D) (cl := vwCl) (tys := jT yy) (ci := 12) (v := .int (F 6 0)) (C := RX12) (T := TX12) (N := 61) hx hb hts hin12 hown hK hP 0 rfl rfl 6 (by decide) (jw hts gw124) (fun _ h9 => h9) rfl (dd_of dX12_heightOf_0 31 rfl) ?_
      refine lv_iadd hx hb (dd_of dX12_heightOf_0 32 rfl) ?_
      refine lv_i2l (v := (Int32.toInt64 ((F 5 0) + (F 6 0)))) hx hb (dd_of dX12_heightOf_0 33 rfl) rfl ?_
      refine lv_goto (tgt := 67) hx hb (dd_of dX12_heightOf_0 34 rfl) (by decide) ?_
      exact K17 _ q15
set_option maxHeartbeats 4000000 in
set_option maxRecDepth 100000 in
theorem qX12_weightOf (l : Launch) (D : va_G) (yy : Nat → ClassId) (A : Nat → Nat) (F : jF) (G : jG) (p1 : Int32) (hok : okX12_weightOf F G p1) : Met l yX12_weightOf (Cond.code yX12_weightOf cX12_weightOf 5 (some .long) :: wsL_law) rmX12_weightOf (va_Pc [.ref (A 99), .int p1] (jR D yy (mW yy A F G))) (vp_Sl (fun r => r = gX12_weightOf F G p1)) 0 0 (fun _ => False) := by
  generalize hres : gX12_weightOf F G p1 = RES
  refine jM (own := RX12) (by decide) rfl (Nat.le_of_ble_eq_true rfl) ?_
  intro p e s m args below meth c ls Q hQ hargs S hr hlk hinit hB hl
  obtain ⟨hx, hb, hml, hown, hts⟩ := S
  have hl : lv_has ls 5 [(0, .ref (A 99)), (1, .int p1)] := hl
  have hin12 : ∀ w ∈ u_ws RX12 TX12 61, w ∈ (Cond.code yX12_weightOf cX12_weightOf 5 (some .long) :: wsL_law) := fun w h => List.mem_cons_of_mem _ (inlX12 w h)
  obtain ⟨hP, hK⟩ := hB
  unfold gX12_weightOf at hres
  unfold okX12_weightOf at hok
  refine lv_iconst (v := 0) hx hb (dd_of dX12_weightOf_0 0 rfl) (by decide) ?_
  refine lv_istore_n (lv' := [(2, .int 0), (0, .ref (A 99)), (1, .int p1)]) hx hb (dd_of dX12_weightOf_0 1 rfl) rfl hl (by decide) rfl (fun ls hl => ?_)
  refine lv_iconst (v := 0) hx hb (dd_of dX12_weightOf_0 2 rfl) (by decide) ?_
  refine lv_istore_n (lv' := [(3, .int 0), (2, .int 0), (0, .ref (A 99)), (1, .int p1)]) hx hb (dd_of dX12_weightOf_0 3 rfl) rfl hl (by decide) rfl (fun ls hl => ?_)
  have LP4 : ∀ (f1 : Int32), ∀ (K : Int32 → Int32 → Int64) (okK : Int32 → Int32 → Prop) (n : Nat), ∀ (v3 : Int32) (v2 : Int32), ∀ (ls : Array Slot), lv_has ls 5 [(3, .int v3), (2, .int v2), (0, .ref (A 99)), (1, .int f1)] → okX12_weightOf_L4 F G f1 okK n v3 v2 → gX12_weightOf_L4 F G f1 K n v3 v2 = RES → (∀ (v3 : Int32) (v2 : Int32), ∀ (ls : Array Slot), lv_has ls 5 [(3, .int v3), (2, .int v2), (0, .ref (A 99)), (1, .int f1)] → okK v3 v2 → K v3 v2 = RES → W p l e rmX12_weightOf s m args below meth c s.heap [] 0 0 Q (F0 m 70 ls [])) → W p l e rmX12_weightOf s m args below meth c s.heap [] 0 0 Q (F0 m 4 ls []) := by
    intro f1 K okK n
    induction n with
    | zero =>
      intro v3 v2 ls hl hok _ _
      exact absurd hok (by unfold okX12_weightOf_L4; exact id)
    | succ n9 ih =>
      intro v3 v2 ls hl hok hres hexit
      unfold gX12_weightOf_L4 at hres
      unfold okX12_weightOf_L4 at hok
      refine lv_iload_n hx hb (dd_of dX12_weightOf_0 4 rfl) rfl (lv_at hl 0 rfl) ?_
      refine lv_aload_n hx hb (dd_of dX12_weightOf_0 5 rfl) rfl (lv_at hl 2 rfl) ?_
      refine va_get (D := D) (cl := vwCl) (tys := jT yy) (ci := 12) (v := .int (F 32 0)) (C := RX12) (T := TX12) (N := 61) hx hb hts hin12 hown hK hP 0 rfl rfl 32 (by decide) (jw hts gw707) (fun _ h9 => h9) rfl (dd_of dX12_weightOf_0 6 rfl) ?_
      refine lv_icmp_ge (tgt := 70) hx hb (dd_of dX12_weightOf_0 7 rfl) (by decide) (fun c1 => ?_) (fun c1 => ?_)
      · replace hres := ifE c1 hres
        replace hok := hok.1 c1
        exact hexit v3 v2 ls (lv_sub hl [0, 1, 2, 3] rfl) hok hres
      · replace hres := ifN c1 hres
        replace hok := hok.2 c1
        refine lv_iload_n hx hb (dd_of dX12_weightOf_0 8 rfl) rfl (lv_at hl 1 rfl) ?_
        obtain ⟨z27, q26⟩ : ∃ z : Int32, (if v2 = 0 then (if (F 33 (Int32.toNatClampNeg v3)) = 20 then (if (F 34 (Int32.toNatClampNeg v3)) = f1 then 1 else (if (F 34 (Int32.toNatClampNeg v3)) = 20 then (if (F 33 (Int32.toNatClampNeg v3)) = f1 then 1 else 0) else 0)) else (if (F 34 (Int32.toNatClampNeg v3)) = 20 then (if (F 33 (Int32.toNatClampNeg v3)) = f1 then 1 else 0) else 0)) else 1) = z := ⟨_, rfl⟩
        have o29 := hok.1
        replace hok := hok.2
        refine jn_i (ls := ls) (v := z27) 63 [] (fun v15 ev15 => ?_) (fun K28 => ?_)
        · replace hres := bvE (ev15.trans q26.symm) hres
          replace hok := bvO (ev15.trans q26.symm) hok
          refine lv_istore_n (lv' := [(2, .int v15), (3, .int v3), (0, .ref (A 99)), (1, .int f1)]) hx hb (dd_of dX12_weightOf_0 37 rfl) rfl hl (by decide) rfl (fun ls hl => ?_)
          refine lv_iinc (v := (v3 + 1)) (lv' := [(3, .int (v3 + 1)), (2, .int v15), (0, .ref (A 99)), (1, .int f1)]) hx hb (dd_of dX12_weightOf_0 38 rfl) hl (k := 1) rfl rfl (by decide) rfl (fun ls hl => ?_)
          refine lv_goto (tgt := 4) hx hb (dd_of dX12_weightOf_0 39 rfl) (by decide) ?_
          exact ih (v3 + 1) v15 ls (lv_sub hl [0, 1, 2, 3] rfl) hok hres hexit
        · skip
          refine lv_if_ne (tgt := 58) hx hb (dd_of dX12_weightOf_0 9 rfl) (by decide) (fun c2 => ?_) (fun c2 => ?_)
          · replace q26 := ifN c2 q26
            refine lv_iconst (v := 1) hx hb (dd_of dX12_weightOf_0 34 rfl) (by decide) ?_
            refine lv_goto (tgt := 63) hx hb (dd_of dX12_weightOf_0 35 rfl) (by decide) ?_
            exact K28 _ q26
          · replace q26 := ifE c2 q26
            replace o29 := o29.1 c2
            refine lv_aload_n hx hb (dd_of dX12_weightOf_0 10 rfl) rfl (lv_at hl 2 rfl) ?_
            refine va_get (D := D) (cl := vwCl) (tys := jT yy) (ci := 12) (v := .ref (A 33)) (C := RX12) (T := TX12) (N := 61) hx hb hts hin12 hown hK hP 0 rfl rfl 33 (by decide) (jw hts gw146) (fun _ h9 => h9) rfl (dd_of dX12_weightOf_0 11 rfl) ?_
            refine lv_iload_n hx hb (dd_of dX12_weightOf_0 12 rfl) rfl (lv_at hl 0 rfl) ?_
            have h3 := o29.1
            replace o29 := o29.2
            refine va_iald hx hb hK hP 22 0 rfl rfl h3 (dd_of dX12_weightOf_0 13 rfl) ?_
            refine lv_bipush (v := 20) hx hb (dd_of dX12_weightOf_0 14 rfl) (by decide) ?_
            refine lv_icmp_ne (tgt := 37) hx hb (dd_of dX12_weightOf_0 15 rfl) (by decide) (fun c4 => ?_) (fun c4 => ?_)
            · replace q26 := ifN c4 q26
              replace o29 := o29.2 c4
              refine lv_aload_n hx hb (dd_of dX12_weightOf_0 22 rfl) rfl (lv_at hl 2 rfl) ?_
              refine va_get (D := D) (cl := vwCl) (tys := jT yy) (ci := 12) (v := .ref (A 34)) (C := RX12) (T := TX12) (N := 61) hx hb hts hin12 hown hK hP 0 rfl rfl 34 (by decide) (jw hts gw147) (fun _ h9 => h9) rfl (dd_of dX12_weightOf_0 23 rfl) ?_
              refine lv_iload_n hx hb (dd_of dX12_weightOf_0 24 rfl) rfl (lv_at hl 0 rfl) ?_
              have h5 := o29.1
              replace o29 := o29.2
              refine va_iald hx hb hK hP 23 0 rfl rfl h5 (dd_of dX12_weightOf_0 25 rfl) ?_
              refine lv_bipush (v := 20) hx hb (dd_of dX12_weightOf_0 26 rfl) (by decide) ?_
              refine lv_icmp_ne (tgt := 62) hx hb (dd_of dX12_weightOf_0 27 rfl) (by decide) (fun c6 => ?_) (fun c6 => ?_)
              · replace q26 := ifN c6 q26
                refine lv_iconst (v := 0) hx hb (dd_of dX12_weightOf_0 36 rfl) (by decide) ?_
                exact K28 _ q26
              · replace q26 := ifE c6 q26
                replace o29 := o29.1 c6
                refine lv_aload_n hx hb (dd_of dX12_weightOf_0 28 rfl) rfl (lv_at hl 2 rfl) ?_
                refine va_get (D := D) (cl := vwCl) (tys := jT yy) (ci := 12) (v := .ref (A 33)) (C := RX12) (T := TX12) (N := 61) hx hb hts hin12 hown hK hP 0 rfl rfl 33 (by decide) (jw hts gw146) (fun _ h9 => h9) rfl (dd_of dX12_weightOf_0 29 rfl) ?_
                refine lv_iload_n hx hb (dd_of dX12_weightOf_0 30 rfl) rfl (lv_at hl 0 rfl) ?_
                have h7 := o29
                refine va_iald hx hb hK hP 22 0 rfl rfl h7 (dd_of dX12_weightOf_0 31 rfl) ?_
                refine lv_iload_n hx hb (dd_of dX12_weightOf_0 32 rfl) rfl (lv_at hl 3 rfl) ?_
                refine lv_icmp_ne (tgt := 62) hx hb (dd_of dX12_weightOf_0 33 rfl) (by decide) (fun c8 => ?_) (fun c8 => ?_)
                · replace q26 := ifN c8 q26
                  refine lv_iconst (v := 0) hx hb (dd_of dX12_weightOf_0 36 rfl) (by decide) ?_
                  exact K28 _ q26
                · replace q26 := ifE c8 q26
                  refine lv_iconst (v := 1) hx hb (dd_of dX12_weightOf_0 34 rfl) (by decide) ?_
                  refine lv_goto (tgt := 63) hx hb (dd_of dX12_weightOf_0 35 rfl) (by decide) ?_
                  exact K28 _ q26
            · replace q26 := ifE c4 q26
              replace o29 := o29.1 c4
              refine lv_aload_n hx hb (dd_of dX12_weightOf_0 16 rfl) rfl (lv_at hl 2 rfl) ?_
              refine va_get (D := D) (cl := vwCl) (tys := jT yy) (ci := 12) (v := .ref (A 34)) (C := RX12) (T := TX12) (N := 61) hx hb hts hin12 hown hK hP 0 rfl rfl 34 (by decide) (jw hts gw147) (fun _ h9 => h9) rfl (dd_of dX12_weightOf_0 17 rfl) ?_
              refine lv_iload_n hx hb (dd_of dX12_weightOf_0 18 rfl) rfl (lv_at hl 0 rfl) ?_
              have h9 := o29.1
              replace o29 := o29.2
              refine va_iald hx hb hK hP 23 0 rfl rfl h9 (dd_of dX12_weightOf_0 19 rfl) ?_
              refine lv_iload_n hx hb (dd_of dX12_weightOf_0 20 rfl) rfl (lv_at hl 3 rfl) ?_
              refine lv_icmp_eq (tgt := 58) hx hb (dd_of dX12_weightOf_0 21 rfl) (by decide) (fun c10 => ?_) (fun c10 => ?_)
              · replace q26 := ifE c10 q26
                refine lv_iconst (v := 1) hx hb (dd_of dX12_weightOf_0 34 rfl) (by decide) ?_
                refine lv_goto (tgt := 63) hx hb (dd_of dX12_weightOf_0 35 rfl) (by decide) ?_
                exact K28 _ q26
              · replace q26 := ifN c10 q26
                replace o29 := o29.2 c10
                refine lv_aload_n hx hb (dd_of dX12_weightOf_0 22 rfl) rfl (lv_at hl 2 rfl) ?_
                refine va_get (D := D) (cl := vwCl) (tys := jT yy) (ci := 12) (v := .ref (A 34)) (C := RX12) (T := TX12) (N := 61) hx hb hts hin12 hown hK hP 0 rfl rfl 34 (by decide) (jw hts gw147) (fun _ h9 => h9) rfl (dd_of dX12_weightOf_0 23 rfl) ?_
                refine lv_iload_n hx hb (dd_of dX12_weightOf_0 24 rfl) rfl (lv_at hl 0 rfl) ?_
                have h11 := o29.1
                replace o29 := o29.2
                refine va_iald hx hb hK hP 23 0 rfl rfl h11 (dd_of dX12_weightOf_0 25 rfl) ?_
                refine lv_bipush (v := 20) hx hb (dd_of dX12_weightOf_0 26 rfl) (by decide) ?_
                refine lv_icmp_ne (tgt := 62) hx hb (dd_of dX12_weightOf_0 27 rfl) (by decide) (fun c12 => ?_) (fun c12 => ?_)
                · replace q26 := ifN c12 q26
                  refine lv_iconst (v := 0) hx hb (dd_of dX12_weightOf_0 36 rfl) (by decide) ?_
                  exact K28 _ q26
                · replace q26 := ifE c12 q26
                  replace o29 := o29.1 c12
                  refine lv_aload_n hx hb (dd_of dX12_weightOf_0 28 rfl) rfl (lv_at hl 2 rfl) ?_
                  refine va_get (D := D) (cl := vwCl) (tys := jT yy) (ci := 12) (v := .ref (A 33)) (C := RX12) (T := TX12) (N := 61) hx hb hts hin12 hown hK hP 0 rfl rfl 33 (by decide) (jw hts gw146) (fun _ h9 => h9) rfl (dd_of dX12_weightOf_0 29 rfl) ?_
                  refine lv_iload_n hx hb (dd_of dX12_weightOf_0 30 rfl) rfl (lv_at hl 0 rfl) ?_
                  have h13 := o29
                  refine va_iald hx hb hK hP 22 0 rfl rfl h13 (dd_of dX12_weightOf_0 31 rfl) ?_
                  refine lv_iload_n hx hb (dd_of dX12_weightOf_0 32 rfl) rfl (lv_at hl 3 rfl) ?_
                  refine lv_icmp_ne (tgt := 62) hx hb (dd_of dX12_weightOf_0 33 rfl) (by decide) (fun c14 => ?_) (fun c14 => ?_)
                  · replace q26 := ifN c14 q26
                    refine lv_iconst (v := 0) hx hb (dd_of dX12_weightOf_0 36 rfl) (by decide) ?_
                    exact K28 _ q26
                  · replace q26 := ifE c14 q26
                    refine lv_iconst (v := 1) hx hb (dd_of dX12_weightOf_0 34 rfl) (by decide) ?_
                    refine lv_goto (tgt := 63) hx hb (dd_of dX12_weightOf_0 35 rfl) (by decide) ?_
                    exact K28 _ q26
  refine LP4 p1 _ _ 80 0 0 ls (lv_sub hl [0, 1, 2, 3] rfl) hok hres (fun y16 y17 ls hl hok hres => ?_)
  refine lv_aload_n hx hb (dd_of dX12_weightOf_1 0 rfl) rfl (lv_at hl 2 rfl) ?_
  have h18 := hok.1
  replace hok := hok.2
  refine jc_l (As := []) (rest := []) (w := (mW yy A F G)) (D := D) (yy := yy) ⟨hx, hb, hml, hown, hts⟩ (qX12_heightOf l D yy A F G  h18) (cwV 0 hts (jgV gw1217 gw1218 gw1219 gw5 gw1220) rfl rfl rfl (by decide +kernel) ⟨Nat.le_of_ble_eq_true rfl, Nat.le_of_ble_eq_true rfl⟩) hP hK (va_recv hK hP (ci := 12) (q0 := 0) rfl rfl) rfl hl.1 rfl (Nat.le_of_ble_eq_true rfl) (dd_of dX12_weightOf_1 1 rfl) ⟨Nat.zero_le _, Nat.zero_le _⟩ (fun x19 ex19 => ?_)
  replace hres := bvE ex19 hres
  replace hok := bvO ex19 hok
  refine lv_aload_n hx hb (dd_of dX12_weightOf_1 2 rfl) rfl (lv_at hl 2 rfl) ?_
  refine va_get (D := D) (cl := vwCl) (tys := jT yy) (ci := 12) (v := .ref (A 10)) (C := RX12) (T := TX12) (N := 61) hx hb hts hin12 hown hK hP 0 rfl rfl 10 (by decide) (jw hts gw126) (fun _ h9 => h9) rfl (dd_of dX12_weightOf_1 3 rfl) ?_
  refine lv_iload_n hx hb (dd_of dX12_weightOf_1 4 rfl) rfl (lv_at hl 3 rfl) ?_
  have h20 := hok.1
  replace hok := hok.2
  refine va_iald hx hb hK hP 2 0 rfl rfl h20 (dd_of dX12_weightOf_1 5 rfl) ?_
  refine lv_i2l (v := (Int32.toInt64 (F 10 (Int32.toNatClampNeg p1)))) hx hb (dd_of dX12_weightOf_1 6 rfl) rfl ?_
  refine lv_lsub hx hb (dd_of dX12_weightOf_1 7 rfl) ?_
  refine lv_topl (fun x21 ex21 => ?_)
  replace hres := bvE ex21 hres
  replace hok := bvO ex21 hok
  refine lv_lstore_n (lv' := [(3, .long x21), (2, .int y17), (0, .ref (A 99)), (1, .int p1)]) hx hb (dd_of dX12_weightOf_1 8 rfl) rfl hl (by decide) rfl (fun ls hl => ?_)
  refine lv_iload_n hx hb (dd_of dX12_weightOf_1 9 rfl) rfl (lv_at hl 1 rfl) ?_
  obtain ⟨z31, q30⟩ : ∃ z : Int64, (if y17 = 0 then 0 else (if x21 ≤ 0 then 0 else ((Int32.toInt64 (F 9 (Int32.toNatClampNeg p1))) * x21))) = z := ⟨_, rfl⟩
  have o33 := hok
  refine jn_l (ls := ls) (v := z31) 106 [] (fun v25 ev25 => ?_) (fun K32 => ?_)
  · replace hres := bvE (ev25.trans q30.symm) hres
    subst hQ
    exact W.lret (v := v25) hx hb hr (fun t ht _ => ⟨_, rfl, hres, ht⟩) (fun _ h => absurd h List.not_mem_nil) (dd_of dX12_weightOf_1 24 rfl) hlk
  · skip
    refine lv_if_eq (tgt := 105) hx hb (dd_of dX12_weightOf_1 10 rfl) (by decide) (fun c22 => ?_) (fun c22 => ?_)
    · replace q30 := ifE c22 q30
      refine lv_lconst (v := 0) hx hb (dd_of dX12_weightOf_1 23 rfl) (by decide) ?_
      exact K32 _ q30
    · replace q30 := ifN c22 q30
      replace o33 := o33.2 c22
      refine lv_lload_n hx hb (dd_of dX12_weightOf_1 11 rfl) rfl (lv_at hl 0 rfl) ?_
      refine lv_lconst (v := 0) hx hb (dd_of dX12_weightOf_1 12 rfl) (by decide) ?_
      refine jl_le (tgt := 105) hx hb (dd_of dX12_weightOf_1 13 rfl) (dd_of dX12_weightOf_1 14 rfl) (by decide) (fun c23 => ?_) (fun c23 => ?_)
      · replace q30 := ifE c23 q30
        refine lv_lconst (v := 0) hx hb (dd_of dX12_weightOf_1 23 rfl) (by decide) ?_
        exact K32 _ q30
      · replace q30 := ifN c23 q30
        replace o33 := o33.2 c23
        refine lv_aload_n hx hb (dd_of dX12_weightOf_1 15 rfl) rfl (lv_at hl 2 rfl) ?_
        refine va_get (D := D) (cl := vwCl) (tys := jT yy) (ci := 12) (v := .ref (A 9)) (C := RX12) (T := TX12) (N := 61) hx hb hts hin12 hown hK hP 0 rfl rfl 9 (by decide) (jw hts gw125) (fun _ h9 => h9) rfl (dd_of dX12_weightOf_1 16 rfl) ?_
        refine lv_iload_n hx hb (dd_of dX12_weightOf_1 17 rfl) rfl (lv_at hl 3 rfl) ?_
        have h24 := o33
        refine va_iald hx hb hK hP 1 0 rfl rfl h24 (dd_of dX12_weightOf_1 18 rfl) ?_
        refine lv_i2l (v := (Int32.toInt64 (F 9 (Int32.toNatClampNeg p1)))) hx hb (dd_of dX12_weightOf_1 19 rfl) rfl ?_
        refine lv_lload_n hx hb (dd_of dX12_weightOf_1 20 rfl) rfl (lv_at hl 0 rfl) ?_
        refine lv_lmul hx hb (dd_of dX12_weightOf_1 21 rfl) ?_
        refine lv_goto (tgt := 106) hx hb (dd_of dX12_weightOf_1 22 rfl) (by decide) ?_
        exact K32 _ q30
set_option maxHeartbeats 4000000 in
set_option maxRecDepth 100000 in
theorem qX12_share (l : Launch) (D : va_G) (yy : Nat → ClassId) (A : Nat → Nat) (F : jF) (G : jG) (sz : Nat) (p1 : Int32) (p2 : Int32) (hok : okX12_share F G p1 p2) : Met l yX12_share (Cond.code yX12_share cX12_share 13 (some .int) :: wsL_law) rmX12_share (va_Pc [.ref (A 99), .int p1, .int p2] (jP D yy (mW yy A F G) sz)) (va_Qi (fun r (u : jS) => (r, u) = gX12_share F G p1 p2) (fun (u : jS) t => jB D yy (va_A (mW yy A F G) sz) (mW yy A u.1 u.2) t) (va_A (mW yy A F G) sz)) 0 0 (va_A (mW yy A F G) sz) := by
  generalize hres : gX12_share F G p1 p2 = RES
  refine jM (own := RX12) (by decide) rfl (Nat.le_of_ble_eq_true rfl) ?_
  intro p e s m args below meth c ls Q hQ hargs S hr hlk hinit hB hl
  obtain ⟨hx, hb, hml, hown, hts⟩ := S
  have hl : lv_has ls 13 [(0, .ref (A 99)), (1, .int p1), (2, .int p2)] := hl
  have hin12 : ∀ w ∈ u_ws RX12 TX12 61, w ∈ (Cond.code yX12_share cX12_share 13 (some .int) :: wsL_law) := fun w h => List.mem_cons_of_mem _ (inlX12 w h)
  obtain ⟨hsz, hP, hK, hD0⟩ := hB
  subst hsz
  have hD := hD0.self (sz := s.heap.size)
  generalize hZ : va_A (mW yy A F G) s.heap.size = Z at hD hQ
  have hA : ∀ q : Nat, s.heap.size ≤ q → Z q := fun q h => by rw [← hZ]; exact Or.inr h
  obtain ⟨H, hH⟩ : ∃ z, z = s.heap := ⟨_, rfl⟩
  obtain ⟨locs, hlocs⟩ : ∃ z : List Loc, z = [] := ⟨_, rfl⟩
  have hS : va_S Z s.heap H locs := by rw [hH, hlocs]; exact va_S.rf
  rw [← hH] at hP
  suffices hgo : W p l e rmX12_share s m args below meth c H locs 0 0 Q (F0 m 0 ls []) by rw [hH, hlocs] at hgo; exact hgo
  unfold gX12_share at hres
  unfold okX12_share at hok
  refine lv_aload_n hx hb (dd_of dX12_share_0 0 rfl) rfl (lv_at hl 0 rfl) ?_
  refine lv_aload_n hx hb (dd_of dX12_share_0 1 rfl) rfl (lv_at hl 0 rfl) ?_
  refine lv_iload_n hx hb (dd_of dX12_share_0 2 rfl) rfl (lv_at hl 2 rfl) ?_
  have h1 := hok.1
  replace hok := hok.2
  refine jc_i (As := [.int p2]) (rest := [.ref (A 99)]) (w := (mW yy A F G)) (D := D) (yy := yy) ⟨hx, hb, hml, hown, hts⟩ (qX12_isBasin l D yy A F G p2 h1) (cwV 1 hts (jgV gw617 gw618 gw619 gw5 gw620) rfl rfl rfl (by decide +kernel) ⟨Nat.le_of_ble_eq_true rfl, Nat.le_of_ble_eq_true rfl⟩) hP hK (va_recv hK hP (ci := 12) (q0 := 0) rfl rfl) rfl hl.1 rfl (Nat.le_of_ble_eq_true rfl) (dd_of dX12_share_0 3 rfl) ⟨Nat.zero_le _, Nat.zero_le _⟩ (fun x2 ex2 => ?_)
  replace hres := bvE ex2 hres
  replace hok := bvO ex2 hok
  obtain ⟨z50, q49⟩ : ∃ z : Int32, (if x2 = 0 then 1 else bv (gX12_in p1 0 999999) (fun x4 : Int32 => (if x4 = 0 then 2 else 0))) = z := ⟨_, rfl⟩
  refine jn_i (ls := ls) (v := z50) 29 [.ref (A 99)] (fun v6 ev6 => ?_) (fun K51 => ?_)
  · replace hres := bvE (ev6.trans q49.symm) hres
    replace hok := bvO (ev6.trans q49.symm) hok
    refine va_put (D := D) (cl := vwCl) (tys := jT yy) (ci := 12) (v := .int v6) (ty := .int) (C := RX12) (T := TX12) (N := 61) hx hb hts hin12 tyX12 tyX12_ok nmX12 hown hK hP hD hS 0 rfl rfl 60 (by decide) (jw hts gw590) (fun _ h9 => h9) rfl (by decide +kernel) rfl rfl (Nat.le_of_ble_eq_true rfl) (dd_of dX12_share_0 15 rfl) (fun H locs hP hD hS => ?_)
    obtain ⟨F7, e8⟩ : ∃ z : jF, z = u2 F 60 0 v6 := ⟨_, rfl⟩
    have hP : va_P D vwCl (mW yy A F7 G) H := by rw [e8]; exact hP
    have hD : va_D Z (mW yy A F7 G) := by rw [e8]; exact hD
    replace hres := bvE e8 hres
    replace hok := bvO e8 hok
    refine lv_aload_n hx hb (dd_of dX12_share_0 16 rfl) rfl (lv_at hl 0 rfl) ?_
    refine va_get (D := D) (cl := vwCl) (tys := jT yy) (ci := 12) (v := .int (F7 60 0)) (C := RX12) (T := TX12) (N := 61) hx hb hts hin12 hown hK hP 0 rfl rfl 60 (by decide) (jw hts gw590) (fun _ h9 => h9) rfl (dd_of dX12_share_0 17 rfl) ?_
    refine lv_if_gt (tgt := 49) hx hb (dd_of dX12_share_0 18 rfl) (by decide) (fun c9 => ?_) (fun c9 => ?_)
    · replace hres := ifE c9 hres
      refine lv_iconst (v := 0) hx hb (dd_of dX12_share_0 25 rfl) (by decide) ?_
      subst hQ
      exact W.iret (v := 0) hx hb hr (fun t ht hW => ⟨⟨0, (F7, G), rfl, hres, by rw [ht]; exact hP, va_K.moved hW.alike hK, hD⟩, hS.F ht⟩) hS.2.2 (dd_of dX12_share_0 26 rfl) hlk
    · replace hres := ifN c9 hres
      replace hok := hok.2 c9
      refine lv_aload_n hx hb (dd_of dX12_share_0 19 rfl) rfl (lv_at hl 0 rfl) ?_
      refine lv_iload_n hx hb (dd_of dX12_share_0 20 rfl) rfl (lv_at hl 2 rfl) ?_
      have h10 := hok.1
      replace hok := hok.2
      refine jc_l (As := [.int p2]) (rest := []) (w := (mW yy A F7 G)) (D := D) (yy := yy) ⟨hx, hb, hml, hown, hts⟩ (qX12_weightOf l D yy A F7 G p2 h10) (cwV 1 hts (jgV gw1213 gw1214 gw1215 gw5 gw1216) rfl rfl rfl (by decide +kernel) ⟨Nat.le_of_ble_eq_true rfl, Nat.le_of_ble_eq_true rfl⟩) hP hK (va_recv hK hP (ci := 12) (q0 := 0) rfl rfl) rfl hl.1 rfl (Nat.le_of_ble_eq_true rfl) (dd_of dX12_share_0 21 rfl) ⟨Nat.zero_le _, Nat.zero_le _⟩ (fun x11 ex11 => ?_)
      replace hres := bvE ex11 hres
      replace hok := bvO ex11 hok
      refine lv_lconst (v := 0) hx hb (dd_of dX12_share_0 22 rfl) (by decide) ?_
      refine jl_ne (tgt := 51) hx hb (dd_of dX12_share_0 23 rfl) (dd_of dX12_share_0 24 rfl) (by decide) (fun c12 => ?_) (fun c12 => ?_)
      · replace hres := ifN c12 hres
        replace hok := hok.2 c12
        refine lv_lconst (v := 0) hx hb (dd_of dX12_share_0 27 rfl) (by decide) ?_
        refine lv_lstore_n (lv' := [(3, .long 0), (0, .ref (A 99)), (1, .int p1), (2, .int p2)]) hx hb (dd_of dX12_share_0 28 rfl) rfl hl (by decide) rfl (fun ls hl => ?_)
        refine lv_iconst (v := 0) hx hb (dd_of dX12_share_0 29 rfl) (by decide) ?_
        refine lv_istore (lv' := [(5, .int 0), (3, .long 0), (0, .ref (A 99)), (1, .int p1), (2, .int p2)]) hx hb (dd_of dX12_share_0 30 rfl) hl (by decide) rfl (fun ls hl => ?_)
        have LP56 : ∀ (f1 : Int32) (f2 : Int32), ∀ (K : Int32 → Int64 → (Int32 × jS)) (okK : Int32 → Int64 → Prop) (n : Nat), ∀ (v5 : Int32) (v3 : Int64), ∀ (ls : Array Slot), lv_has ls 13 [(5, .int v5), (3, .long v3), (0, .ref (A 99)), (1, .int f1), (2, .int f2)] → okX12_share_L56 F7 G f1 f2 okK n v5 v3 → gX12_share_L56 F7 G f1 f2 K n v5 v3 = RES → (∀ (v5 : Int32) (v3 : Int64), ∀ (ls : Array Slot), lv_has ls 13 [(5, .int v5), (3, .long v3), (0, .ref (A 99)), (1, .int f1), (2, .int f2)] → okK v5 v3 → K v5 v3 = RES → W p l e rmX12_share s m args below meth c H locs 0 0 Q (F0 m 80 ls [])) → W p l e rmX12_share s m args below meth c H locs 0 0 Q (F0 m 56 ls []) := by
          intro f1 f2 K okK n
          induction n with
          | zero =>
            intro v5 v3 ls hl hok _ _
            exact absurd hok (by unfold okX12_share_L56; exact id)
          | succ n9 ih =>
            intro v5 v3 ls hl hok hres hexit
            unfold gX12_share_L56 at hres
            unfold okX12_share_L56 at hok
            refine lv_iload hx hb (dd_of dX12_share_0 31 rfl) (lv_at hl 0 rfl) ?_
            refine lv_aload_n hx hb (dd_of dX12_share_0 32 rfl) rfl (lv_at hl 2 rfl) ?_
            refine va_get (D := D) (cl := vwCl) (tys := jT yy) (ci := 12) (v := .int (F7 8 0)) (C := RX12) (T := TX12) (N := 61) hx hb hts hin12 hown hK hP 0 rfl rfl 8 (by decide) (jw hts gw589) (fun _ h9 => h9) rfl (dd_of dX12_share_0 33 rfl) ?_
            refine lv_icmp_ge (tgt := 80) hx hb (dd_of dX12_share_0 34 rfl) (by decide) (fun c13 => ?_) (fun c13 => ?_)
            · replace hres := ifE c13 hres
              replace hok := hok.1 c13
              exact hexit v5 v3 ls (lv_sub hl [0, 1, 2, 3, 4] rfl) hok hres
            · replace hres := ifN c13 hres
              replace hok := hok.2 c13
              refine lv_lload_n hx hb (dd_of dX12_share_0 35 rfl) rfl (lv_at hl 1 rfl) ?_
              refine lv_aload_n hx hb (dd_of dX12_share_0 36 rfl) rfl (lv_at hl 2 rfl) ?_
              refine lv_iload hx hb (dd_of dX12_share_0 37 rfl) (lv_at hl 0 rfl) ?_
              have h14 := hok.1
              replace hok := hok.2
              refine jc_l (As := [.int v5]) (rest := [.long v3]) (w := (mW yy A F7 G)) (D := D) (yy := yy) ⟨hx, hb, hml, hown, hts⟩ (qX12_weightOf l D yy A F7 G v5 h14) (cwV 1 hts (jgV gw1213 gw1214 gw1215 gw5 gw1216) rfl rfl rfl (by decide +kernel) ⟨Nat.le_of_ble_eq_true rfl, Nat.le_of_ble_eq_true rfl⟩) hP hK (va_recv hK hP (ci := 12) (q0 := 0) rfl rfl) rfl hl.1 rfl (Nat.le_of_ble_eq_true rfl) (dd_of dX12_share_0 38 rfl) ⟨Nat.zero_le _, Nat.zero_le _⟩ (fun x15 ex15 => ?_)
              replace hres := bvE ex15 hres
              replace hok := bvO ex15 hok
              refine lv_ladd hx hb (dd_of dX12_share_0 39 rfl) ?_
              refine lv_topl (fun x16 ex16 => ?_)
              replace hres := bvE ex16 hres
              replace hok := bvO ex16 hok
              refine lv_lstore_n (lv' := [(3, .long x16), (5, .int v5), (0, .ref (A 99)), (1, .int f1), (2, .int f2)]) hx hb (dd_of dX12_share_1 0 rfl) rfl hl (by decide) rfl (fun ls hl => ?_)
              refine lv_iinc (v := (v5 + 1)) (lv' := [(5, .int (v5 + 1)), (3, .long x16), (0, .ref (A 99)), (1, .int f1), (2, .int f2)]) hx hb (dd_of dX12_share_1 1 rfl) hl (k := 1) rfl rfl (by decide) rfl (fun ls hl => ?_)
              refine lv_goto (tgt := 56) hx hb (dd_of dX12_share_1 2 rfl) (by decide) ?_
              exact ih (v5 + 1) x16 ls (lv_sub hl [0, 1, 2, 3, 4] rfl) hok hres hexit
        refine LP56 p1 p2 _ _ 80 0 0 ls (lv_sub hl [0, 1, 2, 3, 4] rfl) hok hres (fun y17 y18 ls hl hok hres => ?_)
        refine lv_iload_n hx hb (dd_of dX12_share_1 3 rfl) rfl (lv_at hl 3 rfl) ?_
        refine lv_i2l (v := (Int32.toInt64 p1)) hx hb (dd_of dX12_share_1 4 rfl) rfl ?_
        refine lv_topl (fun x19 ex19 => ?_)
        replace hres := bvE ex19 hres
        replace hok := bvO ex19 hok
        refine lv_lstore (lv' := [(5, .long x19), (3, .long y18), (0, .ref (A 99)), (1, .int p1), (2, .int p2)]) hx hb (dd_of dX12_share_1 5 rfl) hl (by decide) rfl (fun ls hl => ?_)
        refine lv_iconst (v := 0) hx hb (dd_of dX12_share_1 6 rfl) (by decide) ?_
        refine lv_istore (lv' := [(7, .int 0), (5, .long x19), (3, .long y18), (0, .ref (A 99)), (1, .int p1), (2, .int p2)]) hx hb (dd_of dX12_share_1 7 rfl) hl (by decide) rfl (fun ls hl => ?_)
        refine lv_iload_n hx hb (dd_of dX12_share_1 8 rfl) rfl (lv_at hl 4 rfl) ?_
        refine lv_i2l (v := (Int32.toInt64 p1)) hx hb (dd_of dX12_share_1 9 rfl) rfl ?_
        refine lv_aload_n hx hb (dd_of dX12_share_1 10 rfl) rfl (lv_at hl 3 rfl) ?_
        refine lv_iload_n hx hb (dd_of dX12_share_1 11 rfl) rfl (lv_at hl 5 rfl) ?_
        have h20 := hok.1
        replace hok := hok.2
        refine jc_l (As := [.int p2]) (rest := [.long (Int32.toInt64 p1)]) (w := (mW yy A F7 G)) (D := D) (yy := yy) ⟨hx, hb, hml, hown, hts⟩ (qX12_weightOf l D yy A F7 G p2 h20) (cwV 1 hts (jgV gw1213 gw1214 gw1215 gw5 gw1216) rfl rfl rfl (by decide +kernel) ⟨Nat.le_of_ble_eq_true rfl, Nat.le_of_ble_eq_true rfl⟩) hP hK (va_recv hK hP (ci := 12) (q0 := 0) rfl rfl) rfl hl.1 rfl (Nat.le_of_ble_eq_true rfl) (dd_of dX12_share_1 12 rfl) ⟨Nat.zero_le _, Nat.zero_le _⟩ (fun x21 ex21 => ?_)
        replace hres := bvE ex21 hres
        replace hok := bvO ex21 hok
        refine lv_lmul hx hb (dd_of dX12_share_1 13 rfl) ?_
        refine lv_lload_n hx hb (dd_of dX12_share_1 14 rfl) rfl (lv_at hl 2 rfl) ?_
        have h22 := hok.1
        replace hok := hok.2
        refine lv_lrem hx hb (dd_of dX12_share_1 15 rfl) h22 ?_
        refine lv_topl (fun x23 ex23 => ?_)
        replace hres := bvE ex23 hres
        replace hok := bvO ex23 hok
        refine lv_lstore (lv' := [(8, .long x23), (7, .int 0), (5, .long x19), (3, .long y18), (0, .ref (A 99)), (1, .int p1), (2, .int p2)]) hx hb (dd_of dX12_share_1 16 rfl) hl (by decide) rfl (fun ls hl => ?_)
        refine lv_iconst (v := 0) hx hb (dd_of dX12_share_1 17 rfl) (by decide) ?_
        refine lv_istore (lv' := [(10, .int 0), (8, .long x23), (7, .int 0), (5, .long x19), (3, .long y18), (0, .ref (A 99)), (1, .int p1), (2, .int p2)]) hx hb (dd_of dX12_share_1 18 rfl) hl (by decide) rfl (fun ls hl => ?_)
        have LP102 : ∀ (f8 : Int64) (f3 : Int64) (f1 : Int32) (f2 : Int32), ∀ (K : Int32 → Int32 → Int64 → (Int32 × jS)) (okK : Int32 → Int32 → Int64 → Prop) (n : Nat), ∀ (v10 : Int32) (v7 : Int32) (v5 : Int64), ∀ (ls : Array Slot), lv_has ls 13 [(10, .int v10), (8, .long f8), (7, .int v7), (5, .long v5), (3, .long f3), (0, .ref (A 99)), (1, .int f1), (2, .int f2)] → okX12_share_L102 F7 G f8 f3 f1 f2 okK n v10 v7 v5 → gX12_share_L102 F7 G f8 f3 f1 f2 K n v10 v7 v5 = RES → (∀ (v10 : Int32) (v7 : Int32) (v5 : Int64), ∀ (ls : Array Slot), lv_has ls 13 [(10, .int v10), (8, .long f8), (7, .int v7), (5, .long v5), (3, .long f3), (0, .ref (A 99)), (1, .int f1), (2, .int f2)] → okK v10 v7 v5 → K v10 v7 v5 = RES → W p l e rmX12_share s m args below meth c H locs 0 0 Q (F0 m 189 ls [])) → W p l e rmX12_share s m args below meth c H locs 0 0 Q (F0 m 102 ls []) := by
          intro f8 f3 f1 f2 K okK n
          induction n with
          | zero =>
            intro v10 v7 v5 ls hl hok _ _
            exact absurd hok (by unfold okX12_share_L102; exact id)
          | succ n9 ih =>
            intro v10 v7 v5 ls hl hok hres hexit
            unfold gX12_share_L102 at hres
            unfold okX12_share_L102 at hok
            refine lv_iload hx hb (dd_of dX12_share_1 19 rfl) (lv_at hl 0 rfl) ?_
            refine lv_aload_n hx hb (dd_of dX12_share_1 20 rfl) rfl (lv_at hl 5 rfl) ?_
            refine va_get (D := D) (cl := vwCl) (tys := jT yy) (ci := 12) (v := .int (F7 8 0)) (C := RX12) (T := TX12) (N := 61) hx hb hts hin12 hown hK hP 0 rfl rfl 8 (by decide) (jw hts gw589) (fun _ h9 => h9) rfl (dd_of dX12_share_1 21 rfl) ?_
            refine lv_icmp_ge (tgt := 189) hx hb (dd_of dX12_share_1 22 rfl) (by decide) (fun c24 => ?_) (fun c24 => ?_)
            · replace hres := ifE c24 hres
              replace hok := hok.1 c24
              exact hexit v10 v7 v5 ls (lv_sub hl [0, 1, 2, 3, 4, 5, 6, 7] rfl) hok hres
            · replace hres := ifN c24 hres
              replace hok := hok.2 c24
              refine lv_iload_n hx hb (dd_of dX12_share_1 23 rfl) rfl (lv_at hl 6 rfl) ?_
              refine lv_i2l (v := (Int32.toInt64 f1)) hx hb (dd_of dX12_share_1 24 rfl) rfl ?_
              refine lv_aload_n hx hb (dd_of dX12_share_1 25 rfl) rfl (lv_at hl 5 rfl) ?_
              refine lv_iload hx hb (dd_of dX12_share_1 26 rfl) (lv_at hl 0 rfl) ?_
              have h25 := hok.1
              replace hok := hok.2
              refine jc_l (As := [.int v10]) (rest := [.long (Int32.toInt64 f1)]) (w := (mW yy A F7 G)) (D := D) (yy := yy) ⟨hx, hb, hml, hown, hts⟩ (qX12_weightOf l D yy A F7 G v10 h25) (cwV 1 hts (jgV gw1213 gw1214 gw1215 gw5 gw1216) rfl rfl rfl (by decide +kernel) ⟨Nat.le_of_ble_eq_true rfl, Nat.le_of_ble_eq_true rfl⟩) hP hK (va_recv hK hP (ci := 12) (q0 := 0) rfl rfl) rfl hl.1 rfl (Nat.le_of_ble_eq_true rfl) (dd_of dX12_share_1 27 rfl) ⟨Nat.zero_le _, Nat.zero_le _⟩ (fun x26 ex26 => ?_)
              replace hres := bvE ex26 hres
              replace hok := bvO ex26 hok
              refine lv_lmul hx hb (dd_of dX12_share_1 28 rfl) ?_
              refine lv_lload_n hx hb (dd_of dX12_share_1 29 rfl) rfl (lv_at hl 4 rfl) ?_
              have h27 := hok.1
              replace hok := hok.2
              refine lv_lrem hx hb (dd_of dX12_share_1 30 rfl) h27 ?_
              refine lv_topl (fun x28 ex28 => ?_)
              replace hres := bvE ex28 hres
              replace hok := bvO ex28 hok
              refine lv_lstore (lv' := [(11, .long x28), (10, .int v10), (8, .long f8), (7, .int v7), (5, .long v5), (3, .long f3), (0, .ref (A 99)), (1, .int f1), (2, .int f2)]) hx hb (dd_of dX12_share_1 31 rfl) hl (by decide) rfl (fun ls hl => ?_)
              refine lv_lload hx hb (dd_of dX12_share_1 32 rfl) (lv_at hl 4 rfl) ?_
              refine lv_iload_n hx hb (dd_of dX12_share_1 33 rfl) rfl (lv_at hl 7 rfl) ?_
              refine lv_i2l (v := (Int32.toInt64 f1)) hx hb (dd_of dX12_share_1 34 rfl) rfl ?_
              refine lv_aload_n hx hb (dd_of dX12_share_1 35 rfl) rfl (lv_at hl 6 rfl) ?_
              refine lv_iload hx hb (dd_of dX12_share_1 36 rfl) (lv_at hl 1 rfl) ?_
              have h29 := hok.1
              replace hok := hok.2
              refine jc_l (As := [.int v10]) (rest := [.long (Int32.toInt64 f1), .long v5]) (w := (mW yy A F7 G)) (D := D) (yy := yy) ⟨hx, hb, hml, hown, hts⟩ (qX12_weightOf l D yy A F7 G v10 h29) (cwV 1 hts (jgV gw1213 gw1214 gw1215 gw5 gw1216) rfl rfl rfl (by decide +kernel) ⟨Nat.le_of_ble_eq_true rfl, Nat.le_of_ble_eq_true rfl⟩) hP hK (va_recv hK hP (ci := 12) (q0 := 0) rfl rfl) rfl hl.1 rfl (Nat.le_of_ble_eq_true rfl) (dd_of dX12_share_1 37 rfl) ⟨Nat.zero_le _, Nat.zero_le _⟩ (fun x30 ex30 => ?_)
              replace hres := bvE ex30 hres
              replace hok := bvO ex30 hok
              refine lv_lmul hx hb (dd_of dX12_share_1 38 rfl) ?_
              refine lv_lload_n hx hb (dd_of dX12_share_1 39 rfl) rfl (lv_at hl 5 rfl) ?_
              have h31 := hok.1
              replace hok := hok.2
              refine lv_ldiv hx hb (dd_of dX12_share_2 0 rfl) h31 ?_
              refine lv_lsub hx hb (dd_of dX12_share_2 1 rfl) ?_
              refine lv_topl (fun x32 ex32 => ?_)
              replace hres := bvE ex32 hres
              replace hok := bvO ex32 hok
              refine lv_lstore (lv' := [(5, .long x32), (11, .long x28), (10, .int v10), (8, .long f8), (7, .int v7), (3, .long f3), (0, .ref (A 99)), (1, .int f1), (2, .int f2)]) hx hb (dd_of dX12_share_2 2 rfl) hl (by decide) rfl (fun ls hl => ?_)
              refine lv_iload hx hb (dd_of dX12_share_2 3 rfl) (lv_at hl 4 rfl) ?_
              refine lv_aload_n hx hb (dd_of dX12_share_2 4 rfl) rfl (lv_at hl 6 rfl) ?_
              refine lv_iload hx hb (dd_of dX12_share_2 5 rfl) (lv_at hl 2 rfl) ?_
              have h33 := hok.1
              replace hok := hok.2
              refine jc_l (As := [.int v10]) (rest := [.int v7]) (w := (mW yy A F7 G)) (D := D) (yy := yy) ⟨hx, hb, hml, hown, hts⟩ (qX12_weightOf l D yy A F7 G v10 h33) (cwV 1 hts (jgV gw1213 gw1214 gw1215 gw5 gw1216) rfl rfl rfl (by decide +kernel) ⟨Nat.le_of_ble_eq_true rfl, Nat.le_of_ble_eq_true rfl⟩) hP hK (va_recv hK hP (ci := 12) (q0 := 0) rfl rfl) rfl hl.1 rfl (Nat.le_of_ble_eq_true rfl) (dd_of dX12_share_2 6 rfl) ⟨Nat.zero_le _, Nat.zero_le _⟩ (fun x34 ex34 => ?_)
              replace hres := bvE ex34 hres
              replace hok := bvO ex34 hok
              refine lv_lconst (v := 0) hx hb (dd_of dX12_share_2 7 rfl) (by decide) ?_
              obtain ⟨z53, q52⟩ : ∃ z : Int32, (if x34 ≤ 0 then 0 else (if f8 < x28 then 1 else (if x28 = f8 then (if f2 ≤ v10 then 0 else 1) else 0))) = z := ⟨_, rfl⟩
              refine jn_i (ls := ls) (v := z53) 180 [.int v7] (fun v39 ev39 => ?_) (fun K54 => ?_)
              · replace hres := bvE (ev39.trans q52.symm) hres
                replace hok := bvO (ev39.trans q52.symm) hok
                refine lv_iadd hx hb (dd_of dX12_share_2 24 rfl) ?_
                refine lv_topi (fun x40 ex40 => ?_)
                replace hres := bvE ex40 hres
                replace hok := bvO ex40 hok
                refine lv_istore (lv' := [(7, .int x40), (5, .long x32), (11, .long x28), (10, .int v10), (8, .long f8), (3, .long f3), (0, .ref (A 99)), (1, .int f1), (2, .int f2)]) hx hb (dd_of dX12_share_2 25 rfl) hl (by decide) rfl (fun ls hl => ?_)
                refine lv_iinc (v := (v10 + 1)) (lv' := [(10, .int (v10 + 1)), (7, .int x40), (5, .long x32), (11, .long x28), (8, .long f8), (3, .long f3), (0, .ref (A 99)), (1, .int f1), (2, .int f2)]) hx hb (dd_of dX12_share_2 26 rfl) hl (k := 3) rfl rfl (by decide) rfl (fun ls hl => ?_)
                refine lv_goto (tgt := 102) hx hb (dd_of dX12_share_2 27 rfl) (by decide) ?_
                exact ih (v10 + 1) x40 x32 ls (lv_sub hl [0, 4, 1, 2, 5, 6, 7, 8] rfl) hok hres hexit
              · skip
                refine jl_le (tgt := 179) hx hb (dd_of dX12_share_2 8 rfl) (dd_of dX12_share_2 9 rfl) (by decide) (fun c35 => ?_) (fun c35 => ?_)
                · replace q52 := ifE c35 q52
                  refine lv_iconst (v := 0) hx hb (dd_of dX12_share_2 23 rfl) (by decide) ?_
                  exact K54 _ q52
                · replace q52 := ifN c35 q52
                  refine lv_lload hx hb (dd_of dX12_share_2 10 rfl) (lv_at hl 1 rfl) ?_
                  refine lv_lload hx hb (dd_of dX12_share_2 11 rfl) (lv_at hl 3 rfl) ?_
                  refine jl_gt (tgt := 175) hx hb (dd_of dX12_share_2 12 rfl) (dd_of dX12_share_2 13 rfl) (by decide) (fun c36 => ?_) (fun c36 => ?_)
                  · replace q52 := ifE c36 q52
                    refine lv_iconst (v := 1) hx hb (dd_of dX12_share_2 21 rfl) (by decide) ?_
                    refine lv_goto (tgt := 180) hx hb (dd_of dX12_share_2 22 rfl) (by decide) ?_
                    exact K54 _ q52
                  · replace q52 := ifN c36 q52
                    refine lv_lload hx hb (dd_of dX12_share_2 14 rfl) (lv_at hl 1 rfl) ?_
                    refine lv_lload hx hb (dd_of dX12_share_2 15 rfl) (lv_at hl 3 rfl) ?_
                    refine jl_ne (tgt := 179) hx hb (dd_of dX12_share_2 16 rfl) (dd_of dX12_share_2 17 rfl) (by decide) (fun c37 => ?_) (fun c37 => ?_)
                    · replace q52 := ifN c37 q52
                      refine lv_iconst (v := 0) hx hb (dd_of dX12_share_2 23 rfl) (by decide) ?_
                      exact K54 _ q52
                    · replace q52 := ifE c37 q52
                      refine lv_iload hx hb (dd_of dX12_share_2 18 rfl) (lv_at hl 2 rfl) ?_
                      refine lv_iload_n hx hb (dd_of dX12_share_2 19 rfl) rfl (lv_at hl 8 rfl) ?_
                      refine lv_icmp_ge (tgt := 179) hx hb (dd_of dX12_share_2 20 rfl) (by decide) (fun c38 => ?_) (fun c38 => ?_)
                      · replace q52 := ifE c38 q52
                        refine lv_iconst (v := 0) hx hb (dd_of dX12_share_2 23 rfl) (by decide) ?_
                        exact K54 _ q52
                      · replace q52 := ifN c38 q52
                        refine lv_iconst (v := 1) hx hb (dd_of dX12_share_2 21 rfl) (by decide) ?_
                        refine lv_goto (tgt := 180) hx hb (dd_of dX12_share_2 22 rfl) (by decide) ?_
                        exact K54 _ q52
        refine LP102 x23 y18 p1 p2 _ _ 80 0 0 x19 ls (lv_sub hl [0, 1, 2, 3, 4, 5, 6, 7] rfl) hok hres (fun y41 y42 y43 ls hl hok hres => ?_)
        refine lv_iload_n hx hb (dd_of dX12_share_2 28 rfl) rfl (lv_at hl 6 rfl) ?_
        refine lv_i2l (v := (Int32.toInt64 p1)) hx hb (dd_of dX12_share_2 29 rfl) rfl ?_
        refine lv_aload_n hx hb (dd_of dX12_share_2 30 rfl) rfl (lv_at hl 5 rfl) ?_
        refine lv_iload_n hx hb (dd_of dX12_share_2 31 rfl) rfl (lv_at hl 7 rfl) ?_
        have h44 := hok.1
        replace hok := hok.2
        refine jc_l (As := [.int p2]) (rest := [.long (Int32.toInt64 p1)]) (w := (mW yy A F7 G)) (D := D) (yy := yy) ⟨hx, hb, hml, hown, hts⟩ (qX12_weightOf l D yy A F7 G p2 h44) (cwV 1 hts (jgV gw1213 gw1214 gw1215 gw5 gw1216) rfl rfl rfl (by decide +kernel) ⟨Nat.le_of_ble_eq_true rfl, Nat.le_of_ble_eq_true rfl⟩) hP hK (va_recv hK hP (ci := 12) (q0 := 0) rfl rfl) rfl hl.1 rfl (Nat.le_of_ble_eq_true rfl) (dd_of dX12_share_2 32 rfl) ⟨Nat.zero_le _, Nat.zero_le _⟩ (fun x45 ex45 => ?_)
        replace hres := bvE ex45 hres
        replace hok := bvO ex45 hok
        refine lv_lmul hx hb (dd_of dX12_share_2 33 rfl) ?_
        refine lv_lload_n hx hb (dd_of dX12_share_2 34 rfl) rfl (lv_at hl 4 rfl) ?_
        have h46 := hok
        refine lv_ldiv hx hb (dd_of dX12_share_2 35 rfl) h46 ?_
        refine lv_l2i (v := (Int64.toInt32 (((Int32.toInt64 p1) * x45) / y18))) hx hb (dd_of dX12_share_2 36 rfl) rfl ?_
        refine lv_iload hx hb (dd_of dX12_share_2 37 rfl) (lv_at hl 2 rfl) ?_
        refine lv_i2l (v := (Int32.toInt64 y42)) hx hb (dd_of dX12_share_2 38 rfl) rfl ?_
        refine lv_lload hx hb (dd_of dX12_share_2 39 rfl) (lv_at hl 3 rfl) ?_
        obtain ⟨z56, q55⟩ : ∃ z : Int32, (if y43 ≤ (Int32.toInt64 y42) then 0 else 1) = z := ⟨_, rfl⟩
        refine jn_i (ls := ls) (v := z56) 214 [.int (Int64.toInt32 (((Int32.toInt64 p1) * x45) / y18))] (fun v48 ev48 => ?_) (fun K57 => ?_)
        · replace hres := bvE (ev48.trans q55.symm) hres
          refine lv_iadd hx hb (dd_of dX12_share_3 5 rfl) ?_
          subst hQ
          exact W.iret (v := ((Int64.toInt32 (((Int32.toInt64 p1) * x45) / y18)) + v48)) hx hb hr (fun t ht hW => ⟨⟨((Int64.toInt32 (((Int32.toInt64 p1) * x45) / y18)) + v48), (F7, G), rfl, hres, by rw [ht]; exact hP, va_K.moved hW.alike hK, hD⟩, hS.F ht⟩) hS.2.2 (dd_of dX12_share_3 6 rfl) hlk
        · skip
          refine jl_ge (tgt := 213) hx hb (dd_of dX12_share_3 0 rfl) (dd_of dX12_share_3 1 rfl) (by decide) (fun c47 => ?_) (fun c47 => ?_)
          · replace q55 := ifE c47 q55
            refine lv_iconst (v := 0) hx hb (dd_of dX12_share_3 4 rfl) (by decide) ?_
            exact K57 _ q55
          · replace q55 := ifN c47 q55
            refine lv_iconst (v := 1) hx hb (dd_of dX12_share_3 2 rfl) (by decide) ?_
            refine lv_goto (tgt := 214) hx hb (dd_of dX12_share_3 3 rfl) (by decide) ?_
            exact K57 _ q55
      · replace hres := ifE c12 hres
        refine lv_iconst (v := 0) hx hb (dd_of dX12_share_0 25 rfl) (by decide) ?_
        subst hQ
        exact W.iret (v := 0) hx hb hr (fun t ht hW => ⟨⟨0, (F7, G), rfl, hres, by rw [ht]; exact hP, va_K.moved hW.alike hK, hD⟩, hS.F ht⟩) hS.2.2 (dd_of dX12_share_0 26 rfl) hlk
  · skip
    refine lv_if_ne (tgt := 13) hx hb (dd_of dX12_share_0 4 rfl) (by decide) (fun c3 => ?_) (fun c3 => ?_)
    · replace q49 := ifN c3 q49
      refine lv_iload_n hx hb (dd_of dX12_share_0 7 rfl) rfl (lv_at hl 1 rfl) ?_
      refine lv_iconst (v := 0) hx hb (dd_of dX12_share_0 8 rfl) (by decide) ?_
      refine lv_ldcw (v := 999999) hx hb hown (jw hts gw1212) (dd_of dX12_share_0 9 rfl) ?_
      refine jc_si (As := [.int p1, .int 0, .int 999999]) (rest := [.ref (A 99)]) ⟨hx, hb, hml, hown, hts⟩ (qX12_in l p1 0 999999 ) (cwS 3 hts (jgS gw591 gw592 gw5 gw593) rfl rfl rfl (by decide +kernel) ⟨Nat.le_of_ble_eq_true rfl, Nat.le_of_ble_eq_true rfl⟩) rfl hl.1 rfl (Nat.le_of_ble_eq_true rfl) (dd_of dX12_share_0 10 rfl) ⟨Nat.zero_le _, Nat.zero_le _⟩ (fun x4 ex4 => ?_)
      replace q49 := bvE ex4 q49
      refine lv_if_ne (tgt := 28) hx hb (dd_of dX12_share_0 11 rfl) (by decide) (fun c5 => ?_) (fun c5 => ?_)
      · replace q49 := ifN c5 q49
        refine lv_iconst (v := 0) hx hb (dd_of dX12_share_0 14 rfl) (by decide) ?_
        exact K51 _ q49
      · replace q49 := ifE c5 q49
        refine lv_iconst (v := 2) hx hb (dd_of dX12_share_0 12 rfl) (by decide) ?_
        refine lv_goto (tgt := 29) hx hb (dd_of dX12_share_0 13 rfl) (by decide) ?_
        exact K51 _ q49
    · replace q49 := ifE c3 q49
      refine lv_iconst (v := 1) hx hb (dd_of dX12_share_0 5 rfl) (by decide) ?_
      refine lv_goto (tgt := 29) hx hb (dd_of dX12_share_0 6 rfl) (by decide) ?_
      exact K51 _ q49
set_option maxHeartbeats 4000000 in
set_option maxRecDepth 100000 in
theorem qX12_digest (l : Launch) (D : va_G) (yy : Nat → ClassId) (A : Nat → Nat) (F : jF) (G : jG) (sz : Nat)  (hok : okX12_digest F G ) : Met l yX12_digest (Cond.code yX12_digest cX12_digest 4 (some .long) :: wsL_law) rmX12_digest (va_Pc [.ref (A 99)] (jP D yy (mW yy A F G) sz)) (va_Ql (fun r (u : jS) => (r, u) = gX12_digest F G ) (fun (u : jS) t => jB D yy (va_A (mW yy A F G) sz) (mW yy A u.1 u.2) t) (va_A (mW yy A F G) sz)) 0 0 (va_A (mW yy A F G) sz) := by
  generalize hres : gX12_digest F G  = RES
  refine jM (own := RX12) (by decide) rfl (Nat.le_of_ble_eq_true rfl) ?_
  intro p e s m args below meth c ls Q hQ hargs S hr hlk hinit hB hl
  obtain ⟨hx, hb, hml, hown, hts⟩ := S
  have hl : lv_has ls 4 [(0, .ref (A 99))] := hl
  have hin12 : ∀ w ∈ u_ws RX12 TX12 61, w ∈ (Cond.code yX12_digest cX12_digest 4 (some .long) :: wsL_law) := fun w h => List.mem_cons_of_mem _ (inlX12 w h)
  obtain ⟨hsz, hP, hK, hD0⟩ := hB
  subst hsz
  have hD := hD0.self (sz := s.heap.size)
  generalize hZ : va_A (mW yy A F G) s.heap.size = Z at hD hQ
  have hA : ∀ q : Nat, s.heap.size ≤ q → Z q := fun q h => by rw [← hZ]; exact Or.inr h
  obtain ⟨H, hH⟩ : ∃ z, z = s.heap := ⟨_, rfl⟩
  obtain ⟨locs, hlocs⟩ : ∃ z : List Loc, z = [] := ⟨_, rfl⟩
  have hS : va_S Z s.heap H locs := by rw [hH, hlocs]; exact va_S.rf
  rw [← hH] at hP
  suffices hgo : W p l e rmX12_digest s m args below meth c H locs 0 0 Q (F0 m 0 ls []) by rw [hH, hlocs] at hgo; exact hgo
  unfold gX12_digest at hres
  unfold okX12_digest at hok
  refine lv_aload_n hx hb (dd_of dX12_digest_0 0 rfl) rfl (lv_at hl 0 rfl) ?_
  refine lv_iconst (v := 0) hx hb (dd_of dX12_digest_0 1 rfl) (by decide) ?_
  refine va_put (D := D) (cl := vwCl) (tys := jT yy) (ci := 12) (v := .int 0) (ty := .int) (C := RX12) (T := TX12) (N := 61) hx hb hts hin12 tyX12 tyX12_ok nmX12 hown hK hP hD hS 0 rfl rfl 60 (by decide) (jw hts gw590) (fun _ h9 => h9) rfl (by decide +kernel) rfl rfl (Nat.le_of_ble_eq_true rfl) (dd_of dX12_digest_0 2 rfl) (fun H locs hP hD hS => ?_)
  obtain ⟨F1, e2⟩ : ∃ z : jF, z = u2 F 60 0 0 := ⟨_, rfl⟩
  have hP : va_P D vwCl (mW yy A F1 G) H := by rw [e2]; exact hP
  have hD : va_D Z (mW yy A F1 G) := by rw [e2]; exact hD
  replace hres := bvE e2 hres
  replace hok := bvO e2 hok
  refine lv_ldc2 (v := 7) hx hb hown (jw hts gw1251) (dd_of dX12_digest_0 3 rfl) ?_
  refine lv_lstore_n (lv' := [(1, .long 7), (0, .ref (A 99))]) hx hb (dd_of dX12_digest_0 4 rfl) rfl hl (by decide) rfl (fun ls hl => ?_)
  refine lv_ldc2 (v := 31) hx hb hown (jw hts gw1252) (dd_of dX12_digest_0 5 rfl) ?_
  refine lv_lload_n hx hb (dd_of dX12_digest_0 6 rfl) rfl (lv_at hl 0 rfl) ?_
  refine lv_lmul hx hb (dd_of dX12_digest_0 7 rfl) ?_
  refine lv_aload_n hx hb (dd_of dX12_digest_0 8 rfl) rfl (lv_at hl 1 rfl) ?_
  refine va_get (D := D) (cl := vwCl) (tys := jT yy) (ci := 12) (v := .int (F1 0 0)) (C := RX12) (T := TX12) (N := 61) hx hb hts hin12 hown hK hP 0 rfl rfl 0 (by decide) (jw hts gw785) (fun _ h9 => h9) rfl (dd_of dX12_digest_0 9 rfl) ?_
  refine lv_i2l (v := (Int32.toInt64 (F1 0 0))) hx hb (dd_of dX12_digest_0 10 rfl) rfl ?_
  refine lv_ladd hx hb (dd_of dX12_digest_0 11 rfl) ?_
  refine lv_topl (fun x3 ex3 => ?_)
  replace hres := bvE ex3 hres
  replace hok := bvO ex3 hok
  refine lv_lstore_n (lv' := [(1, .long x3), (0, .ref (A 99))]) hx hb (dd_of dX12_digest_0 12 rfl) rfl hl (by decide) rfl (fun ls hl => ?_)
  refine lv_ldc2 (v := 31) hx hb hown (jw hts gw1252) (dd_of dX12_digest_0 13 rfl) ?_
  refine lv_lload_n hx hb (dd_of dX12_digest_0 14 rfl) rfl (lv_at hl 0 rfl) ?_
  refine lv_lmul hx hb (dd_of dX12_digest_0 15 rfl) ?_
  refine lv_aload_n hx hb (dd_of dX12_digest_0 16 rfl) rfl (lv_at hl 1 rfl) ?_
  refine va_get (D := D) (cl := vwCl) (tys := jT yy) (ci := 12) (v := .long (G 2 0)) (C := RX12) (T := TX12) (N := 61) hx hb hts hin12 hown hK hP 0 rfl rfl 2 (by decide) (jw hts gw814) (fun _ h9 => h9) rfl (dd_of dX12_digest_0 17 rfl) ?_
  refine lv_ladd hx hb (dd_of dX12_digest_0 18 rfl) ?_
  refine lv_topl (fun x4 ex4 => ?_)
  replace hres := bvE ex4 hres
  replace hok := bvO ex4 hok
  refine lv_lstore_n (lv' := [(1, .long x4), (0, .ref (A 99))]) hx hb (dd_of dX12_digest_0 19 rfl) rfl hl (by decide) rfl (fun ls hl => ?_)
  refine lv_iconst (v := 0) hx hb (dd_of dX12_digest_0 20 rfl) (by decide) ?_
  refine lv_istore_n (lv' := [(3, .int 0), (1, .long x4), (0, .ref (A 99))]) hx hb (dd_of dX12_digest_0 21 rfl) rfl hl (by decide) rfl (fun ls hl => ?_)
  have LP34 : ∀ (K : Int32 → Int64 → (Int64 × jS)) (okK : Int32 → Int64 → Prop) (n : Nat), ∀ (v3 : Int32) (v1 : Int64), ∀ (ls : Array Slot), lv_has ls 4 [(3, .int v3), (1, .long v1), (0, .ref (A 99))] → okX12_digest_L34 F1 G  okK n v3 v1 → gX12_digest_L34 F1 G  K n v3 v1 = RES → (∀ (v3 : Int32) (v1 : Int64), ∀ (ls : Array Slot), lv_has ls 4 [(3, .int v3), (1, .long v1), (0, .ref (A 99))] → okK v3 v1 → K v3 v1 = RES → W p l e rmX12_digest s m args below meth c H locs 0 0 Q (F0 m 86 ls [])) → W p l e rmX12_digest s m args below meth c H locs 0 0 Q (F0 m 34 ls []) := by
    intro  K okK n
    induction n with
    | zero =>
      intro v3 v1 ls hl hok _ _
      exact absurd hok (by unfold okX12_digest_L34; exact id)
    | succ n9 ih =>
      intro v3 v1 ls hl hok hres hexit
      unfold gX12_digest_L34 at hres
      unfold okX12_digest_L34 at hok
      refine lv_iload_n hx hb (dd_of dX12_digest_0 22 rfl) rfl (lv_at hl 0 rfl) ?_
      refine lv_aload_n hx hb (dd_of dX12_digest_0 23 rfl) rfl (lv_at hl 2 rfl) ?_
      refine va_get (D := D) (cl := vwCl) (tys := jT yy) (ci := 12) (v := .int (F1 8 0)) (C := RX12) (T := TX12) (N := 61) hx hb hts hin12 hown hK hP 0 rfl rfl 8 (by decide) (jw hts gw589) (fun _ h9 => h9) rfl (dd_of dX12_digest_0 24 rfl) ?_
      refine lv_icmp_ge (tgt := 86) hx hb (dd_of dX12_digest_0 25 rfl) (by decide) (fun c5 => ?_) (fun c5 => ?_)
      · replace hres := ifE c5 hres
        replace hok := hok.1 c5
        exact hexit v3 v1 ls (lv_sub hl [0, 1, 2] rfl) hok hres
      · replace hres := ifN c5 hres
        replace hok := hok.2 c5
        refine lv_ldc2 (v := 31) hx hb hown (jw hts gw1252) (dd_of dX12_digest_0 26 rfl) ?_
        refine lv_lload_n hx hb (dd_of dX12_digest_0 27 rfl) rfl (lv_at hl 1 rfl) ?_
        refine lv_lmul hx hb (dd_of dX12_digest_0 28 rfl) ?_
        refine lv_aload_n hx hb (dd_of dX12_digest_0 29 rfl) rfl (lv_at hl 2 rfl) ?_
        refine va_get (D := D) (cl := vwCl) (tys := jT yy) (ci := 12) (v := .ref (A 14)) (C := RX12) (T := TX12) (N := 61) hx hb hts hin12 hown hK hP 0 rfl rfl 14 (by decide) (jw hts gw130) (fun _ h9 => h9) rfl (dd_of dX12_digest_0 30 rfl) ?_
        refine lv_iload_n hx hb (dd_of dX12_digest_0 31 rfl) rfl (lv_at hl 0 rfl) ?_
        have h6 := hok.1
        replace hok := hok.2
        refine va_lald hx hb hK hP 6 1 rfl rfl h6 (dd_of dX12_digest_0 32 rfl) ?_
        refine lv_ladd hx hb (dd_of dX12_digest_0 33 rfl) ?_
        refine lv_topl (fun x7 ex7 => ?_)
        replace hres := bvE ex7 hres
        replace hok := bvO ex7 hok
        refine lv_lstore_n (lv' := [(1, .long x7), (3, .int v3), (0, .ref (A 99))]) hx hb (dd_of dX12_digest_0 34 rfl) rfl hl (by decide) rfl (fun ls hl => ?_)
        refine lv_ldc2 (v := 31) hx hb hown (jw hts gw1252) (dd_of dX12_digest_0 35 rfl) ?_
        refine lv_lload_n hx hb (dd_of dX12_digest_0 36 rfl) rfl (lv_at hl 0 rfl) ?_
        refine lv_lmul hx hb (dd_of dX12_digest_0 37 rfl) ?_
        refine lv_aload_n hx hb (dd_of dX12_digest_0 38 rfl) rfl (lv_at hl 2 rfl) ?_
        refine lv_iload_n hx hb (dd_of dX12_digest_0 39 rfl) rfl (lv_at hl 1 rfl) ?_
        have h8 := hok.1
        replace hok := hok.2
        refine jc_l (As := [.int v3]) (rest := [.long (31 * x7)]) (w := (mW yy A F1 G)) (D := D) (yy := yy) ⟨hx, hb, hml, hown, hts⟩ (qX12_levelOf l D yy A F1 G v3 h8) (cwV 1 hts (jgV gw781 gw782 gw783 gw5 gw784) rfl rfl rfl (by decide +kernel) ⟨Nat.le_of_ble_eq_true rfl, Nat.le_of_ble_eq_true rfl⟩) hP hK (va_recv hK hP (ci := 12) (q0 := 0) rfl rfl) rfl hl.1 rfl (Nat.le_of_ble_eq_true rfl) (dd_of dX12_digest_1 0 rfl) ⟨Nat.zero_le _, Nat.zero_le _⟩ (fun x9 ex9 => ?_)
        replace hres := bvE ex9 hres
        replace hok := bvO ex9 hok
        refine lv_ladd hx hb (dd_of dX12_digest_1 1 rfl) ?_
        refine lv_topl (fun x10 ex10 => ?_)
        replace hres := bvE ex10 hres
        replace hok := bvO ex10 hok
        refine lv_lstore_n (lv' := [(1, .long x10), (3, .int v3), (0, .ref (A 99))]) hx hb (dd_of dX12_digest_1 2 rfl) rfl hl (by decide) rfl (fun ls hl => ?_)
        refine lv_ldc2 (v := 31) hx hb hown (jw hts gw1252) (dd_of dX12_digest_1 3 rfl) ?_
        refine lv_lload_n hx hb (dd_of dX12_digest_1 4 rfl) rfl (lv_at hl 0 rfl) ?_
        refine lv_lmul hx hb (dd_of dX12_digest_1 5 rfl) ?_
        refine lv_aload_n hx hb (dd_of dX12_digest_1 6 rfl) rfl (lv_at hl 2 rfl) ?_
        refine va_get (D := D) (cl := vwCl) (tys := jT yy) (ci := 12) (v := .ref (A 15)) (C := RX12) (T := TX12) (N := 61) hx hb hts hin12 hown hK hP 0 rfl rfl 15 (by decide) (jw hts gw131) (fun _ h9 => h9) rfl (dd_of dX12_digest_1 7 rfl) ?_
        refine lv_iload_n hx hb (dd_of dX12_digest_1 8 rfl) rfl (lv_at hl 1 rfl) ?_
        have h11 := hok.1
        replace hok := hok.2
        refine va_lald hx hb hK hP 7 1 rfl rfl h11 (dd_of dX12_digest_1 9 rfl) ?_
        refine lv_ladd hx hb (dd_of dX12_digest_1 10 rfl) ?_
        refine lv_topl (fun x12 ex12 => ?_)
        replace hres := bvE ex12 hres
        replace hok := bvO ex12 hok
        refine lv_lstore_n (lv' := [(1, .long x12), (3, .int v3), (0, .ref (A 99))]) hx hb (dd_of dX12_digest_1 11 rfl) rfl hl (by decide) rfl (fun ls hl => ?_)
        refine lv_iinc (v := (v3 + 1)) (lv' := [(3, .int (v3 + 1)), (1, .long x12), (0, .ref (A 99))]) hx hb (dd_of dX12_digest_1 12 rfl) hl (k := 1) rfl rfl (by decide) rfl (fun ls hl => ?_)
        refine lv_goto (tgt := 34) hx hb (dd_of dX12_digest_1 13 rfl) (by decide) ?_
        exact ih (v3 + 1) x12 ls (lv_sub hl [0, 1, 2] rfl) hok hres hexit
  refine LP34  _ _ 80 0 x4 ls (lv_sub hl [0, 1, 2] rfl) hok hres (fun y13 y14 ls hl hok hres => ?_)
  refine lv_iconst (v := 0) hx hb (dd_of dX12_digest_1 14 rfl) (by decide) ?_
  refine lv_istore_n (lv' := [(3, .int 0), (1, .long y14), (0, .ref (A 99))]) hx hb (dd_of dX12_digest_1 15 rfl) rfl hl (by decide) rfl (fun ls hl => ?_)
  have LP88 : ∀ (K : Int32 → Int64 → (Int64 × jS)) (okK : Int32 → Int64 → Prop) (n : Nat), ∀ (v3 : Int32) (v1 : Int64), ∀ (ls : Array Slot), lv_has ls 4 [(3, .int v3), (1, .long v1), (0, .ref (A 99))] → okX12_digest_L88 F1 G  okK n v3 v1 → gX12_digest_L88 F1 G  K n v3 v1 = RES → (∀ (v3 : Int32) (v1 : Int64), ∀ (ls : Array Slot), lv_has ls 4 [(3, .int v3), (1, .long v1), (0, .ref (A 99))] → okK v3 v1 → K v3 v1 = RES → W p l e rmX12_digest s m args below meth c H locs 0 0 Q (F0 m 144 ls [])) → W p l e rmX12_digest s m args below meth c H locs 0 0 Q (F0 m 88 ls []) := by
    intro  K okK n
    induction n with
    | zero =>
      intro v3 v1 ls hl hok _ _
      exact absurd hok (by unfold okX12_digest_L88; exact id)
    | succ n9 ih =>
      intro v3 v1 ls hl hok hres hexit
      unfold gX12_digest_L88 at hres
      unfold okX12_digest_L88 at hok
      refine lv_iload_n hx hb (dd_of dX12_digest_1 16 rfl) rfl (lv_at hl 0 rfl) ?_
      refine lv_aload_n hx hb (dd_of dX12_digest_1 17 rfl) rfl (lv_at hl 2 rfl) ?_
      refine va_get (D := D) (cl := vwCl) (tys := jT yy) (ci := 12) (v := .int (F1 32 0)) (C := RX12) (T := TX12) (N := 61) hx hb hts hin12 hown hK hP 0 rfl rfl 32 (by decide) (jw hts gw707) (fun _ h9 => h9) rfl (dd_of dX12_digest_1 18 rfl) ?_
      refine lv_icmp_ge (tgt := 144) hx hb (dd_of dX12_digest_1 19 rfl) (by decide) (fun c15 => ?_) (fun c15 => ?_)
      · replace hres := ifE c15 hres
        replace hok := hok.1 c15
        exact hexit v3 v1 ls (lv_sub hl [0, 1, 2] rfl) hok hres
      · replace hres := ifN c15 hres
        replace hok := hok.2 c15
        refine lv_ldc2 (v := 31) hx hb hown (jw hts gw1252) (dd_of dX12_digest_1 20 rfl) ?_
        refine lv_lload_n hx hb (dd_of dX12_digest_1 21 rfl) rfl (lv_at hl 1 rfl) ?_
        refine lv_lmul hx hb (dd_of dX12_digest_1 22 rfl) ?_
        refine lv_aload_n hx hb (dd_of dX12_digest_1 23 rfl) rfl (lv_at hl 2 rfl) ?_
        refine va_get (D := D) (cl := vwCl) (tys := jT yy) (ci := 12) (v := .ref (A 35)) (C := RX12) (T := TX12) (N := 61) hx hb hts hin12 hown hK hP 0 rfl rfl 35 (by decide) (jw hts gw148) (fun _ h9 => h9) rfl (dd_of dX12_digest_1 24 rfl) ?_
        refine lv_iload_n hx hb (dd_of dX12_digest_1 25 rfl) rfl (lv_at hl 0 rfl) ?_
        have h16 := hok.1
        replace hok := hok.2
        refine va_iald hx hb hK hP 24 0 rfl rfl h16 (dd_of dX12_digest_1 26 rfl) ?_
        refine lv_i2l (v := (Int32.toInt64 (F1 35 (Int32.toNatClampNeg v3)))) hx hb (dd_of dX12_digest_1 27 rfl) rfl ?_
        refine lv_ladd hx hb (dd_of dX12_digest_1 28 rfl) ?_
        refine lv_topl (fun x17 ex17 => ?_)
        replace hres := bvE ex17 hres
        replace hok := bvO ex17 hok
        refine lv_lstore_n (lv' := [(1, .long x17), (3, .int v3), (0, .ref (A 99))]) hx hb (dd_of dX12_digest_1 29 rfl) rfl hl (by decide) rfl (fun ls hl => ?_)
        refine lv_ldc2 (v := 31) hx hb hown (jw hts gw1252) (dd_of dX12_digest_1 30 rfl) ?_
        refine lv_lload_n hx hb (dd_of dX12_digest_1 31 rfl) rfl (lv_at hl 0 rfl) ?_
        refine lv_lmul hx hb (dd_of dX12_digest_1 32 rfl) ?_
        refine lv_aload_n hx hb (dd_of dX12_digest_1 33 rfl) rfl (lv_at hl 2 rfl) ?_
        refine va_get (D := D) (cl := vwCl) (tys := jT yy) (ci := 12) (v := .ref (A 38)) (C := RX12) (T := TX12) (N := 61) hx hb hts hin12 hown hK hP 0 rfl rfl 38 (by decide) (jw hts gw151) (fun _ h9 => h9) rfl (dd_of dX12_digest_1 34 rfl) ?_
        refine lv_iload_n hx hb (dd_of dX12_digest_1 35 rfl) rfl (lv_at hl 1 rfl) ?_
        have h18 := hok.1
        replace hok := hok.2
        refine va_iald hx hb hK hP 27 0 rfl rfl h18 (dd_of dX12_digest_1 36 rfl) ?_
        refine lv_i2l (v := (Int32.toInt64 (F1 38 (Int32.toNatClampNeg v3)))) hx hb (dd_of dX12_digest_1 37 rfl) rfl ?_
        refine lv_ladd hx hb (dd_of dX12_digest_1 38 rfl) ?_
        refine lv_topl (fun x19 ex19 => ?_)
        replace hres := bvE ex19 hres
        replace hok := bvO ex19 hok
        refine lv_lstore_n (lv' := [(1, .long x19), (3, .int v3), (0, .ref (A 99))]) hx hb (dd_of dX12_digest_1 39 rfl) rfl hl (by decide) rfl (fun ls hl => ?_)
        refine lv_ldc2 (v := 31) hx hb hown (jw hts gw1252) (dd_of dX12_digest_2 0 rfl) ?_
        refine lv_lload_n hx hb (dd_of dX12_digest_2 1 rfl) rfl (lv_at hl 0 rfl) ?_
        refine lv_lmul hx hb (dd_of dX12_digest_2 2 rfl) ?_
        refine lv_aload_n hx hb (dd_of dX12_digest_2 3 rfl) rfl (lv_at hl 2 rfl) ?_
        refine va_get (D := D) (cl := vwCl) (tys := jT yy) (ci := 12) (v := .ref (A 39)) (C := RX12) (T := TX12) (N := 61) hx hb hts hin12 hown hK hP 0 rfl rfl 39 (by decide) (jw hts gw152) (fun _ h9 => h9) rfl (dd_of dX12_digest_2 4 rfl) ?_
        refine lv_iload_n hx hb (dd_of dX12_digest_2 5 rfl) rfl (lv_at hl 1 rfl) ?_
        have h20 := hok.1
        replace hok := hok.2
        refine va_iald hx hb hK hP 28 0 rfl rfl h20 (dd_of dX12_digest_2 6 rfl) ?_
        refine lv_i2l (v := (Int32.toInt64 (F1 39 (Int32.toNatClampNeg v3)))) hx hb (dd_of dX12_digest_2 7 rfl) rfl ?_
        refine lv_ladd hx hb (dd_of dX12_digest_2 8 rfl) ?_
        refine lv_topl (fun x21 ex21 => ?_)
        replace hres := bvE ex21 hres
        replace hok := bvO ex21 hok
        refine lv_lstore_n (lv' := [(1, .long x21), (3, .int v3), (0, .ref (A 99))]) hx hb (dd_of dX12_digest_2 9 rfl) rfl hl (by decide) rfl (fun ls hl => ?_)
        refine lv_iinc (v := (v3 + 1)) (lv' := [(3, .int (v3 + 1)), (1, .long x21), (0, .ref (A 99))]) hx hb (dd_of dX12_digest_2 10 rfl) hl (k := 1) rfl rfl (by decide) rfl (fun ls hl => ?_)
        refine lv_goto (tgt := 88) hx hb (dd_of dX12_digest_2 11 rfl) (by decide) ?_
        exact ih (v3 + 1) x21 ls (lv_sub hl [0, 1, 2] rfl) hok hres hexit
  refine LP88  _ _ 80 0 y14 ls (lv_sub hl [0, 1, 2] rfl) hok hres (fun y22 y23 ls hl hok hres => ?_)
  refine lv_iconst (v := 0) hx hb (dd_of dX12_digest_2 12 rfl) (by decide) ?_
  refine lv_istore_n (lv' := [(3, .int 0), (1, .long y23), (0, .ref (A 99))]) hx hb (dd_of dX12_digest_2 13 rfl) rfl hl (by decide) rfl (fun ls hl => ?_)
  have LP146 : ∀ (K : Int32 → Int64 → (Int64 × jS)) (okK : Int32 → Int64 → Prop) (n : Nat), ∀ (v3 : Int32) (v1 : Int64), ∀ (ls : Array Slot), lv_has ls 4 [(3, .int v3), (1, .long v1), (0, .ref (A 99))] → okX12_digest_L146 F1 G  okK n v3 v1 → gX12_digest_L146 F1 G  K n v3 v1 = RES → (∀ (v3 : Int32) (v1 : Int64), ∀ (ls : Array Slot), lv_has ls 4 [(3, .int v3), (1, .long v1), (0, .ref (A 99))] → okK v3 v1 → K v3 v1 = RES → W p l e rmX12_digest s m args below meth c H locs 0 0 Q (F0 m 188 ls [])) → W p l e rmX12_digest s m args below meth c H locs 0 0 Q (F0 m 146 ls []) := by
    intro  K okK n
    induction n with
    | zero =>
      intro v3 v1 ls hl hok _ _
      exact absurd hok (by unfold okX12_digest_L146; exact id)
    | succ n9 ih =>
      intro v3 v1 ls hl hok hres hexit
      unfold gX12_digest_L146 at hres
      unfold okX12_digest_L146 at hok
      refine lv_iload_n hx hb (dd_of dX12_digest_2 14 rfl) rfl (lv_at hl 0 rfl) ?_
      refine lv_aload_n hx hb (dd_of dX12_digest_2 15 rfl) rfl (lv_at hl 2 rfl) ?_
      refine va_get (D := D) (cl := vwCl) (tys := jT yy) (ci := 12) (v := .int (F1 23 0)) (C := RX12) (T := TX12) (N := 61) hx hb hts hin12 hown hK hP 0 rfl rfl 23 (by decide) (jw hts gw694) (fun _ h9 => h9) rfl (dd_of dX12_digest_2 16 rfl) ?_
      refine lv_icmp_ge (tgt := 188) hx hb (dd_of dX12_digest_2 17 rfl) (by decide) (fun c24 => ?_) (fun c24 => ?_)
      · replace hres := ifE c24 hres
        replace hok := hok.1 c24
        exact hexit v3 v1 ls (lv_sub hl [0, 1, 2] rfl) hok hres
      · replace hres := ifN c24 hres
        replace hok := hok.2 c24
        refine lv_ldc2 (v := 31) hx hb hown (jw hts gw1252) (dd_of dX12_digest_2 18 rfl) ?_
        refine lv_lload_n hx hb (dd_of dX12_digest_2 19 rfl) rfl (lv_at hl 1 rfl) ?_
        refine lv_lmul hx hb (dd_of dX12_digest_2 20 rfl) ?_
        refine lv_aload_n hx hb (dd_of dX12_digest_2 21 rfl) rfl (lv_at hl 2 rfl) ?_
        refine va_get (D := D) (cl := vwCl) (tys := jT yy) (ci := 12) (v := .ref (A 30)) (C := RX12) (T := TX12) (N := 61) hx hb hts hin12 hown hK hP 0 rfl rfl 30 (by decide) (jw hts gw144) (fun _ h9 => h9) rfl (dd_of dX12_digest_2 22 rfl) ?_
        refine lv_iload_n hx hb (dd_of dX12_digest_2 23 rfl) rfl (lv_at hl 0 rfl) ?_
        have h25 := hok.1
        replace hok := hok.2
        refine va_iald hx hb hK hP 20 0 rfl rfl h25 (dd_of dX12_digest_2 24 rfl) ?_
        refine lv_i2l (v := (Int32.toInt64 (F1 30 (Int32.toNatClampNeg v3)))) hx hb (dd_of dX12_digest_2 25 rfl) rfl ?_
        refine lv_ladd hx hb (dd_of dX12_digest_2 26 rfl) ?_
        refine lv_topl (fun x26 ex26 => ?_)
        replace hres := bvE ex26 hres
        replace hok := bvO ex26 hok
        refine lv_lstore_n (lv' := [(1, .long x26), (3, .int v3), (0, .ref (A 99))]) hx hb (dd_of dX12_digest_2 27 rfl) rfl hl (by decide) rfl (fun ls hl => ?_)
        refine lv_ldc2 (v := 31) hx hb hown (jw hts gw1252) (dd_of dX12_digest_2 28 rfl) ?_
        refine lv_lload_n hx hb (dd_of dX12_digest_2 29 rfl) rfl (lv_at hl 0 rfl) ?_
        refine lv_lmul hx hb (dd_of dX12_digest_2 30 rfl) ?_
        refine lv_aload_n hx hb (dd_of dX12_digest_2 31 rfl) rfl (lv_at hl 2 rfl) ?_
        refine va_get (D := D) (cl := vwCl) (tys := jT yy) (ci := 12) (v := .ref (A 31)) (C := RX12) (T := TX12) (N := 61) hx hb hts hin12 hown hK hP 0 rfl rfl 31 (by decide) (jw hts gw145) (fun _ h9 => h9) rfl (dd_of dX12_digest_2 32 rfl) ?_
        refine lv_iload_n hx hb (dd_of dX12_digest_2 33 rfl) rfl (lv_at hl 1 rfl) ?_
        have h27 := hok.1
        replace hok := hok.2
        refine va_iald hx hb hK hP 21 0 rfl rfl h27 (dd_of dX12_digest_2 34 rfl) ?_
        refine lv_i2l (v := (Int32.toInt64 (F1 31 (Int32.toNatClampNeg v3)))) hx hb (dd_of dX12_digest_2 35 rfl) rfl ?_
        refine lv_ladd hx hb (dd_of dX12_digest_2 36 rfl) ?_
        refine lv_topl (fun x28 ex28 => ?_)
        replace hres := bvE ex28 hres
        replace hok := bvO ex28 hok
        refine lv_lstore_n (lv' := [(1, .long x28), (3, .int v3), (0, .ref (A 99))]) hx hb (dd_of dX12_digest_2 37 rfl) rfl hl (by decide) rfl (fun ls hl => ?_)
        refine lv_iinc (v := (v3 + 1)) (lv' := [(3, .int (v3 + 1)), (1, .long x28), (0, .ref (A 99))]) hx hb (dd_of dX12_digest_2 38 rfl) hl (k := 1) rfl rfl (by decide) rfl (fun ls hl => ?_)
        refine lv_goto (tgt := 146) hx hb (dd_of dX12_digest_2 39 rfl) (by decide) ?_
        exact ih (v3 + 1) x28 ls (lv_sub hl [0, 1, 2] rfl) hok hres hexit
  refine LP146  _ _ 80 0 y23 ls (lv_sub hl [0, 1, 2] rfl) hok hres (fun y29 y30 ls hl hok hres => ?_)
  refine lv_lload_n hx hb (dd_of dX12_digest_3 0 rfl) rfl (lv_at hl 1 rfl) ?_
  subst hQ
  exact W.lret (v := y30) hx hb hr (fun t ht hW => ⟨⟨y30, (F1, G), rfl, hres, by rw [ht]; exact hP, va_K.moved hW.alike hK, hD⟩, hS.F ht⟩) hS.2.2 (dd_of dX12_digest_3 1 rfl) hlk
set_option maxHeartbeats 4000000 in
set_option maxRecDepth 100000 in
theorem qX12_digestAnew (l : Launch) (D : va_G) (yy : Nat → ClassId) (A : Nat → Nat) (F : jF) (G : jG) (sz : Nat)  (hok : okX12_digestAnew F G ) : Met l yX12_digestAnew (Cond.code yX12_digestAnew cX12_digestAnew 1 (some .long) :: wsL_law) rmX12_digestAnew (va_Pc [.ref (A 99)] (jP D yy (mW yy A F G) sz)) (va_Ql (fun r (u : jS) => (r, u) = gX12_digestAnew F G ) (fun (u : jS) t => jB D yy (va_A (mW yy A F G) sz) (mW yy A u.1 u.2) t) (va_A (mW yy A F G) sz)) 0 0 (va_A (mW yy A F G) sz) := by
  generalize hres : gX12_digestAnew F G  = RES
  refine jM (own := RX12) (by decide) rfl (Nat.le_of_ble_eq_true rfl) ?_
  intro p e s m args below meth c ls Q hQ hargs S hr hlk hinit hB hl
  obtain ⟨hx, hb, hml, hown, hts⟩ := S
  have hl : lv_has ls 1 [(0, .ref (A 99))] := hl
  have hin12 : ∀ w ∈ u_ws RX12 TX12 61, w ∈ (Cond.code yX12_digestAnew cX12_digestAnew 1 (some .long) :: wsL_law) := fun w h => List.mem_cons_of_mem _ (inlX12 w h)
  obtain ⟨hsz, hP, hK, hD0⟩ := hB
  subst hsz
  have hD := hD0.self (sz := s.heap.size)
  generalize hZ : va_A (mW yy A F G) s.heap.size = Z at hD hQ
  have hA : ∀ q : Nat, s.heap.size ≤ q → Z q := fun q h => by rw [← hZ]; exact Or.inr h
  obtain ⟨H, hH⟩ : ∃ z, z = s.heap := ⟨_, rfl⟩
  obtain ⟨locs, hlocs⟩ : ∃ z : List Loc, z = [] := ⟨_, rfl⟩
  have hS : va_S Z s.heap H locs := by rw [hH, hlocs]; exact va_S.rf
  rw [← hH] at hP
  suffices hgo : W p l e rmX12_digestAnew s m args below meth c H locs 0 0 Q (F0 m 0 ls []) by rw [hH, hlocs] at hgo; exact hgo
  unfold gX12_digestAnew at hres
  unfold okX12_digestAnew at hok
  refine lv_aload_n hx hb (dd_of dX12_digestAnew_0 0 rfl) rfl (lv_at hl 0 rfl) ?_
  have h1 := hok
  refine jm_l (As := []) (rest := []) (w := (mW yy A F G)) (w1 := fun u : jS => (mW yy A u.1 u.2)) (D := D) (yy := yy) ⟨hx, hb, hml, hown, hts⟩ (qX12_digest l D yy A F G H.size  h1) (cwV 0 hts (jgV gw1262 gw1248 gw1249 gw5 gw1250) rfl rfl rfl (by decide +kernel) ⟨Nat.le_of_ble_eq_true rfl, Nat.le_of_ble_eq_true rfl⟩) hP hK hD hS hA (va_recv hK hP (ci := 12) (q0 := 0) rfl rfl) rfl hl.1 rfl (Nat.le_of_ble_eq_true rfl) (dd_of dX12_digestAnew_0 1 rfl) ⟨Nat.zero_le _, Nat.zero_le _⟩ (fun x5 u9 H locs w4 hP hD hS => ?_)
  obtain ⟨F2, G3⟩ := u9
  have hP : va_P D vwCl (mW yy A F2 G3) H := hP
  have hD : va_D Z (mW yy A F2 G3) := hD
  replace hres := brE w4 hres
  subst hQ
  exact W.lret (v := x5) hx hb hr (fun t ht hW => ⟨⟨x5, (F2, G3), rfl, hres, by rw [ht]; exact hP, va_K.moved hW.alike hK, hD⟩, hS.F ht⟩) hS.2.2 (dd_of dX12_digestAnew_0 2 rfl) hlk
