theorem vin_lit {i : Int32} {n : Nat} (h : decide (¬ (i < 0 ∨ n ≤ i.toNatClampNeg)) = true) : vp_in i n := of_decide_eq_true (p := ¬ (i < 0 ∨ n ≤ i.toNatClampNeg)) h
def mW (yy : Nat → ClassId) (A : Nat → Nat) (F : jF) (G : jG) : va_W := [(A 99, .inr (12, [.int (F 0 0), .int (F 1 0), .long (G 2 0), .int (F 3 0), .int (F 4 0), .int (F 5 0), .int (F 6 0), .int (F 7 0), .int (F 8 0), .ref (A 9), .ref (A 10), .ref (A 11), .ref (A 12), .ref (A 13), .ref (A 14), .ref (A 15), .ref (A 16), .int (F 17 0), .ref (A 18), .ref (A 19), .ref (A 20), .ref (A 21), .ref (A 22), .int (F 23 0), .ref (A 24), .ref (A 25), .ref (A 26), .ref (A 27), .ref (A 28), .ref (A 29), .ref (A 30), .ref (A 31), .int (F 32 0), .ref (A 33), .ref (A 34), .ref (A 35), .ref (A 36), .ref (A 37), .ref (A 38), .ref (A 39), .int (F 40 0), .ref (A 41), .ref (A 42), .ref (A 43), .int (F 44 0), .ref (A 45), .ref (A 46), .ref (A 47), .ref (A 48), .ref (A 49), .ref (A 50), .ref (A 51), .int (F 52 0), .ref (A 53), .ref (A 54), .ref (A 55), .ref (A 56), .ref (A 57), .long (G 58 0), .ref (A 59), .int (F 60 0)])), (A 9, .inl (yy 0, 8, .inl (F 9))), (A 10, .inl (yy 0, 8, .inl (F 10))), (A 11, .inl (yy 0, 8, .inl (F 11))), (A 12, .inl (yy 0, 8, .inl (F 12))), (A 13, .inl (yy 0, 8, .inl (F 13))), (A 14, .inl (yy 1, 8, .inr (.inl (G 14)))), (A 15, .inl (yy 1, 8, .inr (.inl (G 15)))), (A 16, .inl (yy 0, 64, .inl (F 16))), (A 18, .inl (yy 0, 8, .inl (F 18))), (A 19, .inl (yy 0, 8, .inl (F 19))), (A 20, .inl (yy 0, 8, .inl (F 20))), (A 21, .inl (yy 0, 8, .inl (F 21))), (A 22, .inl (yy 0, 8, .inl (F 22))), (A 24, .inl (yy 0, 8, .inl (F 24))), (A 25, .inl (yy 0, 8, .inl (F 25))), (A 26, .inl (yy 0, 8, .inl (F 26))), (A 27, .inl (yy 0, 8, .inl (F 27))), (A 28, .inl (yy 0, 8, .inl (F 28))), (A 29, .inl (yy 0, 8, .inl (F 29))), (A 30, .inl (yy 0, 8, .inl (F 30))), (A 31, .inl (yy 0, 8, .inl (F 31))), (A 33, .inl (yy 0, 8, .inl (F 33))), (A 34, .inl (yy 0, 8, .inl (F 34))), (A 35, .inl (yy 0, 8, .inl (F 35))), (A 36, .inl (yy 0, 8, .inl (F 36))), (A 37, .inl (yy 0, 8, .inl (F 37))), (A 38, .inl (yy 0, 8, .inl (F 38))), (A 39, .inl (yy 0, 8, .inl (F 39))), (A 41, .inl (yy 0, 12, .inl (F 41))), (A 42, .inl (yy 0, 12, .inl (F 42))), (A 43, .inl (yy 0, 12, .inl (F 43))), (A 45, .inl (yy 0, 12, .inl (F 45))), (A 46, .inl (yy 0, 12, .inl (F 46))), (A 47, .inl (yy 0, 12, .inl (F 47))), (A 48, .inl (yy 0, 12, .inl (F 48))), (A 49, .inl (yy 0, 3, .inl (F 49))), (A 50, .inl (yy 0, 3, .inl (F 50))), (A 51, .inl (yy 0, 3, .inl (F 51))), (A 53, .inl (yy 0, 6, .inl (F 53))), (A 54, .inl (yy 0, 6, .inl (F 54))), (A 55, .inl (yy 0, 6, .inl (F 55))), (A 56, .inl (yy 1, 4, .inr (.inl (G 56)))), (A 57, .inl (yy 1, 20, .inr (.inl (G 57)))), (A 59, .inl (yy 0, 8, .inl (F 59)))]

def gX12_thrown (F : jF) (G : jG)  : Int32 := (F 60 0)
abbrev rmX12_thrown : Room := { frames := 0, cells := 0, slots := 0, locals := 0 }
def gX12_in (p1 : Int32) (p2 : Int32) (p3 : Int32) : Int32 := (if p1 < p2 then 0 else (if p3 < p1 then 0 else 1))
abbrev rmX12_in : Room := { frames := 0, cells := 0, slots := 0, locals := 0 }
def gX12_isBasin (F : jF) (G : jG) (p1 : Int32) : Int32 := bv (gX12_in p1 0 ((F 8 0) - 1)) (fun x1 : Int32 => x1)
def okX12_isBasin (F : jF) (G : jG) (p1 : Int32) : Prop := bv (gX12_in p1 0 ((F 8 0) - 1)) (fun x1 : Int32 => (jb x1))
abbrev rmX12_isBasin : Room := { frames := 1, cells := 0, slots := 0, locals := 22 }
def gX12_isEnd (F : jF) (G : jG) (p1 : Int32) : Int32 := bv (gX12_isBasin F G p1) (fun x2 : Int32 => (if x2 = 0 then (if p1 = 20 then 1 else (if p1 = 21 then 1 else 0)) else 1))
def okX12_isEnd (F : jF) (G : jG) (p1 : Int32) : Prop := (okX12_isBasin F G p1)
abbrev rmX12_isEnd : Room := { frames := 2, cells := 0, slots := 0, locals := 43 }
def gX12_addBasin (F : jF) (G : jG) (p1 : Int32) (p2 : Int32) : (Int32 × jS) := bv (gX12_in p1 1 100) (fun x1 : Int32 => bv ((if x1 = 0 then 1 else bv (gX12_in p2 (-500) 500) (fun x3 : Int32 => (if x3 = 0 then 1 else (if (F 8 0) = 8 then 2 else 0)))) : Int32) (fun v6 : Int32 => bv (u2 F 60 0 v6) (fun F7 : jF => (if (F7 60 0) ≤ 0 then bv (u2 F7 9 (Int32.toNatClampNeg (F7 8 0)) p1) (fun F11 : jF => bv (u2 F11 10 (Int32.toNatClampNeg (F11 8 0)) p2) (fun F14 : jF => bv (u2 F14 12 (Int32.toNatClampNeg (F14 8 0)) 100) (fun F17 : jF => bv (u2 F17 8 0 ((F17 8 0) + 1)) (fun F19 : jF => (((F19 8 0) - 1), (F19, G)))))) else (0, (F7, G))))))
def okX12_addBasin (F : jF) (G : jG) (p1 : Int32) (p2 : Int32) : Prop := bv (gX12_in p1 1 100) (fun x1 : Int32 => bv ((if x1 = 0 then 1 else bv (gX12_in p2 (-500) 500) (fun x3 : Int32 => (if x3 = 0 then 1 else (if (F 8 0) = 8 then 2 else 0)))) : Int32) (fun v6 : Int32 => bv (u2 F 60 0 v6) (fun F7 : jF => (((F7 60 0) ≤ 0 → (vp_in (F7 8 0) 8 ∧ bv (u2 F7 9 (Int32.toNatClampNeg (F7 8 0)) p1) (fun F11 : jF => (vp_in (F11 8 0) 8 ∧ bv (u2 F11 10 (Int32.toNatClampNeg (F11 8 0)) p2) (fun F14 : jF => (vp_in (F14 8 0) 8)))))) ∧ (¬ (F7 60 0) ≤ 0 → True)))))
abbrev rmX12_addBasin : Room := { frames := 1, cells := 0, slots := 0, locals := 22 }
def gX12_setLand (F : jF) (G : jG) (p1 : Int32) (p2 : Int32) (p3 : Int32) (p4 : Int32) : jS := bv (gX12_isBasin F G p1) (fun x2 : Int32 => bv ((if x2 = 0 then 1 else bv (gX12_in p2 0 20) (fun x4 : Int32 => (if x4 = 0 then 2 else bv (gX12_in p3 0 9999) (fun x6 : Int32 => (if x6 = 0 then 2 else bv (gX12_in p4 0 99) (fun x8 : Int32 => (if x8 = 0 then 2 else 0))))))) : Int32) (fun v10 : Int32 => bv (u2 F 60 0 v10) (fun F11 : jF => (if (F11 60 0) = 0 then bv (u2 F11 11 (Int32.toNatClampNeg p1) p2) (fun F15 : jF => bv (u2 F15 12 (Int32.toNatClampNeg p1) p3) (fun F18 : jF => bv (u2 F18 13 (Int32.toNatClampNeg p1) p4) (fun F21 : jF => (F21, G)))) else (F11, G)))))
def okX12_setLand (F : jF) (G : jG) (p1 : Int32) (p2 : Int32) (p3 : Int32) (p4 : Int32) : Prop := ((okX12_isBasin F G p1) ∧ bv (gX12_isBasin F G p1) (fun x2 : Int32 => bv ((if x2 = 0 then 1 else bv (gX12_in p2 0 20) (fun x4 : Int32 => (if x4 = 0 then 2 else bv (gX12_in p3 0 9999) (fun x6 : Int32 => (if x6 = 0 then 2 else bv (gX12_in p4 0 99) (fun x8 : Int32 => (if x8 = 0 then 2 else 0))))))) : Int32) (fun v10 : Int32 => bv (u2 F 60 0 v10) (fun F11 : jF => (((F11 60 0) = 0 → (vp_in p1 8 ∧ bv (u2 F11 11 (Int32.toNatClampNeg p1) p2) (fun F15 : jF => (vp_in p1 8 ∧ bv (u2 F15 12 (Int32.toNatClampNeg p1) p3) (fun F18 : jF => (vp_in p1 8)))))) ∧ (¬ (F11 60 0) = 0 → True))))))
abbrev rmX12_setLand : Room := { frames := 2, cells := 0, slots := 0, locals := 43 }
def gX12_pour (F : jF) (G : jG) (p1 : Int32) (p2 : Int32) : (Int64 × jS) := bv (gX12_isBasin F G p1) (fun x2 : Int32 => bv ((if x2 = 0 then 1 else bv (gX12_in p2 0 1000000) (fun x4 : Int32 => (if x4 = 0 then 2 else 0))) : Int32) (fun v6 : Int32 => bv (u2 F 60 0 v6) (fun F7 : jF => (if (F7 60 0) ≤ 0 then bv (u2 G 14 (Int32.toNatClampNeg p1) ((G 14 (Int32.toNatClampNeg p1)) + (Int32.toInt64 p2))) (fun G12 : jG => bv (u2 G12 56 (Int32.toNatClampNeg 0) ((G12 56 (Int32.toNatClampNeg 0)) + (Int32.toInt64 p2))) (fun G14 : jG => ((G14 14 (Int32.toNatClampNeg p1)), (F7, G14)))) else (0, (F7, G))))))
def okX12_pour (F : jF) (G : jG) (p1 : Int32) (p2 : Int32) : Prop := ((okX12_isBasin F G p1) ∧ bv (gX12_isBasin F G p1) (fun x2 : Int32 => bv ((if x2 = 0 then 1 else bv (gX12_in p2 0 1000000) (fun x4 : Int32 => (if x4 = 0 then 2 else 0))) : Int32) (fun v6 : Int32 => bv (u2 F 60 0 v6) (fun F7 : jF => (((F7 60 0) ≤ 0 → (vp_in p1 8 ∧ (vp_in p1 8 ∧ bv (u2 G 14 (Int32.toNatClampNeg p1) ((G 14 (Int32.toNatClampNeg p1)) + (Int32.toInt64 p2))) (fun G12 : jG => bv (u2 G12 56 (Int32.toNatClampNeg 0) ((G12 56 (Int32.toNatClampNeg 0)) + (Int32.toInt64 p2))) (fun G14 : jG => (vp_in p1 8)))))) ∧ (¬ (F7 60 0) ≤ 0 → True))))))
abbrev rmX12_pour : Room := { frames := 2, cells := 0, slots := 0, locals := 43 }
def gX12_road (F : jF) (G : jG) (p1 : Int32) (p2 : Int32) (p3 : Int32) : (Int32 × jS) := bv (gX12_isBasin F G p1) (fun x2 : Int32 => bv ((if x2 = 0 then 1 else bv (gX12_isBasin F G p2) (fun x5 : Int32 => (if x5 = 0 then 1 else (if p1 = p2 then 2 else 0)))) : Int32) (fun v8 : Int32 => bv (u2 F 60 0 v8) (fun F9 : jF => (if (F9 60 0) ≤ 0 then bv ((if (F9 16 (Int32.toNatClampNeg ((8 * p1) + p2))) = 1 then 1 else 0) : Int32) (fun v14 : Int32 => bv ((if p3 = 0 then 0 else 1) : Int32) (fun v16 : Int32 => bv (u2 F9 16 (Int32.toNatClampNeg ((8 * p1) + p2)) v16) (fun F18 : jF => bv ((if p3 = 0 then 0 else 1) : Int32) (fun v21 : Int32 => bv (u2 F18 16 (Int32.toNatClampNeg ((8 * p2) + p1)) v21) (fun F23 : jF => (v14, (F23, G))))))) else (0, (F9, G))))))
def okX12_road (F : jF) (G : jG) (p1 : Int32) (p2 : Int32) (p3 : Int32) : Prop := ((okX12_isBasin F G p1) ∧ bv (gX12_isBasin F G p1) (fun x2 : Int32 => (((x2 = 0 → True) ∧ (¬ x2 = 0 → (okX12_isBasin F G p2))) ∧ bv ((if x2 = 0 then 1 else bv (gX12_isBasin F G p2) (fun x5 : Int32 => (if x5 = 0 then 1 else (if p1 = p2 then 2 else 0)))) : Int32) (fun v8 : Int32 => bv (u2 F 60 0 v8) (fun F9 : jF => (((F9 60 0) ≤ 0 → (vp_in ((8 * p1) + p2) 64 ∧ bv ((if (F9 16 (Int32.toNatClampNeg ((8 * p1) + p2))) = 1 then 1 else 0) : Int32) (fun v14 : Int32 => bv ((if p3 = 0 then 0 else 1) : Int32) (fun v16 : Int32 => (vp_in ((8 * p1) + p2) 64 ∧ bv (u2 F9 16 (Int32.toNatClampNeg ((8 * p1) + p2)) v16) (fun F18 : jF => bv ((if p3 = 0 then 0 else 1) : Int32) (fun v21 : Int32 => (vp_in ((8 * p2) + p1) 64 ∧ bv (u2 F18 16 (Int32.toNatClampNeg ((8 * p2) + p1)) v21) (fun F23 : jF => (jb v14)))))))))) ∧ (¬ (F9 60 0) ≤ 0 → True)))))))
abbrev rmX12_road : Room := { frames := 2, cells := 0, slots := 0, locals := 43 }
def gX12_areEnds (F : jF) (G : jG) (p1 : Int32) (p2 : Int32) : (Int32 × jS) := bv (gX12_isEnd F G p1) (fun x2 : Int32 => bv ((if x2 = 0 then 1 else bv (gX12_isEnd F G p2) (fun x5 : Int32 => (if x5 = 0 then 1 else (if p1 = p2 then 2 else bv (gX12_isBasin F G p1) (fun x9 : Int32 => (if x9 = 0 then bv (gX12_isBasin F G p2) (fun x12 : Int32 => (if x12 = 0 then 2 else 0)) else 0)))))) : Int32) (fun v14 : Int32 => bv (u2 F 60 0 v14) (fun F15 : jF => (if (F15 60 0) = 0 then (1, (F15, G)) else (0, (F15, G))))))
def okX12_areEnds (F : jF) (G : jG) (p1 : Int32) (p2 : Int32) : Prop := ((okX12_isEnd F G p1) ∧ bv (gX12_isEnd F G p1) (fun x2 : Int32 => ((x2 = 0 → True) ∧ (¬ x2 = 0 → ((okX12_isEnd F G p2) ∧ bv (gX12_isEnd F G p2) (fun x5 : Int32 => ((x5 = 0 → True) ∧ (¬ x5 = 0 → ((p1 = p2 → True) ∧ (¬ p1 = p2 → ((okX12_isBasin F G p1) ∧ bv (gX12_isBasin F G p1) (fun x9 : Int32 => ((x9 = 0 → (okX12_isBasin F G p2)) ∧ (¬ x9 = 0 → True))))))))))))))
abbrev rmX12_areEnds : Room := { frames := 3, cells := 0, slots := 0, locals := 64 }
def gX12_addGate (F : jF) (G : jG) (p1 : Int32) (p2 : Int32) (p3 : Int32) (p4 : Int32) : (Int32 × jS) := br (gX12_areEnds F G p1 p2) (fun (x5 : Int32) (F2 : jF) (G3 : jG) => (if x5 = 0 then (if (F2 60 0) ≤ 0 then bv (u2 F2 18 (Int32.toNatClampNeg (F2 17 0)) p1) (fun F9 : jF => bv (u2 F9 19 (Int32.toNatClampNeg (F9 17 0)) p2) (fun F12 : jF => bv (u2 F12 20 (Int32.toNatClampNeg (F12 17 0)) p3) (fun F15 : jF => bv (u2 F15 21 (Int32.toNatClampNeg (F15 17 0)) p4) (fun F18 : jF => bv (u2 F18 17 0 ((F18 17 0) + 1)) (fun F20 : jF => (((F20 17 0) - 1), (F20, G3))))))) else (0, (F2, G3))) else bv (gX12_in p3 1 9999) (fun x22 : Int32 => bv ((if x22 = 0 then 2 else bv (gX12_in p4 0 3) (fun x24 : Int32 => (if x24 = 0 then 2 else (if (F2 17 0) = 8 then 3 else 0)))) : Int32) (fun v27 : Int32 => bv (u2 F2 60 0 v27) (fun F28 : jF => (if (F28 60 0) ≤ 0 then bv (u2 F28 18 (Int32.toNatClampNeg (F28 17 0)) p1) (fun F32 : jF => bv (u2 F32 19 (Int32.toNatClampNeg (F32 17 0)) p2) (fun F35 : jF => bv (u2 F35 20 (Int32.toNatClampNeg (F35 17 0)) p3) (fun F38 : jF => bv (u2 F38 21 (Int32.toNatClampNeg (F38 17 0)) p4) (fun F41 : jF => bv (u2 F41 17 0 ((F41 17 0) + 1)) (fun F43 : jF => (((F43 17 0) - 1), (F43, G3))))))) else (0, (F28, G3))))))))
def okX12_addGate (F : jF) (G : jG) (p1 : Int32) (p2 : Int32) (p3 : Int32) (p4 : Int32) : Prop := ((okX12_areEnds F G p1 p2) ∧ br (gX12_areEnds F G p1 p2) (fun (x5 : Int32) (F2 : jF) (G3 : jG) => ((x5 = 0 → (((F2 60 0) ≤ 0 → (vp_in (F2 17 0) 8 ∧ bv (u2 F2 18 (Int32.toNatClampNeg (F2 17 0)) p1) (fun F9 : jF => (vp_in (F9 17 0) 8 ∧ bv (u2 F9 19 (Int32.toNatClampNeg (F9 17 0)) p2) (fun F12 : jF => (vp_in (F12 17 0) 8 ∧ bv (u2 F12 20 (Int32.toNatClampNeg (F12 17 0)) p3) (fun F15 : jF => (vp_in (F15 17 0) 8)))))))) ∧ (¬ (F2 60 0) ≤ 0 → True))) ∧ (¬ x5 = 0 → bv (gX12_in p3 1 9999) (fun x22 : Int32 => bv ((if x22 = 0 then 2 else bv (gX12_in p4 0 3) (fun x24 : Int32 => (if x24 = 0 then 2 else (if (F2 17 0) = 8 then 3 else 0)))) : Int32) (fun v27 : Int32 => bv (u2 F2 60 0 v27) (fun F28 : jF => (((F28 60 0) ≤ 0 → (vp_in (F28 17 0) 8 ∧ bv (u2 F28 18 (Int32.toNatClampNeg (F28 17 0)) p1) (fun F32 : jF => (vp_in (F32 17 0) 8 ∧ bv (u2 F32 19 (Int32.toNatClampNeg (F32 17 0)) p2) (fun F35 : jF => (vp_in (F35 17 0) 8 ∧ bv (u2 F35 20 (Int32.toNatClampNeg (F35 17 0)) p3) (fun F38 : jF => (vp_in (F38 17 0) 8)))))))) ∧ (¬ (F28 60 0) ≤ 0 → True)))))))))
abbrev rmX12_addGate : Room := { frames := 4, cells := 0, slots := 0, locals := 86 }
def gX12_addPump (F : jF) (G : jG) (p1 : Int32) (p2 : Int32) (p3 : Int32) (p4 : Int32) (p5 : Int32) : (Int32 × jS) := br (gX12_areEnds F G p1 p2) (fun (x5 : Int32) (F2 : jF) (G3 : jG) => (if x5 = 0 then (if (F2 60 0) ≤ 0 then bv (u2 F2 24 (Int32.toNatClampNeg (F2 23 0)) p1) (fun F9 : jF => bv (u2 F9 25 (Int32.toNatClampNeg (F9 23 0)) p2) (fun F12 : jF => bv (u2 F12 26 (Int32.toNatClampNeg (F12 23 0)) p3) (fun F15 : jF => bv (u2 F15 27 (Int32.toNatClampNeg (F15 23 0)) p4) (fun F18 : jF => bv (u2 F18 28 (Int32.toNatClampNeg (F18 23 0)) p5) (fun F21 : jF => bv (u2 F21 23 0 ((F21 23 0) + 1)) (fun F23 : jF => (((F23 23 0) - 1), (F23, G3)))))))) else (0, (F2, G3))) else bv (gX12_in p3 1 9999) (fun x25 : Int32 => bv ((if x25 = 0 then 2 else bv (gX12_in p4 0 999) (fun x27 : Int32 => (if x27 = 0 then 2 else bv (gX12_in p5 1 999) (fun x29 : Int32 => (if x29 = 0 then 2 else (if (F2 23 0) = 8 then 3 else 0)))))) : Int32) (fun v32 : Int32 => bv (u2 F2 60 0 v32) (fun F33 : jF => (if (F33 60 0) ≤ 0 then bv (u2 F33 24 (Int32.toNatClampNeg (F33 23 0)) p1) (fun F37 : jF => bv (u2 F37 25 (Int32.toNatClampNeg (F37 23 0)) p2) (fun F40 : jF => bv (u2 F40 26 (Int32.toNatClampNeg (F40 23 0)) p3) (fun F43 : jF => bv (u2 F43 27 (Int32.toNatClampNeg (F43 23 0)) p4) (fun F46 : jF => bv (u2 F46 28 (Int32.toNatClampNeg (F46 23 0)) p5) (fun F49 : jF => bv (u2 F49 23 0 ((F49 23 0) + 1)) (fun F51 : jF => (((F51 23 0) - 1), (F51, G3)))))))) else (0, (F33, G3))))))))
def okX12_addPump (F : jF) (G : jG) (p1 : Int32) (p2 : Int32) (p3 : Int32) (p4 : Int32) (p5 : Int32) : Prop := ((okX12_areEnds F G p1 p2) ∧ br (gX12_areEnds F G p1 p2) (fun (x5 : Int32) (F2 : jF) (G3 : jG) => ((x5 = 0 → (((F2 60 0) ≤ 0 → (vp_in (F2 23 0) 8 ∧ bv (u2 F2 24 (Int32.toNatClampNeg (F2 23 0)) p1) (fun F9 : jF => (vp_in (F9 23 0) 8 ∧ bv (u2 F9 25 (Int32.toNatClampNeg (F9 23 0)) p2) (fun F12 : jF => (vp_in (F12 23 0) 8 ∧ bv (u2 F12 26 (Int32.toNatClampNeg (F12 23 0)) p3) (fun F15 : jF => (vp_in (F15 23 0) 8 ∧ bv (u2 F15 27 (Int32.toNatClampNeg (F15 23 0)) p4) (fun F18 : jF => (vp_in (F18 23 0) 8)))))))))) ∧ (¬ (F2 60 0) ≤ 0 → True))) ∧ (¬ x5 = 0 → bv (gX12_in p3 1 9999) (fun x25 : Int32 => bv ((if x25 = 0 then 2 else bv (gX12_in p4 0 999) (fun x27 : Int32 => (if x27 = 0 then 2 else bv (gX12_in p5 1 999) (fun x29 : Int32 => (if x29 = 0 then 2 else (if (F2 23 0) = 8 then 3 else 0)))))) : Int32) (fun v32 : Int32 => bv (u2 F2 60 0 v32) (fun F33 : jF => (((F33 60 0) ≤ 0 → (vp_in (F33 23 0) 8 ∧ bv (u2 F33 24 (Int32.toNatClampNeg (F33 23 0)) p1) (fun F37 : jF => (vp_in (F37 23 0) 8 ∧ bv (u2 F37 25 (Int32.toNatClampNeg (F37 23 0)) p2) (fun F40 : jF => (vp_in (F40 23 0) 8 ∧ bv (u2 F40 26 (Int32.toNatClampNeg (F40 23 0)) p3) (fun F43 : jF => (vp_in (F43 23 0) 8 ∧ bv (u2 F43 27 (Int32.toNatClampNeg (F43 23 0)) p4) (fun F46 : jF => (vp_in (F46 23 0) 8)))))))))) ∧ (¬ (F33 60 0) ≤ 0 → True)))))))))
abbrev rmX12_addPump : Room := { frames := 4, cells := 0, slots := 0, locals := 86 }
def gX12_addDyke (F : jF) (G : jG) (p1 : Int32) (p2 : Int32) (p3 : Int32) (p4 : Int32) (p5 : Int32) : (Int32 × jS) := br (gX12_areEnds F G p1 p2) (fun (x5 : Int32) (F2 : jF) (G3 : jG) => (if x5 = 0 then (if (F2 60 0) ≤ 0 then bv (u2 F2 33 (Int32.toNatClampNeg (F2 32 0)) p1) (fun F9 : jF => bv (u2 F9 34 (Int32.toNatClampNeg (F9 32 0)) p2) (fun F12 : jF => bv (u2 F12 35 (Int32.toNatClampNeg (F12 32 0)) p3) (fun F15 : jF => bv (u2 F15 36 (Int32.toNatClampNeg (F15 32 0)) p4) (fun F18 : jF => bv (u2 F18 37 (Int32.toNatClampNeg (F18 32 0)) p5) (fun F21 : jF => bv (u2 F21 32 0 ((F21 32 0) + 1)) (fun F23 : jF => (((F23 32 0) - 1), (F23, G3)))))))) else (0, (F2, G3))) else bv (gX12_in p3 (-500) 999) (fun x25 : Int32 => bv ((if x25 = 0 then 2 else bv (gX12_in p4 1 999) (fun x27 : Int32 => (if x27 = 0 then 2 else bv (gX12_in p5 0 99) (fun x29 : Int32 => (if x29 = 0 then 2 else (if (F2 32 0) = 8 then 3 else 0)))))) : Int32) (fun v32 : Int32 => bv (u2 F2 60 0 v32) (fun F33 : jF => (if (F33 60 0) ≤ 0 then bv (u2 F33 33 (Int32.toNatClampNeg (F33 32 0)) p1) (fun F37 : jF => bv (u2 F37 34 (Int32.toNatClampNeg (F37 32 0)) p2) (fun F40 : jF => bv (u2 F40 35 (Int32.toNatClampNeg (F40 32 0)) p3) (fun F43 : jF => bv (u2 F43 36 (Int32.toNatClampNeg (F43 32 0)) p4) (fun F46 : jF => bv (u2 F46 37 (Int32.toNatClampNeg (F46 32 0)) p5) (fun F49 : jF => bv (u2 F49 32 0 ((F49 32 0) + 1)) (fun F51 : jF => (((F51 32 0) - 1), (F51, G3)))))))) else (0, (F33, G3))))))))
def okX12_addDyke (F : jF) (G : jG) (p1 : Int32) (p2 : Int32) (p3 : Int32) (p4 : Int32) (p5 : Int32) : Prop := ((okX12_areEnds F G p1 p2) ∧ br (gX12_areEnds F G p1 p2) (fun (x5 : Int32) (F2 : jF) (G3 : jG) => ((x5 = 0 → (((F2 60 0) ≤ 0 → (vp_in (F2 32 0) 8 ∧ bv (u2 F2 33 (Int32.toNatClampNeg (F2 32 0)) p1) (fun F9 : jF => (vp_in (F9 32 0) 8 ∧ bv (u2 F9 34 (Int32.toNatClampNeg (F9 32 0)) p2) (fun F12 : jF => (vp_in (F12 32 0) 8 ∧ bv (u2 F12 35 (Int32.toNatClampNeg (F12 32 0)) p3) (fun F15 : jF => (vp_in (F15 32 0) 8 ∧ bv (u2 F15 36 (Int32.toNatClampNeg (F15 32 0)) p4) (fun F18 : jF => (vp_in (F18 32 0) 8)))))))))) ∧ (¬ (F2 60 0) ≤ 0 → True))) ∧ (¬ x5 = 0 → bv (gX12_in p3 (-500) 999) (fun x25 : Int32 => bv ((if x25 = 0 then 2 else bv (gX12_in p4 1 999) (fun x27 : Int32 => (if x27 = 0 then 2 else bv (gX12_in p5 0 99) (fun x29 : Int32 => (if x29 = 0 then 2 else (if (F2 32 0) = 8 then 3 else 0)))))) : Int32) (fun v32 : Int32 => bv (u2 F2 60 0 v32) (fun F33 : jF => (((F33 60 0) ≤ 0 → (vp_in (F33 32 0) 8 ∧ bv (u2 F33 33 (Int32.toNatClampNeg (F33 32 0)) p1) (fun F37 : jF => (vp_in (F37 32 0) 8 ∧ bv (u2 F37 34 (Int32.toNatClampNeg (F37 32 0)) p2) (fun F40 : jF => (vp_in (F40 32 0) 8 ∧ bv (u2 F40 35 (Int32.toNatClampNeg (F40 32 0)) p3) (fun F43 : jF => (vp_in (F43 32 0) 8 ∧ bv (u2 F43 36 (Int32.toNatClampNeg (F43 32 0)) p4) (fun F46 : jF => (vp_in (F46 32 0) 8)))))))))) ∧ (¬ (F33 60 0) ≤ 0 → True)))))))))
abbrev rmX12_addDyke : Room := { frames := 4, cells := 0, slots := 0, locals := 86 }
def gX12_setOutside (F : jF) (G : jG) (p1 : Int32) (p2 : Int32) (p3 : Int32) : jS := bv (gX12_in p1 (-99) 99) (fun x1 : Int32 => bv ((if x1 = 0 then 1 else bv (gX12_in p2 0 400) (fun x3 : Int32 => (if x3 = 0 then 1 else bv (gX12_in p3 (-9999) 99999) (fun x5 : Int32 => (if x5 = 0 then 1 else 0))))) : Int32) (fun v7 : Int32 => bv (u2 F 60 0 v7) (fun F8 : jF => (if (F8 60 0) = 0 then bv (u2 F8 5 0 p1) (fun F11 : jF => bv (u2 F11 6 0 p2) (fun F13 : jF => bv (u2 F13 7 0 p3) (fun F15 : jF => (F15, G)))) else (F8, G)))))
abbrev rmX12_setOutside : Room := { frames := 1, cells := 0, slots := 0, locals := 22 }
def gX12_storm (F : jF) (G : jG) (p1 : Int32) (p2 : Int32) (p3 : Int32) : (Int32 × jS) := bv (gX12_in p1 0 9999) (fun x1 : Int32 => bv ((if x1 = 0 then 1 else bv (gX12_in p2 1 99) (fun x3 : Int32 => (if x3 = 0 then 1 else bv (gX12_in p3 1 500) (fun x5 : Int32 => (if x5 = 0 then 1 else (if (F 40 0) = 12 then 2 else 0)))))) : Int32) (fun v8 : Int32 => bv (u2 F 60 0 v8) (fun F9 : jF => (if (F9 60 0) ≤ 0 then bv (u2 F9 41 (Int32.toNatClampNeg (F9 40 0)) p1) (fun F13 : jF => bv (u2 F13 42 (Int32.toNatClampNeg (F13 40 0)) p2) (fun F16 : jF => bv (u2 F16 43 (Int32.toNatClampNeg (F16 40 0)) p3) (fun F19 : jF => bv (u2 F19 40 0 ((F19 40 0) + 1)) (fun F21 : jF => ((F21 40 0), (F21, G)))))) else (0, (F9, G))))))
def okX12_storm (F : jF) (G : jG) (p1 : Int32) (p2 : Int32) (p3 : Int32) : Prop := bv (gX12_in p1 0 9999) (fun x1 : Int32 => bv ((if x1 = 0 then 1 else bv (gX12_in p2 1 99) (fun x3 : Int32 => (if x3 = 0 then 1 else bv (gX12_in p3 1 500) (fun x5 : Int32 => (if x5 = 0 then 1 else (if (F 40 0) = 12 then 2 else 0)))))) : Int32) (fun v8 : Int32 => bv (u2 F 60 0 v8) (fun F9 : jF => (((F9 60 0) ≤ 0 → (vp_in (F9 40 0) 12 ∧ bv (u2 F9 41 (Int32.toNatClampNeg (F9 40 0)) p1) (fun F13 : jF => (vp_in (F13 40 0) 12 ∧ bv (u2 F13 42 (Int32.toNatClampNeg (F13 40 0)) p2) (fun F16 : jF => (vp_in (F16 40 0) 12)))))) ∧ (¬ (F9 60 0) ≤ 0 → True)))))
abbrev rmX12_storm : Room := { frames := 1, cells := 0, slots := 0, locals := 22 }
def gX12_rain (F : jF) (G : jG) (p1 : Int32) (p2 : Int32) (p3 : Int32) (p4 : Int32) : (Int32 × jS) := bv (gX12_isBasin F G p1) (fun x2 : Int32 => bv ((if x2 = 0 then 1 else bv (gX12_in p2 0 9999) (fun x4 : Int32 => (if x4 = 0 then 2 else bv (gX12_in p3 1 99) (fun x6 : Int32 => (if x6 = 0 then 2 else bv (gX12_in p4 1 9999) (fun x8 : Int32 => (if x8 = 0 then 2 else (if (F 44 0) = 12 then 3 else 0)))))))) : Int32) (fun v11 : Int32 => bv (u2 F 60 0 v11) (fun F12 : jF => (if (F12 60 0) ≤ 0 then bv (u2 F12 45 (Int32.toNatClampNeg (F12 44 0)) p1) (fun F16 : jF => bv (u2 F16 46 (Int32.toNatClampNeg (F16 44 0)) p2) (fun F19 : jF => bv (u2 F19 47 (Int32.toNatClampNeg (F19 44 0)) p3) (fun F22 : jF => bv (u2 F22 48 (Int32.toNatClampNeg (F22 44 0)) p4) (fun F25 : jF => bv (u2 F25 44 0 ((F25 44 0) + 1)) (fun F27 : jF => ((F27 44 0), (F27, G))))))) else (0, (F12, G))))))
def okX12_rain (F : jF) (G : jG) (p1 : Int32) (p2 : Int32) (p3 : Int32) (p4 : Int32) : Prop := ((okX12_isBasin F G p1) ∧ bv (gX12_isBasin F G p1) (fun x2 : Int32 => bv ((if x2 = 0 then 1 else bv (gX12_in p2 0 9999) (fun x4 : Int32 => (if x4 = 0 then 2 else bv (gX12_in p3 1 99) (fun x6 : Int32 => (if x6 = 0 then 2 else bv (gX12_in p4 1 9999) (fun x8 : Int32 => (if x8 = 0 then 2 else (if (F 44 0) = 12 then 3 else 0)))))))) : Int32) (fun v11 : Int32 => bv (u2 F 60 0 v11) (fun F12 : jF => (((F12 60 0) ≤ 0 → (vp_in (F12 44 0) 12 ∧ bv (u2 F12 45 (Int32.toNatClampNeg (F12 44 0)) p1) (fun F16 : jF => (vp_in (F16 44 0) 12 ∧ bv (u2 F16 46 (Int32.toNatClampNeg (F16 44 0)) p2) (fun F19 : jF => (vp_in (F19 44 0) 12 ∧ bv (u2 F19 47 (Int32.toNatClampNeg (F19 44 0)) p3) (fun F22 : jF => (vp_in (F22 44 0) 12)))))))) ∧ (¬ (F12 60 0) ≤ 0 → True))))))
abbrev rmX12_rain : Room := { frames := 2, cells := 0, slots := 0, locals := 43 }
def gX12_setSeed (F : jF) (G : jG) (p1 : Int32) : (Int32 × jS) := bv (gX12_in p1 0 9999) (fun x1 : Int32 => bv ((if x1 = 0 then 1 else 0) : Int32) (fun v3 : Int32 => bv (u2 F 60 0 v3) (fun F4 : jF => bv (F4 4 0) (fun x6 : Int32 => bv ((if (F4 60 0) = 0 then p1 else x6) : Int32) (fun v8 : Int32 => bv (u2 F4 4 0 v8) (fun F9 : jF => bv ((if (F9 60 0) = 0 then x6 else 0) : Int32) (fun v12 : Int32 => (v12, (F9, G)))))))))
abbrev rmX12_setSeed : Room := { frames := 1, cells := 0, slots := 0, locals := 22 }
def gX12_seaAt_L51 (F : jF) (G : jG) (f3 : Int64) (f1 : Int32) (K : Int32 → Int64 → Int64) : Nat → Int32 → Int64 → Int64
  | 0, _, _ => 0
  | n9 + 1, v7, v5 => (if (F 40 0) ≤ v7 then (K v7 v5 ) else bv (f1 - (F 41 (Int32.toNatClampNeg v7))) (fun x7 : Int32 => bv (gX12_in x7 0 ((F 42 (Int32.toNatClampNeg v7)) - 1)) (fun x9 : Int32 => (if x9 = 0 then (gX12_seaAt_L51 F G f3 f1 K n9 (v7 + 1) v5 ) else bv ((if ((F 42 (Int32.toNatClampNeg v7)) - x7) ≤ (x7 + 1) then ((F 42 (Int32.toNatClampNeg v7)) - x7) else (x7 + 1)) : Int32) (fun v14 : Int32 => bv ((((100 * (Int32.toInt64 (F 43 (Int32.toNatClampNeg v7)))) * (Int32.toInt64 v14)) * 2) / (Int32.toInt64 ((F 42 (Int32.toNatClampNeg v7)) + 1))) (fun x18 : Int64 => bv ((if x18 ≤ v5 then v5 else x18) : Int64) (fun v20 : Int64 => (gX12_seaAt_L51 F G f3 f1 K n9 (v7 + 1) v20 ))))))))
def okX12_seaAt_L51 (F : jF) (G : jG) (f3 : Int64) (f1 : Int32) (okK : Int32 → Int64 → Prop) : Nat → Int32 → Int64 → Prop
  | 0, _, _ => False
  | n9 + 1, v7, v5 => (((F 40 0) ≤ v7 → (okK v7 v5 )) ∧ (¬ (F 40 0) ≤ v7 → (vp_in v7 12 ∧ bv (f1 - (F 41 (Int32.toNatClampNeg v7))) (fun x7 : Int32 => (vp_in v7 12 ∧ bv (gX12_in x7 0 ((F 42 (Int32.toNatClampNeg v7)) - 1)) (fun x9 : Int32 => ((x9 = 0 → (okX12_seaAt_L51 F G f3 f1 okK n9 (v7 + 1) v5 )) ∧ (¬ x9 = 0 → (vp_in v7 12 ∧ (((((F 42 (Int32.toNatClampNeg v7)) - x7) ≤ (x7 + 1) → (vp_in v7 12)) ∧ (¬ ((F 42 (Int32.toNatClampNeg v7)) - x7) ≤ (x7 + 1) → True)) ∧ bv ((if ((F 42 (Int32.toNatClampNeg v7)) - x7) ≤ (x7 + 1) then ((F 42 (Int32.toNatClampNeg v7)) - x7) else (x7 + 1)) : Int32) (fun v14 : Int32 => (vp_in v7 12 ∧ (vp_in v7 12 ∧ (¬ (Int32.toInt64 ((F 42 (Int32.toNatClampNeg v7)) + 1)) = (0 : Int64) ∧ bv ((((100 * (Int32.toInt64 (F 43 (Int32.toNatClampNeg v7)))) * (Int32.toInt64 v14)) * 2) / (Int32.toInt64 ((F 42 (Int32.toNatClampNeg v7)) + 1))) (fun x18 : Int64 => bv ((if x18 ≤ v5 then v5 else x18) : Int64) (fun v20 : Int64 => (okX12_seaAt_L51 F G f3 f1 okK n9 (v7 + 1) v20 )))))))))))))))))
def gX12_seaAt (F : jF) (G : jG) (p1 : Int32) : Int64 := bv (p1 - p1 / 12 * 12) (fun x1 : Int32 => bv ((if 6 < x1 then (12 - x1) else x1) : Int32) (fun v3 : Int32 => bv (100 * (Int32.toInt64 (((F 5 0) + (((F 6 0) * v3) / 6)) - ((F 6 0) / 2)))) (fun x4 : Int64 => (gX12_seaAt_L51 F G x4 p1 (fun (y21 : Int32) (y22 : Int64) => (x4 + y22)) 80 0 0 ))))
def okX12_seaAt (F : jF) (G : jG) (p1 : Int32) : Prop := bv (p1 - p1 / 12 * 12) (fun x1 : Int32 => bv ((if 6 < x1 then (12 - x1) else x1) : Int32) (fun v3 : Int32 => bv (100 * (Int32.toInt64 (((F 5 0) + (((F 6 0) * v3) / 6)) - ((F 6 0) / 2)))) (fun x4 : Int64 => (okX12_seaAt_L51 F G x4 p1 (fun (y21 : Int32) (y22 : Int64) => True) 80 0 0 ))))
abbrev rmX12_seaAt : Room := { frames := 1, cells := 0, slots := 0, locals := 22 }
def gX12_levelOf (F : jF) (G : jG) (p1 : Int32) : Int64 := bv ((if p1 = 20 then bv (gX12_seaAt F G (F 0 0)) (fun x8 : Int64 => x8) else (if p1 = 21 then (Int32.toInt64 (F 7 0)) else ((100 * (Int32.toInt64 (F 10 (Int32.toNatClampNeg p1)))) + ((100 * (G 14 (Int32.toNatClampNeg p1))) / (Int32.toInt64 (F 9 (Int32.toNatClampNeg p1))))))) : Int64) (fun v9 : Int64 => v9)
def okX12_levelOf (F : jF) (G : jG) (p1 : Int32) : Prop := ((p1 = 20 → (okX12_seaAt F G (F 0 0))) ∧ (¬ p1 = 20 → ((p1 = 21 → True) ∧ (¬ p1 = 21 → (vp_in p1 8 ∧ (vp_in p1 8 ∧ (vp_in p1 8 ∧ (¬ (Int32.toInt64 (F 9 (Int32.toNatClampNeg p1))) = (0 : Int64)))))))))
abbrev rmX12_levelOf : Room := { frames := 2, cells := 0, slots := 0, locals := 53 }
def gX12_levels (F : jF) (G : jG) (p1 : Int32) (p2 : Int32) : Int64 := bv (gX12_levelOf F G p1) (fun x2 : Int64 => bv (gX12_levelOf F G p2) (fun x4 : Int64 => bv (x2 - x4) (fun x5 : Int64 => (if 20 ≤ p1 then bv ((if 20 ≤ p1 then p2 else p1) : Int32) (fun v8 : Int32 => bv ((x5 * (Int32.toInt64 (F 9 (Int32.toNatClampNeg v8)))) / 100) (fun x10 : Int64 => bv ((if 20 ≤ p1 then x10 else (if x10 ≤ (G 14 (Int32.toNatClampNeg p1)) then x10 else (G 14 (Int32.toNatClampNeg p1)))) : Int64) (fun v15 : Int64 => v15))) else (if 20 ≤ p2 then bv ((if 20 ≤ p1 then p2 else p1) : Int32) (fun v18 : Int32 => bv ((x5 * (Int32.toInt64 (F 9 (Int32.toNatClampNeg v18)))) / 100) (fun x20 : Int64 => bv ((if 20 ≤ p1 then x20 else (if x20 ≤ (G 14 (Int32.toNatClampNeg p1)) then x20 else (G 14 (Int32.toNatClampNeg p1)))) : Int64) (fun v25 : Int64 => v25))) else bv (((x5 * (Int32.toInt64 (F 9 (Int32.toNatClampNeg p1)))) * (Int32.toInt64 (F 9 (Int32.toNatClampNeg p2)))) / ((Int32.toInt64 ((F 9 (Int32.toNatClampNeg p1)) + (F 9 (Int32.toNatClampNeg p2)))) * 100)) (fun x31 : Int64 => bv ((if 20 ≤ p1 then x31 else (if x31 ≤ (G 14 (Int32.toNatClampNeg p1)) then x31 else (G 14 (Int32.toNatClampNeg p1)))) : Int64) (fun v36 : Int64 => v36)))))))
def okX12_levels (F : jF) (G : jG) (p1 : Int32) (p2 : Int32) : Prop := ((okX12_levelOf F G p1) ∧ bv (gX12_levelOf F G p1) (fun x2 : Int64 => ((okX12_levelOf F G p2) ∧ bv (gX12_levelOf F G p2) (fun x4 : Int64 => bv (x2 - x4) (fun x5 : Int64 => ((20 ≤ p1 → bv ((if 20 ≤ p1 then p2 else p1) : Int32) (fun v8 : Int32 => (vp_in v8 8 ∧ bv ((x5 * (Int32.toInt64 (F 9 (Int32.toNatClampNeg v8)))) / 100) (fun x10 : Int64 => ((20 ≤ p1 → True) ∧ (¬ 20 ≤ p1 → (vp_in p1 8 ∧ ((x10 ≤ (G 14 (Int32.toNatClampNeg p1)) → True) ∧ (¬ x10 ≤ (G 14 (Int32.toNatClampNeg p1)) → (vp_in p1 8)))))))))) ∧ (¬ 20 ≤ p1 → ((20 ≤ p2 → bv ((if 20 ≤ p1 then p2 else p1) : Int32) (fun v18 : Int32 => (vp_in v18 8 ∧ bv ((x5 * (Int32.toInt64 (F 9 (Int32.toNatClampNeg v18)))) / 100) (fun x20 : Int64 => ((20 ≤ p1 → True) ∧ (¬ 20 ≤ p1 → (vp_in p1 8 ∧ ((x20 ≤ (G 14 (Int32.toNatClampNeg p1)) → True) ∧ (¬ x20 ≤ (G 14 (Int32.toNatClampNeg p1)) → (vp_in p1 8)))))))))) ∧ (¬ 20 ≤ p2 → (vp_in p1 8 ∧ (vp_in p2 8 ∧ (vp_in p1 8 ∧ (vp_in p2 8 ∧ (¬ ((Int32.toInt64 ((F 9 (Int32.toNatClampNeg p1)) + (F 9 (Int32.toNatClampNeg p2)))) * 100) = (0 : Int64) ∧ bv (((x5 * (Int32.toInt64 (F 9 (Int32.toNatClampNeg p1)))) * (Int32.toInt64 (F 9 (Int32.toNatClampNeg p2)))) / ((Int32.toInt64 ((F 9 (Int32.toNatClampNeg p1)) + (F 9 (Int32.toNatClampNeg p2)))) * 100)) (fun x31 : Int64 => ((20 ≤ p1 → True) ∧ (¬ 20 ≤ p1 → (vp_in p1 8 ∧ ((x31 ≤ (G 14 (Int32.toNatClampNeg p1)) → True) ∧ (¬ x31 ≤ (G 14 (Int32.toNatClampNeg p1)) → (vp_in p1 8)))))))))))))))))))))
abbrev rmX12_levels : Room := { frames := 3, cells := 0, slots := 0, locals := 74 }
def gX12_goes (F : jF) (G : jG) (p1 : Int32) (p2 : Int32) (p3 : Int64) : jS := (if 20 ≤ p1 then bv (u2 G 56 (Int32.toNatClampNeg 2) ((G 56 (Int32.toNatClampNeg 2)) + p3)) (fun G2 : jG => (if 20 ≤ p2 then bv (u2 G2 56 (Int32.toNatClampNeg 3) ((G2 56 (Int32.toNatClampNeg 3)) + p3)) (fun G5 : jG => (F, G5)) else bv (u2 G2 14 (Int32.toNatClampNeg p2) ((G2 14 (Int32.toNatClampNeg p2)) + p3)) (fun G9 : jG => (F, G9)))) else bv (u2 G 14 (Int32.toNatClampNeg p1) ((G 14 (Int32.toNatClampNeg p1)) - p3)) (fun G13 : jG => (if 20 ≤ p2 then bv (u2 G13 56 (Int32.toNatClampNeg 3) ((G13 56 (Int32.toNatClampNeg 3)) + p3)) (fun G16 : jG => (F, G16)) else bv (u2 G13 14 (Int32.toNatClampNeg p2) ((G13 14 (Int32.toNatClampNeg p2)) + p3)) (fun G20 : jG => (F, G20)))))
def okX12_goes (F : jF) (G : jG) (p1 : Int32) (p2 : Int32) (p3 : Int64) : Prop := ((20 ≤ p1 → bv (u2 G 56 (Int32.toNatClampNeg 2) ((G 56 (Int32.toNatClampNeg 2)) + p3)) (fun G2 : jG => ((20 ≤ p2 → True) ∧ (¬ 20 ≤ p2 → (vp_in p2 8 ∧ (vp_in p2 8)))))) ∧ (¬ 20 ≤ p1 → (vp_in p1 8 ∧ (vp_in p1 8 ∧ bv (u2 G 14 (Int32.toNatClampNeg p1) ((G 14 (Int32.toNatClampNeg p1)) - p3)) (fun G13 : jG => ((20 ≤ p2 → True) ∧ (¬ 20 ≤ p2 → (vp_in p2 8 ∧ (vp_in p2 8)))))))))
abbrev rmX12_goes : Room := { frames := 0, cells := 0, slots := 0, locals := 0 }
def gX12_flows (F : jF) (G : jG) (p1 : Int32) (p2 : Int32) (p3 : Int64) : (Int64 × jS) := bv (gX12_levelOf F G p1) (fun x2 : Int64 => bv (gX12_levelOf F G p2) (fun x4 : Int64 => bv ((if x2 < x4 then 0 else 1) : Int32) (fun v6 : Int32 => bv ((if v6 = 0 then p2 else p1) : Int32) (fun v8 : Int32 => bv ((if v6 = 0 then p1 else p2) : Int32) (fun v10 : Int32 => bv (gX12_levels F G v8 v10) (fun x12 : Int64 => bv ((if p3 ≤ x12 then p3 else x12) : Int64) (fun v14 : Int64 => bs (gX12_goes F G v8 v10 v14) (fun (F16 : jF) (G17 : jG) => (v14, (F16, G17))))))))))
def okX12_flows (F : jF) (G : jG) (p1 : Int32) (p2 : Int32) (p3 : Int64) : Prop := ((okX12_levelOf F G p1) ∧ bv (gX12_levelOf F G p1) (fun x2 : Int64 => ((okX12_levelOf F G p2) ∧ bv (gX12_levelOf F G p2) (fun x4 : Int64 => bv ((if x2 < x4 then 0 else 1) : Int32) (fun v6 : Int32 => bv ((if v6 = 0 then p2 else p1) : Int32) (fun v8 : Int32 => bv ((if v6 = 0 then p1 else p2) : Int32) (fun v10 : Int32 => ((okX12_levels F G v8 v10) ∧ bv (gX12_levels F G v8 v10) (fun x12 : Int64 => bv ((if p3 ≤ x12 then p3 else x12) : Int64) (fun v14 : Int64 => (okX12_goes F G v8 v10 v14)))))))))))
abbrev rmX12_flows : Room := { frames := 4, cells := 0, slots := 0, locals := 100 }
def gX12_isSeaHigher (F : jF) (G : jG) (p1 : Int32) : Int32 := bv ((if (F 18 (Int32.toNatClampNeg p1)) = 20 then 1 else 0) : Int32) (fun v3 : Int32 => bv ((if (F 19 (Int32.toNatClampNeg p1)) = 20 then 1 else 0) : Int32) (fun v6 : Int32 => (if v3 = 0 then (if v6 = 0 then 0 else bv (gX12_levelOf F G 20) (fun x10 : Int64 => bv (gX12_levelOf F G (F 18 (Int32.toNatClampNeg p1))) (fun x13 : Int64 => (if x10 ≤ x13 then 0 else 1)))) else bv (gX12_levelOf F G 20) (fun x16 : Int64 => bv (gX12_levelOf F G (F 19 (Int32.toNatClampNeg p1))) (fun x19 : Int64 => (if x19 < x16 then 1 else (if v6 = 0 then 0 else bv (gX12_levelOf F G 20) (fun x23 : Int64 => bv (gX12_levelOf F G (F 18 (Int32.toNatClampNeg p1))) (fun x26 : Int64 => (if x23 ≤ x26 then 0 else 1))))))))))
def okX12_isSeaHigher (F : jF) (G : jG) (p1 : Int32) : Prop := (vp_in p1 8 ∧ bv ((if (F 18 (Int32.toNatClampNeg p1)) = 20 then 1 else 0) : Int32) (fun v3 : Int32 => (vp_in p1 8 ∧ bv ((if (F 19 (Int32.toNatClampNeg p1)) = 20 then 1 else 0) : Int32) (fun v6 : Int32 => ((v3 = 0 → ((v6 = 0 → True) ∧ (¬ v6 = 0 → ((okX12_levelOf F G 20) ∧ bv (gX12_levelOf F G 20) (fun x10 : Int64 => (vp_in p1 8 ∧ (okX12_levelOf F G (F 18 (Int32.toNatClampNeg p1))))))))) ∧ (¬ v3 = 0 → ((okX12_levelOf F G 20) ∧ bv (gX12_levelOf F G 20) (fun x16 : Int64 => (vp_in p1 8 ∧ ((okX12_levelOf F G (F 19 (Int32.toNatClampNeg p1))) ∧ bv (gX12_levelOf F G (F 19 (Int32.toNatClampNeg p1))) (fun x19 : Int64 => ((x19 < x16 → True) ∧ (¬ x19 < x16 → ((v6 = 0 → True) ∧ (¬ v6 = 0 → ((okX12_levelOf F G 20) ∧ bv (gX12_levelOf F G 20) (fun x23 : Int64 => (vp_in p1 8 ∧ (okX12_levelOf F G (F 18 (Int32.toNatClampNeg p1)))))))))))))))))))))
abbrev rmX12_isSeaHigher : Room := { frames := 3, cells := 0, slots := 0, locals := 74 }
set_option maxHeartbeats 4000000 in
set_option maxRecDepth 100000 in
theorem qX12_thrown (l : Launch) (D : va_G) (yy : Nat → ClassId) (A : Nat → Nat) (F : jF) (G : jG)  : Met l yX12_thrown (Cond.code yX12_thrown cX12_thrown 1 (some .int) :: wsL_law) rmX12_thrown (va_Pc [.ref (A 99)] (jR D yy (mW yy A F G))) (vp_Si (fun r => r = gX12_thrown F G )) 0 0 (fun _ => False) := by
  generalize hres : gX12_thrown F G  = RES
  refine jM (own := RX12) (by decide) rfl (Nat.le_of_ble_eq_true rfl) ?_
  intro p e s m args below meth c ls Q hQ hargs S hr hlk hinit hB hl
  obtain ⟨hx, hb, hml, hown, hts⟩ := S
  have hl : lv_has ls 1 [(0, .ref (A 99))] := hl
  have hin12 : ∀ w ∈ u_ws RX12 TX12 61, w ∈ (Cond.code yX12_thrown cX12_thrown 1 (some .int) :: wsL_law) := fun w h => List.mem_cons_of_mem _ (inlX12 w h)
  obtain ⟨hP, hK⟩ := hB
  unfold gX12_thrown at hres
  refine lv_aload_n hx hb (dd_of dX12_thrown_0 0 rfl) rfl (lv_at hl 0 rfl) ?_
  refine va_get (D := D) (cl := vwCl) (tys := jT yy) (ci := 12) (v := .int (F 60 0)) (C := RX12) (T := TX12) (N := 61) hx hb hts hin12 hown hK hP 0 rfl rfl 60 (by decide) (jw hts gw590) (fun _ h9 => h9) rfl (dd_of dX12_thrown_0 1 rfl) ?_
  subst hQ
  exact W.iret (v := (F 60 0)) hx hb hr (fun t ht _ => ⟨_, rfl, hres, ht⟩) (fun _ h => absurd h List.not_mem_nil) (dd_of dX12_thrown_0 2 rfl) hlk
set_option maxHeartbeats 4000000 in
set_option maxRecDepth 100000 in
theorem qX12_in (l : Launch) (p1 : Int32) (p2 : Int32) (p3 : Int32) : Met l yX12_in (Cond.code yX12_in cX12_in 3 (some .boolean) :: wsL_law) rmX12_in (va_Pc [.int p1, .int p2, .int p3] jRn) (vp_Si (fun r => r = gX12_in p1 p2 p3)) 0 0 (fun _ => False) := by
  generalize hres : gX12_in p1 p2 p3 = RES
  refine jM (own := RX12) (by decide) rfl (Nat.le_of_ble_eq_true rfl) ?_
  intro p e s m args below meth c ls Q hQ hargs S hr hlk hinit hB hl
  obtain ⟨hx, hb, hml, hown, hts⟩ := S
  have hl : lv_has ls 3 [(0, .int p1), (1, .int p2), (2, .int p3)] := hl
  unfold gX12_in at hres
  refine lv_iload_n hx hb (dd_of dX12_in_0 0 rfl) rfl (lv_at hl 0 rfl) ?_
  refine lv_iload_n hx hb (dd_of dX12_in_0 1 rfl) rfl (lv_at hl 1 rfl) ?_
  refine lv_icmp_lt (tgt := 14) hx hb (dd_of dX12_in_0 2 rfl) (by decide) (fun c1 => ?_) (fun c1 => ?_)
  · replace hres := ifE c1 hres
    refine lv_iconst (v := 0) hx hb (dd_of dX12_in_0 8 rfl) (by decide) ?_
    subst hQ
    exact W.zret (ty := .boolean) (v := 0) hx hb hr (jb_nz (Or.inl rfl)) (fun t ht _ => ⟨_, rfl, hres, ht⟩) (fun _ h => absurd h List.not_mem_nil) (dd_of dX12_in_0 9 rfl) hlk
  · replace hres := ifN c1 hres
    refine lv_iload_n hx hb (dd_of dX12_in_0 3 rfl) rfl (lv_at hl 0 rfl) ?_
    refine lv_iload_n hx hb (dd_of dX12_in_0 4 rfl) rfl (lv_at hl 2 rfl) ?_
    refine lv_icmp_gt (tgt := 14) hx hb (dd_of dX12_in_0 5 rfl) (by decide) (fun c2 => ?_) (fun c2 => ?_)
    · replace hres := ifE c2 hres
      refine lv_iconst (v := 0) hx hb (dd_of dX12_in_0 8 rfl) (by decide) ?_
      subst hQ
      exact W.zret (ty := .boolean) (v := 0) hx hb hr (jb_nz (Or.inl rfl)) (fun t ht _ => ⟨_, rfl, hres, ht⟩) (fun _ h => absurd h List.not_mem_nil) (dd_of dX12_in_0 9 rfl) hlk
    · replace hres := ifN c2 hres
      refine lv_iconst (v := 1) hx hb (dd_of dX12_in_0 6 rfl) (by decide) ?_
      refine lv_goto (tgt := 15) hx hb (dd_of dX12_in_0 7 rfl) (by decide) ?_
      subst hQ
      exact W.zret (ty := .boolean) (v := 1) hx hb hr (jb_nz (Or.inr rfl)) (fun t ht _ => ⟨_, rfl, hres, ht⟩) (fun _ h => absurd h List.not_mem_nil) (dd_of dX12_in_0 9 rfl) hlk
set_option maxHeartbeats 4000000 in
set_option maxRecDepth 100000 in
theorem qX12_isBasin (l : Launch) (D : va_G) (yy : Nat → ClassId) (A : Nat → Nat) (F : jF) (G : jG) (p1 : Int32) (hok : okX12_isBasin F G p1) : Met l yX12_isBasin (Cond.code yX12_isBasin cX12_isBasin 2 (some .boolean) :: wsL_law) rmX12_isBasin (va_Pc [.ref (A 99), .int p1] (jR D yy (mW yy A F G))) (vp_Si (fun r => r = gX12_isBasin F G p1)) 0 0 (fun _ => False) := by
  generalize hres : gX12_isBasin F G p1 = RES
  refine jM (own := RX12) (by decide) rfl (Nat.le_of_ble_eq_true rfl) ?_
  intro p e s m args below meth c ls Q hQ hargs S hr hlk hinit hB hl
  obtain ⟨hx, hb, hml, hown, hts⟩ := S
  have hl : lv_has ls 2 [(0, .ref (A 99)), (1, .int p1)] := hl
  have hin12 : ∀ w ∈ u_ws RX12 TX12 61, w ∈ (Cond.code yX12_isBasin cX12_isBasin 2 (some .boolean) :: wsL_law) := fun w h => List.mem_cons_of_mem _ (inlX12 w h)
  obtain ⟨hP, hK⟩ := hB
  unfold gX12_isBasin at hres
  unfold okX12_isBasin at hok
  refine lv_iload_n hx hb (dd_of dX12_isBasin_0 0 rfl) rfl (lv_at hl 1 rfl) ?_
  refine lv_iconst (v := 0) hx hb (dd_of dX12_isBasin_0 1 rfl) (by decide) ?_
  refine lv_aload_n hx hb (dd_of dX12_isBasin_0 2 rfl) rfl (lv_at hl 0 rfl) ?_
  refine va_get (D := D) (cl := vwCl) (tys := jT yy) (ci := 12) (v := .int (F 8 0)) (C := RX12) (T := TX12) (N := 61) hx hb hts hin12 hown hK hP 0 rfl rfl 8 (by decide) (jw hts gw589) (fun _ h9 => h9) rfl (dd_of dX12_isBasin_0 3 rfl) ?_
  refine lv_iconst (v := 1) hx hb (dd_of dX12_isBasin_0 4 rfl) (by decide) ?_
  refine lv_isub hx hb (dd_of dX12_isBasin_0 5 rfl) ?_
  refine jc_si (As := [.int p1, .int 0, .int ((F 8 0) - 1)]) (rest := []) ⟨hx, hb, hml, hown, hts⟩ (qX12_in l p1 0 ((F 8 0) - 1) ) (cwS 3 hts (jgS gw591 gw592 gw5 gw593) rfl rfl rfl (by decide +kernel) ⟨Nat.le_of_ble_eq_true rfl, Nat.le_of_ble_eq_true rfl⟩) rfl hl.1 rfl (Nat.le_of_ble_eq_true rfl) (dd_of dX12_isBasin_0 6 rfl) ⟨Nat.zero_le _, Nat.zero_le _⟩ (fun x1 ex1 => ?_)
  replace hres := bvE ex1 hres
  replace hok := bvO ex1 hok
  have hz2 := hok
  subst hQ
  exact W.zret (ty := .boolean) (v := x1) hx hb hr (jb_nz (hz2)) (fun t ht _ => ⟨_, rfl, hres, ht⟩) (fun _ h => absurd h List.not_mem_nil) (dd_of dX12_isBasin_0 7 rfl) hlk
set_option maxHeartbeats 4000000 in
set_option maxRecDepth 100000 in
theorem qX12_isEnd (l : Launch) (D : va_G) (yy : Nat → ClassId) (A : Nat → Nat) (F : jF) (G : jG) (p1 : Int32) (hok : okX12_isEnd F G p1) : Met l yX12_isEnd (Cond.code yX12_isEnd cX12_isEnd 2 (some .boolean) :: wsL_law) rmX12_isEnd (va_Pc [.ref (A 99), .int p1] (jR D yy (mW yy A F G))) (vp_Si (fun r => r = gX12_isEnd F G p1)) 0 0 (fun _ => False) := by
  generalize hres : gX12_isEnd F G p1 = RES
  refine jM (own := RX12) (by decide) rfl (Nat.le_of_ble_eq_true rfl) ?_
  intro p e s m args below meth c ls Q hQ hargs S hr hlk hinit hB hl
  obtain ⟨hx, hb, hml, hown, hts⟩ := S
  have hl : lv_has ls 2 [(0, .ref (A 99)), (1, .int p1)] := hl
  have hin12 : ∀ w ∈ u_ws RX12 TX12 61, w ∈ (Cond.code yX12_isEnd cX12_isEnd 2 (some .boolean) :: wsL_law) := fun w h => List.mem_cons_of_mem _ (inlX12 w h)
  obtain ⟨hP, hK⟩ := hB
  unfold gX12_isEnd at hres
  unfold okX12_isEnd at hok
  refine lv_aload_n hx hb (dd_of dX12_isEnd_0 0 rfl) rfl (lv_at hl 0 rfl) ?_
  refine lv_iload_n hx hb (dd_of dX12_isEnd_0 1 rfl) rfl (lv_at hl 1 rfl) ?_
  have h1 := hok
  refine jc_i (As := [.int p1]) (rest := []) (w := (mW yy A F G)) (D := D) (yy := yy) ⟨hx, hb, hml, hown, hts⟩ (qX12_isBasin l D yy A F G p1 h1) (cwV 1 hts (jgV gw617 gw618 gw619 gw5 gw620) rfl rfl rfl (by decide +kernel) ⟨Nat.le_of_ble_eq_true rfl, Nat.le_of_ble_eq_true rfl⟩) hP hK (va_recv hK hP (ci := 12) (q0 := 0) rfl rfl) rfl hl.1 rfl (Nat.le_of_ble_eq_true rfl) (dd_of dX12_isEnd_0 2 rfl) ⟨Nat.zero_le _, Nat.zero_le _⟩ (fun x2 ex2 => ?_)
  replace hres := bvE ex2 hres
  refine lv_if_ne (tgt := 20) hx hb (dd_of dX12_isEnd_0 3 rfl) (by decide) (fun c3 => ?_) (fun c3 => ?_)
  · replace hres := ifN c3 hres
    refine lv_iconst (v := 1) hx hb (dd_of dX12_isEnd_0 10 rfl) (by decide) ?_
    refine lv_goto (tgt := 25) hx hb (dd_of dX12_isEnd_0 11 rfl) (by decide) ?_
    subst hQ
    exact W.zret (ty := .boolean) (v := 1) hx hb hr (jb_nz (Or.inr rfl)) (fun t ht _ => ⟨_, rfl, hres, ht⟩) (fun _ h => absurd h List.not_mem_nil) (dd_of dX12_isEnd_0 13 rfl) hlk
  · replace hres := ifE c3 hres
    refine lv_iload_n hx hb (dd_of dX12_isEnd_0 4 rfl) rfl (lv_at hl 1 rfl) ?_
    refine lv_bipush (v := 20) hx hb (dd_of dX12_isEnd_0 5 rfl) (by decide) ?_
    refine lv_icmp_eq (tgt := 20) hx hb (dd_of dX12_isEnd_0 6 rfl) (by decide) (fun c4 => ?_) (fun c4 => ?_)
    · replace hres := ifE c4 hres
      refine lv_iconst (v := 1) hx hb (dd_of dX12_isEnd_0 10 rfl) (by decide) ?_
      refine lv_goto (tgt := 25) hx hb (dd_of dX12_isEnd_0 11 rfl) (by decide) ?_
      subst hQ
      exact W.zret (ty := .boolean) (v := 1) hx hb hr (jb_nz (Or.inr rfl)) (fun t ht _ => ⟨_, rfl, hres, ht⟩) (fun _ h => absurd h List.not_mem_nil) (dd_of dX12_isEnd_0 13 rfl) hlk
    · replace hres := ifN c4 hres
      refine lv_iload_n hx hb (dd_of dX12_isEnd_0 7 rfl) rfl (lv_at hl 1 rfl) ?_
      refine lv_bipush (v := 21) hx hb (dd_of dX12_isEnd_0 8 rfl) (by decide) ?_
      refine lv_icmp_ne (tgt := 24) hx hb (dd_of dX12_isEnd_0 9 rfl) (by decide) (fun c5 => ?_) (fun c5 => ?_)
      · replace hres := ifN c5 hres
        refine lv_iconst (v := 0) hx hb (dd_of dX12_isEnd_0 12 rfl) (by decide) ?_
        subst hQ
        exact W.zret (ty := .boolean) (v := 0) hx hb hr (jb_nz (Or.inl rfl)) (fun t ht _ => ⟨_, rfl, hres, ht⟩) (fun _ h => absurd h List.not_mem_nil) (dd_of dX12_isEnd_0 13 rfl) hlk
      · replace hres := ifE c5 hres
        refine lv_iconst (v := 1) hx hb (dd_of dX12_isEnd_0 10 rfl) (by decide) ?_
        refine lv_goto (tgt := 25) hx hb (dd_of dX12_isEnd_0 11 rfl) (by decide) ?_
        subst hQ
        exact W.zret (ty := .boolean) (v := 1) hx hb hr (jb_nz (Or.inr rfl)) (fun t ht _ => ⟨_, rfl, hres, ht⟩) (fun _ h => absurd h List.not_mem_nil) (dd_of dX12_isEnd_0 13 rfl) hlk
set_option maxHeartbeats 4000000 in
set_option maxRecDepth 100000 in
theorem qX12_addBasin (l : Launch) (D : va_G) (yy : Nat → ClassId) (A : Nat → Nat) (F : jF) (G : jG) (sz : Nat) (p1 : Int32) (p2 : Int32) (hok : okX12_addBasin F G p1 p2) : Met l yX12_addBasin (Cond.code yX12_addBasin cX12_addBasin 3 (some .int) :: wsL_law) rmX12_addBasin (va_Pc [.ref (A 99), .int p1, .int p2] (jP D yy (mW yy A F G) sz)) (va_Qi (fun r (u : jS) => (r, u) = gX12_addBasin F G p1 p2) (fun (u : jS) t => jB D yy (va_A (mW yy A F G) sz) (mW yy A u.1 u.2) t) (va_A (mW yy A F G) sz)) 0 0 (va_A (mW yy A F G) sz) := by
  generalize hres : gX12_addBasin F G p1 p2 = RES
  refine jM (own := RX12) (by decide) rfl (Nat.le_of_ble_eq_true rfl) ?_
  intro p e s m args below meth c ls Q hQ hargs S hr hlk hinit hB hl
  obtain ⟨hx, hb, hml, hown, hts⟩ := S
  have hl : lv_has ls 3 [(0, .ref (A 99)), (1, .int p1), (2, .int p2)] := hl
  have hin12 : ∀ w ∈ u_ws RX12 TX12 61, w ∈ (Cond.code yX12_addBasin cX12_addBasin 3 (some .int) :: wsL_law) := fun w h => List.mem_cons_of_mem _ (inlX12 w h)
  obtain ⟨hsz, hP, hK, hD0⟩ := hB
  subst hsz
  have hD := hD0.self (sz := s.heap.size)
  generalize hZ : va_A (mW yy A F G) s.heap.size = Z at hD hQ
  have hA : ∀ q : Nat, s.heap.size ≤ q → Z q := fun q h => by rw [← hZ]; exact Or.inr h
  obtain ⟨H, hH⟩ : ∃ z, z = s.heap := ⟨_, rfl⟩
  obtain ⟨locs, hlocs⟩ : ∃ z : List Loc, z = [] := ⟨_, rfl⟩
  have hS : va_S Z s.heap H locs := by rw [hH, hlocs]; exact va_S.rf
  rw [← hH] at hP
  suffices hgo : W p l e rmX12_addBasin s m args below meth c H locs 0 0 Q (F0 m 0 ls []) by rw [hH, hlocs] at hgo; exact hgo
  unfold gX12_addBasin at hres
  unfold okX12_addBasin at hok
  refine lv_aload_n hx hb (dd_of dX12_addBasin_0 0 rfl) rfl (lv_at hl 0 rfl) ?_
  refine lv_iload_n hx hb (dd_of dX12_addBasin_0 1 rfl) rfl (lv_at hl 1 rfl) ?_
  refine lv_iconst (v := 1) hx hb (dd_of dX12_addBasin_0 2 rfl) (by decide) ?_
  refine lv_bipush (v := 100) hx hb (dd_of dX12_addBasin_0 3 rfl) (by decide) ?_
  refine jc_si (As := [.int p1, .int 1, .int 100]) (rest := [.ref (A 99)]) ⟨hx, hb, hml, hown, hts⟩ (qX12_in l p1 1 100 ) (cwS 3 hts (jgS gw591 gw592 gw5 gw593) rfl rfl rfl (by decide +kernel) ⟨Nat.le_of_ble_eq_true rfl, Nat.le_of_ble_eq_true rfl⟩) rfl hl.1 rfl (Nat.le_of_ble_eq_true rfl) (dd_of dX12_addBasin_0 4 rfl) ⟨Nat.zero_le _, Nat.zero_le _⟩ (fun x1 ex1 => ?_)
  replace hres := bvE ex1 hres
  replace hok := bvO ex1 hok
  obtain ⟨z22, q21⟩ : ∃ z : Int32, (if x1 = 0 then 1 else bv (gX12_in p2 (-500) 500) (fun x3 : Int32 => (if x3 = 0 then 1 else (if (F 8 0) = 8 then 2 else 0)))) = z := ⟨_, rfl⟩
  refine jn_i (ls := ls) (v := z22) 42 [.ref (A 99)] (fun v6 ev6 => ?_) (fun K23 => ?_)
  · replace hres := bvE (ev6.trans q21.symm) hres
    replace hok := bvO (ev6.trans q21.symm) hok
    refine va_put (D := D) (cl := vwCl) (tys := jT yy) (ci := 12) (v := .int v6) (ty := .int) (C := RX12) (T := TX12) (N := 61) hx hb hts hin12 tyX12 tyX12_ok nmX12 hown hK hP hD hS 0 rfl rfl 60 (by decide) (jw hts gw590) (fun _ h9 => h9) rfl (by decide +kernel) rfl rfl (Nat.le_of_ble_eq_true rfl) (dd_of dX12_addBasin_0 20 rfl) (fun H locs hP hD hS => ?_)
    obtain ⟨F7, e8⟩ : ∃ z : jF, z = u2 F 60 0 v6 := ⟨_, rfl⟩
    have hP : va_P D vwCl (mW yy A F7 G) H := by rw [e8]; exact hP
    have hD : va_D Z (mW yy A F7 G) := by rw [e8]; exact hD
    replace hres := bvE e8 hres
    replace hok := bvO e8 hok
    refine lv_aload_n hx hb (dd_of dX12_addBasin_0 21 rfl) rfl (lv_at hl 0 rfl) ?_
    refine va_get (D := D) (cl := vwCl) (tys := jT yy) (ci := 12) (v := .int (F7 60 0)) (C := RX12) (T := TX12) (N := 61) hx hb hts hin12 hown hK hP 0 rfl rfl 60 (by decide) (jw hts gw590) (fun _ h9 => h9) rfl (dd_of dX12_addBasin_0 22 rfl) ?_
    refine lv_if_le (tgt := 54) hx hb (dd_of dX12_addBasin_0 23 rfl) (by decide) (fun c9 => ?_) (fun c9 => ?_)
    · replace hres := ifE c9 hres
      replace hok := hok.1 c9
      refine lv_aload_n hx hb (dd_of dX12_addBasin_0 26 rfl) rfl (lv_at hl 0 rfl) ?_
      refine va_get (D := D) (cl := vwCl) (tys := jT yy) (ci := 12) (v := .ref (A 9)) (C := RX12) (T := TX12) (N := 61) hx hb hts hin12 hown hK hP 0 rfl rfl 9 (by decide) (jw hts gw125) (fun _ h9 => h9) rfl (dd_of dX12_addBasin_0 27 rfl) ?_
      refine lv_aload_n hx hb (dd_of dX12_addBasin_0 28 rfl) rfl (lv_at hl 0 rfl) ?_
      refine va_get (D := D) (cl := vwCl) (tys := jT yy) (ci := 12) (v := .int (F7 8 0)) (C := RX12) (T := TX12) (N := 61) hx hb hts hin12 hown hK hP 0 rfl rfl 8 (by decide) (jw hts gw589) (fun _ h9 => h9) rfl (dd_of dX12_addBasin_0 29 rfl) ?_
      refine lv_iload_n hx hb (dd_of dX12_addBasin_0 30 rfl) rfl (lv_at hl 1 rfl) ?_
      have h10 := hok.1
      replace hok := hok.2
      refine va_iast hx hb hK hP hD hS 1 0 rfl rfl h10 (dd_of dX12_addBasin_0 31 rfl) (fun H locs hP hD hS => ?_)
      obtain ⟨F11, e12⟩ : ∃ z : jF, z = u2 F7 9 (Int32.toNatClampNeg (F7 8 0)) p1 := ⟨_, rfl⟩
      have hP : va_P D vwCl (mW yy A F11 G) H := by rw [e12]; exact hP
      have hD : va_D Z (mW yy A F11 G) := by rw [e12]; exact hD
      replace hres := bvE e12 hres
      replace hok := bvO e12 hok
      refine lv_aload_n hx hb (dd_of dX12_addBasin_0 32 rfl) rfl (lv_at hl 0 rfl) ?_
      refine va_get (D := D) (cl := vwCl) (tys := jT yy) (ci := 12) (v := .ref (A 10)) (C := RX12) (T := TX12) (N := 61) hx hb hts hin12 hown hK hP 0 rfl rfl 10 (by decide) (jw hts gw126) (fun _ h9 => h9) rfl (dd_of dX12_addBasin_0 33 rfl) ?_
      refine lv_aload_n hx hb (dd_of dX12_addBasin_0 34 rfl) rfl (lv_at hl 0 rfl) ?_
      refine va_get (D := D) (cl := vwCl) (tys := jT yy) (ci := 12) (v := .int (F11 8 0)) (C := RX12) (T := TX12) (N := 61) hx hb hts hin12 hown hK hP 0 rfl rfl 8 (by decide) (jw hts gw589) (fun _ h9 => h9) rfl (dd_of dX12_addBasin_0 35 rfl) ?_
      refine lv_iload_n hx hb (dd_of dX12_addBasin_0 36 rfl) rfl (lv_at hl 2 rfl) ?_
      have h13 := hok.1
      replace hok := hok.2
      refine va_iast hx hb hK hP hD hS 2 0 rfl rfl h13 (dd_of dX12_addBasin_0 37 rfl) (fun H locs hP hD hS => ?_)
      obtain ⟨F14, e15⟩ : ∃ z : jF, z = u2 F11 10 (Int32.toNatClampNeg (F11 8 0)) p2 := ⟨_, rfl⟩
      have hP : va_P D vwCl (mW yy A F14 G) H := by rw [e15]; exact hP
      have hD : va_D Z (mW yy A F14 G) := by rw [e15]; exact hD
      replace hres := bvE e15 hres
      replace hok := bvO e15 hok
      refine lv_aload_n hx hb (dd_of dX12_addBasin_0 38 rfl) rfl (lv_at hl 0 rfl) ?_
      refine va_get (D := D) (cl := vwCl) (tys := jT yy) (ci := 12) (v := .ref (A 12)) (C := RX12) (T := TX12) (N := 61) hx hb hts hin12 hown hK hP 0 rfl rfl 12 (by decide) (jw hts gw128) (fun _ h9 => h9) rfl (dd_of dX12_addBasin_0 39 rfl) ?_
      refine lv_aload_n hx hb (dd_of dX12_addBasin_1 0 rfl) rfl (lv_at hl 0 rfl) ?_
      refine va_get (D := D) (cl := vwCl) (tys := jT yy) (ci := 12) (v := .int (F14 8 0)) (C := RX12) (T := TX12) (N := 61) hx hb hts hin12 hown hK hP 0 rfl rfl 8 (by decide) (jw hts gw589) (fun _ h9 => h9) rfl (dd_of dX12_addBasin_1 1 rfl) ?_
      refine lv_bipush (v := 100) hx hb (dd_of dX12_addBasin_1 2 rfl) (by decide) ?_
      have h16 := hok
      refine va_iast hx hb hK hP hD hS 4 0 rfl rfl h16 (dd_of dX12_addBasin_1 3 rfl) (fun H locs hP hD hS => ?_)
      obtain ⟨F17, e18⟩ : ∃ z : jF, z = u2 F14 12 (Int32.toNatClampNeg (F14 8 0)) 100 := ⟨_, rfl⟩
      have hP : va_P D vwCl (mW yy A F17 G) H := by rw [e18]; exact hP
      have hD : va_D Z (mW yy A F17 G) := by rw [e18]; exact hD
      replace hres := bvE e18 hres
      refine lv_aload_n hx hb (dd_of dX12_addBasin_1 4 rfl) rfl (lv_at hl 0 rfl) ?_
      refine lv_dup hx hb (dd_of dX12_addBasin_1 5 rfl) rfl ?_
      refine va_get (D := D) (cl := vwCl) (tys := jT yy) (ci := 12) (v := .int (F17 8 0)) (C := RX12) (T := TX12) (N := 61) hx hb hts hin12 hown hK hP 0 rfl rfl 8 (by decide) (jw hts gw589) (fun _ h9 => h9) rfl (dd_of dX12_addBasin_1 6 rfl) ?_
      refine lv_iconst (v := 1) hx hb (dd_of dX12_addBasin_1 7 rfl) (by decide) ?_
      refine lv_iadd hx hb (dd_of dX12_addBasin_1 8 rfl) ?_
      refine va_put (D := D) (cl := vwCl) (tys := jT yy) (ci := 12) (v := .int ((F17 8 0) + 1)) (ty := .int) (C := RX12) (T := TX12) (N := 61) hx hb hts hin12 tyX12 tyX12_ok nmX12 hown hK hP hD hS 0 rfl rfl 8 (by decide) (jw hts gw589) (fun _ h9 => h9) rfl (by decide +kernel) rfl rfl (Nat.le_of_ble_eq_true rfl) (dd_of dX12_addBasin_1 9 rfl) (fun H locs hP hD hS => ?_)
      obtain ⟨F19, e20⟩ : ∃ z : jF, z = u2 F17 8 0 ((F17 8 0) + 1) := ⟨_, rfl⟩
      have hP : va_P D vwCl (mW yy A F19 G) H := by rw [e20]; exact hP
      have hD : va_D Z (mW yy A F19 G) := by rw [e20]; exact hD
      replace hres := bvE e20 hres
      refine lv_aload_n hx hb (dd_of dX12_addBasin_1 10 rfl) rfl (lv_at hl 0 rfl) ?_
      refine va_get (D := D) (cl := vwCl) (tys := jT yy) (ci := 12) (v := .int (F19 8 0)) (C := RX12) (T := TX12) (N := 61) hx hb hts hin12 hown hK hP 0 rfl rfl 8 (by decide) (jw hts gw589) (fun _ h9 => h9) rfl (dd_of dX12_addBasin_1 11 rfl) ?_
      refine lv_iconst (v := 1) hx hb (dd_of dX12_addBasin_1 12 rfl) (by decide) ?_
      refine lv_isub hx hb (dd_of dX12_addBasin_1 13 rfl) ?_
      subst hQ
      exact W.iret (v := ((F19 8 0) - 1)) hx hb hr (fun t ht hW => ⟨⟨((F19 8 0) - 1), (F19, G), rfl, hres, by rw [ht]; exact hP, va_K.moved hW.alike hK, hD⟩, hS.F ht⟩) hS.2.2 (dd_of dX12_addBasin_1 14 rfl) hlk
    · replace hres := ifN c9 hres
      refine lv_iconst (v := 0) hx hb (dd_of dX12_addBasin_0 24 rfl) (by decide) ?_
      subst hQ
      exact W.iret (v := 0) hx hb hr (fun t ht hW => ⟨⟨0, (F7, G), rfl, hres, by rw [ht]; exact hP, va_K.moved hW.alike hK, hD⟩, hS.F ht⟩) hS.2.2 (dd_of dX12_addBasin_0 25 rfl) hlk
  · skip
    refine lv_if_eq (tgt := 24) hx hb (dd_of dX12_addBasin_0 5 rfl) (by decide) (fun c2 => ?_) (fun c2 => ?_)
    · replace q21 := ifE c2 q21
      refine lv_iconst (v := 1) hx hb (dd_of dX12_addBasin_0 11 rfl) (by decide) ?_
      refine lv_goto (tgt := 42) hx hb (dd_of dX12_addBasin_0 12 rfl) (by decide) ?_
      exact K23 _ q21
    · replace q21 := ifN c2 q21
      refine lv_iload_n hx hb (dd_of dX12_addBasin_0 6 rfl) rfl (lv_at hl 2 rfl) ?_
      refine lv_sipush (v := (-500)) hx hb (dd_of dX12_addBasin_0 7 rfl) (by decide) ?_
      refine lv_sipush (v := 500) hx hb (dd_of dX12_addBasin_0 8 rfl) (by decide) ?_
      refine jc_si (As := [.int p2, .int (-500), .int 500]) (rest := [.ref (A 99)]) ⟨hx, hb, hml, hown, hts⟩ (qX12_in l p2 (-500) 500 ) (cwS 3 hts (jgS gw591 gw592 gw5 gw593) rfl rfl rfl (by decide +kernel) ⟨Nat.le_of_ble_eq_true rfl, Nat.le_of_ble_eq_true rfl⟩) rfl hl.1 rfl (Nat.le_of_ble_eq_true rfl) (dd_of dX12_addBasin_0 9 rfl) ⟨Nat.zero_le _, Nat.zero_le _⟩ (fun x3 ex3 => ?_)
      replace q21 := bvE ex3 q21
      refine lv_if_ne (tgt := 28) hx hb (dd_of dX12_addBasin_0 10 rfl) (by decide) (fun c4 => ?_) (fun c4 => ?_)
      · replace q21 := ifN c4 q21
        refine lv_aload_n hx hb (dd_of dX12_addBasin_0 13 rfl) rfl (lv_at hl 0 rfl) ?_
        refine va_get (D := D) (cl := vwCl) (tys := jT yy) (ci := 12) (v := .int (F 8 0)) (C := RX12) (T := TX12) (N := 61) hx hb hts hin12 hown hK hP 0 rfl rfl 8 (by decide) (jw hts gw589) (fun _ h9 => h9) rfl (dd_of dX12_addBasin_0 14 rfl) ?_
        refine lv_bipush (v := 8) hx hb (dd_of dX12_addBasin_0 15 rfl) (by decide) ?_
        refine lv_icmp_ne (tgt := 41) hx hb (dd_of dX12_addBasin_0 16 rfl) (by decide) (fun c5 => ?_) (fun c5 => ?_)
        · replace q21 := ifN c5 q21
          refine lv_iconst (v := 0) hx hb (dd_of dX12_addBasin_0 19 rfl) (by decide) ?_
          exact K23 _ q21
        · replace q21 := ifE c5 q21
          refine lv_iconst (v := 2) hx hb (dd_of dX12_addBasin_0 17 rfl) (by decide) ?_
          refine lv_goto (tgt := 42) hx hb (dd_of dX12_addBasin_0 18 rfl) (by decide) ?_
          exact K23 _ q21
      · replace q21 := ifE c4 q21
        refine lv_iconst (v := 1) hx hb (dd_of dX12_addBasin_0 11 rfl) (by decide) ?_
        refine lv_goto (tgt := 42) hx hb (dd_of dX12_addBasin_0 12 rfl) (by decide) ?_
        exact K23 _ q21
set_option maxHeartbeats 4000000 in
set_option maxRecDepth 100000 in
theorem qX12_setLand (l : Launch) (D : va_G) (yy : Nat → ClassId) (A : Nat → Nat) (F : jF) (G : jG) (sz : Nat) (p1 : Int32) (p2 : Int32) (p3 : Int32) (p4 : Int32) (hok : okX12_setLand F G p1 p2 p3 p4) : Met l yX12_setLand (Cond.code yX12_setLand cX12_setLand 5 none :: wsL_law) rmX12_setLand (va_Pc [.ref (A 99), .int p1, .int p2, .int p3, .int p4] (jP D yy (mW yy A F G) sz)) (va_Qv (fun u : jS => u = gX12_setLand F G p1 p2 p3 p4) (fun (u : jS) t => jB D yy (va_A (mW yy A F G) sz) (mW yy A u.1 u.2) t) (va_A (mW yy A F G) sz)) 0 0 (va_A (mW yy A F G) sz) := by
  generalize hres : gX12_setLand F G p1 p2 p3 p4 = RES
  refine jM (own := RX12) (by decide) rfl (Nat.le_of_ble_eq_true rfl) ?_
  intro p e s m args below meth c ls Q hQ hargs S hr hlk hinit hB hl
  obtain ⟨hx, hb, hml, hown, hts⟩ := S
  have hl : lv_has ls 5 [(0, .ref (A 99)), (1, .int p1), (2, .int p2), (3, .int p3), (4, .int p4)] := hl
  have hin12 : ∀ w ∈ u_ws RX12 TX12 61, w ∈ (Cond.code yX12_setLand cX12_setLand 5 none :: wsL_law) := fun w h => List.mem_cons_of_mem _ (inlX12 w h)
  obtain ⟨hsz, hP, hK, hD0⟩ := hB
  subst hsz
  have hD := hD0.self (sz := s.heap.size)
  generalize hZ : va_A (mW yy A F G) s.heap.size = Z at hD hQ
  have hA : ∀ q : Nat, s.heap.size ≤ q → Z q := fun q h => by rw [← hZ]; exact Or.inr h
  obtain ⟨H, hH⟩ : ∃ z, z = s.heap := ⟨_, rfl⟩
  obtain ⟨locs, hlocs⟩ : ∃ z : List Loc, z = [] := ⟨_, rfl⟩
  have hS : va_S Z s.heap H locs := by rw [hH, hlocs]; exact va_S.rf
  rw [← hH] at hP
  suffices hgo : W p l e rmX12_setLand s m args below meth c H locs 0 0 Q (F0 m 0 ls []) by rw [hH, hlocs] at hgo; exact hgo
  unfold gX12_setLand at hres
  unfold okX12_setLand at hok
  refine lv_aload_n hx hb (dd_of dX12_setLand_0 0 rfl) rfl (lv_at hl 0 rfl) ?_
  refine lv_aload_n hx hb (dd_of dX12_setLand_0 1 rfl) rfl (lv_at hl 0 rfl) ?_
  refine lv_iload_n hx hb (dd_of dX12_setLand_0 2 rfl) rfl (lv_at hl 1 rfl) ?_
  have h1 := hok.1
  replace hok := hok.2
  refine jc_i (As := [.int p1]) (rest := [.ref (A 99)]) (w := (mW yy A F G)) (D := D) (yy := yy) ⟨hx, hb, hml, hown, hts⟩ (qX12_isBasin l D yy A F G p1 h1) (cwV 1 hts (jgV gw617 gw618 gw619 gw5 gw620) rfl rfl rfl (by decide +kernel) ⟨Nat.le_of_ble_eq_true rfl, Nat.le_of_ble_eq_true rfl⟩) hP hK (va_recv hK hP (ci := 12) (q0 := 0) rfl rfl) rfl hl.1 rfl (Nat.le_of_ble_eq_true rfl) (dd_of dX12_setLand_0 3 rfl) ⟨Nat.zero_le _, Nat.zero_le _⟩ (fun x2 ex2 => ?_)
  replace hres := bvE ex2 hres
  replace hok := bvO ex2 hok
  obtain ⟨z24, q23⟩ : ∃ z : Int32, (if x2 = 0 then 1 else bv (gX12_in p2 0 20) (fun x4 : Int32 => (if x4 = 0 then 2 else bv (gX12_in p3 0 9999) (fun x6 : Int32 => (if x6 = 0 then 2 else bv (gX12_in p4 0 99) (fun x8 : Int32 => (if x8 = 0 then 2 else 0))))))) = z := ⟨_, rfl⟩
  refine jn_i (ls := ls) (v := z24) 50 [.ref (A 99)] (fun v10 ev10 => ?_) (fun K25 => ?_)
  · replace hres := bvE (ev10.trans q23.symm) hres
    replace hok := bvO (ev10.trans q23.symm) hok
    refine va_put (D := D) (cl := vwCl) (tys := jT yy) (ci := 12) (v := .int v10) (ty := .int) (C := RX12) (T := TX12) (N := 61) hx hb hts hin12 tyX12 tyX12_ok nmX12 hown hK hP hD hS 0 rfl rfl 60 (by decide) (jw hts gw590) (fun _ h9 => h9) rfl (by decide +kernel) rfl rfl (Nat.le_of_ble_eq_true rfl) (dd_of dX12_setLand_0 25 rfl) (fun H locs hP hD hS => ?_)
    obtain ⟨F11, e12⟩ : ∃ z : jF, z = u2 F 60 0 v10 := ⟨_, rfl⟩
    have hP : va_P D vwCl (mW yy A F11 G) H := by rw [e12]; exact hP
    have hD : va_D Z (mW yy A F11 G) := by rw [e12]; exact hD
    replace hres := bvE e12 hres
    replace hok := bvO e12 hok
    refine lv_aload_n hx hb (dd_of dX12_setLand_0 26 rfl) rfl (lv_at hl 0 rfl) ?_
    refine va_get (D := D) (cl := vwCl) (tys := jT yy) (ci := 12) (v := .int (F11 60 0)) (C := RX12) (T := TX12) (N := 61) hx hb hts hin12 hown hK hP 0 rfl rfl 60 (by decide) (jw hts gw590) (fun _ h9 => h9) rfl (dd_of dX12_setLand_0 27 rfl) ?_
    refine lv_if_ne (tgt := 82) hx hb (dd_of dX12_setLand_0 28 rfl) (by decide) (fun c13 => ?_) (fun c13 => ?_)
    · replace hres := ifN c13 hres
      subst hQ
      exact W.vret hx hb hr (fun t ht hW => ⟨⟨(F11, G), rfl, hres, by rw [ht]; exact hP, va_K.moved hW.alike hK, hD⟩, hS.F ht⟩) hS.2.2 (dd_of dX12_setLand_1 4 rfl) hlk
    · replace hres := ifE c13 hres
      replace hok := hok.1 c13
      refine lv_aload_n hx hb (dd_of dX12_setLand_0 29 rfl) rfl (lv_at hl 0 rfl) ?_
      refine va_get (D := D) (cl := vwCl) (tys := jT yy) (ci := 12) (v := .ref (A 11)) (C := RX12) (T := TX12) (N := 61) hx hb hts hin12 hown hK hP 0 rfl rfl 11 (by decide) (jw hts gw127) (fun _ h9 => h9) rfl (dd_of dX12_setLand_0 30 rfl) ?_
      refine lv_iload_n hx hb (dd_of dX12_setLand_0 31 rfl) rfl (lv_at hl 1 rfl) ?_
      refine lv_iload_n hx hb (dd_of dX12_setLand_0 32 rfl) rfl (lv_at hl 2 rfl) ?_
      have h14 := hok.1
      replace hok := hok.2
      refine va_iast hx hb hK hP hD hS 3 0 rfl rfl h14 (dd_of dX12_setLand_0 33 rfl) (fun H locs hP hD hS => ?_)
      obtain ⟨F15, e16⟩ : ∃ z : jF, z = u2 F11 11 (Int32.toNatClampNeg p1) p2 := ⟨_, rfl⟩
      have hP : va_P D vwCl (mW yy A F15 G) H := by rw [e16]; exact hP
      have hD : va_D Z (mW yy A F15 G) := by rw [e16]; exact hD
      replace hres := bvE e16 hres
      replace hok := bvO e16 hok
      refine lv_aload_n hx hb (dd_of dX12_setLand_0 34 rfl) rfl (lv_at hl 0 rfl) ?_
      refine va_get (D := D) (cl := vwCl) (tys := jT yy) (ci := 12) (v := .ref (A 12)) (C := RX12) (T := TX12) (N := 61) hx hb hts hin12 hown hK hP 0 rfl rfl 12 (by decide) (jw hts gw128) (fun _ h9 => h9) rfl (dd_of dX12_setLand_0 35 rfl) ?_
      refine lv_iload_n hx hb (dd_of dX12_setLand_0 36 rfl) rfl (lv_at hl 1 rfl) ?_
      refine lv_iload_n hx hb (dd_of dX12_setLand_0 37 rfl) rfl (lv_at hl 3 rfl) ?_
      have h17 := hok.1
      replace hok := hok.2
      refine va_iast hx hb hK hP hD hS 4 0 rfl rfl h17 (dd_of dX12_setLand_0 38 rfl) (fun H locs hP hD hS => ?_)
      obtain ⟨F18, e19⟩ : ∃ z : jF, z = u2 F15 12 (Int32.toNatClampNeg p1) p3 := ⟨_, rfl⟩
      have hP : va_P D vwCl (mW yy A F18 G) H := by rw [e19]; exact hP
      have hD : va_D Z (mW yy A F18 G) := by rw [e19]; exact hD
      replace hres := bvE e19 hres
      replace hok := bvO e19 hok
      refine lv_aload_n hx hb (dd_of dX12_setLand_0 39 rfl) rfl (lv_at hl 0 rfl) ?_
      refine va_get (D := D) (cl := vwCl) (tys := jT yy) (ci := 12) (v := .ref (A 13)) (C := RX12) (T := TX12) (N := 61) hx hb hts hin12 hown hK hP 0 rfl rfl 13 (by decide) (jw hts gw129) (fun _ h9 => h9) rfl (dd_of dX12_setLand_1 0 rfl) ?_
      refine lv_iload_n hx hb (dd_of dX12_setLand_1 1 rfl) rfl (lv_at hl 1 rfl) ?_
      refine lv_iload hx hb (dd_of dX12_setLand_1 2 rfl) (lv_at hl 4 rfl) ?_
      have h20 := hok
      refine va_iast hx hb hK hP hD hS 5 0 rfl rfl h20 (dd_of dX12_setLand_1 3 rfl) (fun H locs hP hD hS => ?_)
      obtain ⟨F21, e22⟩ : ∃ z : jF, z = u2 F18 13 (Int32.toNatClampNeg p1) p4 := ⟨_, rfl⟩
      have hP : va_P D vwCl (mW yy A F21 G) H := by rw [e22]; exact hP
      have hD : va_D Z (mW yy A F21 G) := by rw [e22]; exact hD
      replace hres := bvE e22 hres
      subst hQ
      exact W.vret hx hb hr (fun t ht hW => ⟨⟨(F21, G), rfl, hres, by rw [ht]; exact hP, va_K.moved hW.alike hK, hD⟩, hS.F ht⟩) hS.2.2 (dd_of dX12_setLand_1 4 rfl) hlk
  · skip
    refine lv_if_ne (tgt := 13) hx hb (dd_of dX12_setLand_0 4 rfl) (by decide) (fun c3 => ?_) (fun c3 => ?_)
    · replace q23 := ifN c3 q23
      refine lv_iload_n hx hb (dd_of dX12_setLand_0 7 rfl) rfl (lv_at hl 2 rfl) ?_
      refine lv_iconst (v := 0) hx hb (dd_of dX12_setLand_0 8 rfl) (by decide) ?_
      refine lv_bipush (v := 20) hx hb (dd_of dX12_setLand_0 9 rfl) (by decide) ?_
      refine jc_si (As := [.int p2, .int 0, .int 20]) (rest := [.ref (A 99)]) ⟨hx, hb, hml, hown, hts⟩ (qX12_in l p2 0 20 ) (cwS 3 hts (jgS gw591 gw592 gw5 gw593) rfl rfl rfl (by decide +kernel) ⟨Nat.le_of_ble_eq_true rfl, Nat.le_of_ble_eq_true rfl⟩) rfl hl.1 rfl (Nat.le_of_ble_eq_true rfl) (dd_of dX12_setLand_0 10 rfl) ⟨Nat.zero_le _, Nat.zero_le _⟩ (fun x4 ex4 => ?_)
      replace q23 := bvE ex4 q23
      refine lv_if_eq (tgt := 45) hx hb (dd_of dX12_setLand_0 11 rfl) (by decide) (fun c5 => ?_) (fun c5 => ?_)
      · replace q23 := ifE c5 q23
        refine lv_iconst (v := 2) hx hb (dd_of dX12_setLand_0 22 rfl) (by decide) ?_
        refine lv_goto (tgt := 50) hx hb (dd_of dX12_setLand_0 23 rfl) (by decide) ?_
        exact K25 _ q23
      · replace q23 := ifN c5 q23
        refine lv_iload_n hx hb (dd_of dX12_setLand_0 12 rfl) rfl (lv_at hl 3 rfl) ?_
        refine lv_iconst (v := 0) hx hb (dd_of dX12_setLand_0 13 rfl) (by decide) ?_
        refine lv_sipush (v := 9999) hx hb (dd_of dX12_setLand_0 14 rfl) (by decide) ?_
        refine jc_si (As := [.int p3, .int 0, .int 9999]) (rest := [.ref (A 99)]) ⟨hx, hb, hml, hown, hts⟩ (qX12_in l p3 0 9999 ) (cwS 3 hts (jgS gw591 gw592 gw5 gw593) rfl rfl rfl (by decide +kernel) ⟨Nat.le_of_ble_eq_true rfl, Nat.le_of_ble_eq_true rfl⟩) rfl hl.1 rfl (Nat.le_of_ble_eq_true rfl) (dd_of dX12_setLand_0 15 rfl) ⟨Nat.zero_le _, Nat.zero_le _⟩ (fun x6 ex6 => ?_)
        replace q23 := bvE ex6 q23
        refine lv_if_eq (tgt := 45) hx hb (dd_of dX12_setLand_0 16 rfl) (by decide) (fun c7 => ?_) (fun c7 => ?_)
        · replace q23 := ifE c7 q23
          refine lv_iconst (v := 2) hx hb (dd_of dX12_setLand_0 22 rfl) (by decide) ?_
          refine lv_goto (tgt := 50) hx hb (dd_of dX12_setLand_0 23 rfl) (by decide) ?_
          exact K25 _ q23
        · replace q23 := ifN c7 q23
          refine lv_iload hx hb (dd_of dX12_setLand_0 17 rfl) (lv_at hl 4 rfl) ?_
          refine lv_iconst (v := 0) hx hb (dd_of dX12_setLand_0 18 rfl) (by decide) ?_
          refine lv_bipush (v := 99) hx hb (dd_of dX12_setLand_0 19 rfl) (by decide) ?_
          refine jc_si (As := [.int p4, .int 0, .int 99]) (rest := [.ref (A 99)]) ⟨hx, hb, hml, hown, hts⟩ (qX12_in l p4 0 99 ) (cwS 3 hts (jgS gw591 gw592 gw5 gw593) rfl rfl rfl (by decide +kernel) ⟨Nat.le_of_ble_eq_true rfl, Nat.le_of_ble_eq_true rfl⟩) rfl hl.1 rfl (Nat.le_of_ble_eq_true rfl) (dd_of dX12_setLand_0 20 rfl) ⟨Nat.zero_le _, Nat.zero_le _⟩ (fun x8 ex8 => ?_)
          replace q23 := bvE ex8 q23
          refine lv_if_ne (tgt := 49) hx hb (dd_of dX12_setLand_0 21 rfl) (by decide) (fun c9 => ?_) (fun c9 => ?_)
          · replace q23 := ifN c9 q23
            refine lv_iconst (v := 0) hx hb (dd_of dX12_setLand_0 24 rfl) (by decide) ?_
            exact K25 _ q23
          · replace q23 := ifE c9 q23
            refine lv_iconst (v := 2) hx hb (dd_of dX12_setLand_0 22 rfl) (by decide) ?_
            refine lv_goto (tgt := 50) hx hb (dd_of dX12_setLand_0 23 rfl) (by decide) ?_
            exact K25 _ q23
    · replace q23 := ifE c3 q23
      refine lv_iconst (v := 1) hx hb (dd_of dX12_setLand_0 5 rfl) (by decide) ?_
      refine lv_goto (tgt := 50) hx hb (dd_of dX12_setLand_0 6 rfl) (by decide) ?_
      exact K25 _ q23
set_option maxHeartbeats 4000000 in
set_option maxRecDepth 100000 in
theorem qX12_pour (l : Launch) (D : va_G) (yy : Nat → ClassId) (A : Nat → Nat) (F : jF) (G : jG) (sz : Nat) (p1 : Int32) (p2 : Int32) (hok : okX12_pour F G p1 p2) : Met l yX12_pour (Cond.code yX12_pour cX12_pour 3 (some .long) :: wsL_law) rmX12_pour (va_Pc [.ref (A 99), .int p1, .int p2] (jP D yy (mW yy A F G) sz)) (va_Ql (fun r (u : jS) => (r, u) = gX12_pour F G p1 p2) (fun (u : jS) t => jB D yy (va_A (mW yy A F G) sz) (mW yy A u.1 u.2) t) (va_A (mW yy A F G) sz)) 0 0 (va_A (mW yy A F G) sz) := by
  generalize hres : gX12_pour F G p1 p2 = RES
  refine jM (own := RX12) (by decide) rfl (Nat.le_of_ble_eq_true rfl) ?_
  intro p e s m args below meth c ls Q hQ hargs S hr hlk hinit hB hl
  obtain ⟨hx, hb, hml, hown, hts⟩ := S
  have hl : lv_has ls 3 [(0, .ref (A 99)), (1, .int p1), (2, .int p2)] := hl
  have hin12 : ∀ w ∈ u_ws RX12 TX12 61, w ∈ (Cond.code yX12_pour cX12_pour 3 (some .long) :: wsL_law) := fun w h => List.mem_cons_of_mem _ (inlX12 w h)
  obtain ⟨hsz, hP, hK, hD0⟩ := hB
  subst hsz
  have hD := hD0.self (sz := s.heap.size)
  generalize hZ : va_A (mW yy A F G) s.heap.size = Z at hD hQ
  have hA : ∀ q : Nat, s.heap.size ≤ q → Z q := fun q h => by rw [← hZ]; exact Or.inr h
  obtain ⟨H, hH⟩ : ∃ z, z = s.heap := ⟨_, rfl⟩
  obtain ⟨locs, hlocs⟩ : ∃ z : List Loc, z = [] := ⟨_, rfl⟩
  have hS : va_S Z s.heap H locs := by rw [hH, hlocs]; exact va_S.rf
  rw [← hH] at hP
  suffices hgo : W p l e rmX12_pour s m args below meth c H locs 0 0 Q (F0 m 0 ls []) by rw [hH, hlocs] at hgo; exact hgo
  unfold gX12_pour at hres
  unfold okX12_pour at hok
  refine lv_aload_n hx hb (dd_of dX12_pour_0 0 rfl) rfl (lv_at hl 0 rfl) ?_
  refine lv_aload_n hx hb (dd_of dX12_pour_0 1 rfl) rfl (lv_at hl 0 rfl) ?_
  refine lv_iload_n hx hb (dd_of dX12_pour_0 2 rfl) rfl (lv_at hl 1 rfl) ?_
  have h1 := hok.1
  replace hok := hok.2
  refine jc_i (As := [.int p1]) (rest := [.ref (A 99)]) (w := (mW yy A F G)) (D := D) (yy := yy) ⟨hx, hb, hml, hown, hts⟩ (qX12_isBasin l D yy A F G p1 h1) (cwV 1 hts (jgV gw617 gw618 gw619 gw5 gw620) rfl rfl rfl (by decide +kernel) ⟨Nat.le_of_ble_eq_true rfl, Nat.le_of_ble_eq_true rfl⟩) hP hK (va_recv hK hP (ci := 12) (q0 := 0) rfl rfl) rfl hl.1 rfl (Nat.le_of_ble_eq_true rfl) (dd_of dX12_pour_0 3 rfl) ⟨Nat.zero_le _, Nat.zero_le _⟩ (fun x2 ex2 => ?_)
  replace hres := bvE ex2 hres
  replace hok := bvO ex2 hok
  obtain ⟨z18, q17⟩ : ∃ z : Int32, (if x2 = 0 then 1 else bv (gX12_in p2 0 1000000) (fun x4 : Int32 => (if x4 = 0 then 2 else 0))) = z := ⟨_, rfl⟩
  refine jn_i (ls := ls) (v := z18) 28 [.ref (A 99)] (fun v6 ev6 => ?_) (fun K19 => ?_)
  · replace hres := bvE (ev6.trans q17.symm) hres
    replace hok := bvO (ev6.trans q17.symm) hok
    refine va_put (D := D) (cl := vwCl) (tys := jT yy) (ci := 12) (v := .int v6) (ty := .int) (C := RX12) (T := TX12) (N := 61) hx hb hts hin12 tyX12 tyX12_ok nmX12 hown hK hP hD hS 0 rfl rfl 60 (by decide) (jw hts gw590) (fun _ h9 => h9) rfl (by decide +kernel) rfl rfl (Nat.le_of_ble_eq_true rfl) (dd_of dX12_pour_0 15 rfl) (fun H locs hP hD hS => ?_)
    obtain ⟨F7, e8⟩ : ∃ z : jF, z = u2 F 60 0 v6 := ⟨_, rfl⟩
    have hP : va_P D vwCl (mW yy A F7 G) H := by rw [e8]; exact hP
    have hD : va_D Z (mW yy A F7 G) := by rw [e8]; exact hD
    replace hres := bvE e8 hres
    replace hok := bvO e8 hok
    refine lv_aload_n hx hb (dd_of dX12_pour_0 16 rfl) rfl (lv_at hl 0 rfl) ?_
    refine va_get (D := D) (cl := vwCl) (tys := jT yy) (ci := 12) (v := .int (F7 60 0)) (C := RX12) (T := TX12) (N := 61) hx hb hts hin12 hown hK hP 0 rfl rfl 60 (by decide) (jw hts gw590) (fun _ h9 => h9) rfl (dd_of dX12_pour_0 17 rfl) ?_
    refine lv_if_le (tgt := 40) hx hb (dd_of dX12_pour_0 18 rfl) (by decide) (fun c9 => ?_) (fun c9 => ?_)
    · replace hres := ifE c9 hres
      replace hok := hok.1 c9
      refine lv_aload_n hx hb (dd_of dX12_pour_0 21 rfl) rfl (lv_at hl 0 rfl) ?_
      refine va_get (D := D) (cl := vwCl) (tys := jT yy) (ci := 12) (v := .ref (A 14)) (C := RX12) (T := TX12) (N := 61) hx hb hts hin12 hown hK hP 0 rfl rfl 14 (by decide) (jw hts gw130) (fun _ h9 => h9) rfl (dd_of dX12_pour_0 22 rfl) ?_
      refine lv_iload_n hx hb (dd_of dX12_pour_0 23 rfl) rfl (lv_at hl 1 rfl) ?_
      refine lv_dup2_11 hx hb (dd_of dX12_pour_0 24 rfl) rfl rfl ?_
      have h10 := hok.1
      replace hok := hok.2
      refine va_lald hx hb hK hP 6 1 rfl rfl h10 (dd_of dX12_pour_0 25 rfl) ?_
      refine lv_iload_n hx hb (dd_of dX12_pour_0 26 rfl) rfl (lv_at hl 2 rfl) ?_
      refine lv_i2l (v := (Int32.toInt64 p2)) hx hb (dd_of dX12_pour_0 27 rfl) rfl ?_
      refine lv_ladd hx hb (dd_of dX12_pour_0 28 rfl) ?_
      have h11 := hok.1
      replace hok := hok.2
      refine va_last hx hb hK hP hD hS 6 1 rfl rfl h11 (dd_of dX12_pour_0 29 rfl) (fun H locs hP hD hS => ?_)
      obtain ⟨G12, e13⟩ : ∃ z : jG, z = u2 G 14 (Int32.toNatClampNeg p1) ((G 14 (Int32.toNatClampNeg p1)) + (Int32.toInt64 p2)) := ⟨_, rfl⟩
      have hP : va_P D vwCl (mW yy A F7 G12) H := by rw [e13]; exact hP
      have hD : va_D Z (mW yy A F7 G12) := by rw [e13]; exact hD
      replace hres := bvE e13 hres
      replace hok := bvO e13 hok
      refine lv_aload_n hx hb (dd_of dX12_pour_0 30 rfl) rfl (lv_at hl 0 rfl) ?_
      refine va_get (D := D) (cl := vwCl) (tys := jT yy) (ci := 12) (v := .ref (A 56)) (C := RX12) (T := TX12) (N := 61) hx hb hts hin12 hown hK hP 0 rfl rfl 56 (by decide) (jw hts gw166) (fun _ h9 => h9) rfl (dd_of dX12_pour_0 31 rfl) ?_
      refine lv_iconst (v := 0) hx hb (dd_of dX12_pour_0 32 rfl) (by decide) ?_
      refine lv_dup2_11 hx hb (dd_of dX12_pour_0 33 rfl) rfl rfl ?_
      refine va_lald hx hb hK hP 42 1 rfl rfl (vin_lit (by decide)) (dd_of dX12_pour_0 34 rfl) ?_
      refine lv_iload_n hx hb (dd_of dX12_pour_0 35 rfl) rfl (lv_at hl 2 rfl) ?_
      refine lv_i2l (v := (Int32.toInt64 p2)) hx hb (dd_of dX12_pour_0 36 rfl) rfl ?_
      refine lv_ladd hx hb (dd_of dX12_pour_0 37 rfl) ?_
      refine va_last hx hb hK hP hD hS 42 1 rfl rfl (vin_lit (by decide)) (dd_of dX12_pour_0 38 rfl) (fun H locs hP hD hS => ?_)
      obtain ⟨G14, e15⟩ : ∃ z : jG, z = u2 G12 56 (Int32.toNatClampNeg 0) ((G12 56 (Int32.toNatClampNeg 0)) + (Int32.toInt64 p2)) := ⟨_, rfl⟩
      have hP : va_P D vwCl (mW yy A F7 G14) H := by rw [e15]; exact hP
      have hD : va_D Z (mW yy A F7 G14) := by rw [e15]; exact hD
      replace hres := bvE e15 hres
      replace hok := bvO e15 hok
      refine lv_aload_n hx hb (dd_of dX12_pour_0 39 rfl) rfl (lv_at hl 0 rfl) ?_
      refine va_get (D := D) (cl := vwCl) (tys := jT yy) (ci := 12) (v := .ref (A 14)) (C := RX12) (T := TX12) (N := 61) hx hb hts hin12 hown hK hP 0 rfl rfl 14 (by decide) (jw hts gw130) (fun _ h9 => h9) rfl (dd_of dX12_pour_1 0 rfl) ?_
      refine lv_iload_n hx hb (dd_of dX12_pour_1 1 rfl) rfl (lv_at hl 1 rfl) ?_
      have h16 := hok
      refine va_lald hx hb hK hP 6 1 rfl rfl h16 (dd_of dX12_pour_1 2 rfl) ?_
      subst hQ
      exact W.lret (v := (G14 14 (Int32.toNatClampNeg p1))) hx hb hr (fun t ht hW => ⟨⟨(G14 14 (Int32.toNatClampNeg p1)), (F7, G14), rfl, hres, by rw [ht]; exact hP, va_K.moved hW.alike hK, hD⟩, hS.F ht⟩) hS.2.2 (dd_of dX12_pour_1 3 rfl) hlk
    · replace hres := ifN c9 hres
      refine lv_lconst (v := 0) hx hb (dd_of dX12_pour_0 19 rfl) (by decide) ?_
      subst hQ
      exact W.lret (v := 0) hx hb hr (fun t ht hW => ⟨⟨0, (F7, G), rfl, hres, by rw [ht]; exact hP, va_K.moved hW.alike hK, hD⟩, hS.F ht⟩) hS.2.2 (dd_of dX12_pour_0 20 rfl) hlk
  · skip
    refine lv_if_ne (tgt := 13) hx hb (dd_of dX12_pour_0 4 rfl) (by decide) (fun c3 => ?_) (fun c3 => ?_)
    · replace q17 := ifN c3 q17
      refine lv_iload_n hx hb (dd_of dX12_pour_0 7 rfl) rfl (lv_at hl 2 rfl) ?_
      refine lv_iconst (v := 0) hx hb (dd_of dX12_pour_0 8 rfl) (by decide) ?_
      refine lv_ldc (v := 1000000) hx hb hown (jw hts gw633) (dd_of dX12_pour_0 9 rfl) ?_
      refine jc_si (As := [.int p2, .int 0, .int 1000000]) (rest := [.ref (A 99)]) ⟨hx, hb, hml, hown, hts⟩ (qX12_in l p2 0 1000000 ) (cwS 3 hts (jgS gw591 gw592 gw5 gw593) rfl rfl rfl (by decide +kernel) ⟨Nat.le_of_ble_eq_true rfl, Nat.le_of_ble_eq_true rfl⟩) rfl hl.1 rfl (Nat.le_of_ble_eq_true rfl) (dd_of dX12_pour_0 10 rfl) ⟨Nat.zero_le _, Nat.zero_le _⟩ (fun x4 ex4 => ?_)
      replace q17 := bvE ex4 q17
      refine lv_if_ne (tgt := 27) hx hb (dd_of dX12_pour_0 11 rfl) (by decide) (fun c5 => ?_) (fun c5 => ?_)
      · replace q17 := ifN c5 q17
        refine lv_iconst (v := 0) hx hb (dd_of dX12_pour_0 14 rfl) (by decide) ?_
        exact K19 _ q17
      · replace q17 := ifE c5 q17
        refine lv_iconst (v := 2) hx hb (dd_of dX12_pour_0 12 rfl) (by decide) ?_
        refine lv_goto (tgt := 28) hx hb (dd_of dX12_pour_0 13 rfl) (by decide) ?_
        exact K19 _ q17
    · replace q17 := ifE c3 q17
      refine lv_iconst (v := 1) hx hb (dd_of dX12_pour_0 5 rfl) (by decide) ?_
      refine lv_goto (tgt := 28) hx hb (dd_of dX12_pour_0 6 rfl) (by decide) ?_
      exact K19 _ q17
set_option maxHeartbeats 4000000 in
set_option maxRecDepth 100000 in
theorem qX12_road (l : Launch) (D : va_G) (yy : Nat → ClassId) (A : Nat → Nat) (F : jF) (G : jG) (sz : Nat) (p1 : Int32) (p2 : Int32) (p3 : Int32) (hok : okX12_road F G p1 p2 p3) : Met l yX12_road (Cond.code yX12_road cX12_road 5 (some .boolean) :: wsL_law) rmX12_road (va_Pc [.ref (A 99), .int p1, .int p2, .int p3] (jP D yy (mW yy A F G) sz)) (va_Qi (fun r (u : jS) => (r, u) = gX12_road F G p1 p2 p3) (fun (u : jS) t => jB D yy (va_A (mW yy A F G) sz) (mW yy A u.1 u.2) t) (va_A (mW yy A F G) sz)) 0 0 (va_A (mW yy A F G) sz) := by
  generalize hres : gX12_road F G p1 p2 p3 = RES
  refine jM (own := RX12) (by decide) rfl (Nat.le_of_ble_eq_true rfl) ?_
  intro p e s m args below meth c ls Q hQ hargs S hr hlk hinit hB hl
  obtain ⟨hx, hb, hml, hown, hts⟩ := S
  have hl : lv_has ls 5 [(0, .ref (A 99)), (1, .int p1), (2, .int p2), (3, .int p3)] := hl
  have hin12 : ∀ w ∈ u_ws RX12 TX12 61, w ∈ (Cond.code yX12_road cX12_road 5 (some .boolean) :: wsL_law) := fun w h => List.mem_cons_of_mem _ (inlX12 w h)
  obtain ⟨hsz, hP, hK, hD0⟩ := hB
  subst hsz
  have hD := hD0.self (sz := s.heap.size)
  generalize hZ : va_A (mW yy A F G) s.heap.size = Z at hD hQ
  have hA : ∀ q : Nat, s.heap.size ≤ q → Z q := fun q h => by rw [← hZ]; exact Or.inr h
  obtain ⟨H, hH⟩ : ∃ z, z = s.heap := ⟨_, rfl⟩
  obtain ⟨locs, hlocs⟩ : ∃ z : List Loc, z = [] := ⟨_, rfl⟩
  have hS : va_S Z s.heap H locs := by rw [hH, hlocs]; exact va_S.rf
  rw [← hH] at hP
  suffices hgo : W p l e rmX12_road s m args below meth c H locs 0 0 Q (F0 m 0 ls []) by rw [hH, hlocs] at hgo; exact hgo
  unfold gX12_road at hres
  unfold okX12_road at hok
  refine lv_aload_n hx hb (dd_of dX12_road_0 0 rfl) rfl (lv_at hl 0 rfl) ?_
  refine lv_aload_n hx hb (dd_of dX12_road_0 1 rfl) rfl (lv_at hl 0 rfl) ?_
  refine lv_iload_n hx hb (dd_of dX12_road_0 2 rfl) rfl (lv_at hl 1 rfl) ?_
  have h1 := hok.1
  replace hok := hok.2
  refine jc_i (As := [.int p1]) (rest := [.ref (A 99)]) (w := (mW yy A F G)) (D := D) (yy := yy) ⟨hx, hb, hml, hown, hts⟩ (qX12_isBasin l D yy A F G p1 h1) (cwV 1 hts (jgV gw617 gw618 gw619 gw5 gw620) rfl rfl rfl (by decide +kernel) ⟨Nat.le_of_ble_eq_true rfl, Nat.le_of_ble_eq_true rfl⟩) hP hK (va_recv hK hP (ci := 12) (q0 := 0) rfl rfl) rfl hl.1 rfl (Nat.le_of_ble_eq_true rfl) (dd_of dX12_road_0 3 rfl) ⟨Nat.zero_le _, Nat.zero_le _⟩ (fun x2 ex2 => ?_)
  replace hres := bvE ex2 hres
  replace hok := bvO ex2 hok
  obtain ⟨z27, q26⟩ : ∃ z : Int32, (if x2 = 0 then 1 else bv (gX12_isBasin F G p2) (fun x5 : Int32 => (if x5 = 0 then 1 else (if p1 = p2 then 2 else 0)))) = z := ⟨_, rfl⟩
  have o29 := hok.1
  replace hok := hok.2
  refine jn_i (ls := ls) (v := z27) 31 [.ref (A 99)] (fun v8 ev8 => ?_) (fun K28 => ?_)
  · replace hres := bvE (ev8.trans q26.symm) hres
    replace hok := bvO (ev8.trans q26.symm) hok
    refine va_put (D := D) (cl := vwCl) (tys := jT yy) (ci := 12) (v := .int v8) (ty := .int) (C := RX12) (T := TX12) (N := 61) hx hb hts hin12 tyX12 tyX12_ok nmX12 hown hK hP hD hS 0 rfl rfl 60 (by decide) (jw hts gw590) (fun _ h9 => h9) rfl (by decide +kernel) rfl rfl (Nat.le_of_ble_eq_true rfl) (dd_of dX12_road_0 17 rfl) (fun H locs hP hD hS => ?_)
    obtain ⟨F9, e10⟩ : ∃ z : jF, z = u2 F 60 0 v8 := ⟨_, rfl⟩
    have hP : va_P D vwCl (mW yy A F9 G) H := by rw [e10]; exact hP
    have hD : va_D Z (mW yy A F9 G) := by rw [e10]; exact hD
    replace hres := bvE e10 hres
    replace hok := bvO e10 hok
    refine lv_aload_n hx hb (dd_of dX12_road_0 18 rfl) rfl (lv_at hl 0 rfl) ?_
    refine va_get (D := D) (cl := vwCl) (tys := jT yy) (ci := 12) (v := .int (F9 60 0)) (C := RX12) (T := TX12) (N := 61) hx hb hts hin12 hown hK hP 0 rfl rfl 60 (by decide) (jw hts gw590) (fun _ h9 => h9) rfl (dd_of dX12_road_0 19 rfl) ?_
    refine lv_if_le (tgt := 43) hx hb (dd_of dX12_road_0 20 rfl) (by decide) (fun c11 => ?_) (fun c11 => ?_)
    · replace hres := ifE c11 hres
      replace hok := hok.1 c11
      refine lv_aload_n hx hb (dd_of dX12_road_0 23 rfl) rfl (lv_at hl 0 rfl) ?_
      refine va_get (D := D) (cl := vwCl) (tys := jT yy) (ci := 12) (v := .ref (A 16)) (C := RX12) (T := TX12) (N := 61) hx hb hts hin12 hown hK hP 0 rfl rfl 16 (by decide) (jw hts gw132) (fun _ h9 => h9) rfl (dd_of dX12_road_0 24 rfl) ?_
      refine lv_bipush (v := 8) hx hb (dd_of dX12_road_0 25 rfl) (by decide) ?_
      refine lv_iload_n hx hb (dd_of dX12_road_0 26 rfl) rfl (lv_at hl 1 rfl) ?_
      refine lv_imul hx hb (dd_of dX12_road_0 27 rfl) ?_
      refine lv_iload_n hx hb (dd_of dX12_road_0 28 rfl) rfl (lv_at hl 2 rfl) ?_
      refine lv_iadd hx hb (dd_of dX12_road_0 29 rfl) ?_
      have h12 := hok.1
      replace hok := hok.2
      refine va_iald hx hb hK hP 8 0 rfl rfl h12 (dd_of dX12_road_0 30 rfl) ?_
      refine lv_iconst (v := 1) hx hb (dd_of dX12_road_0 31 rfl) (by decide) ?_
      obtain ⟨z31, q30⟩ : ∃ z : Int32, (if (F9 16 (Int32.toNatClampNeg ((8 * p1) + p2))) = 1 then 1 else 0) = z := ⟨_, rfl⟩
      refine jn_i (ls := ls) (v := z31) 63 [] (fun v14 ev14 => ?_) (fun K32 => ?_)
      · replace hres := bvE (ev14.trans q30.symm) hres
        replace hok := bvO (ev14.trans q30.symm) hok
        refine lv_istore (lv' := [(4, .int v14), (0, .ref (A 99)), (1, .int p1), (2, .int p2), (3, .int p3)]) hx hb (dd_of dX12_road_0 36 rfl) hl (by decide) rfl (fun ls hl => ?_)
        refine lv_aload_n hx hb (dd_of dX12_road_0 37 rfl) rfl (lv_at hl 1 rfl) ?_
        refine va_get (D := D) (cl := vwCl) (tys := jT yy) (ci := 12) (v := .ref (A 16)) (C := RX12) (T := TX12) (N := 61) hx hb hts hin12 hown hK hP 0 rfl rfl 16 (by decide) (jw hts gw132) (fun _ h9 => h9) rfl (dd_of dX12_road_0 38 rfl) ?_
        refine lv_bipush (v := 8) hx hb (dd_of dX12_road_0 39 rfl) (by decide) ?_
        refine lv_iload_n hx hb (dd_of dX12_road_1 0 rfl) rfl (lv_at hl 2 rfl) ?_
        refine lv_imul hx hb (dd_of dX12_road_1 1 rfl) ?_
        refine lv_iload_n hx hb (dd_of dX12_road_1 2 rfl) rfl (lv_at hl 3 rfl) ?_
        refine lv_iadd hx hb (dd_of dX12_road_1 3 rfl) ?_
        refine lv_iload_n hx hb (dd_of dX12_road_1 4 rfl) rfl (lv_at hl 4 rfl) ?_
        obtain ⟨z34, q33⟩ : ∃ z : Int32, (if p3 = 0 then 0 else 1) = z := ⟨_, rfl⟩
        refine jn_i (ls := ls) (v := z34) 84 [.int ((8 * p1) + p2), .ref (A 16)] (fun v16 ev16 => ?_) (fun K35 => ?_)
        · replace hres := bvE (ev16.trans q33.symm) hres
          replace hok := bvO (ev16.trans q33.symm) hok
          have h17 := hok.1
          replace hok := hok.2
          refine va_iast hx hb hK hP hD hS 8 0 rfl rfl h17 (dd_of dX12_road_1 9 rfl) (fun H locs hP hD hS => ?_)
          obtain ⟨F18, e19⟩ : ∃ z : jF, z = u2 F9 16 (Int32.toNatClampNeg ((8 * p1) + p2)) v16 := ⟨_, rfl⟩
          have hP : va_P D vwCl (mW yy A F18 G) H := by rw [e19]; exact hP
          have hD : va_D Z (mW yy A F18 G) := by rw [e19]; exact hD
          replace hres := bvE e19 hres
          replace hok := bvO e19 hok
          refine lv_aload_n hx hb (dd_of dX12_road_1 10 rfl) rfl (lv_at hl 1 rfl) ?_
          refine va_get (D := D) (cl := vwCl) (tys := jT yy) (ci := 12) (v := .ref (A 16)) (C := RX12) (T := TX12) (N := 61) hx hb hts hin12 hown hK hP 0 rfl rfl 16 (by decide) (jw hts gw132) (fun _ h9 => h9) rfl (dd_of dX12_road_1 11 rfl) ?_
          refine lv_bipush (v := 8) hx hb (dd_of dX12_road_1 12 rfl) (by decide) ?_
          refine lv_iload_n hx hb (dd_of dX12_road_1 13 rfl) rfl (lv_at hl 3 rfl) ?_
          refine lv_imul hx hb (dd_of dX12_road_1 14 rfl) ?_
          refine lv_iload_n hx hb (dd_of dX12_road_1 15 rfl) rfl (lv_at hl 2 rfl) ?_
          refine lv_iadd hx hb (dd_of dX12_road_1 16 rfl) ?_
          refine lv_iload_n hx hb (dd_of dX12_road_1 17 rfl) rfl (lv_at hl 4 rfl) ?_
          obtain ⟨z37, q36⟩ : ∃ z : Int32, (if p3 = 0 then 0 else 1) = z := ⟨_, rfl⟩
          refine jn_i (ls := ls) (v := z37) 104 [.int ((8 * p2) + p1), .ref (A 16)] (fun v21 ev21 => ?_) (fun K38 => ?_)
          · replace hres := bvE (ev21.trans q36.symm) hres
            replace hok := bvO (ev21.trans q36.symm) hok
            have h22 := hok.1
            replace hok := hok.2
            refine va_iast hx hb hK hP hD hS 8 0 rfl rfl h22 (dd_of dX12_road_1 22 rfl) (fun H locs hP hD hS => ?_)
            obtain ⟨F23, e24⟩ : ∃ z : jF, z = u2 F18 16 (Int32.toNatClampNeg ((8 * p2) + p1)) v21 := ⟨_, rfl⟩
            have hP : va_P D vwCl (mW yy A F23 G) H := by rw [e24]; exact hP
            have hD : va_D Z (mW yy A F23 G) := by rw [e24]; exact hD
            replace hres := bvE e24 hres
            replace hok := bvO e24 hok
            refine lv_iload hx hb (dd_of dX12_road_1 23 rfl) (lv_at hl 0 rfl) ?_
            have hz25 := hok
            subst hQ
            exact W.zret (ty := .boolean) (v := v14) hx hb hr (jb_nz (hz25)) (fun t ht hW => ⟨⟨v14, (F23, G), rfl, hres, by rw [ht]; exact hP, va_K.moved hW.alike hK, hD⟩, hS.F ht⟩) hS.2.2 (dd_of dX12_road_1 24 rfl) hlk
          · skip
            refine lv_if_eq (tgt := 103) hx hb (dd_of dX12_road_1 18 rfl) (by decide) (fun c20 => ?_) (fun c20 => ?_)
            · replace q36 := ifE c20 q36
              refine lv_iconst (v := 0) hx hb (dd_of dX12_road_1 21 rfl) (by decide) ?_
              exact K38 _ q36
            · replace q36 := ifN c20 q36
              refine lv_iconst (v := 1) hx hb (dd_of dX12_road_1 19 rfl) (by decide) ?_
              refine lv_goto (tgt := 104) hx hb (dd_of dX12_road_1 20 rfl) (by decide) ?_
              exact K38 _ q36
        · skip
          refine lv_if_eq (tgt := 83) hx hb (dd_of dX12_road_1 5 rfl) (by decide) (fun c15 => ?_) (fun c15 => ?_)
          · replace q33 := ifE c15 q33
            refine lv_iconst (v := 0) hx hb (dd_of dX12_road_1 8 rfl) (by decide) ?_
            exact K35 _ q33
          · replace q33 := ifN c15 q33
            refine lv_iconst (v := 1) hx hb (dd_of dX12_road_1 6 rfl) (by decide) ?_
            refine lv_goto (tgt := 84) hx hb (dd_of dX12_road_1 7 rfl) (by decide) ?_
            exact K35 _ q33
      · skip
        refine lv_icmp_ne (tgt := 62) hx hb (dd_of dX12_road_0 32 rfl) (by decide) (fun c13 => ?_) (fun c13 => ?_)
        · replace q30 := ifN c13 q30
          refine lv_iconst (v := 0) hx hb (dd_of dX12_road_0 35 rfl) (by decide) ?_
          exact K32 _ q30
        · replace q30 := ifE c13 q30
          refine lv_iconst (v := 1) hx hb (dd_of dX12_road_0 33 rfl) (by decide) ?_
          refine lv_goto (tgt := 63) hx hb (dd_of dX12_road_0 34 rfl) (by decide) ?_
          exact K32 _ q30
    · replace hres := ifN c11 hres
      refine lv_iconst (v := 0) hx hb (dd_of dX12_road_0 21 rfl) (by decide) ?_
      subst hQ
      exact W.zret (ty := .boolean) (v := 0) hx hb hr (jb_nz (Or.inl rfl)) (fun t ht hW => ⟨⟨0, (F9, G), rfl, hres, by rw [ht]; exact hP, va_K.moved hW.alike hK, hD⟩, hS.F ht⟩) hS.2.2 (dd_of dX12_road_0 22 rfl) hlk
  · skip
    refine lv_if_eq (tgt := 17) hx hb (dd_of dX12_road_0 4 rfl) (by decide) (fun c3 => ?_) (fun c3 => ?_)
    · replace q26 := ifE c3 q26
      refine lv_iconst (v := 1) hx hb (dd_of dX12_road_0 9 rfl) (by decide) ?_
      refine lv_goto (tgt := 31) hx hb (dd_of dX12_road_0 10 rfl) (by decide) ?_
      exact K28 _ q26
    · replace q26 := ifN c3 q26
      replace o29 := o29.2 c3
      refine lv_aload_n hx hb (dd_of dX12_road_0 5 rfl) rfl (lv_at hl 0 rfl) ?_
      refine lv_iload_n hx hb (dd_of dX12_road_0 6 rfl) rfl (lv_at hl 2 rfl) ?_
      have h4 := o29
      refine jc_i (As := [.int p2]) (rest := [.ref (A 99)]) (w := (mW yy A F G)) (D := D) (yy := yy) ⟨hx, hb, hml, hown, hts⟩ (qX12_isBasin l D yy A F G p2 h4) (cwV 1 hts (jgV gw617 gw618 gw619 gw5 gw620) rfl rfl rfl (by decide +kernel) ⟨Nat.le_of_ble_eq_true rfl, Nat.le_of_ble_eq_true rfl⟩) hP hK (va_recv hK hP (ci := 12) (q0 := 0) rfl rfl) rfl hl.1 rfl (Nat.le_of_ble_eq_true rfl) (dd_of dX12_road_0 7 rfl) ⟨Nat.zero_le _, Nat.zero_le _⟩ (fun x5 ex5 => ?_)
      replace q26 := bvE ex5 q26
      refine lv_if_ne (tgt := 21) hx hb (dd_of dX12_road_0 8 rfl) (by decide) (fun c6 => ?_) (fun c6 => ?_)
      · replace q26 := ifN c6 q26
        refine lv_iload_n hx hb (dd_of dX12_road_0 11 rfl) rfl (lv_at hl 1 rfl) ?_
        refine lv_iload_n hx hb (dd_of dX12_road_0 12 rfl) rfl (lv_at hl 2 rfl) ?_
        refine lv_icmp_ne (tgt := 30) hx hb (dd_of dX12_road_0 13 rfl) (by decide) (fun c7 => ?_) (fun c7 => ?_)
        · replace q26 := ifN c7 q26
          refine lv_iconst (v := 0) hx hb (dd_of dX12_road_0 16 rfl) (by decide) ?_
          exact K28 _ q26
        · replace q26 := ifE c7 q26
          refine lv_iconst (v := 2) hx hb (dd_of dX12_road_0 14 rfl) (by decide) ?_
          refine lv_goto (tgt := 31) hx hb (dd_of dX12_road_0 15 rfl) (by decide) ?_
          exact K28 _ q26
      · replace q26 := ifE c6 q26
        refine lv_iconst (v := 1) hx hb (dd_of dX12_road_0 9 rfl) (by decide) ?_
        refine lv_goto (tgt := 31) hx hb (dd_of dX12_road_0 10 rfl) (by decide) ?_
        exact K28 _ q26
set_option maxHeartbeats 4000000 in
set_option maxRecDepth 100000 in
theorem qX12_areEnds (l : Launch) (D : va_G) (yy : Nat → ClassId) (A : Nat → Nat) (F : jF) (G : jG) (sz : Nat) (p1 : Int32) (p2 : Int32) (hok : okX12_areEnds F G p1 p2) : Met l yX12_areEnds (Cond.code yX12_areEnds cX12_areEnds 3 (some .boolean) :: wsL_law) rmX12_areEnds (va_Pc [.ref (A 99), .int p1, .int p2] (jP D yy (mW yy A F G) sz)) (va_Qi (fun r (u : jS) => (r, u) = gX12_areEnds F G p1 p2) (fun (u : jS) t => jB D yy (va_A (mW yy A F G) sz) (mW yy A u.1 u.2) t) (va_A (mW yy A F G) sz)) 0 0 (va_A (mW yy A F G) sz) := by
  generalize hres : gX12_areEnds F G p1 p2 = RES
  refine jM (own := RX12) (by decide) rfl (Nat.le_of_ble_eq_true rfl) ?_
  intro p e s m args below meth c ls Q hQ hargs S hr hlk hinit hB hl
  obtain ⟨hx, hb, hml, hown, hts⟩ := S
  have hl : lv_has ls 3 [(0, .ref (A 99)), (1, .int p1), (2, .int p2)] := hl
  have hin12 : ∀ w ∈ u_ws RX12 TX12 61, w ∈ (Cond.code yX12_areEnds cX12_areEnds 3 (some .boolean) :: wsL_law) := fun w h => List.mem_cons_of_mem _ (inlX12 w h)
  obtain ⟨hsz, hP, hK, hD0⟩ := hB
  subst hsz
  have hD := hD0.self (sz := s.heap.size)
  generalize hZ : va_A (mW yy A F G) s.heap.size = Z at hD hQ
  have hA : ∀ q : Nat, s.heap.size ≤ q → Z q := fun q h => by rw [← hZ]; exact Or.inr h
  obtain ⟨H, hH⟩ : ∃ z, z = s.heap := ⟨_, rfl⟩
  obtain ⟨locs, hlocs⟩ : ∃ z : List Loc, z = [] := ⟨_, rfl⟩
  have hS : va_S Z s.heap H locs := by rw [hH, hlocs]; exact va_S.rf
  rw [← hH] at hP
  suffices hgo : W p l e rmX12_areEnds s m args below meth c H locs 0 0 Q (F0 m 0 ls []) by rw [hH, hlocs] at hgo; exact hgo
  unfold gX12_areEnds at hres
  unfold okX12_areEnds at hok
  refine lv_aload_n hx hb (dd_of dX12_areEnds_0 0 rfl) rfl (lv_at hl 0 rfl) ?_
  refine lv_aload_n hx hb (dd_of dX12_areEnds_0 1 rfl) rfl (lv_at hl 0 rfl) ?_
  refine lv_iload_n hx hb (dd_of dX12_areEnds_0 2 rfl) rfl (lv_at hl 1 rfl) ?_
  have h1 := hok.1
  replace hok := hok.2
  refine jc_i (As := [.int p1]) (rest := [.ref (A 99)]) (w := (mW yy A F G)) (D := D) (yy := yy) ⟨hx, hb, hml, hown, hts⟩ (qX12_isEnd l D yy A F G p1 h1) (cwV 1 hts (jgV gw678 gw679 gw680 gw5 gw681) rfl rfl rfl (by decide +kernel) ⟨Nat.le_of_ble_eq_true rfl, Nat.le_of_ble_eq_true rfl⟩) hP hK (va_recv hK hP (ci := 12) (q0 := 0) rfl rfl) rfl hl.1 rfl (Nat.le_of_ble_eq_true rfl) (dd_of dX12_areEnds_0 3 rfl) ⟨Nat.zero_le _, Nat.zero_le _⟩ (fun x2 ex2 => ?_)
  replace hres := bvE ex2 hres
  replace hok := bvO ex2 hok
  obtain ⟨z19, q18⟩ : ∃ z : Int32, (if x2 = 0 then 1 else bv (gX12_isEnd F G p2) (fun x5 : Int32 => (if x5 = 0 then 1 else (if p1 = p2 then 2 else bv (gX12_isBasin F G p1) (fun x9 : Int32 => (if x9 = 0 then bv (gX12_isBasin F G p2) (fun x12 : Int32 => (if x12 = 0 then 2 else 0)) else 0)))))) = z := ⟨_, rfl⟩
  have o21 := hok
  refine jn_i (ls := ls) (v := z19) 47 [.ref (A 99)] (fun v14 ev14 => ?_) (fun K20 => ?_)
  · replace hres := bvE (ev14.trans q18.symm) hres
    refine va_put (D := D) (cl := vwCl) (tys := jT yy) (ci := 12) (v := .int v14) (ty := .int) (C := RX12) (T := TX12) (N := 61) hx hb hts hin12 tyX12 tyX12_ok nmX12 hown hK hP hD hS 0 rfl rfl 60 (by decide) (jw hts gw590) (fun _ h9 => h9) rfl (by decide +kernel) rfl rfl (Nat.le_of_ble_eq_true rfl) (dd_of dX12_areEnds_0 25 rfl) (fun H locs hP hD hS => ?_)
    obtain ⟨F15, e16⟩ : ∃ z : jF, z = u2 F 60 0 v14 := ⟨_, rfl⟩
    have hP : va_P D vwCl (mW yy A F15 G) H := by rw [e16]; exact hP
    have hD : va_D Z (mW yy A F15 G) := by rw [e16]; exact hD
    replace hres := bvE e16 hres
    refine lv_aload_n hx hb (dd_of dX12_areEnds_0 26 rfl) rfl (lv_at hl 0 rfl) ?_
    refine va_get (D := D) (cl := vwCl) (tys := jT yy) (ci := 12) (v := .int (F15 60 0)) (C := RX12) (T := TX12) (N := 61) hx hb hts hin12 hown hK hP 0 rfl rfl 60 (by decide) (jw hts gw590) (fun _ h9 => h9) rfl (dd_of dX12_areEnds_0 27 rfl) ?_
    refine lv_if_ne (tgt := 61) hx hb (dd_of dX12_areEnds_0 28 rfl) (by decide) (fun c17 => ?_) (fun c17 => ?_)
    · replace hres := ifN c17 hres
      refine lv_iconst (v := 0) hx hb (dd_of dX12_areEnds_0 31 rfl) (by decide) ?_
      subst hQ
      exact W.zret (ty := .boolean) (v := 0) hx hb hr (jb_nz (Or.inl rfl)) (fun t ht hW => ⟨⟨0, (F15, G), rfl, hres, by rw [ht]; exact hP, va_K.moved hW.alike hK, hD⟩, hS.F ht⟩) hS.2.2 (dd_of dX12_areEnds_0 32 rfl) hlk
    · replace hres := ifE c17 hres
      refine lv_iconst (v := 1) hx hb (dd_of dX12_areEnds_0 29 rfl) (by decide) ?_
      refine lv_goto (tgt := 62) hx hb (dd_of dX12_areEnds_0 30 rfl) (by decide) ?_
      subst hQ
      exact W.zret (ty := .boolean) (v := 1) hx hb hr (jb_nz (Or.inr rfl)) (fun t ht hW => ⟨⟨1, (F15, G), rfl, hres, by rw [ht]; exact hP, va_K.moved hW.alike hK, hD⟩, hS.F ht⟩) hS.2.2 (dd_of dX12_areEnds_0 32 rfl) hlk
  · skip
    refine lv_if_eq (tgt := 17) hx hb (dd_of dX12_areEnds_0 4 rfl) (by decide) (fun c3 => ?_) (fun c3 => ?_)
    · replace q18 := ifE c3 q18
      refine lv_iconst (v := 1) hx hb (dd_of dX12_areEnds_0 9 rfl) (by decide) ?_
      refine lv_goto (tgt := 47) hx hb (dd_of dX12_areEnds_0 10 rfl) (by decide) ?_
      exact K20 _ q18
    · replace q18 := ifN c3 q18
      replace o21 := o21.2 c3
      refine lv_aload_n hx hb (dd_of dX12_areEnds_0 5 rfl) rfl (lv_at hl 0 rfl) ?_
      refine lv_iload_n hx hb (dd_of dX12_areEnds_0 6 rfl) rfl (lv_at hl 2 rfl) ?_
      have h4 := o21.1
      replace o21 := o21.2
      refine jc_i (As := [.int p2]) (rest := [.ref (A 99)]) (w := (mW yy A F G)) (D := D) (yy := yy) ⟨hx, hb, hml, hown, hts⟩ (qX12_isEnd l D yy A F G p2 h4) (cwV 1 hts (jgV gw678 gw679 gw680 gw5 gw681) rfl rfl rfl (by decide +kernel) ⟨Nat.le_of_ble_eq_true rfl, Nat.le_of_ble_eq_true rfl⟩) hP hK (va_recv hK hP (ci := 12) (q0 := 0) rfl rfl) rfl hl.1 rfl (Nat.le_of_ble_eq_true rfl) (dd_of dX12_areEnds_0 7 rfl) ⟨Nat.zero_le _, Nat.zero_le _⟩ (fun x5 ex5 => ?_)
      replace q18 := bvE ex5 q18
      replace o21 := bvO ex5 o21
      refine lv_if_ne (tgt := 21) hx hb (dd_of dX12_areEnds_0 8 rfl) (by decide) (fun c6 => ?_) (fun c6 => ?_)
      · replace q18 := ifN c6 q18
        replace o21 := o21.2 c6
        refine lv_iload_n hx hb (dd_of dX12_areEnds_0 11 rfl) rfl (lv_at hl 1 rfl) ?_
        refine lv_iload_n hx hb (dd_of dX12_areEnds_0 12 rfl) rfl (lv_at hl 2 rfl) ?_
        refine lv_icmp_eq (tgt := 42) hx hb (dd_of dX12_areEnds_0 13 rfl) (by decide) (fun c7 => ?_) (fun c7 => ?_)
        · replace q18 := ifE c7 q18
          refine lv_iconst (v := 2) hx hb (dd_of dX12_areEnds_0 22 rfl) (by decide) ?_
          refine lv_goto (tgt := 47) hx hb (dd_of dX12_areEnds_0 23 rfl) (by decide) ?_
          exact K20 _ q18
        · replace q18 := ifN c7 q18
          replace o21 := o21.2 c7
          refine lv_aload_n hx hb (dd_of dX12_areEnds_0 14 rfl) rfl (lv_at hl 0 rfl) ?_
          refine lv_iload_n hx hb (dd_of dX12_areEnds_0 15 rfl) rfl (lv_at hl 1 rfl) ?_
          have h8 := o21.1
          replace o21 := o21.2
          refine jc_i (As := [.int p1]) (rest := [.ref (A 99)]) (w := (mW yy A F G)) (D := D) (yy := yy) ⟨hx, hb, hml, hown, hts⟩ (qX12_isBasin l D yy A F G p1 h8) (cwV 1 hts (jgV gw617 gw618 gw619 gw5 gw620) rfl rfl rfl (by decide +kernel) ⟨Nat.le_of_ble_eq_true rfl, Nat.le_of_ble_eq_true rfl⟩) hP hK (va_recv hK hP (ci := 12) (q0 := 0) rfl rfl) rfl hl.1 rfl (Nat.le_of_ble_eq_true rfl) (dd_of dX12_areEnds_0 16 rfl) ⟨Nat.zero_le _, Nat.zero_le _⟩ (fun x9 ex9 => ?_)
          replace q18 := bvE ex9 q18
          replace o21 := bvO ex9 o21
          refine lv_if_ne (tgt := 46) hx hb (dd_of dX12_areEnds_0 17 rfl) (by decide) (fun c10 => ?_) (fun c10 => ?_)
          · replace q18 := ifN c10 q18
            refine lv_iconst (v := 0) hx hb (dd_of dX12_areEnds_0 24 rfl) (by decide) ?_
            exact K20 _ q18
          · replace q18 := ifE c10 q18
            replace o21 := o21.1 c10
            refine lv_aload_n hx hb (dd_of dX12_areEnds_0 18 rfl) rfl (lv_at hl 0 rfl) ?_
            refine lv_iload_n hx hb (dd_of dX12_areEnds_0 19 rfl) rfl (lv_at hl 2 rfl) ?_
            have h11 := o21
            refine jc_i (As := [.int p2]) (rest := [.ref (A 99)]) (w := (mW yy A F G)) (D := D) (yy := yy) ⟨hx, hb, hml, hown, hts⟩ (qX12_isBasin l D yy A F G p2 h11) (cwV 1 hts (jgV gw617 gw618 gw619 gw5 gw620) rfl rfl rfl (by decide +kernel) ⟨Nat.le_of_ble_eq_true rfl, Nat.le_of_ble_eq_true rfl⟩) hP hK (va_recv hK hP (ci := 12) (q0 := 0) rfl rfl) rfl hl.1 rfl (Nat.le_of_ble_eq_true rfl) (dd_of dX12_areEnds_0 20 rfl) ⟨Nat.zero_le _, Nat.zero_le _⟩ (fun x12 ex12 => ?_)
            replace q18 := bvE ex12 q18
            refine lv_if_ne (tgt := 46) hx hb (dd_of dX12_areEnds_0 21 rfl) (by decide) (fun c13 => ?_) (fun c13 => ?_)
            · replace q18 := ifN c13 q18
              refine lv_iconst (v := 0) hx hb (dd_of dX12_areEnds_0 24 rfl) (by decide) ?_
              exact K20 _ q18
            · replace q18 := ifE c13 q18
              refine lv_iconst (v := 2) hx hb (dd_of dX12_areEnds_0 22 rfl) (by decide) ?_
              refine lv_goto (tgt := 47) hx hb (dd_of dX12_areEnds_0 23 rfl) (by decide) ?_
              exact K20 _ q18
      · replace q18 := ifE c6 q18
        refine lv_iconst (v := 1) hx hb (dd_of dX12_areEnds_0 9 rfl) (by decide) ?_
        refine lv_goto (tgt := 47) hx hb (dd_of dX12_areEnds_0 10 rfl) (by decide) ?_
        exact K20 _ q18
set_option maxHeartbeats 4000000 in
set_option maxRecDepth 100000 in
theorem qX12_addGate (l : Launch) (D : va_G) (yy : Nat → ClassId) (A : Nat → Nat) (F : jF) (G : jG) (sz : Nat) (p1 : Int32) (p2 : Int32) (p3 : Int32) (p4 : Int32) (hok : okX12_addGate F G p1 p2 p3 p4) : Met l yX12_addGate (Cond.code yX12_addGate cX12_addGate 5 (some .int) :: wsL_law) rmX12_addGate (va_Pc [.ref (A 99), .int p1, .int p2, .int p3, .int p4] (jP D yy (mW yy A F G) sz)) (va_Qi (fun r (u : jS) => (r, u) = gX12_addGate F G p1 p2 p3 p4) (fun (u : jS) t => jB D yy (va_A (mW yy A F G) sz) (mW yy A u.1 u.2) t) (va_A (mW yy A F G) sz)) 0 0 (va_A (mW yy A F G) sz) := by
  generalize hres : gX12_addGate F G p1 p2 p3 p4 = RES
  refine jM (own := RX12) (by decide) rfl (Nat.le_of_ble_eq_true rfl) ?_
  intro p e s m args below meth c ls Q hQ hargs S hr hlk hinit hB hl
  obtain ⟨hx, hb, hml, hown, hts⟩ := S
  have hl : lv_has ls 5 [(0, .ref (A 99)), (1, .int p1), (2, .int p2), (3, .int p3), (4, .int p4)] := hl
  have hin12 : ∀ w ∈ u_ws RX12 TX12 61, w ∈ (Cond.code yX12_addGate cX12_addGate 5 (some .int) :: wsL_law) := fun w h => List.mem_cons_of_mem _ (inlX12 w h)
  obtain ⟨hsz, hP, hK, hD0⟩ := hB
  subst hsz
  have hD := hD0.self (sz := s.heap.size)
  generalize hZ : va_A (mW yy A F G) s.heap.size = Z at hD hQ
  have hA : ∀ q : Nat, s.heap.size ≤ q → Z q := fun q h => by rw [← hZ]; exact Or.inr h
  obtain ⟨H, hH⟩ : ∃ z, z = s.heap := ⟨_, rfl⟩
  obtain ⟨locs, hlocs⟩ : ∃ z : List Loc, z = [] := ⟨_, rfl⟩
  have hS : va_S Z s.heap H locs := by rw [hH, hlocs]; exact va_S.rf
  rw [← hH] at hP
  suffices hgo : W p l e rmX12_addGate s m args below meth c H locs 0 0 Q (F0 m 0 ls []) by rw [hH, hlocs] at hgo; exact hgo
  unfold gX12_addGate at hres
  unfold okX12_addGate at hok
  refine lv_aload_n hx hb (dd_of dX12_addGate_0 0 rfl) rfl (lv_at hl 0 rfl) ?_
  refine lv_iload_n hx hb (dd_of dX12_addGate_0 1 rfl) rfl (lv_at hl 1 rfl) ?_
  refine lv_iload_n hx hb (dd_of dX12_addGate_0 2 rfl) rfl (lv_at hl 2 rfl) ?_
  have h1 := hok.1
  replace hok := hok.2
  refine jm_i (As := [.int p1, .int p2]) (rest := []) (w := (mW yy A F G)) (w1 := fun u : jS => (mW yy A u.1 u.2)) (D := D) (yy := yy) ⟨hx, hb, hml, hown, hts⟩ (qX12_areEnds l D yy A F G H.size p1 p2 h1) (cwV 2 hts (jgV gw674 gw675 gw676 gw5 gw677) rfl rfl rfl (by decide +kernel) ⟨Nat.le_of_ble_eq_true rfl, Nat.le_of_ble_eq_true rfl⟩) hP hK hD hS hA (va_recv hK hP (ci := 12) (q0 := 0) rfl rfl) rfl hl.1 rfl (Nat.le_of_ble_eq_true rfl) (dd_of dX12_addGate_0 3 rfl) ⟨Nat.zero_le _, Nat.zero_le _⟩ (fun x5 u9 H locs w4 hP hD hS => ?_)
  obtain ⟨F2, G3⟩ := u9
  have hP : va_P D vwCl (mW yy A F2 G3) H := hP
  have hD : va_D Z (mW yy A F2 G3) := hD
  replace hres := brE w4 hres
  replace hok := brO w4 hok
  refine lv_if_eq (tgt := 52) hx hb (dd_of dX12_addGate_0 4 rfl) (by decide) (fun c6 => ?_) (fun c6 => ?_)
  · replace hres := ifE c6 hres
    replace hok := hok.1 c6
    refine lv_aload_n hx hb (dd_of dX12_addGate_0 26 rfl) rfl (lv_at hl 0 rfl) ?_
    refine va_get (D := D) (cl := vwCl) (tys := jT yy) (ci := 12) (v := .int (F2 60 0)) (C := RX12) (T := TX12) (N := 61) hx hb hts hin12 hown hK hP 0 rfl rfl 60 (by decide) (jw hts gw590) (fun _ h9 => h9) rfl (dd_of dX12_addGate_0 27 rfl) ?_
    refine lv_if_le (tgt := 61) hx hb (dd_of dX12_addGate_0 28 rfl) (by decide) (fun c7 => ?_) (fun c7 => ?_)
    · replace hres := ifE c7 hres
      replace hok := hok.1 c7
      refine lv_aload_n hx hb (dd_of dX12_addGate_0 31 rfl) rfl (lv_at hl 0 rfl) ?_
      refine va_get (D := D) (cl := vwCl) (tys := jT yy) (ci := 12) (v := .ref (A 18)) (C := RX12) (T := TX12) (N := 61) hx hb hts hin12 hown hK hP 0 rfl rfl 18 (by decide) (jw hts gw133) (fun _ h9 => h9) rfl (dd_of dX12_addGate_0 32 rfl) ?_
      refine lv_aload_n hx hb (dd_of dX12_addGate_0 33 rfl) rfl (lv_at hl 0 rfl) ?_
      refine va_get (D := D) (cl := vwCl) (tys := jT yy) (ci := 12) (v := .int (F2 17 0)) (C := RX12) (T := TX12) (N := 61) hx hb hts hin12 hown hK hP 0 rfl rfl 17 (by decide) (jw hts gw673) (fun _ h9 => h9) rfl (dd_of dX12_addGate_0 34 rfl) ?_
      refine lv_iload_n hx hb (dd_of dX12_addGate_0 35 rfl) rfl (lv_at hl 1 rfl) ?_
      have h8 := hok.1
      replace hok := hok.2
      refine va_iast hx hb hK hP hD hS 9 0 rfl rfl h8 (dd_of dX12_addGate_0 36 rfl) (fun H locs hP hD hS => ?_)
      obtain ⟨F9, e10⟩ : ∃ z : jF, z = u2 F2 18 (Int32.toNatClampNeg (F2 17 0)) p1 := ⟨_, rfl⟩
      have hP : va_P D vwCl (mW yy A F9 G3) H := by rw [e10]; exact hP
      have hD : va_D Z (mW yy A F9 G3) := by rw [e10]; exact hD
      replace hres := bvE e10 hres
      replace hok := bvO e10 hok
      refine lv_aload_n hx hb (dd_of dX12_addGate_0 37 rfl) rfl (lv_at hl 0 rfl) ?_
      refine va_get (D := D) (cl := vwCl) (tys := jT yy) (ci := 12) (v := .ref (A 19)) (C := RX12) (T := TX12) (N := 61) hx hb hts hin12 hown hK hP 0 rfl rfl 19 (by decide) (jw hts gw134) (fun _ h9 => h9) rfl (dd_of dX12_addGate_0 38 rfl) ?_
      refine lv_aload_n hx hb (dd_of dX12_addGate_0 39 rfl) rfl (lv_at hl 0 rfl) ?_
      refine va_get (D := D) (cl := vwCl) (tys := jT yy) (ci := 12) (v := .int (F9 17 0)) (C := RX12) (T := TX12) (N := 61) hx hb hts hin12 hown hK hP 0 rfl rfl 17 (by decide) (jw hts gw673) (fun _ h9 => h9) rfl (dd_of dX12_addGate_1 0 rfl) ?_
      refine lv_iload_n hx hb (dd_of dX12_addGate_1 1 rfl) rfl (lv_at hl 2 rfl) ?_
      have h11 := hok.1
      replace hok := hok.2
      refine va_iast hx hb hK hP hD hS 10 0 rfl rfl h11 (dd_of dX12_addGate_1 2 rfl) (fun H locs hP hD hS => ?_)
      obtain ⟨F12, e13⟩ : ∃ z : jF, z = u2 F9 19 (Int32.toNatClampNeg (F9 17 0)) p2 := ⟨_, rfl⟩
      have hP : va_P D vwCl (mW yy A F12 G3) H := by rw [e13]; exact hP
      have hD : va_D Z (mW yy A F12 G3) := by rw [e13]; exact hD
      replace hres := bvE e13 hres
      replace hok := bvO e13 hok
      refine lv_aload_n hx hb (dd_of dX12_addGate_1 3 rfl) rfl (lv_at hl 0 rfl) ?_
      refine va_get (D := D) (cl := vwCl) (tys := jT yy) (ci := 12) (v := .ref (A 20)) (C := RX12) (T := TX12) (N := 61) hx hb hts hin12 hown hK hP 0 rfl rfl 20 (by decide) (jw hts gw135) (fun _ h9 => h9) rfl (dd_of dX12_addGate_1 4 rfl) ?_
      refine lv_aload_n hx hb (dd_of dX12_addGate_1 5 rfl) rfl (lv_at hl 0 rfl) ?_
      refine va_get (D := D) (cl := vwCl) (tys := jT yy) (ci := 12) (v := .int (F12 17 0)) (C := RX12) (T := TX12) (N := 61) hx hb hts hin12 hown hK hP 0 rfl rfl 17 (by decide) (jw hts gw673) (fun _ h9 => h9) rfl (dd_of dX12_addGate_1 6 rfl) ?_
      refine lv_iload_n hx hb (dd_of dX12_addGate_1 7 rfl) rfl (lv_at hl 3 rfl) ?_
      have h14 := hok.1
      replace hok := hok.2
      refine va_iast hx hb hK hP hD hS 11 0 rfl rfl h14 (dd_of dX12_addGate_1 8 rfl) (fun H locs hP hD hS => ?_)
      obtain ⟨F15, e16⟩ : ∃ z : jF, z = u2 F12 20 (Int32.toNatClampNeg (F12 17 0)) p3 := ⟨_, rfl⟩
      have hP : va_P D vwCl (mW yy A F15 G3) H := by rw [e16]; exact hP
      have hD : va_D Z (mW yy A F15 G3) := by rw [e16]; exact hD
      replace hres := bvE e16 hres
      replace hok := bvO e16 hok
      refine lv_aload_n hx hb (dd_of dX12_addGate_1 9 rfl) rfl (lv_at hl 0 rfl) ?_
      refine va_get (D := D) (cl := vwCl) (tys := jT yy) (ci := 12) (v := .ref (A 21)) (C := RX12) (T := TX12) (N := 61) hx hb hts hin12 hown hK hP 0 rfl rfl 21 (by decide) (jw hts gw136) (fun _ h9 => h9) rfl (dd_of dX12_addGate_1 10 rfl) ?_
      refine lv_aload_n hx hb (dd_of dX12_addGate_1 11 rfl) rfl (lv_at hl 0 rfl) ?_
      refine va_get (D := D) (cl := vwCl) (tys := jT yy) (ci := 12) (v := .int (F15 17 0)) (C := RX12) (T := TX12) (N := 61) hx hb hts hin12 hown hK hP 0 rfl rfl 17 (by decide) (jw hts gw673) (fun _ h9 => h9) rfl (dd_of dX12_addGate_1 12 rfl) ?_
      refine lv_iload hx hb (dd_of dX12_addGate_1 13 rfl) (lv_at hl 4 rfl) ?_
      have h17 := hok
      refine va_iast hx hb hK hP hD hS 12 0 rfl rfl h17 (dd_of dX12_addGate_1 14 rfl) (fun H locs hP hD hS => ?_)
      obtain ⟨F18, e19⟩ : ∃ z : jF, z = u2 F15 21 (Int32.toNatClampNeg (F15 17 0)) p4 := ⟨_, rfl⟩
      have hP : va_P D vwCl (mW yy A F18 G3) H := by rw [e19]; exact hP
      have hD : va_D Z (mW yy A F18 G3) := by rw [e19]; exact hD
      replace hres := bvE e19 hres
      refine lv_aload_n hx hb (dd_of dX12_addGate_1 15 rfl) rfl (lv_at hl 0 rfl) ?_
      refine lv_dup hx hb (dd_of dX12_addGate_1 16 rfl) rfl ?_
      refine va_get (D := D) (cl := vwCl) (tys := jT yy) (ci := 12) (v := .int (F18 17 0)) (C := RX12) (T := TX12) (N := 61) hx hb hts hin12 hown hK hP 0 rfl rfl 17 (by decide) (jw hts gw673) (fun _ h9 => h9) rfl (dd_of dX12_addGate_1 17 rfl) ?_
      refine lv_iconst (v := 1) hx hb (dd_of dX12_addGate_1 18 rfl) (by decide) ?_
      refine lv_iadd hx hb (dd_of dX12_addGate_1 19 rfl) ?_
      refine va_put (D := D) (cl := vwCl) (tys := jT yy) (ci := 12) (v := .int ((F18 17 0) + 1)) (ty := .int) (C := RX12) (T := TX12) (N := 61) hx hb hts hin12 tyX12 tyX12_ok nmX12 hown hK hP hD hS 0 rfl rfl 17 (by decide) (jw hts gw673) (fun _ h9 => h9) rfl (by decide +kernel) rfl rfl (Nat.le_of_ble_eq_true rfl) (dd_of dX12_addGate_1 20 rfl) (fun H locs hP hD hS => ?_)
      obtain ⟨F20, e21⟩ : ∃ z : jF, z = u2 F18 17 0 ((F18 17 0) + 1) := ⟨_, rfl⟩
      have hP : va_P D vwCl (mW yy A F20 G3) H := by rw [e21]; exact hP
      have hD : va_D Z (mW yy A F20 G3) := by rw [e21]; exact hD
      replace hres := bvE e21 hres
      refine lv_aload_n hx hb (dd_of dX12_addGate_1 21 rfl) rfl (lv_at hl 0 rfl) ?_
      refine va_get (D := D) (cl := vwCl) (tys := jT yy) (ci := 12) (v := .int (F20 17 0)) (C := RX12) (T := TX12) (N := 61) hx hb hts hin12 hown hK hP 0 rfl rfl 17 (by decide) (jw hts gw673) (fun _ h9 => h9) rfl (dd_of dX12_addGate_1 22 rfl) ?_
      refine lv_iconst (v := 1) hx hb (dd_of dX12_addGate_1 23 rfl) (by decide) ?_
      refine lv_isub hx hb (dd_of dX12_addGate_1 24 rfl) ?_
      subst hQ
      exact W.iret (v := ((F20 17 0) - 1)) hx hb hr (fun t ht hW => ⟨⟨((F20 17 0) - 1), (F20, G3), rfl, hres, by rw [ht]; exact hP, va_K.moved hW.alike hK, hD⟩, hS.F ht⟩) hS.2.2 (dd_of dX12_addGate_1 25 rfl) hlk
    · replace hres := ifN c7 hres
      refine lv_iconst (v := 0) hx hb (dd_of dX12_addGate_0 29 rfl) (by decide) ?_
      subst hQ
      exact W.iret (v := 0) hx hb hr (fun t ht hW => ⟨⟨0, (F2, G3), rfl, hres, by rw [ht]; exact hP, va_K.moved hW.alike hK, hD⟩, hS.F ht⟩) hS.2.2 (dd_of dX12_addGate_0 30 rfl) hlk
  · replace hres := ifN c6 hres
    replace hok := hok.2 c6
    refine lv_aload_n hx hb (dd_of dX12_addGate_0 5 rfl) rfl (lv_at hl 0 rfl) ?_
    refine lv_iload_n hx hb (dd_of dX12_addGate_0 6 rfl) rfl (lv_at hl 3 rfl) ?_
    refine lv_iconst (v := 1) hx hb (dd_of dX12_addGate_0 7 rfl) (by decide) ?_
    refine lv_sipush (v := 9999) hx hb (dd_of dX12_addGate_0 8 rfl) (by decide) ?_
    refine jc_si (As := [.int p3, .int 1, .int 9999]) (rest := [.ref (A 99)]) ⟨hx, hb, hml, hown, hts⟩ (qX12_in l p3 1 9999 ) (cwS 3 hts (jgS gw591 gw592 gw5 gw593) rfl rfl rfl (by decide +kernel) ⟨Nat.le_of_ble_eq_true rfl, Nat.le_of_ble_eq_true rfl⟩) rfl hl.1 rfl (Nat.le_of_ble_eq_true rfl) (dd_of dX12_addGate_0 9 rfl) ⟨Nat.zero_le _, Nat.zero_le _⟩ (fun x22 ex22 => ?_)
    replace hres := bvE ex22 hres
    replace hok := bvO ex22 hok
    obtain ⟨z46, q45⟩ : ∃ z : Int32, (if x22 = 0 then 2 else bv (gX12_in p4 0 3) (fun x24 : Int32 => (if x24 = 0 then 2 else (if (F2 17 0) = 8 then 3 else 0)))) = z := ⟨_, rfl⟩
    refine jn_i (ls := ls) (v := z46) 49 [.ref (A 99)] (fun v27 ev27 => ?_) (fun K47 => ?_)
    · replace hres := bvE (ev27.trans q45.symm) hres
      replace hok := bvO (ev27.trans q45.symm) hok
      refine va_put (D := D) (cl := vwCl) (tys := jT yy) (ci := 12) (v := .int v27) (ty := .int) (C := RX12) (T := TX12) (N := 61) hx hb hts hin12 tyX12 tyX12_ok nmX12 hown hK hP hD hS 0 rfl rfl 60 (by decide) (jw hts gw590) (fun _ h9 => h9) rfl (by decide +kernel) rfl rfl (Nat.le_of_ble_eq_true rfl) (dd_of dX12_addGate_0 25 rfl) (fun H locs hP hD hS => ?_)
      obtain ⟨F28, e29⟩ : ∃ z : jF, z = u2 F2 60 0 v27 := ⟨_, rfl⟩
      have hP : va_P D vwCl (mW yy A F28 G3) H := by rw [e29]; exact hP
      have hD : va_D Z (mW yy A F28 G3) := by rw [e29]; exact hD
      replace hres := bvE e29 hres
      replace hok := bvO e29 hok
      refine lv_aload_n hx hb (dd_of dX12_addGate_0 26 rfl) rfl (lv_at hl 0 rfl) ?_
      refine va_get (D := D) (cl := vwCl) (tys := jT yy) (ci := 12) (v := .int (F28 60 0)) (C := RX12) (T := TX12) (N := 61) hx hb hts hin12 hown hK hP 0 rfl rfl 60 (by decide) (jw hts gw590) (fun _ h9 => h9) rfl (dd_of dX12_addGate_0 27 rfl) ?_
      refine lv_if_le (tgt := 61) hx hb (dd_of dX12_addGate_0 28 rfl) (by decide) (fun c30 => ?_) (fun c30 => ?_)
      · replace hres := ifE c30 hres
        replace hok := hok.1 c30
        refine lv_aload_n hx hb (dd_of dX12_addGate_0 31 rfl) rfl (lv_at hl 0 rfl) ?_
        refine va_get (D := D) (cl := vwCl) (tys := jT yy) (ci := 12) (v := .ref (A 18)) (C := RX12) (T := TX12) (N := 61) hx hb hts hin12 hown hK hP 0 rfl rfl 18 (by decide) (jw hts gw133) (fun _ h9 => h9) rfl (dd_of dX12_addGate_0 32 rfl) ?_
        refine lv_aload_n hx hb (dd_of dX12_addGate_0 33 rfl) rfl (lv_at hl 0 rfl) ?_
        refine va_get (D := D) (cl := vwCl) (tys := jT yy) (ci := 12) (v := .int (F28 17 0)) (C := RX12) (T := TX12) (N := 61) hx hb hts hin12 hown hK hP 0 rfl rfl 17 (by decide) (jw hts gw673) (fun _ h9 => h9) rfl (dd_of dX12_addGate_0 34 rfl) ?_
        refine lv_iload_n hx hb (dd_of dX12_addGate_0 35 rfl) rfl (lv_at hl 1 rfl) ?_
        have h31 := hok.1
        replace hok := hok.2
        refine va_iast hx hb hK hP hD hS 9 0 rfl rfl h31 (dd_of dX12_addGate_0 36 rfl) (fun H locs hP hD hS => ?_)
        obtain ⟨F32, e33⟩ : ∃ z : jF, z = u2 F28 18 (Int32.toNatClampNeg (F28 17 0)) p1 := ⟨_, rfl⟩
        have hP : va_P D vwCl (mW yy A F32 G3) H := by rw [e33]; exact hP
        have hD : va_D Z (mW yy A F32 G3) := by rw [e33]; exact hD
        replace hres := bvE e33 hres
        replace hok := bvO e33 hok
        refine lv_aload_n hx hb (dd_of dX12_addGate_0 37 rfl) rfl (lv_at hl 0 rfl) ?_
        refine va_get (D := D) (cl := vwCl) (tys := jT yy) (ci := 12) (v := .ref (A 19)) (C := RX12) (T := TX12) (N := 61) hx hb hts hin12 hown hK hP 0 rfl rfl 19 (by decide) (jw hts gw134) (fun _ h9 => h9) rfl (dd_of dX12_addGate_0 38 rfl) ?_
        refine lv_aload_n hx hb (dd_of dX12_addGate_0 39 rfl) rfl (lv_at hl 0 rfl) ?_
        refine va_get (D := D) (cl := vwCl) (tys := jT yy) (ci := 12) (v := .int (F32 17 0)) (C := RX12) (T := TX12) (N := 61) hx hb hts hin12 hown hK hP 0 rfl rfl 17 (by decide) (jw hts gw673) (fun _ h9 => h9) rfl (dd_of dX12_addGate_1 0 rfl) ?_
        refine lv_iload_n hx hb (dd_of dX12_addGate_1 1 rfl) rfl (lv_at hl 2 rfl) ?_
        have h34 := hok.1
        replace hok := hok.2
        refine va_iast hx hb hK hP hD hS 10 0 rfl rfl h34 (dd_of dX12_addGate_1 2 rfl) (fun H locs hP hD hS => ?_)
        obtain ⟨F35, e36⟩ : ∃ z : jF, z = u2 F32 19 (Int32.toNatClampNeg (F32 17 0)) p2 := ⟨_, rfl⟩
        have hP : va_P D vwCl (mW yy A F35 G3) H := by rw [e36]; exact hP
        have hD : va_D Z (mW yy A F35 G3) := by rw [e36]; exact hD
        replace hres := bvE e36 hres
        replace hok := bvO e36 hok
        refine lv_aload_n hx hb (dd_of dX12_addGate_1 3 rfl) rfl (lv_at hl 0 rfl) ?_
        refine va_get (D := D) (cl := vwCl) (tys := jT yy) (ci := 12) (v := .ref (A 20)) (C := RX12) (T := TX12) (N := 61) hx hb hts hin12 hown hK hP 0 rfl rfl 20 (by decide) (jw hts gw135) (fun _ h9 => h9) rfl (dd_of dX12_addGate_1 4 rfl) ?_
        refine lv_aload_n hx hb (dd_of dX12_addGate_1 5 rfl) rfl (lv_at hl 0 rfl) ?_
        refine va_get (D := D) (cl := vwCl) (tys := jT yy) (ci := 12) (v := .int (F35 17 0)) (C := RX12) (T := TX12) (N := 61) hx hb hts hin12 hown hK hP 0 rfl rfl 17 (by decide) (jw hts gw673) (fun _ h9 => h9) rfl (dd_of dX12_addGate_1 6 rfl) ?_
        refine lv_iload_n hx hb (dd_of dX12_addGate_1 7 rfl) rfl (lv_at hl 3 rfl) ?_
        have h37 := hok.1
        replace hok := hok.2
        refine va_iast hx hb hK hP hD hS 11 0 rfl rfl h37 (dd_of dX12_addGate_1 8 rfl) (fun H locs hP hD hS => ?_)
        obtain ⟨F38, e39⟩ : ∃ z : jF, z = u2 F35 20 (Int32.toNatClampNeg (F35 17 0)) p3 := ⟨_, rfl⟩
        have hP : va_P D vwCl (mW yy A F38 G3) H := by rw [e39]; exact hP
        have hD : va_D Z (mW yy A F38 G3) := by rw [e39]; exact hD
        replace hres := bvE e39 hres
        replace hok := bvO e39 hok
        refine lv_aload_n hx hb (dd_of dX12_addGate_1 9 rfl) rfl (lv_at hl 0 rfl) ?_
        refine va_get (D := D) (cl := vwCl) (tys := jT yy) (ci := 12) (v := .ref (A 21)) (C := RX12) (T := TX12) (N := 61) hx hb hts hin12 hown hK hP 0 rfl rfl 21 (by decide) (jw hts gw136) (fun _ h9 => h9) rfl (dd_of dX12_addGate_1 10 rfl) ?_
        refine lv_aload_n hx hb (dd_of dX12_addGate_1 11 rfl) rfl (lv_at hl 0 rfl) ?_
        refine va_get (D := D) (cl := vwCl) (tys := jT yy) (ci := 12) (v := .int (F38 17 0)) (C := RX12) (T := TX12) (N := 61) hx hb hts hin12 hown hK hP 0 rfl rfl 17 (by decide) (jw hts gw673) (fun _ h9 => h9) rfl (dd_of dX12_addGate_1 12 rfl) ?_
        refine lv_iload hx hb (dd_of dX12_addGate_1 13 rfl) (lv_at hl 4 rfl) ?_
        have h40 := hok
        refine va_iast hx hb hK hP hD hS 12 0 rfl rfl h40 (dd_of dX12_addGate_1 14 rfl) (fun H locs hP hD hS => ?_)
        obtain ⟨F41, e42⟩ : ∃ z : jF, z = u2 F38 21 (Int32.toNatClampNeg (F38 17 0)) p4 := ⟨_, rfl⟩
        have hP : va_P D vwCl (mW yy A F41 G3) H := by rw [e42]; exact hP
        have hD : va_D Z (mW yy A F41 G3) := by rw [e42]; exact hD
        replace hres := bvE e42 hres
        refine lv_aload_n hx hb (dd_of dX12_addGate_1 15 rfl) rfl (lv_at hl 0 rfl) ?_
        refine lv_dup hx hb (dd_of dX12_addGate_1 16 rfl) rfl ?_
        refine va_get (D := D) (cl := vwCl) (tys := jT yy) (ci := 12) (v := .int (F41 17 0)) (C := RX12) (T := TX12) (N := 61) hx hb hts hin12 hown hK hP 0 rfl rfl 17 (by decide) (jw hts gw673) (fun _ h9 => h9) rfl (dd_of dX12_addGate_1 17 rfl) ?_
        refine lv_iconst (v := 1) hx hb (dd_of dX12_addGate_1 18 rfl) (by decide) ?_
        refine lv_iadd hx hb (dd_of dX12_addGate_1 19 rfl) ?_
        refine va_put (D := D) (cl := vwCl) (tys := jT yy) (ci := 12) (v := .int ((F41 17 0) + 1)) (ty := .int) (C := RX12) (T := TX12) (N := 61) hx hb hts hin12 tyX12 tyX12_ok nmX12 hown hK hP hD hS 0 rfl rfl 17 (by decide) (jw hts gw673) (fun _ h9 => h9) rfl (by decide +kernel) rfl rfl (Nat.le_of_ble_eq_true rfl) (dd_of dX12_addGate_1 20 rfl) (fun H locs hP hD hS => ?_)
        obtain ⟨F43, e44⟩ : ∃ z : jF, z = u2 F41 17 0 ((F41 17 0) + 1) := ⟨_, rfl⟩
        have hP : va_P D vwCl (mW yy A F43 G3) H := by rw [e44]; exact hP
        have hD : va_D Z (mW yy A F43 G3) := by rw [e44]; exact hD
        replace hres := bvE e44 hres
        refine lv_aload_n hx hb (dd_of dX12_addGate_1 21 rfl) rfl (lv_at hl 0 rfl) ?_
        refine va_get (D := D) (cl := vwCl) (tys := jT yy) (ci := 12) (v := .int (F43 17 0)) (C := RX12) (T := TX12) (N := 61) hx hb hts hin12 hown hK hP 0 rfl rfl 17 (by decide) (jw hts gw673) (fun _ h9 => h9) rfl (dd_of dX12_addGate_1 22 rfl) ?_
        refine lv_iconst (v := 1) hx hb (dd_of dX12_addGate_1 23 rfl) (by decide) ?_
        refine lv_isub hx hb (dd_of dX12_addGate_1 24 rfl) ?_
        subst hQ
        exact W.iret (v := ((F43 17 0) - 1)) hx hb hr (fun t ht hW => ⟨⟨((F43 17 0) - 1), (F43, G3), rfl, hres, by rw [ht]; exact hP, va_K.moved hW.alike hK, hD⟩, hS.F ht⟩) hS.2.2 (dd_of dX12_addGate_1 25 rfl) hlk
      · replace hres := ifN c30 hres
        refine lv_iconst (v := 0) hx hb (dd_of dX12_addGate_0 29 rfl) (by decide) ?_
        subst hQ
        exact W.iret (v := 0) hx hb hr (fun t ht hW => ⟨⟨0, (F28, G3), rfl, hres, by rw [ht]; exact hP, va_K.moved hW.alike hK, hD⟩, hS.F ht⟩) hS.2.2 (dd_of dX12_addGate_0 30 rfl) hlk
    · skip
      refine lv_if_eq (tgt := 31) hx hb (dd_of dX12_addGate_0 10 rfl) (by decide) (fun c23 => ?_) (fun c23 => ?_)
      · replace q45 := ifE c23 q45
        refine lv_iconst (v := 2) hx hb (dd_of dX12_addGate_0 16 rfl) (by decide) ?_
        refine lv_goto (tgt := 49) hx hb (dd_of dX12_addGate_0 17 rfl) (by decide) ?_
        exact K47 _ q45
      · replace q45 := ifN c23 q45
        refine lv_iload hx hb (dd_of dX12_addGate_0 11 rfl) (lv_at hl 4 rfl) ?_
        refine lv_iconst (v := 0) hx hb (dd_of dX12_addGate_0 12 rfl) (by decide) ?_
        refine lv_iconst (v := 3) hx hb (dd_of dX12_addGate_0 13 rfl) (by decide) ?_
        refine jc_si (As := [.int p4, .int 0, .int 3]) (rest := [.ref (A 99)]) ⟨hx, hb, hml, hown, hts⟩ (qX12_in l p4 0 3 ) (cwS 3 hts (jgS gw591 gw592 gw5 gw593) rfl rfl rfl (by decide +kernel) ⟨Nat.le_of_ble_eq_true rfl, Nat.le_of_ble_eq_true rfl⟩) rfl hl.1 rfl (Nat.le_of_ble_eq_true rfl) (dd_of dX12_addGate_0 14 rfl) ⟨Nat.zero_le _, Nat.zero_le _⟩ (fun x24 ex24 => ?_)
        replace q45 := bvE ex24 q45
        refine lv_if_ne (tgt := 35) hx hb (dd_of dX12_addGate_0 15 rfl) (by decide) (fun c25 => ?_) (fun c25 => ?_)
        · replace q45 := ifN c25 q45
          refine lv_aload_n hx hb (dd_of dX12_addGate_0 18 rfl) rfl (lv_at hl 0 rfl) ?_
          refine va_get (D := D) (cl := vwCl) (tys := jT yy) (ci := 12) (v := .int (F2 17 0)) (C := RX12) (T := TX12) (N := 61) hx hb hts hin12 hown hK hP 0 rfl rfl 17 (by decide) (jw hts gw673) (fun _ h9 => h9) rfl (dd_of dX12_addGate_0 19 rfl) ?_
          refine lv_bipush (v := 8) hx hb (dd_of dX12_addGate_0 20 rfl) (by decide) ?_
          refine lv_icmp_ne (tgt := 48) hx hb (dd_of dX12_addGate_0 21 rfl) (by decide) (fun c26 => ?_) (fun c26 => ?_)
          · replace q45 := ifN c26 q45
            refine lv_iconst (v := 0) hx hb (dd_of dX12_addGate_0 24 rfl) (by decide) ?_
            exact K47 _ q45
          · replace q45 := ifE c26 q45
            refine lv_iconst (v := 3) hx hb (dd_of dX12_addGate_0 22 rfl) (by decide) ?_
            refine lv_goto (tgt := 49) hx hb (dd_of dX12_addGate_0 23 rfl) (by decide) ?_
            exact K47 _ q45
        · replace q45 := ifE c25 q45
          refine lv_iconst (v := 2) hx hb (dd_of dX12_addGate_0 16 rfl) (by decide) ?_
          refine lv_goto (tgt := 49) hx hb (dd_of dX12_addGate_0 17 rfl) (by decide) ?_
          exact K47 _ q45
set_option maxHeartbeats 4000000 in
set_option maxRecDepth 100000 in
theorem qX12_addPump (l : Launch) (D : va_G) (yy : Nat → ClassId) (A : Nat → Nat) (F : jF) (G : jG) (sz : Nat) (p1 : Int32) (p2 : Int32) (p3 : Int32) (p4 : Int32) (p5 : Int32) (hok : okX12_addPump F G p1 p2 p3 p4 p5) : Met l yX12_addPump (Cond.code yX12_addPump cX12_addPump 6 (some .int) :: wsL_law) rmX12_addPump (va_Pc [.ref (A 99), .int p1, .int p2, .int p3, .int p4, .int p5] (jP D yy (mW yy A F G) sz)) (va_Qi (fun r (u : jS) => (r, u) = gX12_addPump F G p1 p2 p3 p4 p5) (fun (u : jS) t => jB D yy (va_A (mW yy A F G) sz) (mW yy A u.1 u.2) t) (va_A (mW yy A F G) sz)) 0 0 (va_A (mW yy A F G) sz) := by
  generalize hres : gX12_addPump F G p1 p2 p3 p4 p5 = RES
  refine jM (own := RX12) (by decide) rfl (Nat.le_of_ble_eq_true rfl) ?_
  intro p e s m args below meth c ls Q hQ hargs S hr hlk hinit hB hl
  obtain ⟨hx, hb, hml, hown, hts⟩ := S
  have hl : lv_has ls 6 [(0, .ref (A 99)), (1, .int p1), (2, .int p2), (3, .int p3), (4, .int p4), (5, .int p5)] := hl
  have hin12 : ∀ w ∈ u_ws RX12 TX12 61, w ∈ (Cond.code yX12_addPump cX12_addPump 6 (some .int) :: wsL_law) := fun w h => List.mem_cons_of_mem _ (inlX12 w h)
  obtain ⟨hsz, hP, hK, hD0⟩ := hB
  subst hsz
  have hD := hD0.self (sz := s.heap.size)
  generalize hZ : va_A (mW yy A F G) s.heap.size = Z at hD hQ
  have hA : ∀ q : Nat, s.heap.size ≤ q → Z q := fun q h => by rw [← hZ]; exact Or.inr h
  obtain ⟨H, hH⟩ : ∃ z, z = s.heap := ⟨_, rfl⟩
  obtain ⟨locs, hlocs⟩ : ∃ z : List Loc, z = [] := ⟨_, rfl⟩
  have hS : va_S Z s.heap H locs := by rw [hH, hlocs]; exact va_S.rf
  rw [← hH] at hP
  suffices hgo : W p l e rmX12_addPump s m args below meth c H locs 0 0 Q (F0 m 0 ls []) by rw [hH, hlocs] at hgo; exact hgo
  unfold gX12_addPump at hres
  unfold okX12_addPump at hok
  refine lv_aload_n hx hb (dd_of dX12_addPump_0 0 rfl) rfl (lv_at hl 0 rfl) ?_
  refine lv_iload_n hx hb (dd_of dX12_addPump_0 1 rfl) rfl (lv_at hl 1 rfl) ?_
  refine lv_iload_n hx hb (dd_of dX12_addPump_0 2 rfl) rfl (lv_at hl 2 rfl) ?_
  have h1 := hok.1
  replace hok := hok.2
  refine jm_i (As := [.int p1, .int p2]) (rest := []) (w := (mW yy A F G)) (w1 := fun u : jS => (mW yy A u.1 u.2)) (D := D) (yy := yy) ⟨hx, hb, hml, hown, hts⟩ (qX12_areEnds l D yy A F G H.size p1 p2 h1) (cwV 2 hts (jgV gw674 gw675 gw676 gw5 gw677) rfl rfl rfl (by decide +kernel) ⟨Nat.le_of_ble_eq_true rfl, Nat.le_of_ble_eq_true rfl⟩) hP hK hD hS hA (va_recv hK hP (ci := 12) (q0 := 0) rfl rfl) rfl hl.1 rfl (Nat.le_of_ble_eq_true rfl) (dd_of dX12_addPump_0 3 rfl) ⟨Nat.zero_le _, Nat.zero_le _⟩ (fun x5 u9 H locs w4 hP hD hS => ?_)
  obtain ⟨F2, G3⟩ := u9
  have hP : va_P D vwCl (mW yy A F2 G3) H := hP
  have hD : va_D Z (mW yy A F2 G3) := hD
  replace hres := brE w4 hres
  replace hok := brO w4 hok
  refine lv_if_eq (tgt := 66) hx hb (dd_of dX12_addPump_0 4 rfl) (by decide) (fun c6 => ?_) (fun c6 => ?_)
  · replace hres := ifE c6 hres
    replace hok := hok.1 c6
    refine lv_aload_n hx hb (dd_of dX12_addPump_0 31 rfl) rfl (lv_at hl 0 rfl) ?_
    refine va_get (D := D) (cl := vwCl) (tys := jT yy) (ci := 12) (v := .int (F2 60 0)) (C := RX12) (T := TX12) (N := 61) hx hb hts hin12 hown hK hP 0 rfl rfl 60 (by decide) (jw hts gw590) (fun _ h9 => h9) rfl (dd_of dX12_addPump_0 32 rfl) ?_
    refine lv_if_le (tgt := 75) hx hb (dd_of dX12_addPump_0 33 rfl) (by decide) (fun c7 => ?_) (fun c7 => ?_)
    · replace hres := ifE c7 hres
      replace hok := hok.1 c7
      refine lv_aload_n hx hb (dd_of dX12_addPump_0 36 rfl) rfl (lv_at hl 0 rfl) ?_
      refine va_get (D := D) (cl := vwCl) (tys := jT yy) (ci := 12) (v := .ref (A 24)) (C := RX12) (T := TX12) (N := 61) hx hb hts hin12 hown hK hP 0 rfl rfl 24 (by decide) (jw hts gw138) (fun _ h9 => h9) rfl (dd_of dX12_addPump_0 37 rfl) ?_
      refine lv_aload_n hx hb (dd_of dX12_addPump_0 38 rfl) rfl (lv_at hl 0 rfl) ?_
      refine va_get (D := D) (cl := vwCl) (tys := jT yy) (ci := 12) (v := .int (F2 23 0)) (C := RX12) (T := TX12) (N := 61) hx hb hts hin12 hown hK hP 0 rfl rfl 23 (by decide) (jw hts gw694) (fun _ h9 => h9) rfl (dd_of dX12_addPump_0 39 rfl) ?_
      refine lv_iload_n hx hb (dd_of dX12_addPump_1 0 rfl) rfl (lv_at hl 1 rfl) ?_
      have h8 := hok.1
      replace hok := hok.2
      refine va_iast hx hb hK hP hD hS 14 0 rfl rfl h8 (dd_of dX12_addPump_1 1 rfl) (fun H locs hP hD hS => ?_)
      obtain ⟨F9, e10⟩ : ∃ z : jF, z = u2 F2 24 (Int32.toNatClampNeg (F2 23 0)) p1 := ⟨_, rfl⟩
      have hP : va_P D vwCl (mW yy A F9 G3) H := by rw [e10]; exact hP
      have hD : va_D Z (mW yy A F9 G3) := by rw [e10]; exact hD
      replace hres := bvE e10 hres
      replace hok := bvO e10 hok
      refine lv_aload_n hx hb (dd_of dX12_addPump_1 2 rfl) rfl (lv_at hl 0 rfl) ?_
      refine va_get (D := D) (cl := vwCl) (tys := jT yy) (ci := 12) (v := .ref (A 25)) (C := RX12) (T := TX12) (N := 61) hx hb hts hin12 hown hK hP 0 rfl rfl 25 (by decide) (jw hts gw139) (fun _ h9 => h9) rfl (dd_of dX12_addPump_1 3 rfl) ?_
      refine lv_aload_n hx hb (dd_of dX12_addPump_1 4 rfl) rfl (lv_at hl 0 rfl) ?_
      refine va_get (D := D) (cl := vwCl) (tys := jT yy) (ci := 12) (v := .int (F9 23 0)) (C := RX12) (T := TX12) (N := 61) hx hb hts hin12 hown hK hP 0 rfl rfl 23 (by decide) (jw hts gw694) (fun _ h9 => h9) rfl (dd_of dX12_addPump_1 5 rfl) ?_
      refine lv_iload_n hx hb (dd_of dX12_addPump_1 6 rfl) rfl (lv_at hl 2 rfl) ?_
      have h11 := hok.1
      replace hok := hok.2
      refine va_iast hx hb hK hP hD hS 15 0 rfl rfl h11 (dd_of dX12_addPump_1 7 rfl) (fun H locs hP hD hS => ?_)
      obtain ⟨F12, e13⟩ : ∃ z : jF, z = u2 F9 25 (Int32.toNatClampNeg (F9 23 0)) p2 := ⟨_, rfl⟩
      have hP : va_P D vwCl (mW yy A F12 G3) H := by rw [e13]; exact hP
      have hD : va_D Z (mW yy A F12 G3) := by rw [e13]; exact hD
      replace hres := bvE e13 hres
      replace hok := bvO e13 hok
      refine lv_aload_n hx hb (dd_of dX12_addPump_1 8 rfl) rfl (lv_at hl 0 rfl) ?_
      refine va_get (D := D) (cl := vwCl) (tys := jT yy) (ci := 12) (v := .ref (A 26)) (C := RX12) (T := TX12) (N := 61) hx hb hts hin12 hown hK hP 0 rfl rfl 26 (by decide) (jw hts gw140) (fun _ h9 => h9) rfl (dd_of dX12_addPump_1 9 rfl) ?_
      refine lv_aload_n hx hb (dd_of dX12_addPump_1 10 rfl) rfl (lv_at hl 0 rfl) ?_
      refine va_get (D := D) (cl := vwCl) (tys := jT yy) (ci := 12) (v := .int (F12 23 0)) (C := RX12) (T := TX12) (N := 61) hx hb hts hin12 hown hK hP 0 rfl rfl 23 (by decide) (jw hts gw694) (fun _ h9 => h9) rfl (dd_of dX12_addPump_1 11 rfl) ?_
      refine lv_iload_n hx hb (dd_of dX12_addPump_1 12 rfl) rfl (lv_at hl 3 rfl) ?_
      have h14 := hok.1
      replace hok := hok.2
      refine va_iast hx hb hK hP hD hS 16 0 rfl rfl h14 (dd_of dX12_addPump_1 13 rfl) (fun H locs hP hD hS => ?_)
      obtain ⟨F15, e16⟩ : ∃ z : jF, z = u2 F12 26 (Int32.toNatClampNeg (F12 23 0)) p3 := ⟨_, rfl⟩
      have hP : va_P D vwCl (mW yy A F15 G3) H := by rw [e16]; exact hP
      have hD : va_D Z (mW yy A F15 G3) := by rw [e16]; exact hD
      replace hres := bvE e16 hres
      replace hok := bvO e16 hok
      refine lv_aload_n hx hb (dd_of dX12_addPump_1 14 rfl) rfl (lv_at hl 0 rfl) ?_
      refine va_get (D := D) (cl := vwCl) (tys := jT yy) (ci := 12) (v := .ref (A 27)) (C := RX12) (T := TX12) (N := 61) hx hb hts hin12 hown hK hP 0 rfl rfl 27 (by decide) (jw hts gw141) (fun _ h9 => h9) rfl (dd_of dX12_addPump_1 15 rfl) ?_
      refine lv_aload_n hx hb (dd_of dX12_addPump_1 16 rfl) rfl (lv_at hl 0 rfl) ?_
      refine va_get (D := D) (cl := vwCl) (tys := jT yy) (ci := 12) (v := .int (F15 23 0)) (C := RX12) (T := TX12) (N := 61) hx hb hts hin12 hown hK hP 0 rfl rfl 23 (by decide) (jw hts gw694) (fun _ h9 => h9) rfl (dd_of dX12_addPump_1 17 rfl) ?_
      refine lv_iload hx hb (dd_of dX12_addPump_1 18 rfl) (lv_at hl 4 rfl) ?_
      have h17 := hok.1
      replace hok := hok.2
      refine va_iast hx hb hK hP hD hS 17 0 rfl rfl h17 (dd_of dX12_addPump_1 19 rfl) (fun H locs hP hD hS => ?_)
      obtain ⟨F18, e19⟩ : ∃ z : jF, z = u2 F15 27 (Int32.toNatClampNeg (F15 23 0)) p4 := ⟨_, rfl⟩
      have hP : va_P D vwCl (mW yy A F18 G3) H := by rw [e19]; exact hP
      have hD : va_D Z (mW yy A F18 G3) := by rw [e19]; exact hD
      replace hres := bvE e19 hres
      replace hok := bvO e19 hok
      refine lv_aload_n hx hb (dd_of dX12_addPump_1 20 rfl) rfl (lv_at hl 0 rfl) ?_
      refine va_get (D := D) (cl := vwCl) (tys := jT yy) (ci := 12) (v := .ref (A 28)) (C := RX12) (T := TX12) (N := 61) hx hb hts hin12 hown hK hP 0 rfl rfl 28 (by decide) (jw hts gw142) (fun _ h9 => h9) rfl (dd_of dX12_addPump_1 21 rfl) ?_
      refine lv_aload_n hx hb (dd_of dX12_addPump_1 22 rfl) rfl (lv_at hl 0 rfl) ?_
      refine va_get (D := D) (cl := vwCl) (tys := jT yy) (ci := 12) (v := .int (F18 23 0)) (C := RX12) (T := TX12) (N := 61) hx hb hts hin12 hown hK hP 0 rfl rfl 23 (by decide) (jw hts gw694) (fun _ h9 => h9) rfl (dd_of dX12_addPump_1 23 rfl) ?_
      refine lv_iload hx hb (dd_of dX12_addPump_1 24 rfl) (lv_at hl 5 rfl) ?_
      have h20 := hok
      refine va_iast hx hb hK hP hD hS 18 0 rfl rfl h20 (dd_of dX12_addPump_1 25 rfl) (fun H locs hP hD hS => ?_)
      obtain ⟨F21, e22⟩ : ∃ z : jF, z = u2 F18 28 (Int32.toNatClampNeg (F18 23 0)) p5 := ⟨_, rfl⟩
      have hP : va_P D vwCl (mW yy A F21 G3) H := by rw [e22]; exact hP
      have hD : va_D Z (mW yy A F21 G3) := by rw [e22]; exact hD
      replace hres := bvE e22 hres
      refine lv_aload_n hx hb (dd_of dX12_addPump_1 26 rfl) rfl (lv_at hl 0 rfl) ?_
      refine lv_dup hx hb (dd_of dX12_addPump_1 27 rfl) rfl ?_
      refine va_get (D := D) (cl := vwCl) (tys := jT yy) (ci := 12) (v := .int (F21 23 0)) (C := RX12) (T := TX12) (N := 61) hx hb hts hin12 hown hK hP 0 rfl rfl 23 (by decide) (jw hts gw694) (fun _ h9 => h9) rfl (dd_of dX12_addPump_1 28 rfl) ?_
      refine lv_iconst (v := 1) hx hb (dd_of dX12_addPump_1 29 rfl) (by decide) ?_
      refine lv_iadd hx hb (dd_of dX12_addPump_1 30 rfl) ?_
      refine va_put (D := D) (cl := vwCl) (tys := jT yy) (ci := 12) (v := .int ((F21 23 0) + 1)) (ty := .int) (C := RX12) (T := TX12) (N := 61) hx hb hts hin12 tyX12 tyX12_ok nmX12 hown hK hP hD hS 0 rfl rfl 23 (by decide) (jw hts gw694) (fun _ h9 => h9) rfl (by decide +kernel) rfl rfl (Nat.le_of_ble_eq_true rfl) (dd_of dX12_addPump_1 31 rfl) (fun H locs hP hD hS => ?_)
      obtain ⟨F23, e24⟩ : ∃ z : jF, z = u2 F21 23 0 ((F21 23 0) + 1) := ⟨_, rfl⟩
      have hP : va_P D vwCl (mW yy A F23 G3) H := by rw [e24]; exact hP
      have hD : va_D Z (mW yy A F23 G3) := by rw [e24]; exact hD
      replace hres := bvE e24 hres
      refine lv_aload_n hx hb (dd_of dX12_addPump_1 32 rfl) rfl (lv_at hl 0 rfl) ?_
      refine va_get (D := D) (cl := vwCl) (tys := jT yy) (ci := 12) (v := .int (F23 23 0)) (C := RX12) (T := TX12) (N := 61) hx hb hts hin12 hown hK hP 0 rfl rfl 23 (by decide) (jw hts gw694) (fun _ h9 => h9) rfl (dd_of dX12_addPump_1 33 rfl) ?_
      refine lv_iconst (v := 1) hx hb (dd_of dX12_addPump_1 34 rfl) (by decide) ?_
      refine lv_isub hx hb (dd_of dX12_addPump_1 35 rfl) ?_
      subst hQ
      exact W.iret (v := ((F23 23 0) - 1)) hx hb hr (fun t ht hW => ⟨⟨((F23 23 0) - 1), (F23, G3), rfl, hres, by rw [ht]; exact hP, va_K.moved hW.alike hK, hD⟩, hS.F ht⟩) hS.2.2 (dd_of dX12_addPump_1 36 rfl) hlk
    · replace hres := ifN c7 hres
      refine lv_iconst (v := 0) hx hb (dd_of dX12_addPump_0 34 rfl) (by decide) ?_
      subst hQ
      exact W.iret (v := 0) hx hb hr (fun t ht hW => ⟨⟨0, (F2, G3), rfl, hres, by rw [ht]; exact hP, va_K.moved hW.alike hK, hD⟩, hS.F ht⟩) hS.2.2 (dd_of dX12_addPump_0 35 rfl) hlk
  · replace hres := ifN c6 hres
    replace hok := hok.2 c6
    refine lv_aload_n hx hb (dd_of dX12_addPump_0 5 rfl) rfl (lv_at hl 0 rfl) ?_
    refine lv_iload_n hx hb (dd_of dX12_addPump_0 6 rfl) rfl (lv_at hl 3 rfl) ?_
    refine lv_iconst (v := 1) hx hb (dd_of dX12_addPump_0 7 rfl) (by decide) ?_
    refine lv_sipush (v := 9999) hx hb (dd_of dX12_addPump_0 8 rfl) (by decide) ?_
    refine jc_si (As := [.int p3, .int 1, .int 9999]) (rest := [.ref (A 99)]) ⟨hx, hb, hml, hown, hts⟩ (qX12_in l p3 1 9999 ) (cwS 3 hts (jgS gw591 gw592 gw5 gw593) rfl rfl rfl (by decide +kernel) ⟨Nat.le_of_ble_eq_true rfl, Nat.le_of_ble_eq_true rfl⟩) rfl hl.1 rfl (Nat.le_of_ble_eq_true rfl) (dd_of dX12_addPump_0 9 rfl) ⟨Nat.zero_le _, Nat.zero_le _⟩ (fun x25 ex25 => ?_)
    replace hres := bvE ex25 hres
    replace hok := bvO ex25 hok
    obtain ⟨z54, q53⟩ : ∃ z : Int32, (if x25 = 0 then 2 else bv (gX12_in p4 0 999) (fun x27 : Int32 => (if x27 = 0 then 2 else bv (gX12_in p5 1 999) (fun x29 : Int32 => (if x29 = 0 then 2 else (if (F2 23 0) = 8 then 3 else 0)))))) = z := ⟨_, rfl⟩
    refine jn_i (ls := ls) (v := z54) 63 [.ref (A 99)] (fun v32 ev32 => ?_) (fun K55 => ?_)
    · replace hres := bvE (ev32.trans q53.symm) hres
      replace hok := bvO (ev32.trans q53.symm) hok
      refine va_put (D := D) (cl := vwCl) (tys := jT yy) (ci := 12) (v := .int v32) (ty := .int) (C := RX12) (T := TX12) (N := 61) hx hb hts hin12 tyX12 tyX12_ok nmX12 hown hK hP hD hS 0 rfl rfl 60 (by decide) (jw hts gw590) (fun _ h9 => h9) rfl (by decide +kernel) rfl rfl (Nat.le_of_ble_eq_true rfl) (dd_of dX12_addPump_0 30 rfl) (fun H locs hP hD hS => ?_)
      obtain ⟨F33, e34⟩ : ∃ z : jF, z = u2 F2 60 0 v32 := ⟨_, rfl⟩
      have hP : va_P D vwCl (mW yy A F33 G3) H := by rw [e34]; exact hP
      have hD : va_D Z (mW yy A F33 G3) := by rw [e34]; exact hD
      replace hres := bvE e34 hres
      replace hok := bvO e34 hok
      refine lv_aload_n hx hb (dd_of dX12_addPump_0 31 rfl) rfl (lv_at hl 0 rfl) ?_
      refine va_get (D := D) (cl := vwCl) (tys := jT yy) (ci := 12) (v := .int (F33 60 0)) (C := RX12) (T := TX12) (N := 61) hx hb hts hin12 hown hK hP 0 rfl rfl 60 (by decide) (jw hts gw590) (fun _ h9 => h9) rfl (dd_of dX12_addPump_0 32 rfl) ?_
      refine lv_if_le (tgt := 75) hx hb (dd_of dX12_addPump_0 33 rfl) (by decide) (fun c35 => ?_) (fun c35 => ?_)
      · replace hres := ifE c35 hres
        replace hok := hok.1 c35
        refine lv_aload_n hx hb (dd_of dX12_addPump_0 36 rfl) rfl (lv_at hl 0 rfl) ?_
        refine va_get (D := D) (cl := vwCl) (tys := jT yy) (ci := 12) (v := .ref (A 24)) (C := RX12) (T := TX12) (N := 61) hx hb hts hin12 hown hK hP 0 rfl rfl 24 (by decide) (jw hts gw138) (fun _ h9 => h9) rfl (dd_of dX12_addPump_0 37 rfl) ?_
        refine lv_aload_n hx hb (dd_of dX12_addPump_0 38 rfl) rfl (lv_at hl 0 rfl) ?_
        refine va_get (D := D) (cl := vwCl) (tys := jT yy) (ci := 12) (v := .int (F33 23 0)) (C := RX12) (T := TX12) (N := 61) hx hb hts hin12 hown hK hP 0 rfl rfl 23 (by decide) (jw hts gw694) (fun _ h9 => h9) rfl (dd_of dX12_addPump_0 39 rfl) ?_
        refine lv_iload_n hx hb (dd_of dX12_addPump_1 0 rfl) rfl (lv_at hl 1 rfl) ?_
        have h36 := hok.1
        replace hok := hok.2
        refine va_iast hx hb hK hP hD hS 14 0 rfl rfl h36 (dd_of dX12_addPump_1 1 rfl) (fun H locs hP hD hS => ?_)
        obtain ⟨F37, e38⟩ : ∃ z : jF, z = u2 F33 24 (Int32.toNatClampNeg (F33 23 0)) p1 := ⟨_, rfl⟩
        have hP : va_P D vwCl (mW yy A F37 G3) H := by rw [e38]; exact hP
        have hD : va_D Z (mW yy A F37 G3) := by rw [e38]; exact hD
        replace hres := bvE e38 hres
        replace hok := bvO e38 hok
        refine lv_aload_n hx hb (dd_of dX12_addPump_1 2 rfl) rfl (lv_at hl 0 rfl) ?_
        refine va_get (D := D) (cl := vwCl) (tys := jT yy) (ci := 12) (v := .ref (A 25)) (C := RX12) (T := TX12) (N := 61) hx hb hts hin12 hown hK hP 0 rfl rfl 25 (by decide) (jw hts gw139) (fun _ h9 => h9) rfl (dd_of dX12_addPump_1 3 rfl) ?_
        refine lv_aload_n hx hb (dd_of dX12_addPump_1 4 rfl) rfl (lv_at hl 0 rfl) ?_
        refine va_get (D := D) (cl := vwCl) (tys := jT yy) (ci := 12) (v := .int (F37 23 0)) (C := RX12) (T := TX12) (N := 61) hx hb hts hin12 hown hK hP 0 rfl rfl 23 (by decide) (jw hts gw694) (fun _ h9 => h9) rfl (dd_of dX12_addPump_1 5 rfl) ?_
        refine lv_iload_n hx hb (dd_of dX12_addPump_1 6 rfl) rfl (lv_at hl 2 rfl) ?_
        have h39 := hok.1
        replace hok := hok.2
        refine va_iast hx hb hK hP hD hS 15 0 rfl rfl h39 (dd_of dX12_addPump_1 7 rfl) (fun H locs hP hD hS => ?_)
        obtain ⟨F40, e41⟩ : ∃ z : jF, z = u2 F37 25 (Int32.toNatClampNeg (F37 23 0)) p2 := ⟨_, rfl⟩
        have hP : va_P D vwCl (mW yy A F40 G3) H := by rw [e41]; exact hP
        have hD : va_D Z (mW yy A F40 G3) := by rw [e41]; exact hD
        replace hres := bvE e41 hres
        replace hok := bvO e41 hok
        refine lv_aload_n hx hb (dd_of dX12_addPump_1 8 rfl) rfl (lv_at hl 0 rfl) ?_
        refine va_get (D := D) (cl := vwCl) (tys := jT yy) (ci := 12) (v := .ref (A 26)) (C := RX12) (T := TX12) (N := 61) hx hb hts hin12 hown hK hP 0 rfl rfl 26 (by decide) (jw hts gw140) (fun _ h9 => h9) rfl (dd_of dX12_addPump_1 9 rfl) ?_
        refine lv_aload_n hx hb (dd_of dX12_addPump_1 10 rfl) rfl (lv_at hl 0 rfl) ?_
        refine va_get (D := D) (cl := vwCl) (tys := jT yy) (ci := 12) (v := .int (F40 23 0)) (C := RX12) (T := TX12) (N := 61) hx hb hts hin12 hown hK hP 0 rfl rfl 23 (by decide) (jw hts gw694) (fun _ h9 => h9) rfl (dd_of dX12_addPump_1 11 rfl) ?_
        refine lv_iload_n hx hb (dd_of dX12_addPump_1 12 rfl) rfl (lv_at hl 3 rfl) ?_
        have h42 := hok.1
        replace hok := hok.2
        refine va_iast hx hb hK hP hD hS 16 0 rfl rfl h42 (dd_of dX12_addPump_1 13 rfl) (fun H locs hP hD hS => ?_)
        obtain ⟨F43, e44⟩ : ∃ z : jF, z = u2 F40 26 (Int32.toNatClampNeg (F40 23 0)) p3 := ⟨_, rfl⟩
        have hP : va_P D vwCl (mW yy A F43 G3) H := by rw [e44]; exact hP
        have hD : va_D Z (mW yy A F43 G3) := by rw [e44]; exact hD
        replace hres := bvE e44 hres
        replace hok := bvO e44 hok
        refine lv_aload_n hx hb (dd_of dX12_addPump_1 14 rfl) rfl (lv_at hl 0 rfl) ?_
        refine va_get (D := D) (cl := vwCl) (tys := jT yy) (ci := 12) (v := .ref (A 27)) (C := RX12) (T := TX12) (N := 61) hx hb hts hin12 hown hK hP 0 rfl rfl 27 (by decide) (jw hts gw141) (fun _ h9 => h9) rfl (dd_of dX12_addPump_1 15 rfl) ?_
        refine lv_aload_n hx hb (dd_of dX12_addPump_1 16 rfl) rfl (lv_at hl 0 rfl) ?_
        refine va_get (D := D) (cl := vwCl) (tys := jT yy) (ci := 12) (v := .int (F43 23 0)) (C := RX12) (T := TX12) (N := 61) hx hb hts hin12 hown hK hP 0 rfl rfl 23 (by decide) (jw hts gw694) (fun _ h9 => h9) rfl (dd_of dX12_addPump_1 17 rfl) ?_
        refine lv_iload hx hb (dd_of dX12_addPump_1 18 rfl) (lv_at hl 4 rfl) ?_
        have h45 := hok.1
        replace hok := hok.2
        refine va_iast hx hb hK hP hD hS 17 0 rfl rfl h45 (dd_of dX12_addPump_1 19 rfl) (fun H locs hP hD hS => ?_)
        obtain ⟨F46, e47⟩ : ∃ z : jF, z = u2 F43 27 (Int32.toNatClampNeg (F43 23 0)) p4 := ⟨_, rfl⟩
        have hP : va_P D vwCl (mW yy A F46 G3) H := by rw [e47]; exact hP
        have hD : va_D Z (mW yy A F46 G3) := by rw [e47]; exact hD
        replace hres := bvE e47 hres
        replace hok := bvO e47 hok
        refine lv_aload_n hx hb (dd_of dX12_addPump_1 20 rfl) rfl (lv_at hl 0 rfl) ?_
        refine va_get (D := D) (cl := vwCl) (tys := jT yy) (ci := 12) (v := .ref (A 28)) (C := RX12) (T := TX12) (N := 61) hx hb hts hin12 hown hK hP 0 rfl rfl 28 (by decide) (jw hts gw142) (fun _ h9 => h9) rfl (dd_of dX12_addPump_1 21 rfl) ?_
        refine lv_aload_n hx hb (dd_of dX12_addPump_1 22 rfl) rfl (lv_at hl 0 rfl) ?_
        refine va_get (D := D) (cl := vwCl) (tys := jT yy) (ci := 12) (v := .int (F46 23 0)) (C := RX12) (T := TX12) (N := 61) hx hb hts hin12 hown hK hP 0 rfl rfl 23 (by decide) (jw hts gw694) (fun _ h9 => h9) rfl (dd_of dX12_addPump_1 23 rfl) ?_
        refine lv_iload hx hb (dd_of dX12_addPump_1 24 rfl) (lv_at hl 5 rfl) ?_
        have h48 := hok
        refine va_iast hx hb hK hP hD hS 18 0 rfl rfl h48 (dd_of dX12_addPump_1 25 rfl) (fun H locs hP hD hS => ?_)
        obtain ⟨F49, e50⟩ : ∃ z : jF, z = u2 F46 28 (Int32.toNatClampNeg (F46 23 0)) p5 := ⟨_, rfl⟩
        have hP : va_P D vwCl (mW yy A F49 G3) H := by rw [e50]; exact hP
        have hD : va_D Z (mW yy A F49 G3) := by rw [e50]; exact hD
        replace hres := bvE e50 hres
        refine lv_aload_n hx hb (dd_of dX12_addPump_1 26 rfl) rfl (lv_at hl 0 rfl) ?_
        refine lv_dup hx hb (dd_of dX12_addPump_1 27 rfl) rfl ?_
        refine va_get (D := D) (cl := vwCl) (tys := jT yy) (ci := 12) (v := .int (F49 23 0)) (C := RX12) (T := TX12) (N := 61) hx hb hts hin12 hown hK hP 0 rfl rfl 23 (by decide) (jw hts gw694) (fun _ h9 => h9) rfl (dd_of dX12_addPump_1 28 rfl) ?_
        refine lv_iconst (v := 1) hx hb (dd_of dX12_addPump_1 29 rfl) (by decide) ?_
        refine lv_iadd hx hb (dd_of dX12_addPump_1 30 rfl) ?_
        refine va_put (D := D) (cl := vwCl) (tys := jT yy) (ci := 12) (v := .int ((F49 23 0) + 1)) (ty := .int) (C := RX12) (T := TX12) (N := 61) hx hb hts hin12 tyX12 tyX12_ok nmX12 hown hK hP hD hS 0 rfl rfl 23 (by decide) (jw hts gw694) (fun _ h9 => h9) rfl (by decide +kernel) rfl rfl (Nat.le_of_ble_eq_true rfl) (dd_of dX12_addPump_1 31 rfl) (fun H locs hP hD hS => ?_)
        obtain ⟨F51, e52⟩ : ∃ z : jF, z = u2 F49 23 0 ((F49 23 0) + 1) := ⟨_, rfl⟩
        have hP : va_P D vwCl (mW yy A F51 G3) H := by rw [e52]; exact hP
        have hD : va_D Z (mW yy A F51 G3) := by rw [e52]; exact hD
        replace hres := bvE e52 hres
        refine lv_aload_n hx hb (dd_of dX12_addPump_1 32 rfl) rfl (lv_at hl 0 rfl) ?_
        refine va_get (D := D) (cl := vwCl) (tys := jT yy) (ci := 12) (v := .int (F51 23 0)) (C := RX12) (T := TX12) (N := 61) hx hb hts hin12 hown hK hP 0 rfl rfl 23 (by decide) (jw hts gw694) (fun _ h9 => h9) rfl (dd_of dX12_addPump_1 33 rfl) ?_
        refine lv_iconst (v := 1) hx hb (dd_of dX12_addPump_1 34 rfl) (by decide) ?_
        refine lv_isub hx hb (dd_of dX12_addPump_1 35 rfl) ?_
        subst hQ
        exact W.iret (v := ((F51 23 0) - 1)) hx hb hr (fun t ht hW => ⟨⟨((F51 23 0) - 1), (F51, G3), rfl, hres, by rw [ht]; exact hP, va_K.moved hW.alike hK, hD⟩, hS.F ht⟩) hS.2.2 (dd_of dX12_addPump_1 36 rfl) hlk
      · replace hres := ifN c35 hres
        refine lv_iconst (v := 0) hx hb (dd_of dX12_addPump_0 34 rfl) (by decide) ?_
        subst hQ
        exact W.iret (v := 0) hx hb hr (fun t ht hW => ⟨⟨0, (F33, G3), rfl, hres, by rw [ht]; exact hP, va_K.moved hW.alike hK, hD⟩, hS.F ht⟩) hS.2.2 (dd_of dX12_addPump_0 35 rfl) hlk
    · skip
      refine lv_if_eq (tgt := 45) hx hb (dd_of dX12_addPump_0 10 rfl) (by decide) (fun c26 => ?_) (fun c26 => ?_)
      · replace q53 := ifE c26 q53
        refine lv_iconst (v := 2) hx hb (dd_of dX12_addPump_0 21 rfl) (by decide) ?_
        refine lv_goto (tgt := 63) hx hb (dd_of dX12_addPump_0 22 rfl) (by decide) ?_
        exact K55 _ q53
      · replace q53 := ifN c26 q53
        refine lv_iload hx hb (dd_of dX12_addPump_0 11 rfl) (lv_at hl 4 rfl) ?_
        refine lv_iconst (v := 0) hx hb (dd_of dX12_addPump_0 12 rfl) (by decide) ?_
        refine lv_sipush (v := 999) hx hb (dd_of dX12_addPump_0 13 rfl) (by decide) ?_
        refine jc_si (As := [.int p4, .int 0, .int 999]) (rest := [.ref (A 99)]) ⟨hx, hb, hml, hown, hts⟩ (qX12_in l p4 0 999 ) (cwS 3 hts (jgS gw591 gw592 gw5 gw593) rfl rfl rfl (by decide +kernel) ⟨Nat.le_of_ble_eq_true rfl, Nat.le_of_ble_eq_true rfl⟩) rfl hl.1 rfl (Nat.le_of_ble_eq_true rfl) (dd_of dX12_addPump_0 14 rfl) ⟨Nat.zero_le _, Nat.zero_le _⟩ (fun x27 ex27 => ?_)
        replace q53 := bvE ex27 q53
        refine lv_if_eq (tgt := 45) hx hb (dd_of dX12_addPump_0 15 rfl) (by decide) (fun c28 => ?_) (fun c28 => ?_)
        · replace q53 := ifE c28 q53
          refine lv_iconst (v := 2) hx hb (dd_of dX12_addPump_0 21 rfl) (by decide) ?_
          refine lv_goto (tgt := 63) hx hb (dd_of dX12_addPump_0 22 rfl) (by decide) ?_
          exact K55 _ q53
        · replace q53 := ifN c28 q53
          refine lv_iload hx hb (dd_of dX12_addPump_0 16 rfl) (lv_at hl 5 rfl) ?_
          refine lv_iconst (v := 1) hx hb (dd_of dX12_addPump_0 17 rfl) (by decide) ?_
          refine lv_sipush (v := 999) hx hb (dd_of dX12_addPump_0 18 rfl) (by decide) ?_
          refine jc_si (As := [.int p5, .int 1, .int 999]) (rest := [.ref (A 99)]) ⟨hx, hb, hml, hown, hts⟩ (qX12_in l p5 1 999 ) (cwS 3 hts (jgS gw591 gw592 gw5 gw593) rfl rfl rfl (by decide +kernel) ⟨Nat.le_of_ble_eq_true rfl, Nat.le_of_ble_eq_true rfl⟩) rfl hl.1 rfl (Nat.le_of_ble_eq_true rfl) (dd_of dX12_addPump_0 19 rfl) ⟨Nat.zero_le _, Nat.zero_le _⟩ (fun x29 ex29 => ?_)
          replace q53 := bvE ex29 q53
          refine lv_if_ne (tgt := 49) hx hb (dd_of dX12_addPump_0 20 rfl) (by decide) (fun c30 => ?_) (fun c30 => ?_)
          · replace q53 := ifN c30 q53
            refine lv_aload_n hx hb (dd_of dX12_addPump_0 23 rfl) rfl (lv_at hl 0 rfl) ?_
            refine va_get (D := D) (cl := vwCl) (tys := jT yy) (ci := 12) (v := .int (F2 23 0)) (C := RX12) (T := TX12) (N := 61) hx hb hts hin12 hown hK hP 0 rfl rfl 23 (by decide) (jw hts gw694) (fun _ h9 => h9) rfl (dd_of dX12_addPump_0 24 rfl) ?_
            refine lv_bipush (v := 8) hx hb (dd_of dX12_addPump_0 25 rfl) (by decide) ?_
            refine lv_icmp_ne (tgt := 62) hx hb (dd_of dX12_addPump_0 26 rfl) (by decide) (fun c31 => ?_) (fun c31 => ?_)
            · replace q53 := ifN c31 q53
              refine lv_iconst (v := 0) hx hb (dd_of dX12_addPump_0 29 rfl) (by decide) ?_
              exact K55 _ q53
            · replace q53 := ifE c31 q53
              refine lv_iconst (v := 3) hx hb (dd_of dX12_addPump_0 27 rfl) (by decide) ?_
              refine lv_goto (tgt := 63) hx hb (dd_of dX12_addPump_0 28 rfl) (by decide) ?_
              exact K55 _ q53
          · replace q53 := ifE c30 q53
            refine lv_iconst (v := 2) hx hb (dd_of dX12_addPump_0 21 rfl) (by decide) ?_
            refine lv_goto (tgt := 63) hx hb (dd_of dX12_addPump_0 22 rfl) (by decide) ?_
            exact K55 _ q53
set_option maxHeartbeats 4000000 in
set_option maxRecDepth 100000 in
theorem qX12_addDyke (l : Launch) (D : va_G) (yy : Nat → ClassId) (A : Nat → Nat) (F : jF) (G : jG) (sz : Nat) (p1 : Int32) (p2 : Int32) (p3 : Int32) (p4 : Int32) (p5 : Int32) (hok : okX12_addDyke F G p1 p2 p3 p4 p5) : Met l yX12_addDyke (Cond.code yX12_addDyke cX12_addDyke 6 (some .int) :: wsL_law) rmX12_addDyke (va_Pc [.ref (A 99), .int p1, .int p2, .int p3, .int p4, .int p5] (jP D yy (mW yy A F G) sz)) (va_Qi (fun r (u : jS) => (r, u) = gX12_addDyke F G p1 p2 p3 p4 p5) (fun (u : jS) t => jB D yy (va_A (mW yy A F G) sz) (mW yy A u.1 u.2) t) (va_A (mW yy A F G) sz)) 0 0 (va_A (mW yy A F G) sz) := by
  generalize hres : gX12_addDyke F G p1 p2 p3 p4 p5 = RES
  refine jM (own := RX12) (by decide) rfl (Nat.le_of_ble_eq_true rfl) ?_
  intro p e s m args below meth c ls Q hQ hargs S hr hlk hinit hB hl
  obtain ⟨hx, hb, hml, hown, hts⟩ := S
  have hl : lv_has ls 6 [(0, .ref (A 99)), (1, .int p1), (2, .int p2), (3, .int p3), (4, .int p4), (5, .int p5)] := hl
  have hin12 : ∀ w ∈ u_ws RX12 TX12 61, w ∈ (Cond.code yX12_addDyke cX12_addDyke 6 (some .int) :: wsL_law) := fun w h => List.mem_cons_of_mem _ (inlX12 w h)
  obtain ⟨hsz, hP, hK, hD0⟩ := hB
  subst hsz
  have hD := hD0.self (sz := s.heap.size)
  generalize hZ : va_A (mW yy A F G) s.heap.size = Z at hD hQ
  have hA : ∀ q : Nat, s.heap.size ≤ q → Z q := fun q h => by rw [← hZ]; exact Or.inr h
  obtain ⟨H, hH⟩ : ∃ z, z = s.heap := ⟨_, rfl⟩
  obtain ⟨locs, hlocs⟩ : ∃ z : List Loc, z = [] := ⟨_, rfl⟩
  have hS : va_S Z s.heap H locs := by rw [hH, hlocs]; exact va_S.rf
  rw [← hH] at hP
  suffices hgo : W p l e rmX12_addDyke s m args below meth c H locs 0 0 Q (F0 m 0 ls []) by rw [hH, hlocs] at hgo; exact hgo
  unfold gX12_addDyke at hres
  unfold okX12_addDyke at hok
  refine lv_aload_n hx hb (dd_of dX12_addDyke_0 0 rfl) rfl (lv_at hl 0 rfl) ?_
  refine lv_iload_n hx hb (dd_of dX12_addDyke_0 1 rfl) rfl (lv_at hl 1 rfl) ?_
  refine lv_iload_n hx hb (dd_of dX12_addDyke_0 2 rfl) rfl (lv_at hl 2 rfl) ?_
  have h1 := hok.1
  replace hok := hok.2
  refine jm_i (As := [.int p1, .int p2]) (rest := []) (w := (mW yy A F G)) (w1 := fun u : jS => (mW yy A u.1 u.2)) (D := D) (yy := yy) ⟨hx, hb, hml, hown, hts⟩ (qX12_areEnds l D yy A F G H.size p1 p2 h1) (cwV 2 hts (jgV gw674 gw675 gw676 gw5 gw677) rfl rfl rfl (by decide +kernel) ⟨Nat.le_of_ble_eq_true rfl, Nat.le_of_ble_eq_true rfl⟩) hP hK hD hS hA (va_recv hK hP (ci := 12) (q0 := 0) rfl rfl) rfl hl.1 rfl (Nat.le_of_ble_eq_true rfl) (dd_of dX12_addDyke_0 3 rfl) ⟨Nat.zero_le _, Nat.zero_le _⟩ (fun x5 u9 H locs w4 hP hD hS => ?_)
  obtain ⟨F2, G3⟩ := u9
  have hP : va_P D vwCl (mW yy A F2 G3) H := hP
  have hD : va_D Z (mW yy A F2 G3) := hD
  replace hres := brE w4 hres
  replace hok := brO w4 hok
  refine lv_if_eq (tgt := 67) hx hb (dd_of dX12_addDyke_0 4 rfl) (by decide) (fun c6 => ?_) (fun c6 => ?_)
  · replace hres := ifE c6 hres
    replace hok := hok.1 c6
    refine lv_aload_n hx hb (dd_of dX12_addDyke_0 31 rfl) rfl (lv_at hl 0 rfl) ?_
    refine va_get (D := D) (cl := vwCl) (tys := jT yy) (ci := 12) (v := .int (F2 60 0)) (C := RX12) (T := TX12) (N := 61) hx hb hts hin12 hown hK hP 0 rfl rfl 60 (by decide) (jw hts gw590) (fun _ h9 => h9) rfl (dd_of dX12_addDyke_0 32 rfl) ?_
    refine lv_if_le (tgt := 76) hx hb (dd_of dX12_addDyke_0 33 rfl) (by decide) (fun c7 => ?_) (fun c7 => ?_)
    · replace hres := ifE c7 hres
      replace hok := hok.1 c7
      refine lv_aload_n hx hb (dd_of dX12_addDyke_0 36 rfl) rfl (lv_at hl 0 rfl) ?_
      refine va_get (D := D) (cl := vwCl) (tys := jT yy) (ci := 12) (v := .ref (A 33)) (C := RX12) (T := TX12) (N := 61) hx hb hts hin12 hown hK hP 0 rfl rfl 33 (by decide) (jw hts gw146) (fun _ h9 => h9) rfl (dd_of dX12_addDyke_0 37 rfl) ?_
      refine lv_aload_n hx hb (dd_of dX12_addDyke_0 38 rfl) rfl (lv_at hl 0 rfl) ?_
      refine va_get (D := D) (cl := vwCl) (tys := jT yy) (ci := 12) (v := .int (F2 32 0)) (C := RX12) (T := TX12) (N := 61) hx hb hts hin12 hown hK hP 0 rfl rfl 32 (by decide) (jw hts gw707) (fun _ h9 => h9) rfl (dd_of dX12_addDyke_0 39 rfl) ?_
      refine lv_iload_n hx hb (dd_of dX12_addDyke_1 0 rfl) rfl (lv_at hl 1 rfl) ?_
      have h8 := hok.1
      replace hok := hok.2
      refine va_iast hx hb hK hP hD hS 22 0 rfl rfl h8 (dd_of dX12_addDyke_1 1 rfl) (fun H locs hP hD hS => ?_)
      obtain ⟨F9, e10⟩ : ∃ z : jF, z = u2 F2 33 (Int32.toNatClampNeg (F2 32 0)) p1 := ⟨_, rfl⟩
      have hP : va_P D vwCl (mW yy A F9 G3) H := by rw [e10]; exact hP
      have hD : va_D Z (mW yy A F9 G3) := by rw [e10]; exact hD
      replace hres := bvE e10 hres
      replace hok := bvO e10 hok
      refine lv_aload_n hx hb (dd_of dX12_addDyke_1 2 rfl) rfl (lv_at hl 0 rfl) ?_
      refine va_get (D := D) (cl := vwCl) (tys := jT yy) (ci := 12) (v := .ref (A 34)) (C := RX12) (T := TX12) (N := 61) hx hb hts hin12 hown hK hP 0 rfl rfl 34 (by decide) (jw hts gw147) (fun _ h9 => h9) rfl (dd_of dX12_addDyke_1 3 rfl) ?_
      refine lv_aload_n hx hb (dd_of dX12_addDyke_1 4 rfl) rfl (lv_at hl 0 rfl) ?_
      refine va_get (D := D) (cl := vwCl) (tys := jT yy) (ci := 12) (v := .int (F9 32 0)) (C := RX12) (T := TX12) (N := 61) hx hb hts hin12 hown hK hP 0 rfl rfl 32 (by decide) (jw hts gw707) (fun _ h9 => h9) rfl (dd_of dX12_addDyke_1 5 rfl) ?_
      refine lv_iload_n hx hb (dd_of dX12_addDyke_1 6 rfl) rfl (lv_at hl 2 rfl) ?_
      have h11 := hok.1
      replace hok := hok.2
      refine va_iast hx hb hK hP hD hS 23 0 rfl rfl h11 (dd_of dX12_addDyke_1 7 rfl) (fun H locs hP hD hS => ?_)
      obtain ⟨F12, e13⟩ : ∃ z : jF, z = u2 F9 34 (Int32.toNatClampNeg (F9 32 0)) p2 := ⟨_, rfl⟩
      have hP : va_P D vwCl (mW yy A F12 G3) H := by rw [e13]; exact hP
      have hD : va_D Z (mW yy A F12 G3) := by rw [e13]; exact hD
      replace hres := bvE e13 hres
      replace hok := bvO e13 hok
      refine lv_aload_n hx hb (dd_of dX12_addDyke_1 8 rfl) rfl (lv_at hl 0 rfl) ?_
      refine va_get (D := D) (cl := vwCl) (tys := jT yy) (ci := 12) (v := .ref (A 35)) (C := RX12) (T := TX12) (N := 61) hx hb hts hin12 hown hK hP 0 rfl rfl 35 (by decide) (jw hts gw148) (fun _ h9 => h9) rfl (dd_of dX12_addDyke_1 9 rfl) ?_
      refine lv_aload_n hx hb (dd_of dX12_addDyke_1 10 rfl) rfl (lv_at hl 0 rfl) ?_
      refine va_get (D := D) (cl := vwCl) (tys := jT yy) (ci := 12) (v := .int (F12 32 0)) (C := RX12) (T := TX12) (N := 61) hx hb hts hin12 hown hK hP 0 rfl rfl 32 (by decide) (jw hts gw707) (fun _ h9 => h9) rfl (dd_of dX12_addDyke_1 11 rfl) ?_
      refine lv_iload_n hx hb (dd_of dX12_addDyke_1 12 rfl) rfl (lv_at hl 3 rfl) ?_
      have h14 := hok.1
      replace hok := hok.2
      refine va_iast hx hb hK hP hD hS 24 0 rfl rfl h14 (dd_of dX12_addDyke_1 13 rfl) (fun H locs hP hD hS => ?_)
      obtain ⟨F15, e16⟩ : ∃ z : jF, z = u2 F12 35 (Int32.toNatClampNeg (F12 32 0)) p3 := ⟨_, rfl⟩
      have hP : va_P D vwCl (mW yy A F15 G3) H := by rw [e16]; exact hP
      have hD : va_D Z (mW yy A F15 G3) := by rw [e16]; exact hD
      replace hres := bvE e16 hres
      replace hok := bvO e16 hok
      refine lv_aload_n hx hb (dd_of dX12_addDyke_1 14 rfl) rfl (lv_at hl 0 rfl) ?_
      refine va_get (D := D) (cl := vwCl) (tys := jT yy) (ci := 12) (v := .ref (A 36)) (C := RX12) (T := TX12) (N := 61) hx hb hts hin12 hown hK hP 0 rfl rfl 36 (by decide) (jw hts gw149) (fun _ h9 => h9) rfl (dd_of dX12_addDyke_1 15 rfl) ?_
      refine lv_aload_n hx hb (dd_of dX12_addDyke_1 16 rfl) rfl (lv_at hl 0 rfl) ?_
      refine va_get (D := D) (cl := vwCl) (tys := jT yy) (ci := 12) (v := .int (F15 32 0)) (C := RX12) (T := TX12) (N := 61) hx hb hts hin12 hown hK hP 0 rfl rfl 32 (by decide) (jw hts gw707) (fun _ h9 => h9) rfl (dd_of dX12_addDyke_1 17 rfl) ?_
      refine lv_iload hx hb (dd_of dX12_addDyke_1 18 rfl) (lv_at hl 4 rfl) ?_
      have h17 := hok.1
      replace hok := hok.2
      refine va_iast hx hb hK hP hD hS 25 0 rfl rfl h17 (dd_of dX12_addDyke_1 19 rfl) (fun H locs hP hD hS => ?_)
      obtain ⟨F18, e19⟩ : ∃ z : jF, z = u2 F15 36 (Int32.toNatClampNeg (F15 32 0)) p4 := ⟨_, rfl⟩
      have hP : va_P D vwCl (mW yy A F18 G3) H := by rw [e19]; exact hP
      have hD : va_D Z (mW yy A F18 G3) := by rw [e19]; exact hD
      replace hres := bvE e19 hres
      replace hok := bvO e19 hok
      refine lv_aload_n hx hb (dd_of dX12_addDyke_1 20 rfl) rfl (lv_at hl 0 rfl) ?_
      refine va_get (D := D) (cl := vwCl) (tys := jT yy) (ci := 12) (v := .ref (A 37)) (C := RX12) (T := TX12) (N := 61) hx hb hts hin12 hown hK hP 0 rfl rfl 37 (by decide) (jw hts gw150) (fun _ h9 => h9) rfl (dd_of dX12_addDyke_1 21 rfl) ?_
      refine lv_aload_n hx hb (dd_of dX12_addDyke_1 22 rfl) rfl (lv_at hl 0 rfl) ?_
      refine va_get (D := D) (cl := vwCl) (tys := jT yy) (ci := 12) (v := .int (F18 32 0)) (C := RX12) (T := TX12) (N := 61) hx hb hts hin12 hown hK hP 0 rfl rfl 32 (by decide) (jw hts gw707) (fun _ h9 => h9) rfl (dd_of dX12_addDyke_1 23 rfl) ?_
      refine lv_iload hx hb (dd_of dX12_addDyke_1 24 rfl) (lv_at hl 5 rfl) ?_
      have h20 := hok
      refine va_iast hx hb hK hP hD hS 26 0 rfl rfl h20 (dd_of dX12_addDyke_1 25 rfl) (fun H locs hP hD hS => ?_)
      obtain ⟨F21, e22⟩ : ∃ z : jF, z = u2 F18 37 (Int32.toNatClampNeg (F18 32 0)) p5 := ⟨_, rfl⟩
      have hP : va_P D vwCl (mW yy A F21 G3) H := by rw [e22]; exact hP
      have hD : va_D Z (mW yy A F21 G3) := by rw [e22]; exact hD
      replace hres := bvE e22 hres
      refine lv_aload_n hx hb (dd_of dX12_addDyke_1 26 rfl) rfl (lv_at hl 0 rfl) ?_
      refine lv_dup hx hb (dd_of dX12_addDyke_1 27 rfl) rfl ?_
      refine va_get (D := D) (cl := vwCl) (tys := jT yy) (ci := 12) (v := .int (F21 32 0)) (C := RX12) (T := TX12) (N := 61) hx hb hts hin12 hown hK hP 0 rfl rfl 32 (by decide) (jw hts gw707) (fun _ h9 => h9) rfl (dd_of dX12_addDyke_1 28 rfl) ?_
      refine lv_iconst (v := 1) hx hb (dd_of dX12_addDyke_1 29 rfl) (by decide) ?_
      refine lv_iadd hx hb (dd_of dX12_addDyke_1 30 rfl) ?_
      refine va_put (D := D) (cl := vwCl) (tys := jT yy) (ci := 12) (v := .int ((F21 32 0) + 1)) (ty := .int) (C := RX12) (T := TX12) (N := 61) hx hb hts hin12 tyX12 tyX12_ok nmX12 hown hK hP hD hS 0 rfl rfl 32 (by decide) (jw hts gw707) (fun _ h9 => h9) rfl (by decide +kernel) rfl rfl (Nat.le_of_ble_eq_true rfl) (dd_of dX12_addDyke_1 31 rfl) (fun H locs hP hD hS => ?_)
      obtain ⟨F23, e24⟩ : ∃ z : jF, z = u2 F21 32 0 ((F21 32 0) + 1) := ⟨_, rfl⟩
      have hP : va_P D vwCl (mW yy A F23 G3) H := by rw [e24]; exact hP
      have hD : va_D Z (mW yy A F23 G3) := by rw [e24]; exact hD
      replace hres := bvE e24 hres
      refine lv_aload_n hx hb (dd_of dX12_addDyke_1 32 rfl) rfl (lv_at hl 0 rfl) ?_
      refine va_get (D := D) (cl := vwCl) (tys := jT yy) (ci := 12) (v := .int (F23 32 0)) (C := RX12) (T := TX12) (N := 61) hx hb hts hin12 hown hK hP 0 rfl rfl 32 (by decide) (jw hts gw707) (fun _ h9 => h9) rfl (dd_of dX12_addDyke_1 33 rfl) ?_
      refine lv_iconst (v := 1) hx hb (dd_of dX12_addDyke_1 34 rfl) (by decide) ?_
      refine lv_isub hx hb (dd_of dX12_addDyke_1 35 rfl) ?_
      subst hQ
      exact W.iret (v := ((F23 32 0) - 1)) hx hb hr (fun t ht hW => ⟨⟨((F23 32 0) - 1), (F23, G3), rfl, hres, by rw [ht]; exact hP, va_K.moved hW.alike hK, hD⟩, hS.F ht⟩) hS.2.2 (dd_of dX12_addDyke_1 36 rfl) hlk
    · replace hres := ifN c7 hres
      refine lv_iconst (v := 0) hx hb (dd_of dX12_addDyke_0 34 rfl) (by decide) ?_
      subst hQ
      exact W.iret (v := 0) hx hb hr (fun t ht hW => ⟨⟨0, (F2, G3), rfl, hres, by rw [ht]; exact hP, va_K.moved hW.alike hK, hD⟩, hS.F ht⟩) hS.2.2 (dd_of dX12_addDyke_0 35 rfl) hlk
  · replace hres := ifN c6 hres
    replace hok := hok.2 c6
    refine lv_aload_n hx hb (dd_of dX12_addDyke_0 5 rfl) rfl (lv_at hl 0 rfl) ?_
    refine lv_iload_n hx hb (dd_of dX12_addDyke_0 6 rfl) rfl (lv_at hl 3 rfl) ?_
    refine lv_sipush (v := (-500)) hx hb (dd_of dX12_addDyke_0 7 rfl) (by decide) ?_
    refine lv_sipush (v := 999) hx hb (dd_of dX12_addDyke_0 8 rfl) (by decide) ?_
    refine jc_si (As := [.int p3, .int (-500), .int 999]) (rest := [.ref (A 99)]) ⟨hx, hb, hml, hown, hts⟩ (qX12_in l p3 (-500) 999 ) (cwS 3 hts (jgS gw591 gw592 gw5 gw593) rfl rfl rfl (by decide +kernel) ⟨Nat.le_of_ble_eq_true rfl, Nat.le_of_ble_eq_true rfl⟩) rfl hl.1 rfl (Nat.le_of_ble_eq_true rfl) (dd_of dX12_addDyke_0 9 rfl) ⟨Nat.zero_le _, Nat.zero_le _⟩ (fun x25 ex25 => ?_)
    replace hres := bvE ex25 hres
    replace hok := bvO ex25 hok
    obtain ⟨z54, q53⟩ : ∃ z : Int32, (if x25 = 0 then 2 else bv (gX12_in p4 1 999) (fun x27 : Int32 => (if x27 = 0 then 2 else bv (gX12_in p5 0 99) (fun x29 : Int32 => (if x29 = 0 then 2 else (if (F2 32 0) = 8 then 3 else 0)))))) = z := ⟨_, rfl⟩
    refine jn_i (ls := ls) (v := z54) 64 [.ref (A 99)] (fun v32 ev32 => ?_) (fun K55 => ?_)
    · replace hres := bvE (ev32.trans q53.symm) hres
      replace hok := bvO (ev32.trans q53.symm) hok
      refine va_put (D := D) (cl := vwCl) (tys := jT yy) (ci := 12) (v := .int v32) (ty := .int) (C := RX12) (T := TX12) (N := 61) hx hb hts hin12 tyX12 tyX12_ok nmX12 hown hK hP hD hS 0 rfl rfl 60 (by decide) (jw hts gw590) (fun _ h9 => h9) rfl (by decide +kernel) rfl rfl (Nat.le_of_ble_eq_true rfl) (dd_of dX12_addDyke_0 30 rfl) (fun H locs hP hD hS => ?_)
      obtain ⟨F33, e34⟩ : ∃ z : jF, z = u2 F2 60 0 v32 := ⟨_, rfl⟩
      have hP : va_P D vwCl (mW yy A F33 G3) H := by rw [e34]; exact hP
      have hD : va_D Z (mW yy A F33 G3) := by rw [e34]; exact hD
      replace hres := bvE e34 hres
      replace hok := bvO e34 hok
      refine lv_aload_n hx hb (dd_of dX12_addDyke_0 31 rfl) rfl (lv_at hl 0 rfl) ?_
      refine va_get (D := D) (cl := vwCl) (tys := jT yy) (ci := 12) (v := .int (F33 60 0)) (C := RX12) (T := TX12) (N := 61) hx hb hts hin12 hown hK hP 0 rfl rfl 60 (by decide) (jw hts gw590) (fun _ h9 => h9) rfl (dd_of dX12_addDyke_0 32 rfl) ?_
      refine lv_if_le (tgt := 76) hx hb (dd_of dX12_addDyke_0 33 rfl) (by decide) (fun c35 => ?_) (fun c35 => ?_)
      · replace hres := ifE c35 hres
        replace hok := hok.1 c35
        refine lv_aload_n hx hb (dd_of dX12_addDyke_0 36 rfl) rfl (lv_at hl 0 rfl) ?_
        refine va_get (D := D) (cl := vwCl) (tys := jT yy) (ci := 12) (v := .ref (A 33)) (C := RX12) (T := TX12) (N := 61) hx hb hts hin12 hown hK hP 0 rfl rfl 33 (by decide) (jw hts gw146) (fun _ h9 => h9) rfl (dd_of dX12_addDyke_0 37 rfl) ?_
        refine lv_aload_n hx hb (dd_of dX12_addDyke_0 38 rfl) rfl (lv_at hl 0 rfl) ?_
        refine va_get (D := D) (cl := vwCl) (tys := jT yy) (ci := 12) (v := .int (F33 32 0)) (C := RX12) (T := TX12) (N := 61) hx hb hts hin12 hown hK hP 0 rfl rfl 32 (by decide) (jw hts gw707) (fun _ h9 => h9) rfl (dd_of dX12_addDyke_0 39 rfl) ?_
        refine lv_iload_n hx hb (dd_of dX12_addDyke_1 0 rfl) rfl (lv_at hl 1 rfl) ?_
        have h36 := hok.1
        replace hok := hok.2
        refine va_iast hx hb hK hP hD hS 22 0 rfl rfl h36 (dd_of dX12_addDyke_1 1 rfl) (fun H locs hP hD hS => ?_)
        obtain ⟨F37, e38⟩ : ∃ z : jF, z = u2 F33 33 (Int32.toNatClampNeg (F33 32 0)) p1 := ⟨_, rfl⟩
        have hP : va_P D vwCl (mW yy A F37 G3) H := by rw [e38]; exact hP
        have hD : va_D Z (mW yy A F37 G3) := by rw [e38]; exact hD
        replace hres := bvE e38 hres
        replace hok := bvO e38 hok
        refine lv_aload_n hx hb (dd_of dX12_addDyke_1 2 rfl) rfl (lv_at hl 0 rfl) ?_
        refine va_get (D := D) (cl := vwCl) (tys := jT yy) (ci := 12) (v := .ref (A 34)) (C := RX12) (T := TX12) (N := 61) hx hb hts hin12 hown hK hP 0 rfl rfl 34 (by decide) (jw hts gw147) (fun _ h9 => h9) rfl (dd_of dX12_addDyke_1 3 rfl) ?_
        refine lv_aload_n hx hb (dd_of dX12_addDyke_1 4 rfl) rfl (lv_at hl 0 rfl) ?_
        refine va_get (D := D) (cl := vwCl) (tys := jT yy) (ci := 12) (v := .int (F37 32 0)) (C := RX12) (T := TX12) (N := 61) hx hb hts hin12 hown hK hP 0 rfl rfl 32 (by decide) (jw hts gw707) (fun _ h9 => h9) rfl (dd_of dX12_addDyke_1 5 rfl) ?_
        refine lv_iload_n hx hb (dd_of dX12_addDyke_1 6 rfl) rfl (lv_at hl 2 rfl) ?_
        have h39 := hok.1
        replace hok := hok.2
        refine va_iast hx hb hK hP hD hS 23 0 rfl rfl h39 (dd_of dX12_addDyke_1 7 rfl) (fun H locs hP hD hS => ?_)
        obtain ⟨F40, e41⟩ : ∃ z : jF, z = u2 F37 34 (Int32.toNatClampNeg (F37 32 0)) p2 := ⟨_, rfl⟩
        have hP : va_P D vwCl (mW yy A F40 G3) H := by rw [e41]; exact hP
        have hD : va_D Z (mW yy A F40 G3) := by rw [e41]; exact hD
        replace hres := bvE e41 hres
        replace hok := bvO e41 hok
        refine lv_aload_n hx hb (dd_of dX12_addDyke_1 8 rfl) rfl (lv_at hl 0 rfl) ?_
        refine va_get (D := D) (cl := vwCl) (tys := jT yy) (ci := 12) (v := .ref (A 35)) (C := RX12) (T := TX12) (N := 61) hx hb hts hin12 hown hK hP 0 rfl rfl 35 (by decide) (jw hts gw148) (fun _ h9 => h9) rfl (dd_of dX12_addDyke_1 9 rfl) ?_
        refine lv_aload_n hx hb (dd_of dX12_addDyke_1 10 rfl) rfl (lv_at hl 0 rfl) ?_
        refine va_get (D := D) (cl := vwCl) (tys := jT yy) (ci := 12) (v := .int (F40 32 0)) (C := RX12) (T := TX12) (N := 61) hx hb hts hin12 hown hK hP 0 rfl rfl 32 (by decide) (jw hts gw707) (fun _ h9 => h9) rfl (dd_of dX12_addDyke_1 11 rfl) ?_
        refine lv_iload_n hx hb (dd_of dX12_addDyke_1 12 rfl) rfl (lv_at hl 3 rfl) ?_
        have h42 := hok.1
        replace hok := hok.2
        refine va_iast hx hb hK hP hD hS 24 0 rfl rfl h42 (dd_of dX12_addDyke_1 13 rfl) (fun H locs hP hD hS => ?_)
        obtain ⟨F43, e44⟩ : ∃ z : jF, z = u2 F40 35 (Int32.toNatClampNeg (F40 32 0)) p3 := ⟨_, rfl⟩
        have hP : va_P D vwCl (mW yy A F43 G3) H := by rw [e44]; exact hP
        have hD : va_D Z (mW yy A F43 G3) := by rw [e44]; exact hD
        replace hres := bvE e44 hres
        replace hok := bvO e44 hok
        refine lv_aload_n hx hb (dd_of dX12_addDyke_1 14 rfl) rfl (lv_at hl 0 rfl) ?_
        refine va_get (D := D) (cl := vwCl) (tys := jT yy) (ci := 12) (v := .ref (A 36)) (C := RX12) (T := TX12) (N := 61) hx hb hts hin12 hown hK hP 0 rfl rfl 36 (by decide) (jw hts gw149) (fun _ h9 => h9) rfl (dd_of dX12_addDyke_1 15 rfl) ?_
        refine lv_aload_n hx hb (dd_of dX12_addDyke_1 16 rfl) rfl (lv_at hl 0 rfl) ?_
        refine va_get (D := D) (cl := vwCl) (tys := jT yy) (ci := 12) (v := .int (F43 32 0)) (C := RX12) (T := TX12) (N := 61) hx hb hts hin12 hown hK hP 0 rfl rfl 32 (by decide) (jw hts gw707) (fun _ h9 => h9) rfl (dd_of dX12_addDyke_1 17 rfl) ?_
        refine lv_iload hx hb (dd_of dX12_addDyke_1 18 rfl) (lv_at hl 4 rfl) ?_
        have h45 := hok.1
        replace hok := hok.2
        refine va_iast hx hb hK hP hD hS 25 0 rfl rfl h45 (dd_of dX12_addDyke_1 19 rfl) (fun H locs hP hD hS => ?_)
        obtain ⟨F46, e47⟩ : ∃ z : jF, z = u2 F43 36 (Int32.toNatClampNeg (F43 32 0)) p4 := ⟨_, rfl⟩
        have hP : va_P D vwCl (mW yy A F46 G3) H := by rw [e47]; exact hP
        have hD : va_D Z (mW yy A F46 G3) := by rw [e47]; exact hD
        replace hres := bvE e47 hres
        replace hok := bvO e47 hok
        refine lv_aload_n hx hb (dd_of dX12_addDyke_1 20 rfl) rfl (lv_at hl 0 rfl) ?_
        refine va_get (D := D) (cl := vwCl) (tys := jT yy) (ci := 12) (v := .ref (A 37)) (C := RX12) (T := TX12) (N := 61) hx hb hts hin12 hown hK hP 0 rfl rfl 37 (by decide) (jw hts gw150) (fun _ h9 => h9) rfl (dd_of dX12_addDyke_1 21 rfl) ?_
        refine lv_aload_n hx hb (dd_of dX12_addDyke_1 22 rfl) rfl (lv_at hl 0 rfl) ?_
        refine va_get (D := D) (cl := vwCl) (tys := jT yy) (ci := 12) (v := .int (F46 32 0)) (C := RX12) (T := TX12) (N := 61) hx hb hts hin12 hown hK hP 0 rfl rfl 32 (by decide) (jw hts gw707) (fun _ h9 => h9) rfl (dd_of dX12_addDyke_1 23 rfl) ?_
        refine lv_iload hx hb (dd_of dX12_addDyke_1 24 rfl) (lv_at hl 5 rfl) ?_
        have h48 := hok
        refine va_iast hx hb hK hP hD hS 26 0 rfl rfl h48 (dd_of dX12_addDyke_1 25 rfl) (fun H locs hP hD hS => ?_)
        obtain ⟨F49, e50⟩ : ∃ z : jF, z = u2 F46 37 (Int32.toNatClampNeg (F46 32 0)) p5 := ⟨_, rfl⟩
        have hP : va_P D vwCl (mW yy A F49 G3) H := by rw [e50]; exact hP
        have hD : va_D Z (mW yy A F49 G3) := by rw [e50]; exact hD
        replace hres := bvE e50 hres
        refine lv_aload_n hx hb (dd_of dX12_addDyke_1 26 rfl) rfl (lv_at hl 0 rfl) ?_
        refine lv_dup hx hb (dd_of dX12_addDyke_1 27 rfl) rfl ?_
        refine va_get (D := D) (cl := vwCl) (tys := jT yy) (ci := 12) (v := .int (F49 32 0)) (C := RX12) (T := TX12) (N := 61) hx hb hts hin12 hown hK hP 0 rfl rfl 32 (by decide) (jw hts gw707) (fun _ h9 => h9) rfl (dd_of dX12_addDyke_1 28 rfl) ?_
        refine lv_iconst (v := 1) hx hb (dd_of dX12_addDyke_1 29 rfl) (by decide) ?_
        refine lv_iadd hx hb (dd_of dX12_addDyke_1 30 rfl) ?_
        refine va_put (D := D) (cl := vwCl) (tys := jT yy) (ci := 12) (v := .int ((F49 32 0) + 1)) (ty := .int) (C := RX12) (T := TX12) (N := 61) hx hb hts hin12 tyX12 tyX12_ok nmX12 hown hK hP hD hS 0 rfl rfl 32 (by decide) (jw hts gw707) (fun _ h9 => h9) rfl (by decide +kernel) rfl rfl (Nat.le_of_ble_eq_true rfl) (dd_of dX12_addDyke_1 31 rfl) (fun H locs hP hD hS => ?_)
        obtain ⟨F51, e52⟩ : ∃ z : jF, z = u2 F49 32 0 ((F49 32 0) + 1) := ⟨_, rfl⟩
        have hP : va_P D vwCl (mW yy A F51 G3) H := by rw [e52]; exact hP
        have hD : va_D Z (mW yy A F51 G3) := by rw [e52]; exact hD
        replace hres := bvE e52 hres
        refine lv_aload_n hx hb (dd_of dX12_addDyke_1 32 rfl) rfl (lv_at hl 0 rfl) ?_
        refine va_get (D := D) (cl := vwCl) (tys := jT yy) (ci := 12) (v := .int (F51 32 0)) (C := RX12) (T := TX12) (N := 61) hx hb hts hin12 hown hK hP 0 rfl rfl 32 (by decide) (jw hts gw707) (fun _ h9 => h9) rfl (dd_of dX12_addDyke_1 33 rfl) ?_
        refine lv_iconst (v := 1) hx hb (dd_of dX12_addDyke_1 34 rfl) (by decide) ?_
        refine lv_isub hx hb (dd_of dX12_addDyke_1 35 rfl) ?_
        subst hQ
        exact W.iret (v := ((F51 32 0) - 1)) hx hb hr (fun t ht hW => ⟨⟨((F51 32 0) - 1), (F51, G3), rfl, hres, by rw [ht]; exact hP, va_K.moved hW.alike hK, hD⟩, hS.F ht⟩) hS.2.2 (dd_of dX12_addDyke_1 36 rfl) hlk
      · replace hres := ifN c35 hres
        refine lv_iconst (v := 0) hx hb (dd_of dX12_addDyke_0 34 rfl) (by decide) ?_
        subst hQ
        exact W.iret (v := 0) hx hb hr (fun t ht hW => ⟨⟨0, (F33, G3), rfl, hres, by rw [ht]; exact hP, va_K.moved hW.alike hK, hD⟩, hS.F ht⟩) hS.2.2 (dd_of dX12_addDyke_0 35 rfl) hlk
    · skip
      refine lv_if_eq (tgt := 46) hx hb (dd_of dX12_addDyke_0 10 rfl) (by decide) (fun c26 => ?_) (fun c26 => ?_)
      · replace q53 := ifE c26 q53
        refine lv_iconst (v := 2) hx hb (dd_of dX12_addDyke_0 21 rfl) (by decide) ?_
        refine lv_goto (tgt := 64) hx hb (dd_of dX12_addDyke_0 22 rfl) (by decide) ?_
        exact K55 _ q53
      · replace q53 := ifN c26 q53
        refine lv_iload hx hb (dd_of dX12_addDyke_0 11 rfl) (lv_at hl 4 rfl) ?_
        refine lv_iconst (v := 1) hx hb (dd_of dX12_addDyke_0 12 rfl) (by decide) ?_
        refine lv_sipush (v := 999) hx hb (dd_of dX12_addDyke_0 13 rfl) (by decide) ?_
        refine jc_si (As := [.int p4, .int 1, .int 999]) (rest := [.ref (A 99)]) ⟨hx, hb, hml, hown, hts⟩ (qX12_in l p4 1 999 ) (cwS 3 hts (jgS gw591 gw592 gw5 gw593) rfl rfl rfl (by decide +kernel) ⟨Nat.le_of_ble_eq_true rfl, Nat.le_of_ble_eq_true rfl⟩) rfl hl.1 rfl (Nat.le_of_ble_eq_true rfl) (dd_of dX12_addDyke_0 14 rfl) ⟨Nat.zero_le _, Nat.zero_le _⟩ (fun x27 ex27 => ?_)
        replace q53 := bvE ex27 q53
        refine lv_if_eq (tgt := 46) hx hb (dd_of dX12_addDyke_0 15 rfl) (by decide) (fun c28 => ?_) (fun c28 => ?_)
        · replace q53 := ifE c28 q53
          refine lv_iconst (v := 2) hx hb (dd_of dX12_addDyke_0 21 rfl) (by decide) ?_
          refine lv_goto (tgt := 64) hx hb (dd_of dX12_addDyke_0 22 rfl) (by decide) ?_
          exact K55 _ q53
        · replace q53 := ifN c28 q53
          refine lv_iload hx hb (dd_of dX12_addDyke_0 16 rfl) (lv_at hl 5 rfl) ?_
          refine lv_iconst (v := 0) hx hb (dd_of dX12_addDyke_0 17 rfl) (by decide) ?_
          refine lv_bipush (v := 99) hx hb (dd_of dX12_addDyke_0 18 rfl) (by decide) ?_
          refine jc_si (As := [.int p5, .int 0, .int 99]) (rest := [.ref (A 99)]) ⟨hx, hb, hml, hown, hts⟩ (qX12_in l p5 0 99 ) (cwS 3 hts (jgS gw591 gw592 gw5 gw593) rfl rfl rfl (by decide +kernel) ⟨Nat.le_of_ble_eq_true rfl, Nat.le_of_ble_eq_true rfl⟩) rfl hl.1 rfl (Nat.le_of_ble_eq_true rfl) (dd_of dX12_addDyke_0 19 rfl) ⟨Nat.zero_le _, Nat.zero_le _⟩ (fun x29 ex29 => ?_)
          replace q53 := bvE ex29 q53
          refine lv_if_ne (tgt := 50) hx hb (dd_of dX12_addDyke_0 20 rfl) (by decide) (fun c30 => ?_) (fun c30 => ?_)
          · replace q53 := ifN c30 q53
            refine lv_aload_n hx hb (dd_of dX12_addDyke_0 23 rfl) rfl (lv_at hl 0 rfl) ?_
            refine va_get (D := D) (cl := vwCl) (tys := jT yy) (ci := 12) (v := .int (F2 32 0)) (C := RX12) (T := TX12) (N := 61) hx hb hts hin12 hown hK hP 0 rfl rfl 32 (by decide) (jw hts gw707) (fun _ h9 => h9) rfl (dd_of dX12_addDyke_0 24 rfl) ?_
            refine lv_bipush (v := 8) hx hb (dd_of dX12_addDyke_0 25 rfl) (by decide) ?_
            refine lv_icmp_ne (tgt := 63) hx hb (dd_of dX12_addDyke_0 26 rfl) (by decide) (fun c31 => ?_) (fun c31 => ?_)
            · replace q53 := ifN c31 q53
              refine lv_iconst (v := 0) hx hb (dd_of dX12_addDyke_0 29 rfl) (by decide) ?_
              exact K55 _ q53
            · replace q53 := ifE c31 q53
              refine lv_iconst (v := 3) hx hb (dd_of dX12_addDyke_0 27 rfl) (by decide) ?_
              refine lv_goto (tgt := 64) hx hb (dd_of dX12_addDyke_0 28 rfl) (by decide) ?_
              exact K55 _ q53
          · replace q53 := ifE c30 q53
            refine lv_iconst (v := 2) hx hb (dd_of dX12_addDyke_0 21 rfl) (by decide) ?_
            refine lv_goto (tgt := 64) hx hb (dd_of dX12_addDyke_0 22 rfl) (by decide) ?_
            exact K55 _ q53
set_option maxHeartbeats 4000000 in
set_option maxRecDepth 100000 in
theorem qX12_setOutside (l : Launch) (D : va_G) (yy : Nat → ClassId) (A : Nat → Nat) (F : jF) (G : jG) (sz : Nat) (p1 : Int32) (p2 : Int32) (p3 : Int32) : Met l yX12_setOutside (Cond.code yX12_setOutside cX12_setOutside 4 none :: wsL_law) rmX12_setOutside (va_Pc [.ref (A 99), .int p1, .int p2, .int p3] (jP D yy (mW yy A F G) sz)) (va_Qv (fun u : jS => u = gX12_setOutside F G p1 p2 p3) (fun (u : jS) t => jB D yy (va_A (mW yy A F G) sz) (mW yy A u.1 u.2) t) (va_A (mW yy A F G) sz)) 0 0 (va_A (mW yy A F G) sz) := by
  generalize hres : gX12_setOutside F G p1 p2 p3 = RES
  refine jM (own := RX12) (by decide) rfl (Nat.le_of_ble_eq_true rfl) ?_
  intro p e s m args below meth c ls Q hQ hargs S hr hlk hinit hB hl
  obtain ⟨hx, hb, hml, hown, hts⟩ := S
  have hl : lv_has ls 4 [(0, .ref (A 99)), (1, .int p1), (2, .int p2), (3, .int p3)] := hl
  have hin12 : ∀ w ∈ u_ws RX12 TX12 61, w ∈ (Cond.code yX12_setOutside cX12_setOutside 4 none :: wsL_law) := fun w h => List.mem_cons_of_mem _ (inlX12 w h)
  obtain ⟨hsz, hP, hK, hD0⟩ := hB
  subst hsz
  have hD := hD0.self (sz := s.heap.size)
  generalize hZ : va_A (mW yy A F G) s.heap.size = Z at hD hQ
  have hA : ∀ q : Nat, s.heap.size ≤ q → Z q := fun q h => by rw [← hZ]; exact Or.inr h
  obtain ⟨H, hH⟩ : ∃ z, z = s.heap := ⟨_, rfl⟩
  obtain ⟨locs, hlocs⟩ : ∃ z : List Loc, z = [] := ⟨_, rfl⟩
  have hS : va_S Z s.heap H locs := by rw [hH, hlocs]; exact va_S.rf
  rw [← hH] at hP
  suffices hgo : W p l e rmX12_setOutside s m args below meth c H locs 0 0 Q (F0 m 0 ls []) by rw [hH, hlocs] at hgo; exact hgo
  unfold gX12_setOutside at hres
  refine lv_aload_n hx hb (dd_of dX12_setOutside_0 0 rfl) rfl (lv_at hl 0 rfl) ?_
  refine lv_iload_n hx hb (dd_of dX12_setOutside_0 1 rfl) rfl (lv_at hl 1 rfl) ?_
  refine lv_bipush (v := (-99)) hx hb (dd_of dX12_setOutside_0 2 rfl) (by decide) ?_
  refine lv_bipush (v := 99) hx hb (dd_of dX12_setOutside_0 3 rfl) (by decide) ?_
  refine jc_si (As := [.int p1, .int (-99), .int 99]) (rest := [.ref (A 99)]) ⟨hx, hb, hml, hown, hts⟩ (qX12_in l p1 (-99) 99 ) (cwS 3 hts (jgS gw591 gw592 gw5 gw593) rfl rfl rfl (by decide +kernel) ⟨Nat.le_of_ble_eq_true rfl, Nat.le_of_ble_eq_true rfl⟩) rfl hl.1 rfl (Nat.le_of_ble_eq_true rfl) (dd_of dX12_setOutside_0 4 rfl) ⟨Nat.zero_le _, Nat.zero_le _⟩ (fun x1 ex1 => ?_)
  replace hres := bvE ex1 hres
  obtain ⟨z18, q17⟩ : ∃ z : Int32, (if x1 = 0 then 1 else bv (gX12_in p2 0 400) (fun x3 : Int32 => (if x3 = 0 then 1 else bv (gX12_in p3 (-9999) 99999) (fun x5 : Int32 => (if x5 = 0 then 1 else 0))))) = z := ⟨_, rfl⟩
  refine jn_i (ls := ls) (v := z18) 40 [.ref (A 99)] (fun v7 ev7 => ?_) (fun K19 => ?_)
  · replace hres := bvE (ev7.trans q17.symm) hres
    refine va_put (D := D) (cl := vwCl) (tys := jT yy) (ci := 12) (v := .int v7) (ty := .int) (C := RX12) (T := TX12) (N := 61) hx hb hts hin12 tyX12 tyX12_ok nmX12 hown hK hP hD hS 0 rfl rfl 60 (by decide) (jw hts gw590) (fun _ h9 => h9) rfl (by decide +kernel) rfl rfl (Nat.le_of_ble_eq_true rfl) (dd_of dX12_setOutside_0 19 rfl) (fun H locs hP hD hS => ?_)
    obtain ⟨F8, e9⟩ : ∃ z : jF, z = u2 F 60 0 v7 := ⟨_, rfl⟩
    have hP : va_P D vwCl (mW yy A F8 G) H := by rw [e9]; exact hP
    have hD : va_D Z (mW yy A F8 G) := by rw [e9]; exact hD
    replace hres := bvE e9 hres
    refine lv_aload_n hx hb (dd_of dX12_setOutside_0 20 rfl) rfl (lv_at hl 0 rfl) ?_
    refine va_get (D := D) (cl := vwCl) (tys := jT yy) (ci := 12) (v := .int (F8 60 0)) (C := RX12) (T := TX12) (N := 61) hx hb hts hin12 hown hK hP 0 rfl rfl 60 (by decide) (jw hts gw590) (fun _ h9 => h9) rfl (dd_of dX12_setOutside_0 21 rfl) ?_
    refine lv_if_ne (tgt := 65) hx hb (dd_of dX12_setOutside_0 22 rfl) (by decide) (fun c10 => ?_) (fun c10 => ?_)
    · replace hres := ifN c10 hres
      subst hQ
      exact W.vret hx hb hr (fun t ht hW => ⟨⟨(F8, G), rfl, hres, by rw [ht]; exact hP, va_K.moved hW.alike hK, hD⟩, hS.F ht⟩) hS.2.2 (dd_of dX12_setOutside_0 32 rfl) hlk
    · replace hres := ifE c10 hres
      refine lv_aload_n hx hb (dd_of dX12_setOutside_0 23 rfl) rfl (lv_at hl 0 rfl) ?_
      refine lv_iload_n hx hb (dd_of dX12_setOutside_0 24 rfl) rfl (lv_at hl 1 rfl) ?_
      refine va_put (D := D) (cl := vwCl) (tys := jT yy) (ci := 12) (v := .int p1) (ty := .int) (C := RX12) (T := TX12) (N := 61) hx hb hts hin12 tyX12 tyX12_ok nmX12 hown hK hP hD hS 0 rfl rfl 5 (by decide) (jw hts gw721) (fun _ h9 => h9) rfl (by decide +kernel) rfl rfl (Nat.le_of_ble_eq_true rfl) (dd_of dX12_setOutside_0 25 rfl) (fun H locs hP hD hS => ?_)
      obtain ⟨F11, e12⟩ : ∃ z : jF, z = u2 F8 5 0 p1 := ⟨_, rfl⟩
      have hP : va_P D vwCl (mW yy A F11 G) H := by rw [e12]; exact hP
      have hD : va_D Z (mW yy A F11 G) := by rw [e12]; exact hD
      replace hres := bvE e12 hres
      refine lv_aload_n hx hb (dd_of dX12_setOutside_0 26 rfl) rfl (lv_at hl 0 rfl) ?_
      refine lv_iload_n hx hb (dd_of dX12_setOutside_0 27 rfl) rfl (lv_at hl 2 rfl) ?_
      refine va_put (D := D) (cl := vwCl) (tys := jT yy) (ci := 12) (v := .int p2) (ty := .int) (C := RX12) (T := TX12) (N := 61) hx hb hts hin12 tyX12 tyX12_ok nmX12 hown hK hP hD hS 0 rfl rfl 6 (by decide) (jw hts gw124) (fun _ h9 => h9) rfl (by decide +kernel) rfl rfl (Nat.le_of_ble_eq_true rfl) (dd_of dX12_setOutside_0 28 rfl) (fun H locs hP hD hS => ?_)
      obtain ⟨F13, e14⟩ : ∃ z : jF, z = u2 F11 6 0 p2 := ⟨_, rfl⟩
      have hP : va_P D vwCl (mW yy A F13 G) H := by rw [e14]; exact hP
      have hD : va_D Z (mW yy A F13 G) := by rw [e14]; exact hD
      replace hres := bvE e14 hres
      refine lv_aload_n hx hb (dd_of dX12_setOutside_0 29 rfl) rfl (lv_at hl 0 rfl) ?_
      refine lv_iload_n hx hb (dd_of dX12_setOutside_0 30 rfl) rfl (lv_at hl 3 rfl) ?_
      refine va_put (D := D) (cl := vwCl) (tys := jT yy) (ci := 12) (v := .int p3) (ty := .int) (C := RX12) (T := TX12) (N := 61) hx hb hts hin12 tyX12 tyX12_ok nmX12 hown hK hP hD hS 0 rfl rfl 7 (by decide) (jw hts gw722) (fun _ h9 => h9) rfl (by decide +kernel) rfl rfl (Nat.le_of_ble_eq_true rfl) (dd_of dX12_setOutside_0 31 rfl) (fun H locs hP hD hS => ?_)
      obtain ⟨F15, e16⟩ : ∃ z : jF, z = u2 F13 7 0 p3 := ⟨_, rfl⟩
      have hP : va_P D vwCl (mW yy A F15 G) H := by rw [e16]; exact hP
      have hD : va_D Z (mW yy A F15 G) := by rw [e16]; exact hD
      replace hres := bvE e16 hres
      subst hQ
      exact W.vret hx hb hr (fun t ht hW => ⟨⟨(F15, G), rfl, hres, by rw [ht]; exact hP, va_K.moved hW.alike hK, hD⟩, hS.F ht⟩) hS.2.2 (dd_of dX12_setOutside_0 32 rfl) hlk
  · skip
    refine lv_if_eq (tgt := 39) hx hb (dd_of dX12_setOutside_0 5 rfl) (by decide) (fun c2 => ?_) (fun c2 => ?_)
    · replace q17 := ifE c2 q17
      refine lv_iconst (v := 1) hx hb (dd_of dX12_setOutside_0 18 rfl) (by decide) ?_
      exact K19 _ q17
    · replace q17 := ifN c2 q17
      refine lv_iload_n hx hb (dd_of dX12_setOutside_0 6 rfl) rfl (lv_at hl 2 rfl) ?_
      refine lv_iconst (v := 0) hx hb (dd_of dX12_setOutside_0 7 rfl) (by decide) ?_
      refine lv_sipush (v := 400) hx hb (dd_of dX12_setOutside_0 8 rfl) (by decide) ?_
      refine jc_si (As := [.int p2, .int 0, .int 400]) (rest := [.ref (A 99)]) ⟨hx, hb, hml, hown, hts⟩ (qX12_in l p2 0 400 ) (cwS 3 hts (jgS gw591 gw592 gw5 gw593) rfl rfl rfl (by decide +kernel) ⟨Nat.le_of_ble_eq_true rfl, Nat.le_of_ble_eq_true rfl⟩) rfl hl.1 rfl (Nat.le_of_ble_eq_true rfl) (dd_of dX12_setOutside_0 9 rfl) ⟨Nat.zero_le _, Nat.zero_le _⟩ (fun x3 ex3 => ?_)
      replace q17 := bvE ex3 q17
      refine lv_if_eq (tgt := 39) hx hb (dd_of dX12_setOutside_0 10 rfl) (by decide) (fun c4 => ?_) (fun c4 => ?_)
      · replace q17 := ifE c4 q17
        refine lv_iconst (v := 1) hx hb (dd_of dX12_setOutside_0 18 rfl) (by decide) ?_
        exact K19 _ q17
      · replace q17 := ifN c4 q17
        refine lv_iload_n hx hb (dd_of dX12_setOutside_0 11 rfl) rfl (lv_at hl 3 rfl) ?_
        refine lv_sipush (v := (-9999)) hx hb (dd_of dX12_setOutside_0 12 rfl) (by decide) ?_
        refine lv_ldc (v := 99999) hx hb hown (jw hts gw720) (dd_of dX12_setOutside_0 13 rfl) ?_
        refine jc_si (As := [.int p3, .int (-9999), .int 99999]) (rest := [.ref (A 99)]) ⟨hx, hb, hml, hown, hts⟩ (qX12_in l p3 (-9999) 99999 ) (cwS 3 hts (jgS gw591 gw592 gw5 gw593) rfl rfl rfl (by decide +kernel) ⟨Nat.le_of_ble_eq_true rfl, Nat.le_of_ble_eq_true rfl⟩) rfl hl.1 rfl (Nat.le_of_ble_eq_true rfl) (dd_of dX12_setOutside_0 14 rfl) ⟨Nat.zero_le _, Nat.zero_le _⟩ (fun x5 ex5 => ?_)
        replace q17 := bvE ex5 q17
        refine lv_if_eq (tgt := 39) hx hb (dd_of dX12_setOutside_0 15 rfl) (by decide) (fun c6 => ?_) (fun c6 => ?_)
        · replace q17 := ifE c6 q17
          refine lv_iconst (v := 1) hx hb (dd_of dX12_setOutside_0 18 rfl) (by decide) ?_
          exact K19 _ q17
        · replace q17 := ifN c6 q17
          refine lv_iconst (v := 0) hx hb (dd_of dX12_setOutside_0 16 rfl) (by decide) ?_
          refine lv_goto (tgt := 40) hx hb (dd_of dX12_setOutside_0 17 rfl) (by decide) ?_
          exact K19 _ q17
set_option maxHeartbeats 4000000 in
set_option maxRecDepth 100000 in
theorem qX12_storm (l : Launch) (D : va_G) (yy : Nat → ClassId) (A : Nat → Nat) (F : jF) (G : jG) (sz : Nat) (p1 : Int32) (p2 : Int32) (p3 : Int32) (hok : okX12_storm F G p1 p2 p3) : Met l yX12_storm (Cond.code yX12_storm cX12_storm 4 (some .int) :: wsL_law) rmX12_storm (va_Pc [.ref (A 99), .int p1, .int p2, .int p3] (jP D yy (mW yy A F G) sz)) (va_Qi (fun r (u : jS) => (r, u) = gX12_storm F G p1 p2 p3) (fun (u : jS) t => jB D yy (va_A (mW yy A F G) sz) (mW yy A u.1 u.2) t) (va_A (mW yy A F G) sz)) 0 0 (va_A (mW yy A F G) sz) := by
  generalize hres : gX12_storm F G p1 p2 p3 = RES
  refine jM (own := RX12) (by decide) rfl (Nat.le_of_ble_eq_true rfl) ?_
  intro p e s m args below meth c ls Q hQ hargs S hr hlk hinit hB hl
  obtain ⟨hx, hb, hml, hown, hts⟩ := S
  have hl : lv_has ls 4 [(0, .ref (A 99)), (1, .int p1), (2, .int p2), (3, .int p3)] := hl
  have hin12 : ∀ w ∈ u_ws RX12 TX12 61, w ∈ (Cond.code yX12_storm cX12_storm 4 (some .int) :: wsL_law) := fun w h => List.mem_cons_of_mem _ (inlX12 w h)
  obtain ⟨hsz, hP, hK, hD0⟩ := hB
  subst hsz
  have hD := hD0.self (sz := s.heap.size)
  generalize hZ : va_A (mW yy A F G) s.heap.size = Z at hD hQ
  have hA : ∀ q : Nat, s.heap.size ≤ q → Z q := fun q h => by rw [← hZ]; exact Or.inr h
  obtain ⟨H, hH⟩ : ∃ z, z = s.heap := ⟨_, rfl⟩
  obtain ⟨locs, hlocs⟩ : ∃ z : List Loc, z = [] := ⟨_, rfl⟩
  have hS : va_S Z s.heap H locs := by rw [hH, hlocs]; exact va_S.rf
  rw [← hH] at hP
  suffices hgo : W p l e rmX12_storm s m args below meth c H locs 0 0 Q (F0 m 0 ls []) by rw [hH, hlocs] at hgo; exact hgo
  unfold gX12_storm at hres
  unfold okX12_storm at hok
  refine lv_aload_n hx hb (dd_of dX12_storm_0 0 rfl) rfl (lv_at hl 0 rfl) ?_
  refine lv_iload_n hx hb (dd_of dX12_storm_0 1 rfl) rfl (lv_at hl 1 rfl) ?_
  refine lv_iconst (v := 0) hx hb (dd_of dX12_storm_0 2 rfl) (by decide) ?_
  refine lv_sipush (v := 9999) hx hb (dd_of dX12_storm_0 3 rfl) (by decide) ?_
  refine jc_si (As := [.int p1, .int 0, .int 9999]) (rest := [.ref (A 99)]) ⟨hx, hb, hml, hown, hts⟩ (qX12_in l p1 0 9999 ) (cwS 3 hts (jgS gw591 gw592 gw5 gw593) rfl rfl rfl (by decide +kernel) ⟨Nat.le_of_ble_eq_true rfl, Nat.le_of_ble_eq_true rfl⟩) rfl hl.1 rfl (Nat.le_of_ble_eq_true rfl) (dd_of dX12_storm_0 4 rfl) ⟨Nat.zero_le _, Nat.zero_le _⟩ (fun x1 ex1 => ?_)
  replace hres := bvE ex1 hres
  replace hok := bvO ex1 hok
  obtain ⟨z24, q23⟩ : ∃ z : Int32, (if x1 = 0 then 1 else bv (gX12_in p2 1 99) (fun x3 : Int32 => (if x3 = 0 then 1 else bv (gX12_in p3 1 500) (fun x5 : Int32 => (if x5 = 0 then 1 else (if (F 40 0) = 12 then 2 else 0)))))) = z := ⟨_, rfl⟩
  refine jn_i (ls := ls) (v := z24) 51 [.ref (A 99)] (fun v8 ev8 => ?_) (fun K25 => ?_)
  · replace hres := bvE (ev8.trans q23.symm) hres
    replace hok := bvO (ev8.trans q23.symm) hok
    refine va_put (D := D) (cl := vwCl) (tys := jT yy) (ci := 12) (v := .int v8) (ty := .int) (C := RX12) (T := TX12) (N := 61) hx hb hts hin12 tyX12 tyX12_ok nmX12 hown hK hP hD hS 0 rfl rfl 60 (by decide) (jw hts gw590) (fun _ h9 => h9) rfl (by decide +kernel) rfl rfl (Nat.le_of_ble_eq_true rfl) (dd_of dX12_storm_0 25 rfl) (fun H locs hP hD hS => ?_)
    obtain ⟨F9, e10⟩ : ∃ z : jF, z = u2 F 60 0 v8 := ⟨_, rfl⟩
    have hP : va_P D vwCl (mW yy A F9 G) H := by rw [e10]; exact hP
    have hD : va_D Z (mW yy A F9 G) := by rw [e10]; exact hD
    replace hres := bvE e10 hres
    replace hok := bvO e10 hok
    refine lv_aload_n hx hb (dd_of dX12_storm_0 26 rfl) rfl (lv_at hl 0 rfl) ?_
    refine va_get (D := D) (cl := vwCl) (tys := jT yy) (ci := 12) (v := .int (F9 60 0)) (C := RX12) (T := TX12) (N := 61) hx hb hts hin12 hown hK hP 0 rfl rfl 60 (by decide) (jw hts gw590) (fun _ h9 => h9) rfl (dd_of dX12_storm_0 27 rfl) ?_
    refine lv_if_le (tgt := 63) hx hb (dd_of dX12_storm_0 28 rfl) (by decide) (fun c11 => ?_) (fun c11 => ?_)
    · replace hres := ifE c11 hres
      replace hok := hok.1 c11
      refine lv_aload_n hx hb (dd_of dX12_storm_0 31 rfl) rfl (lv_at hl 0 rfl) ?_
      refine va_get (D := D) (cl := vwCl) (tys := jT yy) (ci := 12) (v := .ref (A 41)) (C := RX12) (T := TX12) (N := 61) hx hb hts hin12 hown hK hP 0 rfl rfl 41 (by decide) (jw hts gw153) (fun _ h9 => h9) rfl (dd_of dX12_storm_0 32 rfl) ?_
      refine lv_aload_n hx hb (dd_of dX12_storm_0 33 rfl) rfl (lv_at hl 0 rfl) ?_
      refine va_get (D := D) (cl := vwCl) (tys := jT yy) (ci := 12) (v := .int (F9 40 0)) (C := RX12) (T := TX12) (N := 61) hx hb hts hin12 hown hK hP 0 rfl rfl 40 (by decide) (jw hts gw736) (fun _ h9 => h9) rfl (dd_of dX12_storm_0 34 rfl) ?_
      refine lv_iload_n hx hb (dd_of dX12_storm_0 35 rfl) rfl (lv_at hl 1 rfl) ?_
      have h12 := hok.1
      replace hok := hok.2
      refine va_iast hx hb hK hP hD hS 29 0 rfl rfl h12 (dd_of dX12_storm_0 36 rfl) (fun H locs hP hD hS => ?_)
      obtain ⟨F13, e14⟩ : ∃ z : jF, z = u2 F9 41 (Int32.toNatClampNeg (F9 40 0)) p1 := ⟨_, rfl⟩
      have hP : va_P D vwCl (mW yy A F13 G) H := by rw [e14]; exact hP
      have hD : va_D Z (mW yy A F13 G) := by rw [e14]; exact hD
      replace hres := bvE e14 hres
      replace hok := bvO e14 hok
      refine lv_aload_n hx hb (dd_of dX12_storm_0 37 rfl) rfl (lv_at hl 0 rfl) ?_
      refine va_get (D := D) (cl := vwCl) (tys := jT yy) (ci := 12) (v := .ref (A 42)) (C := RX12) (T := TX12) (N := 61) hx hb hts hin12 hown hK hP 0 rfl rfl 42 (by decide) (jw hts gw154) (fun _ h9 => h9) rfl (dd_of dX12_storm_0 38 rfl) ?_
      refine lv_aload_n hx hb (dd_of dX12_storm_0 39 rfl) rfl (lv_at hl 0 rfl) ?_
      refine va_get (D := D) (cl := vwCl) (tys := jT yy) (ci := 12) (v := .int (F13 40 0)) (C := RX12) (T := TX12) (N := 61) hx hb hts hin12 hown hK hP 0 rfl rfl 40 (by decide) (jw hts gw736) (fun _ h9 => h9) rfl (dd_of dX12_storm_1 0 rfl) ?_
      refine lv_iload_n hx hb (dd_of dX12_storm_1 1 rfl) rfl (lv_at hl 2 rfl) ?_
      have h15 := hok.1
      replace hok := hok.2
      refine va_iast hx hb hK hP hD hS 30 0 rfl rfl h15 (dd_of dX12_storm_1 2 rfl) (fun H locs hP hD hS => ?_)
      obtain ⟨F16, e17⟩ : ∃ z : jF, z = u2 F13 42 (Int32.toNatClampNeg (F13 40 0)) p2 := ⟨_, rfl⟩
      have hP : va_P D vwCl (mW yy A F16 G) H := by rw [e17]; exact hP
      have hD : va_D Z (mW yy A F16 G) := by rw [e17]; exact hD
      replace hres := bvE e17 hres
      replace hok := bvO e17 hok
      refine lv_aload_n hx hb (dd_of dX12_storm_1 3 rfl) rfl (lv_at hl 0 rfl) ?_
      refine va_get (D := D) (cl := vwCl) (tys := jT yy) (ci := 12) (v := .ref (A 43)) (C := RX12) (T := TX12) (N := 61) hx hb hts hin12 hown hK hP 0 rfl rfl 43 (by decide) (jw hts gw155) (fun _ h9 => h9) rfl (dd_of dX12_storm_1 4 rfl) ?_
      refine lv_aload_n hx hb (dd_of dX12_storm_1 5 rfl) rfl (lv_at hl 0 rfl) ?_
      refine va_get (D := D) (cl := vwCl) (tys := jT yy) (ci := 12) (v := .int (F16 40 0)) (C := RX12) (T := TX12) (N := 61) hx hb hts hin12 hown hK hP 0 rfl rfl 40 (by decide) (jw hts gw736) (fun _ h9 => h9) rfl (dd_of dX12_storm_1 6 rfl) ?_
      refine lv_iload_n hx hb (dd_of dX12_storm_1 7 rfl) rfl (lv_at hl 3 rfl) ?_
      have h18 := hok
      refine va_iast hx hb hK hP hD hS 31 0 rfl rfl h18 (dd_of dX12_storm_1 8 rfl) (fun H locs hP hD hS => ?_)
      obtain ⟨F19, e20⟩ : ∃ z : jF, z = u2 F16 43 (Int32.toNatClampNeg (F16 40 0)) p3 := ⟨_, rfl⟩
      have hP : va_P D vwCl (mW yy A F19 G) H := by rw [e20]; exact hP
      have hD : va_D Z (mW yy A F19 G) := by rw [e20]; exact hD
      replace hres := bvE e20 hres
      refine lv_aload_n hx hb (dd_of dX12_storm_1 9 rfl) rfl (lv_at hl 0 rfl) ?_
      refine lv_dup hx hb (dd_of dX12_storm_1 10 rfl) rfl ?_
      refine va_get (D := D) (cl := vwCl) (tys := jT yy) (ci := 12) (v := .int (F19 40 0)) (C := RX12) (T := TX12) (N := 61) hx hb hts hin12 hown hK hP 0 rfl rfl 40 (by decide) (jw hts gw736) (fun _ h9 => h9) rfl (dd_of dX12_storm_1 11 rfl) ?_
      refine lv_iconst (v := 1) hx hb (dd_of dX12_storm_1 12 rfl) (by decide) ?_
      refine lv_iadd hx hb (dd_of dX12_storm_1 13 rfl) ?_
      refine va_put (D := D) (cl := vwCl) (tys := jT yy) (ci := 12) (v := .int ((F19 40 0) + 1)) (ty := .int) (C := RX12) (T := TX12) (N := 61) hx hb hts hin12 tyX12 tyX12_ok nmX12 hown hK hP hD hS 0 rfl rfl 40 (by decide) (jw hts gw736) (fun _ h9 => h9) rfl (by decide +kernel) rfl rfl (Nat.le_of_ble_eq_true rfl) (dd_of dX12_storm_1 14 rfl) (fun H locs hP hD hS => ?_)
      obtain ⟨F21, e22⟩ : ∃ z : jF, z = u2 F19 40 0 ((F19 40 0) + 1) := ⟨_, rfl⟩
      have hP : va_P D vwCl (mW yy A F21 G) H := by rw [e22]; exact hP
      have hD : va_D Z (mW yy A F21 G) := by rw [e22]; exact hD
      replace hres := bvE e22 hres
      refine lv_aload_n hx hb (dd_of dX12_storm_1 15 rfl) rfl (lv_at hl 0 rfl) ?_
      refine va_get (D := D) (cl := vwCl) (tys := jT yy) (ci := 12) (v := .int (F21 40 0)) (C := RX12) (T := TX12) (N := 61) hx hb hts hin12 hown hK hP 0 rfl rfl 40 (by decide) (jw hts gw736) (fun _ h9 => h9) rfl (dd_of dX12_storm_1 16 rfl) ?_
      subst hQ
      exact W.iret (v := (F21 40 0)) hx hb hr (fun t ht hW => ⟨⟨(F21 40 0), (F21, G), rfl, hres, by rw [ht]; exact hP, va_K.moved hW.alike hK, hD⟩, hS.F ht⟩) hS.2.2 (dd_of dX12_storm_1 17 rfl) hlk
    · replace hres := ifN c11 hres
      refine lv_iconst (v := 0) hx hb (dd_of dX12_storm_0 29 rfl) (by decide) ?_
      subst hQ
      exact W.iret (v := 0) hx hb hr (fun t ht hW => ⟨⟨0, (F9, G), rfl, hres, by rw [ht]; exact hP, va_K.moved hW.alike hK, hD⟩, hS.F ht⟩) hS.2.2 (dd_of dX12_storm_0 30 rfl) hlk
  · skip
    refine lv_if_eq (tgt := 33) hx hb (dd_of dX12_storm_0 5 rfl) (by decide) (fun c2 => ?_) (fun c2 => ?_)
    · replace q23 := ifE c2 q23
      refine lv_iconst (v := 1) hx hb (dd_of dX12_storm_0 16 rfl) (by decide) ?_
      refine lv_goto (tgt := 51) hx hb (dd_of dX12_storm_0 17 rfl) (by decide) ?_
      exact K25 _ q23
    · replace q23 := ifN c2 q23
      refine lv_iload_n hx hb (dd_of dX12_storm_0 6 rfl) rfl (lv_at hl 2 rfl) ?_
      refine lv_iconst (v := 1) hx hb (dd_of dX12_storm_0 7 rfl) (by decide) ?_
      refine lv_bipush (v := 99) hx hb (dd_of dX12_storm_0 8 rfl) (by decide) ?_
      refine jc_si (As := [.int p2, .int 1, .int 99]) (rest := [.ref (A 99)]) ⟨hx, hb, hml, hown, hts⟩ (qX12_in l p2 1 99 ) (cwS 3 hts (jgS gw591 gw592 gw5 gw593) rfl rfl rfl (by decide +kernel) ⟨Nat.le_of_ble_eq_true rfl, Nat.le_of_ble_eq_true rfl⟩) rfl hl.1 rfl (Nat.le_of_ble_eq_true rfl) (dd_of dX12_storm_0 9 rfl) ⟨Nat.zero_le _, Nat.zero_le _⟩ (fun x3 ex3 => ?_)
      replace q23 := bvE ex3 q23
      refine lv_if_eq (tgt := 33) hx hb (dd_of dX12_storm_0 10 rfl) (by decide) (fun c4 => ?_) (fun c4 => ?_)
      · replace q23 := ifE c4 q23
        refine lv_iconst (v := 1) hx hb (dd_of dX12_storm_0 16 rfl) (by decide) ?_
        refine lv_goto (tgt := 51) hx hb (dd_of dX12_storm_0 17 rfl) (by decide) ?_
        exact K25 _ q23
      · replace q23 := ifN c4 q23
        refine lv_iload_n hx hb (dd_of dX12_storm_0 11 rfl) rfl (lv_at hl 3 rfl) ?_
        refine lv_iconst (v := 1) hx hb (dd_of dX12_storm_0 12 rfl) (by decide) ?_
        refine lv_sipush (v := 500) hx hb (dd_of dX12_storm_0 13 rfl) (by decide) ?_
        refine jc_si (As := [.int p3, .int 1, .int 500]) (rest := [.ref (A 99)]) ⟨hx, hb, hml, hown, hts⟩ (qX12_in l p3 1 500 ) (cwS 3 hts (jgS gw591 gw592 gw5 gw593) rfl rfl rfl (by decide +kernel) ⟨Nat.le_of_ble_eq_true rfl, Nat.le_of_ble_eq_true rfl⟩) rfl hl.1 rfl (Nat.le_of_ble_eq_true rfl) (dd_of dX12_storm_0 14 rfl) ⟨Nat.zero_le _, Nat.zero_le _⟩ (fun x5 ex5 => ?_)
        replace q23 := bvE ex5 q23
        refine lv_if_ne (tgt := 37) hx hb (dd_of dX12_storm_0 15 rfl) (by decide) (fun c6 => ?_) (fun c6 => ?_)
        · replace q23 := ifN c6 q23
          refine lv_aload_n hx hb (dd_of dX12_storm_0 18 rfl) rfl (lv_at hl 0 rfl) ?_
          refine va_get (D := D) (cl := vwCl) (tys := jT yy) (ci := 12) (v := .int (F 40 0)) (C := RX12) (T := TX12) (N := 61) hx hb hts hin12 hown hK hP 0 rfl rfl 40 (by decide) (jw hts gw736) (fun _ h9 => h9) rfl (dd_of dX12_storm_0 19 rfl) ?_
          refine lv_bipush (v := 12) hx hb (dd_of dX12_storm_0 20 rfl) (by decide) ?_
          refine lv_icmp_ne (tgt := 50) hx hb (dd_of dX12_storm_0 21 rfl) (by decide) (fun c7 => ?_) (fun c7 => ?_)
          · replace q23 := ifN c7 q23
            refine lv_iconst (v := 0) hx hb (dd_of dX12_storm_0 24 rfl) (by decide) ?_
            exact K25 _ q23
          · replace q23 := ifE c7 q23
            refine lv_iconst (v := 2) hx hb (dd_of dX12_storm_0 22 rfl) (by decide) ?_
            refine lv_goto (tgt := 51) hx hb (dd_of dX12_storm_0 23 rfl) (by decide) ?_
            exact K25 _ q23
        · replace q23 := ifE c6 q23
          refine lv_iconst (v := 1) hx hb (dd_of dX12_storm_0 16 rfl) (by decide) ?_
          refine lv_goto (tgt := 51) hx hb (dd_of dX12_storm_0 17 rfl) (by decide) ?_
          exact K25 _ q23
set_option maxHeartbeats 4000000 in
set_option maxRecDepth 100000 in
theorem qX12_rain (l : Launch) (D : va_G) (yy : Nat → ClassId) (A : Nat → Nat) (F : jF) (G : jG) (sz : Nat) (p1 : Int32) (p2 : Int32) (p3 : Int32) (p4 : Int32) (hok : okX12_rain F G p1 p2 p3 p4) : Met l yX12_rain (Cond.code yX12_rain cX12_rain 5 (some .int) :: wsL_law) rmX12_rain (va_Pc [.ref (A 99), .int p1, .int p2, .int p3, .int p4] (jP D yy (mW yy A F G) sz)) (va_Qi (fun r (u : jS) => (r, u) = gX12_rain F G p1 p2 p3 p4) (fun (u : jS) t => jB D yy (va_A (mW yy A F G) sz) (mW yy A u.1 u.2) t) (va_A (mW yy A F G) sz)) 0 0 (va_A (mW yy A F G) sz) := by
  generalize hres : gX12_rain F G p1 p2 p3 p4 = RES
  refine jM (own := RX12) (by decide) rfl (Nat.le_of_ble_eq_true rfl) ?_
  intro p e s m args below meth c ls Q hQ hargs S hr hlk hinit hB hl
  obtain ⟨hx, hb, hml, hown, hts⟩ := S
  have hl : lv_has ls 5 [(0, .ref (A 99)), (1, .int p1), (2, .int p2), (3, .int p3), (4, .int p4)] := hl
  have hin12 : ∀ w ∈ u_ws RX12 TX12 61, w ∈ (Cond.code yX12_rain cX12_rain 5 (some .int) :: wsL_law) := fun w h => List.mem_cons_of_mem _ (inlX12 w h)
  obtain ⟨hsz, hP, hK, hD0⟩ := hB
  subst hsz
  have hD := hD0.self (sz := s.heap.size)
  generalize hZ : va_A (mW yy A F G) s.heap.size = Z at hD hQ
  have hA : ∀ q : Nat, s.heap.size ≤ q → Z q := fun q h => by rw [← hZ]; exact Or.inr h
  obtain ⟨H, hH⟩ : ∃ z, z = s.heap := ⟨_, rfl⟩
  obtain ⟨locs, hlocs⟩ : ∃ z : List Loc, z = [] := ⟨_, rfl⟩
  have hS : va_S Z s.heap H locs := by rw [hH, hlocs]; exact va_S.rf
  rw [← hH] at hP
  suffices hgo : W p l e rmX12_rain s m args below meth c H locs 0 0 Q (F0 m 0 ls []) by rw [hH, hlocs] at hgo; exact hgo
  unfold gX12_rain at hres
  unfold okX12_rain at hok
  refine lv_aload_n hx hb (dd_of dX12_rain_0 0 rfl) rfl (lv_at hl 0 rfl) ?_
  refine lv_aload_n hx hb (dd_of dX12_rain_0 1 rfl) rfl (lv_at hl 0 rfl) ?_
  refine lv_iload_n hx hb (dd_of dX12_rain_0 2 rfl) rfl (lv_at hl 1 rfl) ?_
  have h1 := hok.1
  replace hok := hok.2
  refine jc_i (As := [.int p1]) (rest := [.ref (A 99)]) (w := (mW yy A F G)) (D := D) (yy := yy) ⟨hx, hb, hml, hown, hts⟩ (qX12_isBasin l D yy A F G p1 h1) (cwV 1 hts (jgV gw617 gw618 gw619 gw5 gw620) rfl rfl rfl (by decide +kernel) ⟨Nat.le_of_ble_eq_true rfl, Nat.le_of_ble_eq_true rfl⟩) hP hK (va_recv hK hP (ci := 12) (q0 := 0) rfl rfl) rfl hl.1 rfl (Nat.le_of_ble_eq_true rfl) (dd_of dX12_rain_0 3 rfl) ⟨Nat.zero_le _, Nat.zero_le _⟩ (fun x2 ex2 => ?_)
  replace hres := bvE ex2 hres
  replace hok := bvO ex2 hok
  obtain ⟨z30, q29⟩ : ∃ z : Int32, (if x2 = 0 then 1 else bv (gX12_in p2 0 9999) (fun x4 : Int32 => (if x4 = 0 then 2 else bv (gX12_in p3 1 99) (fun x6 : Int32 => (if x6 = 0 then 2 else bv (gX12_in p4 1 9999) (fun x8 : Int32 => (if x8 = 0 then 2 else (if (F 44 0) = 12 then 3 else 0)))))))) = z := ⟨_, rfl⟩
  refine jn_i (ls := ls) (v := z30) 64 [.ref (A 99)] (fun v11 ev11 => ?_) (fun K31 => ?_)
  · replace hres := bvE (ev11.trans q29.symm) hres
    replace hok := bvO (ev11.trans q29.symm) hok
    refine va_put (D := D) (cl := vwCl) (tys := jT yy) (ci := 12) (v := .int v11) (ty := .int) (C := RX12) (T := TX12) (N := 61) hx hb hts hin12 tyX12 tyX12_ok nmX12 hown hK hP hD hS 0 rfl rfl 60 (by decide) (jw hts gw590) (fun _ h9 => h9) rfl (by decide +kernel) rfl rfl (Nat.le_of_ble_eq_true rfl) (dd_of dX12_rain_0 31 rfl) (fun H locs hP hD hS => ?_)
    obtain ⟨F12, e13⟩ : ∃ z : jF, z = u2 F 60 0 v11 := ⟨_, rfl⟩
    have hP : va_P D vwCl (mW yy A F12 G) H := by rw [e13]; exact hP
    have hD : va_D Z (mW yy A F12 G) := by rw [e13]; exact hD
    replace hres := bvE e13 hres
    replace hok := bvO e13 hok
    refine lv_aload_n hx hb (dd_of dX12_rain_0 32 rfl) rfl (lv_at hl 0 rfl) ?_
    refine va_get (D := D) (cl := vwCl) (tys := jT yy) (ci := 12) (v := .int (F12 60 0)) (C := RX12) (T := TX12) (N := 61) hx hb hts hin12 hown hK hP 0 rfl rfl 60 (by decide) (jw hts gw590) (fun _ h9 => h9) rfl (dd_of dX12_rain_0 33 rfl) ?_
    refine lv_if_le (tgt := 76) hx hb (dd_of dX12_rain_0 34 rfl) (by decide) (fun c14 => ?_) (fun c14 => ?_)
    · replace hres := ifE c14 hres
      replace hok := hok.1 c14
      refine lv_aload_n hx hb (dd_of dX12_rain_0 37 rfl) rfl (lv_at hl 0 rfl) ?_
      refine va_get (D := D) (cl := vwCl) (tys := jT yy) (ci := 12) (v := .ref (A 45)) (C := RX12) (T := TX12) (N := 61) hx hb hts hin12 hown hK hP 0 rfl rfl 45 (by decide) (jw hts gw156) (fun _ h9 => h9) rfl (dd_of dX12_rain_0 38 rfl) ?_
      refine lv_aload_n hx hb (dd_of dX12_rain_0 39 rfl) rfl (lv_at hl 0 rfl) ?_
      refine va_get (D := D) (cl := vwCl) (tys := jT yy) (ci := 12) (v := .int (F12 44 0)) (C := RX12) (T := TX12) (N := 61) hx hb hts hin12 hown hK hP 0 rfl rfl 44 (by decide) (jw hts gw749) (fun _ h9 => h9) rfl (dd_of dX12_rain_1 0 rfl) ?_
      refine lv_iload_n hx hb (dd_of dX12_rain_1 1 rfl) rfl (lv_at hl 1 rfl) ?_
      have h15 := hok.1
      replace hok := hok.2
      refine va_iast hx hb hK hP hD hS 32 0 rfl rfl h15 (dd_of dX12_rain_1 2 rfl) (fun H locs hP hD hS => ?_)
      obtain ⟨F16, e17⟩ : ∃ z : jF, z = u2 F12 45 (Int32.toNatClampNeg (F12 44 0)) p1 := ⟨_, rfl⟩
      have hP : va_P D vwCl (mW yy A F16 G) H := by rw [e17]; exact hP
      have hD : va_D Z (mW yy A F16 G) := by rw [e17]; exact hD
      replace hres := bvE e17 hres
      replace hok := bvO e17 hok
      refine lv_aload_n hx hb (dd_of dX12_rain_1 3 rfl) rfl (lv_at hl 0 rfl) ?_
      refine va_get (D := D) (cl := vwCl) (tys := jT yy) (ci := 12) (v := .ref (A 46)) (C := RX12) (T := TX12) (N := 61) hx hb hts hin12 hown hK hP 0 rfl rfl 46 (by decide) (jw hts gw157) (fun _ h9 => h9) rfl (dd_of dX12_rain_1 4 rfl) ?_
      refine lv_aload_n hx hb (dd_of dX12_rain_1 5 rfl) rfl (lv_at hl 0 rfl) ?_
      refine va_get (D := D) (cl := vwCl) (tys := jT yy) (ci := 12) (v := .int (F16 44 0)) (C := RX12) (T := TX12) (N := 61) hx hb hts hin12 hown hK hP 0 rfl rfl 44 (by decide) (jw hts gw749) (fun _ h9 => h9) rfl (dd_of dX12_rain_1 6 rfl) ?_
      refine lv_iload_n hx hb (dd_of dX12_rain_1 7 rfl) rfl (lv_at hl 2 rfl) ?_
      have h18 := hok.1
      replace hok := hok.2
      refine va_iast hx hb hK hP hD hS 33 0 rfl rfl h18 (dd_of dX12_rain_1 8 rfl) (fun H locs hP hD hS => ?_)
      obtain ⟨F19, e20⟩ : ∃ z : jF, z = u2 F16 46 (Int32.toNatClampNeg (F16 44 0)) p2 := ⟨_, rfl⟩
      have hP : va_P D vwCl (mW yy A F19 G) H := by rw [e20]; exact hP
      have hD : va_D Z (mW yy A F19 G) := by rw [e20]; exact hD
      replace hres := bvE e20 hres
      replace hok := bvO e20 hok
      refine lv_aload_n hx hb (dd_of dX12_rain_1 9 rfl) rfl (lv_at hl 0 rfl) ?_
      refine va_get (D := D) (cl := vwCl) (tys := jT yy) (ci := 12) (v := .ref (A 47)) (C := RX12) (T := TX12) (N := 61) hx hb hts hin12 hown hK hP 0 rfl rfl 47 (by decide) (jw hts gw158) (fun _ h9 => h9) rfl (dd_of dX12_rain_1 10 rfl) ?_
      refine lv_aload_n hx hb (dd_of dX12_rain_1 11 rfl) rfl (lv_at hl 0 rfl) ?_
      refine va_get (D := D) (cl := vwCl) (tys := jT yy) (ci := 12) (v := .int (F19 44 0)) (C := RX12) (T := TX12) (N := 61) hx hb hts hin12 hown hK hP 0 rfl rfl 44 (by decide) (jw hts gw749) (fun _ h9 => h9) rfl (dd_of dX12_rain_1 12 rfl) ?_
      refine lv_iload_n hx hb (dd_of dX12_rain_1 13 rfl) rfl (lv_at hl 3 rfl) ?_
      have h21 := hok.1
      replace hok := hok.2
      refine va_iast hx hb hK hP hD hS 34 0 rfl rfl h21 (dd_of dX12_rain_1 14 rfl) (fun H locs hP hD hS => ?_)
      obtain ⟨F22, e23⟩ : ∃ z : jF, z = u2 F19 47 (Int32.toNatClampNeg (F19 44 0)) p3 := ⟨_, rfl⟩
      have hP : va_P D vwCl (mW yy A F22 G) H := by rw [e23]; exact hP
      have hD : va_D Z (mW yy A F22 G) := by rw [e23]; exact hD
      replace hres := bvE e23 hres
      replace hok := bvO e23 hok
      refine lv_aload_n hx hb (dd_of dX12_rain_1 15 rfl) rfl (lv_at hl 0 rfl) ?_
      refine va_get (D := D) (cl := vwCl) (tys := jT yy) (ci := 12) (v := .ref (A 48)) (C := RX12) (T := TX12) (N := 61) hx hb hts hin12 hown hK hP 0 rfl rfl 48 (by decide) (jw hts gw159) (fun _ h9 => h9) rfl (dd_of dX12_rain_1 16 rfl) ?_
      refine lv_aload_n hx hb (dd_of dX12_rain_1 17 rfl) rfl (lv_at hl 0 rfl) ?_
      refine va_get (D := D) (cl := vwCl) (tys := jT yy) (ci := 12) (v := .int (F22 44 0)) (C := RX12) (T := TX12) (N := 61) hx hb hts hin12 hown hK hP 0 rfl rfl 44 (by decide) (jw hts gw749) (fun _ h9 => h9) rfl (dd_of dX12_rain_1 18 rfl) ?_
      refine lv_iload hx hb (dd_of dX12_rain_1 19 rfl) (lv_at hl 4 rfl) ?_
      have h24 := hok
      refine va_iast hx hb hK hP hD hS 35 0 rfl rfl h24 (dd_of dX12_rain_1 20 rfl) (fun H locs hP hD hS => ?_)
      obtain ⟨F25, e26⟩ : ∃ z : jF, z = u2 F22 48 (Int32.toNatClampNeg (F22 44 0)) p4 := ⟨_, rfl⟩
      have hP : va_P D vwCl (mW yy A F25 G) H := by rw [e26]; exact hP
      have hD : va_D Z (mW yy A F25 G) := by rw [e26]; exact hD
      replace hres := bvE e26 hres
      refine lv_aload_n hx hb (dd_of dX12_rain_1 21 rfl) rfl (lv_at hl 0 rfl) ?_
      refine lv_dup hx hb (dd_of dX12_rain_1 22 rfl) rfl ?_
      refine va_get (D := D) (cl := vwCl) (tys := jT yy) (ci := 12) (v := .int (F25 44 0)) (C := RX12) (T := TX12) (N := 61) hx hb hts hin12 hown hK hP 0 rfl rfl 44 (by decide) (jw hts gw749) (fun _ h9 => h9) rfl (dd_of dX12_rain_1 23 rfl) ?_
      refine lv_iconst (v := 1) hx hb (dd_of dX12_rain_1 24 rfl) (by decide) ?_
      refine lv_iadd hx hb (dd_of dX12_rain_1 25 rfl) ?_
      refine va_put (D := D) (cl := vwCl) (tys := jT yy) (ci := 12) (v := .int ((F25 44 0) + 1)) (ty := .int) (C := RX12) (T := TX12) (N := 61) hx hb hts hin12 tyX12 tyX12_ok nmX12 hown hK hP hD hS 0 rfl rfl 44 (by decide) (jw hts gw749) (fun _ h9 => h9) rfl (by decide +kernel) rfl rfl (Nat.le_of_ble_eq_true rfl) (dd_of dX12_rain_1 26 rfl) (fun H locs hP hD hS => ?_)
      obtain ⟨F27, e28⟩ : ∃ z : jF, z = u2 F25 44 0 ((F25 44 0) + 1) := ⟨_, rfl⟩
      have hP : va_P D vwCl (mW yy A F27 G) H := by rw [e28]; exact hP
      have hD : va_D Z (mW yy A F27 G) := by rw [e28]; exact hD
      replace hres := bvE e28 hres
      refine lv_aload_n hx hb (dd_of dX12_rain_1 27 rfl) rfl (lv_at hl 0 rfl) ?_
      refine va_get (D := D) (cl := vwCl) (tys := jT yy) (ci := 12) (v := .int (F27 44 0)) (C := RX12) (T := TX12) (N := 61) hx hb hts hin12 hown hK hP 0 rfl rfl 44 (by decide) (jw hts gw749) (fun _ h9 => h9) rfl (dd_of dX12_rain_1 28 rfl) ?_
      subst hQ
      exact W.iret (v := (F27 44 0)) hx hb hr (fun t ht hW => ⟨⟨(F27 44 0), (F27, G), rfl, hres, by rw [ht]; exact hP, va_K.moved hW.alike hK, hD⟩, hS.F ht⟩) hS.2.2 (dd_of dX12_rain_1 29 rfl) hlk
    · replace hres := ifN c14 hres
      refine lv_iconst (v := 0) hx hb (dd_of dX12_rain_0 35 rfl) (by decide) ?_
      subst hQ
      exact W.iret (v := 0) hx hb hr (fun t ht hW => ⟨⟨0, (F12, G), rfl, hres, by rw [ht]; exact hP, va_K.moved hW.alike hK, hD⟩, hS.F ht⟩) hS.2.2 (dd_of dX12_rain_0 36 rfl) hlk
  · skip
    refine lv_if_ne (tgt := 13) hx hb (dd_of dX12_rain_0 4 rfl) (by decide) (fun c3 => ?_) (fun c3 => ?_)
    · replace q29 := ifN c3 q29
      refine lv_iload_n hx hb (dd_of dX12_rain_0 7 rfl) rfl (lv_at hl 2 rfl) ?_
      refine lv_iconst (v := 0) hx hb (dd_of dX12_rain_0 8 rfl) (by decide) ?_
      refine lv_sipush (v := 9999) hx hb (dd_of dX12_rain_0 9 rfl) (by decide) ?_
      refine jc_si (As := [.int p2, .int 0, .int 9999]) (rest := [.ref (A 99)]) ⟨hx, hb, hml, hown, hts⟩ (qX12_in l p2 0 9999 ) (cwS 3 hts (jgS gw591 gw592 gw5 gw593) rfl rfl rfl (by decide +kernel) ⟨Nat.le_of_ble_eq_true rfl, Nat.le_of_ble_eq_true rfl⟩) rfl hl.1 rfl (Nat.le_of_ble_eq_true rfl) (dd_of dX12_rain_0 10 rfl) ⟨Nat.zero_le _, Nat.zero_le _⟩ (fun x4 ex4 => ?_)
      replace q29 := bvE ex4 q29
      refine lv_if_eq (tgt := 46) hx hb (dd_of dX12_rain_0 11 rfl) (by decide) (fun c5 => ?_) (fun c5 => ?_)
      · replace q29 := ifE c5 q29
        refine lv_iconst (v := 2) hx hb (dd_of dX12_rain_0 22 rfl) (by decide) ?_
        refine lv_goto (tgt := 64) hx hb (dd_of dX12_rain_0 23 rfl) (by decide) ?_
        exact K31 _ q29
      · replace q29 := ifN c5 q29
        refine lv_iload_n hx hb (dd_of dX12_rain_0 12 rfl) rfl (lv_at hl 3 rfl) ?_
        refine lv_iconst (v := 1) hx hb (dd_of dX12_rain_0 13 rfl) (by decide) ?_
        refine lv_bipush (v := 99) hx hb (dd_of dX12_rain_0 14 rfl) (by decide) ?_
        refine jc_si (As := [.int p3, .int 1, .int 99]) (rest := [.ref (A 99)]) ⟨hx, hb, hml, hown, hts⟩ (qX12_in l p3 1 99 ) (cwS 3 hts (jgS gw591 gw592 gw5 gw593) rfl rfl rfl (by decide +kernel) ⟨Nat.le_of_ble_eq_true rfl, Nat.le_of_ble_eq_true rfl⟩) rfl hl.1 rfl (Nat.le_of_ble_eq_true rfl) (dd_of dX12_rain_0 15 rfl) ⟨Nat.zero_le _, Nat.zero_le _⟩ (fun x6 ex6 => ?_)
        replace q29 := bvE ex6 q29
        refine lv_if_eq (tgt := 46) hx hb (dd_of dX12_rain_0 16 rfl) (by decide) (fun c7 => ?_) (fun c7 => ?_)
        · replace q29 := ifE c7 q29
          refine lv_iconst (v := 2) hx hb (dd_of dX12_rain_0 22 rfl) (by decide) ?_
          refine lv_goto (tgt := 64) hx hb (dd_of dX12_rain_0 23 rfl) (by decide) ?_
          exact K31 _ q29
        · replace q29 := ifN c7 q29
          refine lv_iload hx hb (dd_of dX12_rain_0 17 rfl) (lv_at hl 4 rfl) ?_
          refine lv_iconst (v := 1) hx hb (dd_of dX12_rain_0 18 rfl) (by decide) ?_
          refine lv_sipush (v := 9999) hx hb (dd_of dX12_rain_0 19 rfl) (by decide) ?_
          refine jc_si (As := [.int p4, .int 1, .int 9999]) (rest := [.ref (A 99)]) ⟨hx, hb, hml, hown, hts⟩ (qX12_in l p4 1 9999 ) (cwS 3 hts (jgS gw591 gw592 gw5 gw593) rfl rfl rfl (by decide +kernel) ⟨Nat.le_of_ble_eq_true rfl, Nat.le_of_ble_eq_true rfl⟩) rfl hl.1 rfl (Nat.le_of_ble_eq_true rfl) (dd_of dX12_rain_0 20 rfl) ⟨Nat.zero_le _, Nat.zero_le _⟩ (fun x8 ex8 => ?_)
          replace q29 := bvE ex8 q29
          refine lv_if_ne (tgt := 50) hx hb (dd_of dX12_rain_0 21 rfl) (by decide) (fun c9 => ?_) (fun c9 => ?_)
          · replace q29 := ifN c9 q29
            refine lv_aload_n hx hb (dd_of dX12_rain_0 24 rfl) rfl (lv_at hl 0 rfl) ?_
            refine va_get (D := D) (cl := vwCl) (tys := jT yy) (ci := 12) (v := .int (F 44 0)) (C := RX12) (T := TX12) (N := 61) hx hb hts hin12 hown hK hP 0 rfl rfl 44 (by decide) (jw hts gw749) (fun _ h9 => h9) rfl (dd_of dX12_rain_0 25 rfl) ?_
            refine lv_bipush (v := 12) hx hb (dd_of dX12_rain_0 26 rfl) (by decide) ?_
            refine lv_icmp_ne (tgt := 63) hx hb (dd_of dX12_rain_0 27 rfl) (by decide) (fun c10 => ?_) (fun c10 => ?_)
            · replace q29 := ifN c10 q29
              refine lv_iconst (v := 0) hx hb (dd_of dX12_rain_0 30 rfl) (by decide) ?_
              exact K31 _ q29
            · replace q29 := ifE c10 q29
              refine lv_iconst (v := 3) hx hb (dd_of dX12_rain_0 28 rfl) (by decide) ?_
              refine lv_goto (tgt := 64) hx hb (dd_of dX12_rain_0 29 rfl) (by decide) ?_
              exact K31 _ q29
          · replace q29 := ifE c9 q29
            refine lv_iconst (v := 2) hx hb (dd_of dX12_rain_0 22 rfl) (by decide) ?_
            refine lv_goto (tgt := 64) hx hb (dd_of dX12_rain_0 23 rfl) (by decide) ?_
            exact K31 _ q29
    · replace q29 := ifE c3 q29
      refine lv_iconst (v := 1) hx hb (dd_of dX12_rain_0 5 rfl) (by decide) ?_
      refine lv_goto (tgt := 64) hx hb (dd_of dX12_rain_0 6 rfl) (by decide) ?_
      exact K31 _ q29
set_option maxHeartbeats 4000000 in
set_option maxRecDepth 100000 in
theorem qX12_setSeed (l : Launch) (D : va_G) (yy : Nat → ClassId) (A : Nat → Nat) (F : jF) (G : jG) (sz : Nat) (p1 : Int32) : Met l yX12_setSeed (Cond.code yX12_setSeed cX12_setSeed 3 (some .int) :: wsL_law) rmX12_setSeed (va_Pc [.ref (A 99), .int p1] (jP D yy (mW yy A F G) sz)) (va_Qi (fun r (u : jS) => (r, u) = gX12_setSeed F G p1) (fun (u : jS) t => jB D yy (va_A (mW yy A F G) sz) (mW yy A u.1 u.2) t) (va_A (mW yy A F G) sz)) 0 0 (va_A (mW yy A F G) sz) := by
  generalize hres : gX12_setSeed F G p1 = RES
  refine jM (own := RX12) (by decide) rfl (Nat.le_of_ble_eq_true rfl) ?_
  intro p e s m args below meth c ls Q hQ hargs S hr hlk hinit hB hl
  obtain ⟨hx, hb, hml, hown, hts⟩ := S
  have hl : lv_has ls 3 [(0, .ref (A 99)), (1, .int p1)] := hl
  have hin12 : ∀ w ∈ u_ws RX12 TX12 61, w ∈ (Cond.code yX12_setSeed cX12_setSeed 3 (some .int) :: wsL_law) := fun w h => List.mem_cons_of_mem _ (inlX12 w h)
  obtain ⟨hsz, hP, hK, hD0⟩ := hB
  subst hsz
  have hD := hD0.self (sz := s.heap.size)
  generalize hZ : va_A (mW yy A F G) s.heap.size = Z at hD hQ
  have hA : ∀ q : Nat, s.heap.size ≤ q → Z q := fun q h => by rw [← hZ]; exact Or.inr h
  obtain ⟨H, hH⟩ : ∃ z, z = s.heap := ⟨_, rfl⟩
  obtain ⟨locs, hlocs⟩ : ∃ z : List Loc, z = [] := ⟨_, rfl⟩
  have hS : va_S Z s.heap H locs := by rw [hH, hlocs]; exact va_S.rf
  rw [← hH] at hP
  suffices hgo : W p l e rmX12_setSeed s m args below meth c H locs 0 0 Q (F0 m 0 ls []) by rw [hH, hlocs] at hgo; exact hgo
  unfold gX12_setSeed at hres
  refine lv_aload_n hx hb (dd_of dX12_setSeed_0 0 rfl) rfl (lv_at hl 0 rfl) ?_
  refine lv_iload_n hx hb (dd_of dX12_setSeed_0 1 rfl) rfl (lv_at hl 1 rfl) ?_
  refine lv_iconst (v := 0) hx hb (dd_of dX12_setSeed_0 2 rfl) (by decide) ?_
  refine lv_sipush (v := 9999) hx hb (dd_of dX12_setSeed_0 3 rfl) (by decide) ?_
  refine jc_si (As := [.int p1, .int 0, .int 9999]) (rest := [.ref (A 99)]) ⟨hx, hb, hml, hown, hts⟩ (qX12_in l p1 0 9999 ) (cwS 3 hts (jgS gw591 gw592 gw5 gw593) rfl rfl rfl (by decide +kernel) ⟨Nat.le_of_ble_eq_true rfl, Nat.le_of_ble_eq_true rfl⟩) rfl hl.1 rfl (Nat.le_of_ble_eq_true rfl) (dd_of dX12_setSeed_0 4 rfl) ⟨Nat.zero_le _, Nat.zero_le _⟩ (fun x1 ex1 => ?_)
  replace hres := bvE ex1 hres
  obtain ⟨z14, q13⟩ : ∃ z : Int32, (if x1 = 0 then 1 else 0) = z := ⟨_, rfl⟩
  refine jn_i (ls := ls) (v := z14) 17 [.ref (A 99)] (fun v3 ev3 => ?_) (fun K15 => ?_)
  · replace hres := bvE (ev3.trans q13.symm) hres
    refine va_put (D := D) (cl := vwCl) (tys := jT yy) (ci := 12) (v := .int v3) (ty := .int) (C := RX12) (T := TX12) (N := 61) hx hb hts hin12 tyX12 tyX12_ok nmX12 hown hK hP hD hS 0 rfl rfl 60 (by decide) (jw hts gw590) (fun _ h9 => h9) rfl (by decide +kernel) rfl rfl (Nat.le_of_ble_eq_true rfl) (dd_of dX12_setSeed_0 9 rfl) (fun H locs hP hD hS => ?_)
    obtain ⟨F4, e5⟩ : ∃ z : jF, z = u2 F 60 0 v3 := ⟨_, rfl⟩
    have hP : va_P D vwCl (mW yy A F4 G) H := by rw [e5]; exact hP
    have hD : va_D Z (mW yy A F4 G) := by rw [e5]; exact hD
    replace hres := bvE e5 hres
    refine lv_aload_n hx hb (dd_of dX12_setSeed_0 10 rfl) rfl (lv_at hl 0 rfl) ?_
    refine va_get (D := D) (cl := vwCl) (tys := jT yy) (ci := 12) (v := .int (F4 4 0)) (C := RX12) (T := TX12) (N := 61) hx hb hts hin12 hown hK hP 0 rfl rfl 4 (by decide) (jw hts gw123) (fun _ h9 => h9) rfl (dd_of dX12_setSeed_0 11 rfl) ?_
    refine lv_topi (fun x6 ex6 => ?_)
    replace hres := bvE ex6 hres
    refine lv_istore_n (lv' := [(2, .int x6), (0, .ref (A 99)), (1, .int p1)]) hx hb (dd_of dX12_setSeed_0 12 rfl) rfl hl (by decide) rfl (fun ls hl => ?_)
    refine lv_aload_n hx hb (dd_of dX12_setSeed_0 13 rfl) rfl (lv_at hl 1 rfl) ?_
    refine lv_aload_n hx hb (dd_of dX12_setSeed_0 14 rfl) rfl (lv_at hl 1 rfl) ?_
    refine va_get (D := D) (cl := vwCl) (tys := jT yy) (ci := 12) (v := .int (F4 60 0)) (C := RX12) (T := TX12) (N := 61) hx hb hts hin12 hown hK hP 0 rfl rfl 60 (by decide) (jw hts gw590) (fun _ h9 => h9) rfl (dd_of dX12_setSeed_0 15 rfl) ?_
    obtain ⟨z17, q16⟩ : ∃ z : Int32, (if (F4 60 0) = 0 then p1 else x6) = z := ⟨_, rfl⟩
    refine jn_i (ls := ls) (v := z17) 38 [.ref (A 99)] (fun v8 ev8 => ?_) (fun K18 => ?_)
    · replace hres := bvE (ev8.trans q16.symm) hres
      refine va_put (D := D) (cl := vwCl) (tys := jT yy) (ci := 12) (v := .int v8) (ty := .int) (C := RX12) (T := TX12) (N := 61) hx hb hts hin12 tyX12 tyX12_ok nmX12 hown hK hP hD hS 0 rfl rfl 4 (by decide) (jw hts gw123) (fun _ h9 => h9) rfl (by decide +kernel) rfl rfl (Nat.le_of_ble_eq_true rfl) (dd_of dX12_setSeed_0 20 rfl) (fun H locs hP hD hS => ?_)
      obtain ⟨F9, e10⟩ : ∃ z : jF, z = u2 F4 4 0 v8 := ⟨_, rfl⟩
      have hP : va_P D vwCl (mW yy A F9 G) H := by rw [e10]; exact hP
      have hD : va_D Z (mW yy A F9 G) := by rw [e10]; exact hD
      replace hres := bvE e10 hres
      refine lv_aload_n hx hb (dd_of dX12_setSeed_0 21 rfl) rfl (lv_at hl 1 rfl) ?_
      refine va_get (D := D) (cl := vwCl) (tys := jT yy) (ci := 12) (v := .int (F9 60 0)) (C := RX12) (T := TX12) (N := 61) hx hb hts hin12 hown hK hP 0 rfl rfl 60 (by decide) (jw hts gw590) (fun _ h9 => h9) rfl (dd_of dX12_setSeed_0 22 rfl) ?_
      obtain ⟨z20, q19⟩ : ∃ z : Int32, (if (F9 60 0) = 0 then x6 else 0) = z := ⟨_, rfl⟩
      refine jn_i (ls := ls) (v := z20) 53 [] (fun v12 ev12 => ?_) (fun K21 => ?_)
      · replace hres := bvE (ev12.trans q19.symm) hres
        subst hQ
        exact W.iret (v := v12) hx hb hr (fun t ht hW => ⟨⟨v12, (F9, G), rfl, hres, by rw [ht]; exact hP, va_K.moved hW.alike hK, hD⟩, hS.F ht⟩) hS.2.2 (dd_of dX12_setSeed_0 27 rfl) hlk
      · skip
        refine lv_if_ne (tgt := 52) hx hb (dd_of dX12_setSeed_0 23 rfl) (by decide) (fun c11 => ?_) (fun c11 => ?_)
        · replace q19 := ifN c11 q19
          refine lv_iconst (v := 0) hx hb (dd_of dX12_setSeed_0 26 rfl) (by decide) ?_
          exact K21 _ q19
        · replace q19 := ifE c11 q19
          refine lv_iload_n hx hb (dd_of dX12_setSeed_0 24 rfl) rfl (lv_at hl 0 rfl) ?_
          refine lv_goto (tgt := 53) hx hb (dd_of dX12_setSeed_0 25 rfl) (by decide) ?_
          exact K21 _ q19
    · skip
      refine lv_if_ne (tgt := 37) hx hb (dd_of dX12_setSeed_0 16 rfl) (by decide) (fun c7 => ?_) (fun c7 => ?_)
      · replace q16 := ifN c7 q16
        refine lv_iload_n hx hb (dd_of dX12_setSeed_0 19 rfl) rfl (lv_at hl 0 rfl) ?_
        exact K18 _ q16
      · replace q16 := ifE c7 q16
        refine lv_iload_n hx hb (dd_of dX12_setSeed_0 17 rfl) rfl (lv_at hl 2 rfl) ?_
        refine lv_goto (tgt := 38) hx hb (dd_of dX12_setSeed_0 18 rfl) (by decide) ?_
        exact K18 _ q16
  · skip
    refine lv_if_eq (tgt := 16) hx hb (dd_of dX12_setSeed_0 5 rfl) (by decide) (fun c2 => ?_) (fun c2 => ?_)
    · replace q13 := ifE c2 q13
      refine lv_iconst (v := 1) hx hb (dd_of dX12_setSeed_0 8 rfl) (by decide) ?_
      exact K15 _ q13
    · replace q13 := ifN c2 q13
      refine lv_iconst (v := 0) hx hb (dd_of dX12_setSeed_0 6 rfl) (by decide) ?_
      refine lv_goto (tgt := 17) hx hb (dd_of dX12_setSeed_0 7 rfl) (by decide) ?_
      exact K15 _ q13
set_option maxHeartbeats 4000000 in
set_option maxRecDepth 100000 in
theorem qX12_seaAt (l : Launch) (D : va_G) (yy : Nat → ClassId) (A : Nat → Nat) (F : jF) (G : jG) (p1 : Int32) (hok : okX12_seaAt F G p1) : Met l yX12_seaAt (Cond.code yX12_seaAt cX12_seaAt 12 (some .long) :: wsL_law) rmX12_seaAt (va_Pc [.ref (A 99), .int p1] (jR D yy (mW yy A F G))) (vp_Sl (fun r => r = gX12_seaAt F G p1)) 0 0 (fun _ => False) := by
  generalize hres : gX12_seaAt F G p1 = RES
  refine jM (own := RX12) (by decide) rfl (Nat.le_of_ble_eq_true rfl) ?_
  intro p e s m args below meth c ls Q hQ hargs S hr hlk hinit hB hl
  obtain ⟨hx, hb, hml, hown, hts⟩ := S
  have hl : lv_has ls 12 [(0, .ref (A 99)), (1, .int p1)] := hl
  have hin12 : ∀ w ∈ u_ws RX12 TX12 61, w ∈ (Cond.code yX12_seaAt cX12_seaAt 12 (some .long) :: wsL_law) := fun w h => List.mem_cons_of_mem _ (inlX12 w h)
  obtain ⟨hP, hK⟩ := hB
  unfold gX12_seaAt at hres
  unfold okX12_seaAt at hok
  refine lv_iload_n hx hb (dd_of dX12_seaAt_0 0 rfl) rfl (lv_at hl 1 rfl) ?_
  refine lv_bipush (v := 12) hx hb (dd_of dX12_seaAt_0 1 rfl) (by decide) ?_
  refine lv_irem hx hb (dd_of dX12_seaAt_0 2 rfl) (by decide) ?_
  refine lv_topi (fun x1 ex1 => ?_)
  replace hres := bvE ex1 hres
  replace hok := bvO ex1 hok
  refine lv_istore_n (lv' := [(2, .int x1), (0, .ref (A 99)), (1, .int p1)]) hx hb (dd_of dX12_seaAt_0 3 rfl) rfl hl (by decide) rfl (fun ls hl => ?_)
  refine lv_ldc2 (v := 100) hx hb hown (jw hts gw786) (dd_of dX12_seaAt_0 4 rfl) ?_
  refine lv_aload_n hx hb (dd_of dX12_seaAt_0 5 rfl) rfl (lv_at hl 1 rfl) ?_
  refine va_get (D := D) (cl := vwCl) (tys := jT yy) (ci := 12) (v := .int (F 5 0)) (C := RX12) (T := TX12) (N := 61) hx hb hts hin12 hown hK hP 0 rfl rfl 5 (by decide) (jw hts gw721) (fun _ h9 => h9) rfl (dd_of dX12_seaAt_0 6 rfl) ?_
  refine lv_aload_n hx hb (dd_of dX12_seaAt_0 7 rfl) rfl (lv_at hl 1 rfl) ?_
  refine va_get (D := D) (cl := vwCl) (tys := jT yy) (ci := 12) (v := .int (F 6 0)) (C := RX12) (T := TX12) (N := 61) hx hb hts hin12 hown hK hP 0 rfl rfl 6 (by decide) (jw hts gw124) (fun _ h9 => h9) rfl (dd_of dX12_seaAt_0 8 rfl) ?_
  refine lv_iload_n hx hb (dd_of dX12_seaAt_0 9 rfl) rfl (lv_at hl 0 rfl) ?_
  refine lv_bipush (v := 6) hx hb (dd_of dX12_seaAt_0 10 rfl) (by decide) ?_
  obtain ⟨z24, q23⟩ : ∃ z : Int32, (if 6 < x1 then (12 - x1) else x1) = z := ⟨_, rfl⟩
  refine jn_i (ls := ls) (v := z24) 30 [.int (F 6 0), .int (F 5 0), .long 100] (fun v3 ev3 => ?_) (fun K25 => ?_)
  · replace hres := bvE (ev3.trans q23.symm) hres
    replace hok := bvO (ev3.trans q23.symm) hok
    refine lv_imul hx hb (dd_of dX12_seaAt_0 17 rfl) ?_
    refine lv_bipush (v := 6) hx hb (dd_of dX12_seaAt_0 18 rfl) (by decide) ?_
    refine lv_idiv hx hb (dd_of dX12_seaAt_0 19 rfl) (by decide) ?_
    refine lv_iadd hx hb (dd_of dX12_seaAt_0 20 rfl) ?_
    refine lv_aload_n hx hb (dd_of dX12_seaAt_0 21 rfl) rfl (lv_at hl 1 rfl) ?_
    refine va_get (D := D) (cl := vwCl) (tys := jT yy) (ci := 12) (v := .int (F 6 0)) (C := RX12) (T := TX12) (N := 61) hx hb hts hin12 hown hK hP 0 rfl rfl 6 (by decide) (jw hts gw124) (fun _ h9 => h9) rfl (dd_of dX12_seaAt_0 22 rfl) ?_
    refine lv_iconst (v := 2) hx hb (dd_of dX12_seaAt_0 23 rfl) (by decide) ?_
    refine lv_idiv hx hb (dd_of dX12_seaAt_0 24 rfl) (by decide) ?_
    refine lv_isub hx hb (dd_of dX12_seaAt_0 25 rfl) ?_
    refine lv_i2l (v := (Int32.toInt64 (((F 5 0) + (((F 6 0) * v3) / 6)) - ((F 6 0) / 2)))) hx hb (dd_of dX12_seaAt_0 26 rfl) rfl ?_
    refine lv_lmul hx hb (dd_of dX12_seaAt_0 27 rfl) ?_
    refine lv_topl (fun x4 ex4 => ?_)
    replace hres := bvE ex4 hres
    replace hok := bvO ex4 hok
    refine lv_lstore_n (lv' := [(3, .long x4), (2, .int x1), (0, .ref (A 99)), (1, .int p1)]) hx hb (dd_of dX12_seaAt_0 28 rfl) rfl hl (by decide) rfl (fun ls hl => ?_)
    refine lv_lconst (v := 0) hx hb (dd_of dX12_seaAt_0 29 rfl) (by decide) ?_
    refine lv_lstore (lv' := [(5, .long 0), (3, .long x4), (2, .int x1), (0, .ref (A 99)), (1, .int p1)]) hx hb (dd_of dX12_seaAt_0 30 rfl) hl (by decide) rfl (fun ls hl => ?_)
    refine lv_iconst (v := 0) hx hb (dd_of dX12_seaAt_0 31 rfl) (by decide) ?_
    refine lv_istore (lv' := [(7, .int 0), (5, .long 0), (3, .long x4), (2, .int x1), (0, .ref (A 99)), (1, .int p1)]) hx hb (dd_of dX12_seaAt_0 32 rfl) hl (by decide) rfl (fun ls hl => ?_)
    have LP51 : ∀ (f3 : Int64) (f1 : Int32), ∀ (K : Int32 → Int64 → Int64) (okK : Int32 → Int64 → Prop) (n : Nat), ∀ (v7 : Int32) (v5 : Int64), ∀ (ls : Array Slot), lv_has ls 12 [(7, .int v7), (5, .long v5), (3, .long f3), (0, .ref (A 99)), (1, .int f1)] → okX12_seaAt_L51 F G f3 f1 okK n v7 v5 → gX12_seaAt_L51 F G f3 f1 K n v7 v5 = RES → (∀ (v7 : Int32) (v5 : Int64), ∀ (ls : Array Slot), lv_has ls 12 [(7, .int v7), (5, .long v5), (3, .long f3), (0, .ref (A 99)), (1, .int f1)] → okK v7 v5 → K v7 v5 = RES → W p l e rmX12_seaAt s m args below meth c s.heap [] 0 0 Q (F0 m 181 ls [])) → W p l e rmX12_seaAt s m args below meth c s.heap [] 0 0 Q (F0 m 51 ls []) := by
      intro f3 f1 K okK n
      induction n with
      | zero =>
        intro v7 v5 ls hl hok _ _
        exact absurd hok (by unfold okX12_seaAt_L51; exact id)
      | succ n9 ih =>
        intro v7 v5 ls hl hok hres hexit
        unfold gX12_seaAt_L51 at hres
        unfold okX12_seaAt_L51 at hok
        refine lv_iload hx hb (dd_of dX12_seaAt_0 33 rfl) (lv_at hl 0 rfl) ?_
        refine lv_aload_n hx hb (dd_of dX12_seaAt_0 34 rfl) rfl (lv_at hl 3 rfl) ?_
        refine va_get (D := D) (cl := vwCl) (tys := jT yy) (ci := 12) (v := .int (F 40 0)) (C := RX12) (T := TX12) (N := 61) hx hb hts hin12 hown hK hP 0 rfl rfl 40 (by decide) (jw hts gw736) (fun _ h9 => h9) rfl (dd_of dX12_seaAt_0 35 rfl) ?_
        refine lv_icmp_ge (tgt := 181) hx hb (dd_of dX12_seaAt_0 36 rfl) (by decide) (fun c5 => ?_) (fun c5 => ?_)
        · replace hres := ifE c5 hres
          replace hok := hok.1 c5
          exact hexit v7 v5 ls (lv_sub hl [0, 1, 2, 3, 4] rfl) hok hres
        · replace hres := ifN c5 hres
          replace hok := hok.2 c5
          refine lv_iload_n hx hb (dd_of dX12_seaAt_0 37 rfl) rfl (lv_at hl 4 rfl) ?_
          refine lv_aload_n hx hb (dd_of dX12_seaAt_0 38 rfl) rfl (lv_at hl 3 rfl) ?_
          refine va_get (D := D) (cl := vwCl) (tys := jT yy) (ci := 12) (v := .ref (A 41)) (C := RX12) (T := TX12) (N := 61) hx hb hts hin12 hown hK hP 0 rfl rfl 41 (by decide) (jw hts gw153) (fun _ h9 => h9) rfl (dd_of dX12_seaAt_0 39 rfl) ?_
          refine lv_iload hx hb (dd_of dX12_seaAt_1 0 rfl) (lv_at hl 0 rfl) ?_
          have h6 := hok.1
          replace hok := hok.2
          refine va_iald hx hb hK hP 29 0 rfl rfl h6 (dd_of dX12_seaAt_1 1 rfl) ?_
          refine lv_isub hx hb (dd_of dX12_seaAt_1 2 rfl) ?_
          refine lv_topi (fun x7 ex7 => ?_)
          replace hres := bvE ex7 hres
          replace hok := bvO ex7 hok
          refine lv_istore (lv' := [(8, .int x7), (7, .int v7), (5, .long v5), (3, .long f3), (0, .ref (A 99)), (1, .int f1)]) hx hb (dd_of dX12_seaAt_1 3 rfl) hl (by decide) rfl (fun ls hl => ?_)
          refine lv_iload hx hb (dd_of dX12_seaAt_1 4 rfl) (lv_at hl 0 rfl) ?_
          refine lv_iconst (v := 0) hx hb (dd_of dX12_seaAt_1 5 rfl) (by decide) ?_
          refine lv_aload_n hx hb (dd_of dX12_seaAt_1 6 rfl) rfl (lv_at hl 4 rfl) ?_
          refine va_get (D := D) (cl := vwCl) (tys := jT yy) (ci := 12) (v := .ref (A 42)) (C := RX12) (T := TX12) (N := 61) hx hb hts hin12 hown hK hP 0 rfl rfl 42 (by decide) (jw hts gw154) (fun _ h9 => h9) rfl (dd_of dX12_seaAt_1 7 rfl) ?_
          refine lv_iload hx hb (dd_of dX12_seaAt_1 8 rfl) (lv_at hl 1 rfl) ?_
          have h8 := hok.1
          replace hok := hok.2
          refine va_iald hx hb hK hP 30 0 rfl rfl h8 (dd_of dX12_seaAt_1 9 rfl) ?_
          refine lv_iconst (v := 1) hx hb (dd_of dX12_seaAt_1 10 rfl) (by decide) ?_
          refine lv_isub hx hb (dd_of dX12_seaAt_1 11 rfl) ?_
          refine jc_si (As := [.int x7, .int 0, .int ((F 42 (Int32.toNatClampNeg v7)) - 1)]) (rest := []) ⟨hx, hb, hml, hown, hts⟩ (qX12_in l x7 0 ((F 42 (Int32.toNatClampNeg v7)) - 1) ) (cwS 3 hts (jgS gw591 gw592 gw5 gw593) rfl rfl rfl (by decide +kernel) ⟨Nat.le_of_ble_eq_true rfl, Nat.le_of_ble_eq_true rfl⟩) rfl hl.1 rfl (Nat.le_of_ble_eq_true rfl) (dd_of dX12_seaAt_1 12 rfl) ⟨Nat.zero_le _, Nat.zero_le _⟩ (fun x9 ex9 => ?_)
          replace hres := bvE ex9 hres
          replace hok := bvO ex9 hok
          refine lv_if_eq (tgt := 175) hx hb (dd_of dX12_seaAt_1 13 rfl) (by decide) (fun c10 => ?_) (fun c10 => ?_)
          · replace hres := ifE c10 hres
            replace hok := hok.1 c10
            refine lv_iinc (v := (v7 + 1)) (lv' := [(7, .int (v7 + 1)), (8, .int x7), (5, .long v5), (3, .long f3), (0, .ref (A 99)), (1, .int f1)]) hx hb (dd_of dX12_seaAt_2 24 rfl) hl (k := 1) rfl rfl (by decide) rfl (fun ls hl => ?_)
            refine lv_goto (tgt := 51) hx hb (dd_of dX12_seaAt_2 25 rfl) (by decide) ?_
            exact ih (v7 + 1) v5 ls (lv_sub hl [0, 2, 3, 4, 5] rfl) hok hres hexit
          · replace hres := ifN c10 hres
            replace hok := hok.2 c10
            refine lv_iload hx hb (dd_of dX12_seaAt_1 14 rfl) (lv_at hl 0 rfl) ?_
            refine lv_iconst (v := 1) hx hb (dd_of dX12_seaAt_1 15 rfl) (by decide) ?_
            refine lv_iadd hx hb (dd_of dX12_seaAt_1 16 rfl) ?_
            refine lv_aload_n hx hb (dd_of dX12_seaAt_1 17 rfl) rfl (lv_at hl 4 rfl) ?_
            refine va_get (D := D) (cl := vwCl) (tys := jT yy) (ci := 12) (v := .ref (A 42)) (C := RX12) (T := TX12) (N := 61) hx hb hts hin12 hown hK hP 0 rfl rfl 42 (by decide) (jw hts gw154) (fun _ h9 => h9) rfl (dd_of dX12_seaAt_1 18 rfl) ?_
            refine lv_iload hx hb (dd_of dX12_seaAt_1 19 rfl) (lv_at hl 1 rfl) ?_
            have h11 := hok.1
            replace hok := hok.2
            refine va_iald hx hb hK hP 30 0 rfl rfl h11 (dd_of dX12_seaAt_1 20 rfl) ?_
            refine lv_iload hx hb (dd_of dX12_seaAt_1 21 rfl) (lv_at hl 0 rfl) ?_
            refine lv_isub hx hb (dd_of dX12_seaAt_1 22 rfl) ?_
            obtain ⟨z27, q26⟩ : ∃ z : Int32, (if ((F 42 (Int32.toNatClampNeg v7)) - x7) ≤ (x7 + 1) then ((F 42 (Int32.toNatClampNeg v7)) - x7) else (x7 + 1)) = z := ⟨_, rfl⟩
            have o29 := hok.1
            replace hok := hok.2
            refine jn_i (ls := ls) (v := z27) 123 [] (fun v14 ev14 => ?_) (fun K28 => ?_)
            · replace hres := bvE (ev14.trans q26.symm) hres
              replace hok := bvO (ev14.trans q26.symm) hok
              refine lv_istore (lv' := [(9, .int v14), (8, .int x7), (7, .int v7), (5, .long v5), (3, .long f3), (0, .ref (A 99)), (1, .int f1)]) hx hb (dd_of dX12_seaAt_1 34 rfl) hl (by decide) rfl (fun ls hl => ?_)
              refine lv_ldc2 (v := 100) hx hb hown (jw hts gw786) (dd_of dX12_seaAt_1 35 rfl) ?_
              refine lv_aload_n hx hb (dd_of dX12_seaAt_1 36 rfl) rfl (lv_at hl 5 rfl) ?_
              refine va_get (D := D) (cl := vwCl) (tys := jT yy) (ci := 12) (v := .ref (A 43)) (C := RX12) (T := TX12) (N := 61) hx hb hts hin12 hown hK hP 0 rfl rfl 43 (by decide) (jw hts gw155) (fun _ h9 => h9) rfl (dd_of dX12_seaAt_1 37 rfl) ?_
              refine lv_iload hx hb (dd_of dX12_seaAt_1 38 rfl) (lv_at hl 2 rfl) ?_
              have h15 := hok.1
              replace hok := hok.2
              refine va_iald hx hb hK hP 31 0 rfl rfl h15 (dd_of dX12_seaAt_1 39 rfl) ?_
              refine lv_i2l (v := (Int32.toInt64 (F 43 (Int32.toNatClampNeg v7)))) hx hb (dd_of dX12_seaAt_2 0 rfl) rfl ?_
              refine lv_lmul hx hb (dd_of dX12_seaAt_2 1 rfl) ?_
              refine lv_iload hx hb (dd_of dX12_seaAt_2 2 rfl) (lv_at hl 0 rfl) ?_
              refine lv_i2l (v := (Int32.toInt64 v14)) hx hb (dd_of dX12_seaAt_2 3 rfl) rfl ?_
              refine lv_lmul hx hb (dd_of dX12_seaAt_2 4 rfl) ?_
              refine lv_ldc2 (v := 2) hx hb hown (jw hts gw791) (dd_of dX12_seaAt_2 5 rfl) ?_
              refine lv_lmul hx hb (dd_of dX12_seaAt_2 6 rfl) ?_
              refine lv_aload_n hx hb (dd_of dX12_seaAt_2 7 rfl) rfl (lv_at hl 5 rfl) ?_
              refine va_get (D := D) (cl := vwCl) (tys := jT yy) (ci := 12) (v := .ref (A 42)) (C := RX12) (T := TX12) (N := 61) hx hb hts hin12 hown hK hP 0 rfl rfl 42 (by decide) (jw hts gw154) (fun _ h9 => h9) rfl (dd_of dX12_seaAt_2 8 rfl) ?_
              refine lv_iload hx hb (dd_of dX12_seaAt_2 9 rfl) (lv_at hl 2 rfl) ?_
              have h16 := hok.1
              replace hok := hok.2
              refine va_iald hx hb hK hP 30 0 rfl rfl h16 (dd_of dX12_seaAt_2 10 rfl) ?_
              refine lv_iconst (v := 1) hx hb (dd_of dX12_seaAt_2 11 rfl) (by decide) ?_
              refine lv_iadd hx hb (dd_of dX12_seaAt_2 12 rfl) ?_
              refine lv_i2l (v := (Int32.toInt64 ((F 42 (Int32.toNatClampNeg v7)) + 1))) hx hb (dd_of dX12_seaAt_2 13 rfl) rfl ?_
              have h17 := hok.1
              replace hok := hok.2
              refine lv_ldiv hx hb (dd_of dX12_seaAt_2 14 rfl) h17 ?_
              refine lv_topl (fun x18 ex18 => ?_)
              replace hres := bvE ex18 hres
              replace hok := bvO ex18 hok
              refine lv_lstore (lv' := [(10, .long x18), (9, .int v14), (8, .int x7), (7, .int v7), (5, .long v5), (3, .long f3), (0, .ref (A 99)), (1, .int f1)]) hx hb (dd_of dX12_seaAt_2 15 rfl) hl (by decide) rfl (fun ls hl => ?_)
              refine lv_lload hx hb (dd_of dX12_seaAt_2 16 rfl) (lv_at hl 0 rfl) ?_
              refine lv_lload hx hb (dd_of dX12_seaAt_2 17 rfl) (lv_at hl 4 rfl) ?_
              obtain ⟨z31, q30⟩ : ∃ z : Int64, (if x18 ≤ v5 then v5 else x18) = z := ⟨_, rfl⟩
              refine jn_l (ls := ls) (v := z31) 173 [] (fun v20 ev20 => ?_) (fun K32 => ?_)
              · replace hres := bvE (ev20.trans q30.symm) hres
                replace hok := bvO (ev20.trans q30.symm) hok
                refine lv_lstore (lv' := [(5, .long v20), (10, .long x18), (9, .int v14), (8, .int x7), (7, .int v7), (3, .long f3), (0, .ref (A 99)), (1, .int f1)]) hx hb (dd_of dX12_seaAt_2 23 rfl) hl (by decide) rfl (fun ls hl => ?_)
                refine lv_iinc (v := (v7 + 1)) (lv' := [(7, .int (v7 + 1)), (5, .long v20), (10, .long x18), (9, .int v14), (8, .int x7), (3, .long f3), (0, .ref (A 99)), (1, .int f1)]) hx hb (dd_of dX12_seaAt_2 24 rfl) hl (k := 4) rfl rfl (by decide) rfl (fun ls hl => ?_)
                refine lv_goto (tgt := 51) hx hb (dd_of dX12_seaAt_2 25 rfl) (by decide) ?_
                exact ih (v7 + 1) v20 ls (lv_sub hl [0, 1, 5, 6, 7] rfl) hok hres hexit
              · skip
                refine jl_le (tgt := 171) hx hb (dd_of dX12_seaAt_2 18 rfl) (dd_of dX12_seaAt_2 19 rfl) (by decide) (fun c19 => ?_) (fun c19 => ?_)
                · replace q30 := ifE c19 q30
                  refine lv_lload hx hb (dd_of dX12_seaAt_2 22 rfl) (lv_at hl 4 rfl) ?_
                  exact K32 _ q30
                · replace q30 := ifN c19 q30
                  refine lv_lload hx hb (dd_of dX12_seaAt_2 20 rfl) (lv_at hl 0 rfl) ?_
                  refine lv_goto (tgt := 173) hx hb (dd_of dX12_seaAt_2 21 rfl) (by decide) ?_
                  exact K32 _ q30
            · skip
              refine lv_icmp_ge (tgt := 113) hx hb (dd_of dX12_seaAt_1 23 rfl) (by decide) (fun c12 => ?_) (fun c12 => ?_)
              · replace q26 := ifE c12 q26
                replace o29 := o29.1 c12
                refine lv_aload_n hx hb (dd_of dX12_seaAt_1 28 rfl) rfl (lv_at hl 4 rfl) ?_
                refine va_get (D := D) (cl := vwCl) (tys := jT yy) (ci := 12) (v := .ref (A 42)) (C := RX12) (T := TX12) (N := 61) hx hb hts hin12 hown hK hP 0 rfl rfl 42 (by decide) (jw hts gw154) (fun _ h9 => h9) rfl (dd_of dX12_seaAt_1 29 rfl) ?_
                refine lv_iload hx hb (dd_of dX12_seaAt_1 30 rfl) (lv_at hl 1 rfl) ?_
                have h13 := o29
                refine va_iald hx hb hK hP 30 0 rfl rfl h13 (dd_of dX12_seaAt_1 31 rfl) ?_
                refine lv_iload hx hb (dd_of dX12_seaAt_1 32 rfl) (lv_at hl 0 rfl) ?_
                refine lv_isub hx hb (dd_of dX12_seaAt_1 33 rfl) ?_
                exact K28 _ q26
              · replace q26 := ifN c12 q26
                refine lv_iload hx hb (dd_of dX12_seaAt_1 24 rfl) (lv_at hl 0 rfl) ?_
                refine lv_iconst (v := 1) hx hb (dd_of dX12_seaAt_1 25 rfl) (by decide) ?_
                refine lv_iadd hx hb (dd_of dX12_seaAt_1 26 rfl) ?_
                refine lv_goto (tgt := 123) hx hb (dd_of dX12_seaAt_1 27 rfl) (by decide) ?_
                exact K28 _ q26
    refine LP51 x4 p1 _ _ 80 0 0 ls (lv_sub hl [0, 1, 2, 4, 5] rfl) hok hres (fun y21 y22 ls hl hok hres => ?_)
    refine lv_lload_n hx hb (dd_of dX12_seaAt_2 26 rfl) rfl (lv_at hl 2 rfl) ?_
    refine lv_lload hx hb (dd_of dX12_seaAt_2 27 rfl) (lv_at hl 1 rfl) ?_
    refine lv_ladd hx hb (dd_of dX12_seaAt_2 28 rfl) ?_
    subst hQ
    exact W.lret (v := (x4 + y22)) hx hb hr (fun t ht _ => ⟨_, rfl, hres, ht⟩) (fun _ h => absurd h List.not_mem_nil) (dd_of dX12_seaAt_2 29 rfl) hlk
  · skip
    refine lv_icmp_gt (tgt := 26) hx hb (dd_of dX12_seaAt_0 11 rfl) (by decide) (fun c2 => ?_) (fun c2 => ?_)
    · replace q23 := ifE c2 q23
      refine lv_bipush (v := 12) hx hb (dd_of dX12_seaAt_0 14 rfl) (by decide) ?_
      refine lv_iload_n hx hb (dd_of dX12_seaAt_0 15 rfl) rfl (lv_at hl 0 rfl) ?_
      refine lv_isub hx hb (dd_of dX12_seaAt_0 16 rfl) ?_
      exact K25 _ q23
    · replace q23 := ifN c2 q23
      refine lv_iload_n hx hb (dd_of dX12_seaAt_0 12 rfl) rfl (lv_at hl 0 rfl) ?_
      refine lv_goto (tgt := 30) hx hb (dd_of dX12_seaAt_0 13 rfl) (by decide) ?_
      exact K25 _ q23
set_option maxHeartbeats 4000000 in
set_option maxRecDepth 100000 in
theorem qX12_levelOf (l : Launch) (D : va_G) (yy : Nat → ClassId) (A : Nat → Nat) (F : jF) (G : jG) (p1 : Int32) (hok : okX12_levelOf F G p1) : Met l yX12_levelOf (Cond.code yX12_levelOf cX12_levelOf 2 (some .long) :: wsL_law) rmX12_levelOf (va_Pc [.ref (A 99), .int p1] (jR D yy (mW yy A F G))) (vp_Sl (fun r => r = gX12_levelOf F G p1)) 0 0 (fun _ => False) := by
  generalize hres : gX12_levelOf F G p1 = RES
  refine jM (own := RX12) (by decide) rfl (Nat.le_of_ble_eq_true rfl) ?_
  intro p e s m args below meth c ls Q hQ hargs S hr hlk hinit hB hl
  obtain ⟨hx, hb, hml, hown, hts⟩ := S
  have hl : lv_has ls 2 [(0, .ref (A 99)), (1, .int p1)] := hl
  have hin12 : ∀ w ∈ u_ws RX12 TX12 61, w ∈ (Cond.code yX12_levelOf cX12_levelOf 2 (some .long) :: wsL_law) := fun w h => List.mem_cons_of_mem _ (inlX12 w h)
  obtain ⟨hP, hK⟩ := hB
  unfold gX12_levelOf at hres
  unfold okX12_levelOf at hok
  refine lv_iload_n hx hb (dd_of dX12_levelOf_0 0 rfl) rfl (lv_at hl 1 rfl) ?_
  refine lv_bipush (v := 20) hx hb (dd_of dX12_levelOf_0 1 rfl) (by decide) ?_
  obtain ⟨z11, q10⟩ : ∃ z : Int64, (if p1 = 20 then bv (gX12_seaAt F G (F 0 0)) (fun x8 : Int64 => x8) else (if p1 = 21 then (Int32.toInt64 (F 7 0)) else ((100 * (Int32.toInt64 (F 10 (Int32.toNatClampNeg p1)))) + ((100 * (G 14 (Int32.toNatClampNeg p1))) / (Int32.toInt64 (F 9 (Int32.toNatClampNeg p1))))))) = z := ⟨_, rfl⟩
  have o13 := hok
  refine jn_l (ls := ls) (v := z11) 61 [] (fun v9 ev9 => ?_) (fun K12 => ?_)
  · replace hres := bvE (ev9.trans q10.symm) hres
    subst hQ
    exact W.lret (v := v9) hx hb hr (fun t ht _ => ⟨_, rfl, hres, ht⟩) (fun _ h => absurd h List.not_mem_nil) (dd_of dX12_levelOf_0 35 rfl) hlk
  · skip
    refine lv_icmp_ne (tgt := 17) hx hb (dd_of dX12_levelOf_0 2 rfl) (by decide) (fun c1 => ?_) (fun c1 => ?_)
    · replace q10 := ifN c1 q10
      replace o13 := o13.2 c1
      refine lv_iload_n hx hb (dd_of dX12_levelOf_0 8 rfl) rfl (lv_at hl 1 rfl) ?_
      refine lv_bipush (v := 21) hx hb (dd_of dX12_levelOf_0 9 rfl) (by decide) ?_
      refine lv_icmp_ne (tgt := 31) hx hb (dd_of dX12_levelOf_0 10 rfl) (by decide) (fun c2 => ?_) (fun c2 => ?_)
      · replace q10 := ifN c2 q10
        replace o13 := o13.2 c2
        refine lv_ldc2 (v := 100) hx hb hown (jw hts gw786) (dd_of dX12_levelOf_0 15 rfl) ?_
        refine lv_aload_n hx hb (dd_of dX12_levelOf_0 16 rfl) rfl (lv_at hl 0 rfl) ?_
        refine va_get (D := D) (cl := vwCl) (tys := jT yy) (ci := 12) (v := .ref (A 10)) (C := RX12) (T := TX12) (N := 61) hx hb hts hin12 hown hK hP 0 rfl rfl 10 (by decide) (jw hts gw126) (fun _ h9 => h9) rfl (dd_of dX12_levelOf_0 17 rfl) ?_
        refine lv_iload_n hx hb (dd_of dX12_levelOf_0 18 rfl) rfl (lv_at hl 1 rfl) ?_
        have h3 := o13.1
        replace o13 := o13.2
        refine va_iald hx hb hK hP 2 0 rfl rfl h3 (dd_of dX12_levelOf_0 19 rfl) ?_
        refine lv_i2l (v := (Int32.toInt64 (F 10 (Int32.toNatClampNeg p1)))) hx hb (dd_of dX12_levelOf_0 20 rfl) rfl ?_
        refine lv_lmul hx hb (dd_of dX12_levelOf_0 21 rfl) ?_
        refine lv_ldc2 (v := 100) hx hb hown (jw hts gw786) (dd_of dX12_levelOf_0 22 rfl) ?_
        refine lv_aload_n hx hb (dd_of dX12_levelOf_0 23 rfl) rfl (lv_at hl 0 rfl) ?_
        refine va_get (D := D) (cl := vwCl) (tys := jT yy) (ci := 12) (v := .ref (A 14)) (C := RX12) (T := TX12) (N := 61) hx hb hts hin12 hown hK hP 0 rfl rfl 14 (by decide) (jw hts gw130) (fun _ h9 => h9) rfl (dd_of dX12_levelOf_0 24 rfl) ?_
        refine lv_iload_n hx hb (dd_of dX12_levelOf_0 25 rfl) rfl (lv_at hl 1 rfl) ?_
        have h4 := o13.1
        replace o13 := o13.2
        refine va_lald hx hb hK hP 6 1 rfl rfl h4 (dd_of dX12_levelOf_0 26 rfl) ?_
        refine lv_lmul hx hb (dd_of dX12_levelOf_0 27 rfl) ?_
        refine lv_aload_n hx hb (dd_of dX12_levelOf_0 28 rfl) rfl (lv_at hl 0 rfl) ?_
        refine va_get (D := D) (cl := vwCl) (tys := jT yy) (ci := 12) (v := .ref (A 9)) (C := RX12) (T := TX12) (N := 61) hx hb hts hin12 hown hK hP 0 rfl rfl 9 (by decide) (jw hts gw125) (fun _ h9 => h9) rfl (dd_of dX12_levelOf_0 29 rfl) ?_
        refine lv_iload_n hx hb (dd_of dX12_levelOf_0 30 rfl) rfl (lv_at hl 1 rfl) ?_
        have h5 := o13.1
        replace o13 := o13.2
        refine va_iald hx hb hK hP 1 0 rfl rfl h5 (dd_of dX12_levelOf_0 31 rfl) ?_
        refine lv_i2l (v := (Int32.toInt64 (F 9 (Int32.toNatClampNeg p1)))) hx hb (dd_of dX12_levelOf_0 32 rfl) rfl ?_
        have h6 := o13
        refine lv_ldiv hx hb (dd_of dX12_levelOf_0 33 rfl) h6 ?_
        refine lv_ladd hx hb (dd_of dX12_levelOf_0 34 rfl) ?_
        exact K12 _ q10
      · replace q10 := ifE c2 q10
        refine lv_aload_n hx hb (dd_of dX12_levelOf_0 11 rfl) rfl (lv_at hl 0 rfl) ?_
        refine va_get (D := D) (cl := vwCl) (tys := jT yy) (ci := 12) (v := .int (F 7 0)) (C := RX12) (T := TX12) (N := 61) hx hb hts hin12 hown hK hP 0 rfl rfl 7 (by decide) (jw hts gw722) (fun _ h9 => h9) rfl (dd_of dX12_levelOf_0 12 rfl) ?_
        refine lv_i2l (v := (Int32.toInt64 (F 7 0))) hx hb (dd_of dX12_levelOf_0 13 rfl) rfl ?_
        refine lv_goto (tgt := 61) hx hb (dd_of dX12_levelOf_0 14 rfl) (by decide) ?_
        exact K12 _ q10
    · replace q10 := ifE c1 q10
      replace o13 := o13.1 c1
      refine lv_aload_n hx hb (dd_of dX12_levelOf_0 3 rfl) rfl (lv_at hl 0 rfl) ?_
      refine lv_aload_n hx hb (dd_of dX12_levelOf_0 4 rfl) rfl (lv_at hl 0 rfl) ?_
      refine va_get (D := D) (cl := vwCl) (tys := jT yy) (ci := 12) (v := .int (F 0 0)) (C := RX12) (T := TX12) (N := 61) hx hb hts hin12 hown hK hP 0 rfl rfl 0 (by decide) (jw hts gw785) (fun _ h9 => h9) rfl (dd_of dX12_levelOf_0 5 rfl) ?_
      have h7 := o13
      refine jc_l (As := [.int (F 0 0)]) (rest := []) (w := (mW yy A F G)) (D := D) (yy := yy) ⟨hx, hb, hml, hown, hts⟩ (qX12_seaAt l D yy A F G (F 0 0) h7) (cwV 1 hts (jgV gw787 gw788 gw789 gw5 gw790) rfl rfl rfl (by decide +kernel) ⟨Nat.le_of_ble_eq_true rfl, Nat.le_of_ble_eq_true rfl⟩) hP hK (va_recv hK hP (ci := 12) (q0 := 0) rfl rfl) rfl hl.1 rfl (Nat.le_of_ble_eq_true rfl) (dd_of dX12_levelOf_0 6 rfl) ⟨Nat.zero_le _, Nat.zero_le _⟩ (fun x8 ex8 => ?_)
      replace q10 := bvE ex8 q10
      refine lv_goto (tgt := 61) hx hb (dd_of dX12_levelOf_0 7 rfl) (by decide) ?_
      exact K12 _ q10
set_option maxHeartbeats 4000000 in
set_option maxRecDepth 100000 in
theorem qX12_levels (l : Launch) (D : va_G) (yy : Nat → ClassId) (A : Nat → Nat) (F : jF) (G : jG) (p1 : Int32) (p2 : Int32) (hok : okX12_levels F G p1 p2) : Met l yX12_levels (Cond.code yX12_levels cX12_levels 7 (some .long) :: wsL_law) rmX12_levels (va_Pc [.ref (A 99), .int p1, .int p2] (jR D yy (mW yy A F G))) (vp_Sl (fun r => r = gX12_levels F G p1 p2)) 0 0 (fun _ => False) := by
  generalize hres : gX12_levels F G p1 p2 = RES
  refine jM (own := RX12) (by decide) rfl (Nat.le_of_ble_eq_true rfl) ?_
  intro p e s m args below meth c ls Q hQ hargs S hr hlk hinit hB hl
  obtain ⟨hx, hb, hml, hown, hts⟩ := S
  have hl : lv_has ls 7 [(0, .ref (A 99)), (1, .int p1), (2, .int p2)] := hl
  have hin12 : ∀ w ∈ u_ws RX12 TX12 61, w ∈ (Cond.code yX12_levels cX12_levels 7 (some .long) :: wsL_law) := fun w h => List.mem_cons_of_mem _ (inlX12 w h)
  obtain ⟨hP, hK⟩ := hB
  unfold gX12_levels at hres
  unfold okX12_levels at hok
  refine lv_aload_n hx hb (dd_of dX12_levels_0 0 rfl) rfl (lv_at hl 0 rfl) ?_
  refine lv_iload_n hx hb (dd_of dX12_levels_0 1 rfl) rfl (lv_at hl 1 rfl) ?_
  have h1 := hok.1
  replace hok := hok.2
  refine jc_l (As := [.int p1]) (rest := []) (w := (mW yy A F G)) (D := D) (yy := yy) ⟨hx, hb, hml, hown, hts⟩ (qX12_levelOf l D yy A F G p1 h1) (cwV 1 hts (jgV gw781 gw782 gw783 gw5 gw784) rfl rfl rfl (by decide +kernel) ⟨Nat.le_of_ble_eq_true rfl, Nat.le_of_ble_eq_true rfl⟩) hP hK (va_recv hK hP (ci := 12) (q0 := 0) rfl rfl) rfl hl.1 rfl (Nat.le_of_ble_eq_true rfl) (dd_of dX12_levels_0 2 rfl) ⟨Nat.zero_le _, Nat.zero_le _⟩ (fun x2 ex2 => ?_)
  replace hres := bvE ex2 hres
  replace hok := bvO ex2 hok
  refine lv_aload_n hx hb (dd_of dX12_levels_0 3 rfl) rfl (lv_at hl 0 rfl) ?_
  refine lv_iload_n hx hb (dd_of dX12_levels_0 4 rfl) rfl (lv_at hl 2 rfl) ?_
  have h3 := hok.1
  replace hok := hok.2
  refine jc_l (As := [.int p2]) (rest := [.long x2]) (w := (mW yy A F G)) (D := D) (yy := yy) ⟨hx, hb, hml, hown, hts⟩ (qX12_levelOf l D yy A F G p2 h3) (cwV 1 hts (jgV gw781 gw782 gw783 gw5 gw784) rfl rfl rfl (by decide +kernel) ⟨Nat.le_of_ble_eq_true rfl, Nat.le_of_ble_eq_true rfl⟩) hP hK (va_recv hK hP (ci := 12) (q0 := 0) rfl rfl) rfl hl.1 rfl (Nat.le_of_ble_eq_true rfl) (dd_of dX12_levels_0 5 rfl) ⟨Nat.zero_le _, Nat.zero_le _⟩ (fun x4 ex4 => ?_)
  replace hres := bvE ex4 hres
  replace hok := bvO ex4 hok
  refine lv_lsub hx hb (dd_of dX12_levels_0 6 rfl) ?_
  refine lv_topl (fun x5 ex5 => ?_)
  replace hres := bvE ex5 hres
  replace hok := bvO ex5 hok
  refine lv_lstore_n (lv' := [(3, .long x5), (0, .ref (A 99)), (1, .int p1), (2, .int p2)]) hx hb (dd_of dX12_levels_0 7 rfl) rfl hl (by decide) rfl (fun ls hl => ?_)
  refine lv_iload_n hx hb (dd_of dX12_levels_0 8 rfl) rfl (lv_at hl 2 rfl) ?_
  refine lv_bipush (v := 20) hx hb (dd_of dX12_levels_0 9 rfl) (by decide) ?_
  refine lv_icmp_ge (tgt := 65) hx hb (dd_of dX12_levels_0 10 rfl) (by decide) (fun c6 => ?_) (fun c6 => ?_)
  · replace hres := ifE c6 hres
    replace hok := hok.1 c6
    refine lv_lload_n hx hb (dd_of dX12_levels_1 2 rfl) rfl (lv_at hl 0 rfl) ?_
    refine lv_aload_n hx hb (dd_of dX12_levels_1 3 rfl) rfl (lv_at hl 1 rfl) ?_
    refine va_get (D := D) (cl := vwCl) (tys := jT yy) (ci := 12) (v := .ref (A 9)) (C := RX12) (T := TX12) (N := 61) hx hb hts hin12 hown hK hP 0 rfl rfl 9 (by decide) (jw hts gw125) (fun _ h9 => h9) rfl (dd_of dX12_levels_1 4 rfl) ?_
    refine lv_iload_n hx hb (dd_of dX12_levels_1 5 rfl) rfl (lv_at hl 2 rfl) ?_
    refine lv_bipush (v := 20) hx hb (dd_of dX12_levels_1 6 rfl) (by decide) ?_
    obtain ⟨z38, q37⟩ : ∃ z : Int32, (if 20 ≤ p1 then p2 else p1) = z := ⟨_, rfl⟩
    refine jn_i (ls := ls) (v := z38) 81 [.ref (A 9), .long x5] (fun v8 ev8 => ?_) (fun K39 => ?_)
    · replace hres := bvE (ev8.trans q37.symm) hres
      replace hok := bvO (ev8.trans q37.symm) hok
      have h9 := hok.1
      replace hok := hok.2
      refine va_iald hx hb hK hP 1 0 rfl rfl h9 (dd_of dX12_levels_1 11 rfl) ?_
      refine lv_i2l (v := (Int32.toInt64 (F 9 (Int32.toNatClampNeg v8)))) hx hb (dd_of dX12_levels_1 12 rfl) rfl ?_
      refine lv_lmul hx hb (dd_of dX12_levels_1 13 rfl) ?_
      refine lv_ldc2 (v := 100) hx hb hown (jw hts gw786) (dd_of dX12_levels_1 14 rfl) ?_
      refine lv_ldiv hx hb (dd_of dX12_levels_1 15 rfl) (by decide) ?_
      refine lv_topl (fun x10 ex10 => ?_)
      replace hres := bvE ex10 hres
      replace hok := bvO ex10 hok
      refine lv_lstore (lv' := [(5, .long x10), (3, .long x5), (0, .ref (A 99)), (1, .int p1), (2, .int p2)]) hx hb (dd_of dX12_levels_1 16 rfl) hl (by decide) rfl (fun ls hl => ?_)
      refine lv_iload_n hx hb (dd_of dX12_levels_1 17 rfl) rfl (lv_at hl 3 rfl) ?_
      refine lv_bipush (v := 20) hx hb (dd_of dX12_levels_1 18 rfl) (by decide) ?_
      obtain ⟨z41, q40⟩ : ∃ z : Int64, (if 20 ≤ p1 then x10 else (if x10 ≤ (G 14 (Int32.toNatClampNeg p1)) then x10 else (G 14 (Int32.toNatClampNeg p1)))) = z := ⟨_, rfl⟩
      have o43 := hok
      refine jn_l (ls := ls) (v := z41) 119 [] (fun v15 ev15 => ?_) (fun K42 => ?_)
      · replace hres := bvE (ev15.trans q40.symm) hres
        subst hQ
        exact W.lret (v := v15) hx hb hr (fun t ht _ => ⟨_, rfl, hres, ht⟩) (fun _ h => absurd h List.not_mem_nil) (dd_of dX12_levels_1 33 rfl) hlk
      · skip
        refine lv_icmp_ge (tgt := 117) hx hb (dd_of dX12_levels_1 19 rfl) (by decide) (fun c11 => ?_) (fun c11 => ?_)
        · replace q40 := ifE c11 q40
          refine lv_lload hx hb (dd_of dX12_levels_1 32 rfl) (lv_at hl 0 rfl) ?_
          exact K42 _ q40
        · replace q40 := ifN c11 q40
          replace o43 := o43.2 c11
          refine lv_aload_n hx hb (dd_of dX12_levels_1 20 rfl) rfl (lv_at hl 2 rfl) ?_
          refine va_get (D := D) (cl := vwCl) (tys := jT yy) (ci := 12) (v := .ref (A 14)) (C := RX12) (T := TX12) (N := 61) hx hb hts hin12 hown hK hP 0 rfl rfl 14 (by decide) (jw hts gw130) (fun _ h9 => h9) rfl (dd_of dX12_levels_1 21 rfl) ?_
          refine lv_iload_n hx hb (dd_of dX12_levels_1 22 rfl) rfl (lv_at hl 3 rfl) ?_
          have h12 := o43.1
          replace o43 := o43.2
          refine va_lald hx hb hK hP 6 1 rfl rfl h12 (dd_of dX12_levels_1 23 rfl) ?_
          refine lv_lload hx hb (dd_of dX12_levels_1 24 rfl) (lv_at hl 0 rfl) ?_
          refine jl_ge (tgt := 117) hx hb (dd_of dX12_levels_1 25 rfl) (dd_of dX12_levels_1 26 rfl) (by decide) (fun c13 => ?_) (fun c13 => ?_)
          · replace q40 := ifE c13 q40
            refine lv_lload hx hb (dd_of dX12_levels_1 32 rfl) (lv_at hl 0 rfl) ?_
            exact K42 _ q40
          · replace q40 := ifN c13 q40
            replace o43 := o43.2 c13
            refine lv_aload_n hx hb (dd_of dX12_levels_1 27 rfl) rfl (lv_at hl 2 rfl) ?_
            refine va_get (D := D) (cl := vwCl) (tys := jT yy) (ci := 12) (v := .ref (A 14)) (C := RX12) (T := TX12) (N := 61) hx hb hts hin12 hown hK hP 0 rfl rfl 14 (by decide) (jw hts gw130) (fun _ h9 => h9) rfl (dd_of dX12_levels_1 28 rfl) ?_
            refine lv_iload_n hx hb (dd_of dX12_levels_1 29 rfl) rfl (lv_at hl 3 rfl) ?_
            have h14 := o43
            refine va_lald hx hb hK hP 6 1 rfl rfl h14 (dd_of dX12_levels_1 30 rfl) ?_
            refine lv_goto (tgt := 119) hx hb (dd_of dX12_levels_1 31 rfl) (by decide) ?_
            exact K42 _ q40
    · skip
      refine lv_icmp_ge (tgt := 80) hx hb (dd_of dX12_levels_1 7 rfl) (by decide) (fun c7 => ?_) (fun c7 => ?_)
      · replace q37 := ifE c7 q37
        refine lv_iload_n hx hb (dd_of dX12_levels_1 10 rfl) rfl (lv_at hl 3 rfl) ?_
        exact K39 _ q37
      · replace q37 := ifN c7 q37
        refine lv_iload_n hx hb (dd_of dX12_levels_1 8 rfl) rfl (lv_at hl 2 rfl) ?_
        refine lv_goto (tgt := 81) hx hb (dd_of dX12_levels_1 9 rfl) (by decide) ?_
        exact K39 _ q37
  · replace hres := ifN c6 hres
    replace hok := hok.2 c6
    refine lv_iload_n hx hb (dd_of dX12_levels_0 11 rfl) rfl (lv_at hl 3 rfl) ?_
    refine lv_bipush (v := 20) hx hb (dd_of dX12_levels_0 12 rfl) (by decide) ?_
    refine lv_icmp_ge (tgt := 65) hx hb (dd_of dX12_levels_0 13 rfl) (by decide) (fun c16 => ?_) (fun c16 => ?_)
    · replace hres := ifE c16 hres
      replace hok := hok.1 c16
      refine lv_lload_n hx hb (dd_of dX12_levels_1 2 rfl) rfl (lv_at hl 0 rfl) ?_
      refine lv_aload_n hx hb (dd_of dX12_levels_1 3 rfl) rfl (lv_at hl 1 rfl) ?_
      refine va_get (D := D) (cl := vwCl) (tys := jT yy) (ci := 12) (v := .ref (A 9)) (C := RX12) (T := TX12) (N := 61) hx hb hts hin12 hown hK hP 0 rfl rfl 9 (by decide) (jw hts gw125) (fun _ h9 => h9) rfl (dd_of dX12_levels_1 4 rfl) ?_
      refine lv_iload_n hx hb (dd_of dX12_levels_1 5 rfl) rfl (lv_at hl 2 rfl) ?_
      refine lv_bipush (v := 20) hx hb (dd_of dX12_levels_1 6 rfl) (by decide) ?_
      obtain ⟨z45, q44⟩ : ∃ z : Int32, (if 20 ≤ p1 then p2 else p1) = z := ⟨_, rfl⟩
      refine jn_i (ls := ls) (v := z45) 81 [.ref (A 9), .long x5] (fun v18 ev18 => ?_) (fun K46 => ?_)
      · replace hres := bvE (ev18.trans q44.symm) hres
        replace hok := bvO (ev18.trans q44.symm) hok
        have h19 := hok.1
        replace hok := hok.2
        refine va_iald hx hb hK hP 1 0 rfl rfl h19 (dd_of dX12_levels_1 11 rfl) ?_
        refine lv_i2l (v := (Int32.toInt64 (F 9 (Int32.toNatClampNeg v18)))) hx hb (dd_of dX12_levels_1 12 rfl) rfl ?_
        refine lv_lmul hx hb (dd_of dX12_levels_1 13 rfl) ?_
        refine lv_ldc2 (v := 100) hx hb hown (jw hts gw786) (dd_of dX12_levels_1 14 rfl) ?_
        refine lv_ldiv hx hb (dd_of dX12_levels_1 15 rfl) (by decide) ?_
        refine lv_topl (fun x20 ex20 => ?_)
        replace hres := bvE ex20 hres
        replace hok := bvO ex20 hok
        refine lv_lstore (lv' := [(5, .long x20), (3, .long x5), (0, .ref (A 99)), (1, .int p1), (2, .int p2)]) hx hb (dd_of dX12_levels_1 16 rfl) hl (by decide) rfl (fun ls hl => ?_)
        refine lv_iload_n hx hb (dd_of dX12_levels_1 17 rfl) rfl (lv_at hl 3 rfl) ?_
        refine lv_bipush (v := 20) hx hb (dd_of dX12_levels_1 18 rfl) (by decide) ?_
        obtain ⟨z48, q47⟩ : ∃ z : Int64, (if 20 ≤ p1 then x20 else (if x20 ≤ (G 14 (Int32.toNatClampNeg p1)) then x20 else (G 14 (Int32.toNatClampNeg p1)))) = z := ⟨_, rfl⟩
        have o50 := hok
        refine jn_l (ls := ls) (v := z48) 119 [] (fun v25 ev25 => ?_) (fun K49 => ?_)
        · replace hres := bvE (ev25.trans q47.symm) hres
          subst hQ
          exact W.lret (v := v25) hx hb hr (fun t ht _ => ⟨_, rfl, hres, ht⟩) (fun _ h => absurd h List.not_mem_nil) (dd_of dX12_levels_1 33 rfl) hlk
        · skip
          refine lv_icmp_ge (tgt := 117) hx hb (dd_of dX12_levels_1 19 rfl) (by decide) (fun c21 => ?_) (fun c21 => ?_)
          · replace q47 := ifE c21 q47
            refine lv_lload hx hb (dd_of dX12_levels_1 32 rfl) (lv_at hl 0 rfl) ?_
            exact K49 _ q47
          · replace q47 := ifN c21 q47
            replace o50 := o50.2 c21
            refine lv_aload_n hx hb (dd_of dX12_levels_1 20 rfl) rfl (lv_at hl 2 rfl) ?_
            refine va_get (D := D) (cl := vwCl) (tys := jT yy) (ci := 12) (v := .ref (A 14)) (C := RX12) (T := TX12) (N := 61) hx hb hts hin12 hown hK hP 0 rfl rfl 14 (by decide) (jw hts gw130) (fun _ h9 => h9) rfl (dd_of dX12_levels_1 21 rfl) ?_
            refine lv_iload_n hx hb (dd_of dX12_levels_1 22 rfl) rfl (lv_at hl 3 rfl) ?_
            have h22 := o50.1
            replace o50 := o50.2
            refine va_lald hx hb hK hP 6 1 rfl rfl h22 (dd_of dX12_levels_1 23 rfl) ?_
            refine lv_lload hx hb (dd_of dX12_levels_1 24 rfl) (lv_at hl 0 rfl) ?_
            refine jl_ge (tgt := 117) hx hb (dd_of dX12_levels_1 25 rfl) (dd_of dX12_levels_1 26 rfl) (by decide) (fun c23 => ?_) (fun c23 => ?_)
            · replace q47 := ifE c23 q47
              refine lv_lload hx hb (dd_of dX12_levels_1 32 rfl) (lv_at hl 0 rfl) ?_
              exact K49 _ q47
            · replace q47 := ifN c23 q47
              replace o50 := o50.2 c23
              refine lv_aload_n hx hb (dd_of dX12_levels_1 27 rfl) rfl (lv_at hl 2 rfl) ?_
              refine va_get (D := D) (cl := vwCl) (tys := jT yy) (ci := 12) (v := .ref (A 14)) (C := RX12) (T := TX12) (N := 61) hx hb hts hin12 hown hK hP 0 rfl rfl 14 (by decide) (jw hts gw130) (fun _ h9 => h9) rfl (dd_of dX12_levels_1 28 rfl) ?_
              refine lv_iload_n hx hb (dd_of dX12_levels_1 29 rfl) rfl (lv_at hl 3 rfl) ?_
              have h24 := o50
              refine va_lald hx hb hK hP 6 1 rfl rfl h24 (dd_of dX12_levels_1 30 rfl) ?_
              refine lv_goto (tgt := 119) hx hb (dd_of dX12_levels_1 31 rfl) (by decide) ?_
              exact K49 _ q47
      · skip
        refine lv_icmp_ge (tgt := 80) hx hb (dd_of dX12_levels_1 7 rfl) (by decide) (fun c17 => ?_) (fun c17 => ?_)
        · replace q44 := ifE c17 q44
          refine lv_iload_n hx hb (dd_of dX12_levels_1 10 rfl) rfl (lv_at hl 3 rfl) ?_
          exact K46 _ q44
        · replace q44 := ifN c17 q44
          refine lv_iload_n hx hb (dd_of dX12_levels_1 8 rfl) rfl (lv_at hl 2 rfl) ?_
          refine lv_goto (tgt := 81) hx hb (dd_of dX12_levels_1 9 rfl) (by decide) ?_
          exact K46 _ q44
    · replace hres := ifN c16 hres
      replace hok := hok.2 c16
      refine lv_lload_n hx hb (dd_of dX12_levels_0 14 rfl) rfl (lv_at hl 0 rfl) ?_
      refine lv_aload_n hx hb (dd_of dX12_levels_0 15 rfl) rfl (lv_at hl 1 rfl) ?_
      refine va_get (D := D) (cl := vwCl) (tys := jT yy) (ci := 12) (v := .ref (A 9)) (C := RX12) (T := TX12) (N := 61) hx hb hts hin12 hown hK hP 0 rfl rfl 9 (by decide) (jw hts gw125) (fun _ h9 => h9) rfl (dd_of dX12_levels_0 16 rfl) ?_
      refine lv_iload_n hx hb (dd_of dX12_levels_0 17 rfl) rfl (lv_at hl 2 rfl) ?_
      have h26 := hok.1
      replace hok := hok.2
      refine va_iald hx hb hK hP 1 0 rfl rfl h26 (dd_of dX12_levels_0 18 rfl) ?_
      refine lv_i2l (v := (Int32.toInt64 (F 9 (Int32.toNatClampNeg p1)))) hx hb (dd_of dX12_levels_0 19 rfl) rfl ?_
      refine lv_lmul hx hb (dd_of dX12_levels_0 20 rfl) ?_
      refine lv_aload_n hx hb (dd_of dX12_levels_0 21 rfl) rfl (lv_at hl 1 rfl) ?_
      refine va_get (D := D) (cl := vwCl) (tys := jT yy) (ci := 12) (v := .ref (A 9)) (C := RX12) (T := TX12) (N := 61) hx hb hts hin12 hown hK hP 0 rfl rfl 9 (by decide) (jw hts gw125) (fun _ h9 => h9) rfl (dd_of dX12_levels_0 22 rfl) ?_
      refine lv_iload_n hx hb (dd_of dX12_levels_0 23 rfl) rfl (lv_at hl 3 rfl) ?_
      have h27 := hok.1
      replace hok := hok.2
      refine va_iald hx hb hK hP 1 0 rfl rfl h27 (dd_of dX12_levels_0 24 rfl) ?_
      refine lv_i2l (v := (Int32.toInt64 (F 9 (Int32.toNatClampNeg p2)))) hx hb (dd_of dX12_levels_0 25 rfl) rfl ?_
      refine lv_lmul hx hb (dd_of dX12_levels_0 26 rfl) ?_
      refine lv_aload_n hx hb (dd_of dX12_levels_0 27 rfl) rfl (lv_at hl 1 rfl) ?_
      refine va_get (D := D) (cl := vwCl) (tys := jT yy) (ci := 12) (v := .ref (A 9)) (C := RX12) (T := TX12) (N := 61) hx hb hts hin12 hown hK hP 0 rfl rfl 9 (by decide) (jw hts gw125) (fun _ h9 => h9) rfl (dd_of dX12_levels_0 28 rfl) ?_
      refine lv_iload_n hx hb (dd_of dX12_levels_0 29 rfl) rfl (lv_at hl 2 rfl) ?_
      have h28 := hok.1
      replace hok := hok.2
      refine va_iald hx hb hK hP 1 0 rfl rfl h28 (dd_of dX12_levels_0 30 rfl) ?_
      refine lv_aload_n hx hb (dd_of dX12_levels_0 31 rfl) rfl (lv_at hl 1 rfl) ?_
      refine va_get (D := D) (cl := vwCl) (tys := jT yy) (ci := 12) (v := .ref (A 9)) (C := RX12) (T := TX12) (N := 61) hx hb hts hin12 hown hK hP 0 rfl rfl 9 (by decide) (jw hts gw125) (fun _ h9 => h9) rfl (dd_of dX12_levels_0 32 rfl) ?_
      refine lv_iload_n hx hb (dd_of dX12_levels_0 33 rfl) rfl (lv_at hl 3 rfl) ?_
      have h29 := hok.1
      replace hok := hok.2
      refine va_iald hx hb hK hP 1 0 rfl rfl h29 (dd_of dX12_levels_0 34 rfl) ?_
      refine lv_iadd hx hb (dd_of dX12_levels_0 35 rfl) ?_
      refine lv_i2l (v := (Int32.toInt64 ((F 9 (Int32.toNatClampNeg p1)) + (F 9 (Int32.toNatClampNeg p2))))) hx hb (dd_of dX12_levels_0 36 rfl) rfl ?_
      refine lv_ldc2 (v := 100) hx hb hown (jw hts gw786) (dd_of dX12_levels_0 37 rfl) ?_
      refine lv_lmul hx hb (dd_of dX12_levels_0 38 rfl) ?_
      have h30 := hok.1
      replace hok := hok.2
      refine lv_ldiv hx hb (dd_of dX12_levels_0 39 rfl) h30 ?_
      refine lv_topl (fun x31 ex31 => ?_)
      replace hres := bvE ex31 hres
      replace hok := bvO ex31 hok
      refine lv_lstore (lv' := [(5, .long x31), (3, .long x5), (0, .ref (A 99)), (1, .int p1), (2, .int p2)]) hx hb (dd_of dX12_levels_1 0 rfl) hl (by decide) rfl (fun ls hl => ?_)
      refine lv_goto (tgt := 90) hx hb (dd_of dX12_levels_1 1 rfl) (by decide) ?_
      refine lv_iload_n hx hb (dd_of dX12_levels_1 17 rfl) rfl (lv_at hl 3 rfl) ?_
      refine lv_bipush (v := 20) hx hb (dd_of dX12_levels_1 18 rfl) (by decide) ?_
      obtain ⟨z52, q51⟩ : ∃ z : Int64, (if 20 ≤ p1 then x31 else (if x31 ≤ (G 14 (Int32.toNatClampNeg p1)) then x31 else (G 14 (Int32.toNatClampNeg p1)))) = z := ⟨_, rfl⟩
      have o54 := hok
      refine jn_l (ls := ls) (v := z52) 119 [] (fun v36 ev36 => ?_) (fun K53 => ?_)
      · replace hres := bvE (ev36.trans q51.symm) hres
        subst hQ
        exact W.lret (v := v36) hx hb hr (fun t ht _ => ⟨_, rfl, hres, ht⟩) (fun _ h => absurd h List.not_mem_nil) (dd_of dX12_levels_1 33 rfl) hlk
      · skip
        refine lv_icmp_ge (tgt := 117) hx hb (dd_of dX12_levels_1 19 rfl) (by decide) (fun c32 => ?_) (fun c32 => ?_)
        · replace q51 := ifE c32 q51
          refine lv_lload hx hb (dd_of dX12_levels_1 32 rfl) (lv_at hl 0 rfl) ?_
          exact K53 _ q51
        · replace q51 := ifN c32 q51
          replace o54 := o54.2 c32
          refine lv_aload_n hx hb (dd_of dX12_levels_1 20 rfl) rfl (lv_at hl 2 rfl) ?_
          refine va_get (D := D) (cl := vwCl) (tys := jT yy) (ci := 12) (v := .ref (A 14)) (C := RX12) (T := TX12) (N := 61) hx hb hts hin12 hown hK hP 0 rfl rfl 14 (by decide) (jw hts gw130) (fun _ h9 => h9) rfl (dd_of dX12_levels_1 21 rfl) ?_
          refine lv_iload_n hx hb (dd_of dX12_levels_1 22 rfl) rfl (lv_at hl 3 rfl) ?_
          have h33 := o54.1
          replace o54 := o54.2
          refine va_lald hx hb hK hP 6 1 rfl rfl h33 (dd_of dX12_levels_1 23 rfl) ?_
          refine lv_lload hx hb (dd_of dX12_levels_1 24 rfl) (lv_at hl 0 rfl) ?_
          refine jl_ge (tgt := 117) hx hb (dd_of dX12_levels_1 25 rfl) (dd_of dX12_levels_1 26 rfl) (by decide) (fun c34 => ?_) (fun c34 => ?_)
          · replace q51 := ifE c34 q51
            refine lv_lload hx hb (dd_of dX12_levels_1 32 rfl) (lv_at hl 0 rfl) ?_
            exact K53 _ q51
          · replace q51 := ifN c34 q51
            replace o54 := o54.2 c34
            refine lv_aload_n hx hb (dd_of dX12_levels_1 27 rfl) rfl (lv_at hl 2 rfl) ?_
            refine va_get (D := D) (cl := vwCl) (tys := jT yy) (ci := 12) (v := .ref (A 14)) (C := RX12) (T := TX12) (N := 61) hx hb hts hin12 hown hK hP 0 rfl rfl 14 (by decide) (jw hts gw130) (fun _ h9 => h9) rfl (dd_of dX12_levels_1 28 rfl) ?_
            refine lv_iload_n hx hb (dd_of dX12_levels_1 29 rfl) rfl (lv_at hl 3 rfl) ?_
            have h35 := o54
            refine va_lald hx hb hK hP 6 1 rfl rfl h35 (dd_of dX12_levels_1 30 rfl) ?_
            refine lv_goto (tgt := 119) hx hb (dd_of dX12_levels_1 31 rfl) (by decide) ?_
            exact K53 _ q51
set_option maxHeartbeats 4000000 in
set_option maxRecDepth 100000 in
theorem qX12_goes (l : Launch) (D : va_G) (yy : Nat → ClassId) (A : Nat → Nat) (F : jF) (G : jG) (sz : Nat) (p1 : Int32) (p2 : Int32) (p3 : Int64) (hok : okX12_goes F G p1 p2 p3) : Met l yX12_goes (Cond.code yX12_goes cX12_goes 5 none :: wsL_law) rmX12_goes (va_Pc [.ref (A 99), .int p1, .int p2, .long p3] (jP D yy (mW yy A F G) sz)) (va_Qv (fun u : jS => u = gX12_goes F G p1 p2 p3) (fun (u : jS) t => jB D yy (va_A (mW yy A F G) sz) (mW yy A u.1 u.2) t) (va_A (mW yy A F G) sz)) 0 0 (va_A (mW yy A F G) sz) := by
  generalize hres : gX12_goes F G p1 p2 p3 = RES
  refine jM (own := RX12) (by decide) rfl (Nat.le_of_ble_eq_true rfl) ?_
  intro p e s m args below meth c ls Q hQ hargs S hr hlk hinit hB hl
  obtain ⟨hx, hb, hml, hown, hts⟩ := S
  have hl : lv_has ls 5 [(0, .ref (A 99)), (1, .int p1), (2, .int p2), (3, .long p3)] := hl
  have hin12 : ∀ w ∈ u_ws RX12 TX12 61, w ∈ (Cond.code yX12_goes cX12_goes 5 none :: wsL_law) := fun w h => List.mem_cons_of_mem _ (inlX12 w h)
  obtain ⟨hsz, hP, hK, hD0⟩ := hB
  subst hsz
  have hD := hD0.self (sz := s.heap.size)
  generalize hZ : va_A (mW yy A F G) s.heap.size = Z at hD hQ
  have hA : ∀ q : Nat, s.heap.size ≤ q → Z q := fun q h => by rw [← hZ]; exact Or.inr h
  obtain ⟨H, hH⟩ : ∃ z, z = s.heap := ⟨_, rfl⟩
  obtain ⟨locs, hlocs⟩ : ∃ z : List Loc, z = [] := ⟨_, rfl⟩
  have hS : va_S Z s.heap H locs := by rw [hH, hlocs]; exact va_S.rf
  rw [← hH] at hP
  suffices hgo : W p l e rmX12_goes s m args below meth c H locs 0 0 Q (F0 m 0 ls []) by rw [hH, hlocs] at hgo; exact hgo
  unfold gX12_goes at hres
  unfold okX12_goes at hok
  refine lv_iload_n hx hb (dd_of dX12_goes_0 0 rfl) rfl (lv_at hl 1 rfl) ?_
  refine lv_bipush (v := 20) hx hb (dd_of dX12_goes_0 1 rfl) (by decide) ?_
  refine lv_icmp_ge (tgt := 19) hx hb (dd_of dX12_goes_0 2 rfl) (by decide) (fun c1 => ?_) (fun c1 => ?_)
  · replace hres := ifE c1 hres
    replace hok := hok.1 c1
    refine lv_aload_n hx hb (dd_of dX12_goes_0 12 rfl) rfl (lv_at hl 0 rfl) ?_
    refine va_get (D := D) (cl := vwCl) (tys := jT yy) (ci := 12) (v := .ref (A 56)) (C := RX12) (T := TX12) (N := 61) hx hb hts hin12 hown hK hP 0 rfl rfl 56 (by decide) (jw hts gw166) (fun _ h9 => h9) rfl (dd_of dX12_goes_0 13 rfl) ?_
    refine lv_iconst (v := 2) hx hb (dd_of dX12_goes_0 14 rfl) (by decide) ?_
    refine lv_dup2_11 hx hb (dd_of dX12_goes_0 15 rfl) rfl rfl ?_
    refine va_lald hx hb hK hP 42 1 rfl rfl (vin_lit (by decide)) (dd_of dX12_goes_0 16 rfl) ?_
    refine lv_lload_n hx hb (dd_of dX12_goes_0 17 rfl) rfl (lv_at hl 3 rfl) ?_
    refine lv_ladd hx hb (dd_of dX12_goes_0 18 rfl) ?_
    refine va_last hx hb hK hP hD hS 42 1 rfl rfl (vin_lit (by decide)) (dd_of dX12_goes_0 19 rfl) (fun H locs hP hD hS => ?_)
    obtain ⟨G2, e3⟩ : ∃ z : jG, z = u2 G 56 (Int32.toNatClampNeg 2) ((G 56 (Int32.toNatClampNeg 2)) + p3) := ⟨_, rfl⟩
    have hP : va_P D vwCl (mW yy A F G2) H := by rw [e3]; exact hP
    have hD : va_D Z (mW yy A F G2) := by rw [e3]; exact hD
    replace hres := bvE e3 hres
    replace hok := bvO e3 hok
    refine lv_iload_n hx hb (dd_of dX12_goes_0 20 rfl) rfl (lv_at hl 2 rfl) ?_
    refine lv_bipush (v := 20) hx hb (dd_of dX12_goes_0 21 rfl) (by decide) ?_
    refine lv_icmp_ge (tgt := 48) hx hb (dd_of dX12_goes_0 22 rfl) (by decide) (fun c4 => ?_) (fun c4 => ?_)
    · replace hres := ifE c4 hres
      refine lv_aload_n hx hb (dd_of dX12_goes_0 32 rfl) rfl (lv_at hl 0 rfl) ?_
      refine va_get (D := D) (cl := vwCl) (tys := jT yy) (ci := 12) (v := .ref (A 56)) (C := RX12) (T := TX12) (N := 61) hx hb hts hin12 hown hK hP 0 rfl rfl 56 (by decide) (jw hts gw166) (fun _ h9 => h9) rfl (dd_of dX12_goes_0 33 rfl) ?_
      refine lv_iconst (v := 3) hx hb (dd_of dX12_goes_0 34 rfl) (by decide) ?_
      refine lv_dup2_11 hx hb (dd_of dX12_goes_0 35 rfl) rfl rfl ?_
      refine va_lald hx hb hK hP 42 1 rfl rfl (vin_lit (by decide)) (dd_of dX12_goes_0 36 rfl) ?_
      refine lv_lload_n hx hb (dd_of dX12_goes_0 37 rfl) rfl (lv_at hl 3 rfl) ?_
      refine lv_ladd hx hb (dd_of dX12_goes_0 38 rfl) ?_
      refine va_last hx hb hK hP hD hS 42 1 rfl rfl (vin_lit (by decide)) (dd_of dX12_goes_0 39 rfl) (fun H locs hP hD hS => ?_)
      obtain ⟨G5, e6⟩ : ∃ z : jG, z = u2 G2 56 (Int32.toNatClampNeg 3) ((G2 56 (Int32.toNatClampNeg 3)) + p3) := ⟨_, rfl⟩
      have hP : va_P D vwCl (mW yy A F G5) H := by rw [e6]; exact hP
      have hD : va_D Z (mW yy A F G5) := by rw [e6]; exact hD
      replace hres := bvE e6 hres
      subst hQ
      exact W.vret hx hb hr (fun t ht hW => ⟨⟨(F, G5), rfl, hres, by rw [ht]; exact hP, va_K.moved hW.alike hK, hD⟩, hS.F ht⟩) hS.2.2 (dd_of dX12_goes_1 0 rfl) hlk
    · replace hres := ifN c4 hres
      replace hok := hok.2 c4
      refine lv_aload_n hx hb (dd_of dX12_goes_0 23 rfl) rfl (lv_at hl 0 rfl) ?_
      refine va_get (D := D) (cl := vwCl) (tys := jT yy) (ci := 12) (v := .ref (A 14)) (C := RX12) (T := TX12) (N := 61) hx hb hts hin12 hown hK hP 0 rfl rfl 14 (by decide) (jw hts gw130) (fun _ h9 => h9) rfl (dd_of dX12_goes_0 24 rfl) ?_
      refine lv_iload_n hx hb (dd_of dX12_goes_0 25 rfl) rfl (lv_at hl 2 rfl) ?_
      refine lv_dup2_11 hx hb (dd_of dX12_goes_0 26 rfl) rfl rfl ?_
      have h7 := hok.1
      replace hok := hok.2
      refine va_lald hx hb hK hP 6 1 rfl rfl h7 (dd_of dX12_goes_0 27 rfl) ?_
      refine lv_lload_n hx hb (dd_of dX12_goes_0 28 rfl) rfl (lv_at hl 3 rfl) ?_
      refine lv_ladd hx hb (dd_of dX12_goes_0 29 rfl) ?_
      have h8 := hok
      refine va_last hx hb hK hP hD hS 6 1 rfl rfl h8 (dd_of dX12_goes_0 30 rfl) (fun H locs hP hD hS => ?_)
      obtain ⟨G9, e10⟩ : ∃ z : jG, z = u2 G2 14 (Int32.toNatClampNeg p2) ((G2 14 (Int32.toNatClampNeg p2)) + p3) := ⟨_, rfl⟩
      have hP : va_P D vwCl (mW yy A F G9) H := by rw [e10]; exact hP
      have hD : va_D Z (mW yy A F G9) := by rw [e10]; exact hD
      replace hres := bvE e10 hres
      refine lv_goto (tgt := 58) hx hb (dd_of dX12_goes_0 31 rfl) (by decide) ?_
      subst hQ
      exact W.vret hx hb hr (fun t ht hW => ⟨⟨(F, G9), rfl, hres, by rw [ht]; exact hP, va_K.moved hW.alike hK, hD⟩, hS.F ht⟩) hS.2.2 (dd_of dX12_goes_1 0 rfl) hlk
  · replace hres := ifN c1 hres
    replace hok := hok.2 c1
    refine lv_aload_n hx hb (dd_of dX12_goes_0 3 rfl) rfl (lv_at hl 0 rfl) ?_
    refine va_get (D := D) (cl := vwCl) (tys := jT yy) (ci := 12) (v := .ref (A 14)) (C := RX12) (T := TX12) (N := 61) hx hb hts hin12 hown hK hP 0 rfl rfl 14 (by decide) (jw hts gw130) (fun _ h9 => h9) rfl (dd_of dX12_goes_0 4 rfl) ?_
    refine lv_iload_n hx hb (dd_of dX12_goes_0 5 rfl) rfl (lv_at hl 1 rfl) ?_
    refine lv_dup2_11 hx hb (dd_of dX12_goes_0 6 rfl) rfl rfl ?_
    have h11 := hok.1
    replace hok := hok.2
    refine va_lald hx hb hK hP 6 1 rfl rfl h11 (dd_of dX12_goes_0 7 rfl) ?_
    refine lv_lload_n hx hb (dd_of dX12_goes_0 8 rfl) rfl (lv_at hl 3 rfl) ?_
    refine lv_lsub hx hb (dd_of dX12_goes_0 9 rfl) ?_
    have h12 := hok.1
    replace hok := hok.2
    refine va_last hx hb hK hP hD hS 6 1 rfl rfl h12 (dd_of dX12_goes_0 10 rfl) (fun H locs hP hD hS => ?_)
    obtain ⟨G13, e14⟩ : ∃ z : jG, z = u2 G 14 (Int32.toNatClampNeg p1) ((G 14 (Int32.toNatClampNeg p1)) - p3) := ⟨_, rfl⟩
    have hP : va_P D vwCl (mW yy A F G13) H := by rw [e14]; exact hP
    have hD : va_D Z (mW yy A F G13) := by rw [e14]; exact hD
    replace hres := bvE e14 hres
    replace hok := bvO e14 hok
    refine lv_goto (tgt := 29) hx hb (dd_of dX12_goes_0 11 rfl) (by decide) ?_
    refine lv_iload_n hx hb (dd_of dX12_goes_0 20 rfl) rfl (lv_at hl 2 rfl) ?_
    refine lv_bipush (v := 20) hx hb (dd_of dX12_goes_0 21 rfl) (by decide) ?_
    refine lv_icmp_ge (tgt := 48) hx hb (dd_of dX12_goes_0 22 rfl) (by decide) (fun c15 => ?_) (fun c15 => ?_)
    · replace hres := ifE c15 hres
      refine lv_aload_n hx hb (dd_of dX12_goes_0 32 rfl) rfl (lv_at hl 0 rfl) ?_
      refine va_get (D := D) (cl := vwCl) (tys := jT yy) (ci := 12) (v := .ref (A 56)) (C := RX12) (T := TX12) (N := 61) hx hb hts hin12 hown hK hP 0 rfl rfl 56 (by decide) (jw hts gw166) (fun _ h9 => h9) rfl (dd_of dX12_goes_0 33 rfl) ?_
      refine lv_iconst (v := 3) hx hb (dd_of dX12_goes_0 34 rfl) (by decide) ?_
      refine lv_dup2_11 hx hb (dd_of dX12_goes_0 35 rfl) rfl rfl ?_
      refine va_lald hx hb hK hP 42 1 rfl rfl (vin_lit (by decide)) (dd_of dX12_goes_0 36 rfl) ?_
      refine lv_lload_n hx hb (dd_of dX12_goes_0 37 rfl) rfl (lv_at hl 3 rfl) ?_
      refine lv_ladd hx hb (dd_of dX12_goes_0 38 rfl) ?_
      refine va_last hx hb hK hP hD hS 42 1 rfl rfl (vin_lit (by decide)) (dd_of dX12_goes_0 39 rfl) (fun H locs hP hD hS => ?_)
      obtain ⟨G16, e17⟩ : ∃ z : jG, z = u2 G13 56 (Int32.toNatClampNeg 3) ((G13 56 (Int32.toNatClampNeg 3)) + p3) := ⟨_, rfl⟩
      have hP : va_P D vwCl (mW yy A F G16) H := by rw [e17]; exact hP
      have hD : va_D Z (mW yy A F G16) := by rw [e17]; exact hD
      replace hres := bvE e17 hres
      subst hQ
      exact W.vret hx hb hr (fun t ht hW => ⟨⟨(F, G16), rfl, hres, by rw [ht]; exact hP, va_K.moved hW.alike hK, hD⟩, hS.F ht⟩) hS.2.2 (dd_of dX12_goes_1 0 rfl) hlk
    · replace hres := ifN c15 hres
      replace hok := hok.2 c15
      refine lv_aload_n hx hb (dd_of dX12_goes_0 23 rfl) rfl (lv_at hl 0 rfl) ?_
      refine va_get (D := D) (cl := vwCl) (tys := jT yy) (ci := 12) (v := .ref (A 14)) (C := RX12) (T := TX12) (N := 61) hx hb hts hin12 hown hK hP 0 rfl rfl 14 (by decide) (jw hts gw130) (fun _ h9 => h9) rfl (dd_of dX12_goes_0 24 rfl) ?_
      refine lv_iload_n hx hb (dd_of dX12_goes_0 25 rfl) rfl (lv_at hl 2 rfl) ?_
      refine lv_dup2_11 hx hb (dd_of dX12_goes_0 26 rfl) rfl rfl ?_
      have h18 := hok.1
      replace hok := hok.2
      refine va_lald hx hb hK hP 6 1 rfl rfl h18 (dd_of dX12_goes_0 27 rfl) ?_
      refine lv_lload_n hx hb (dd_of dX12_goes_0 28 rfl) rfl (lv_at hl 3 rfl) ?_
      refine lv_ladd hx hb (dd_of dX12_goes_0 29 rfl) ?_
      have h19 := hok
      refine va_last hx hb hK hP hD hS 6 1 rfl rfl h19 (dd_of dX12_goes_0 30 rfl) (fun H locs hP hD hS => ?_)
      obtain ⟨G20, e21⟩ : ∃ z : jG, z = u2 G13 14 (Int32.toNatClampNeg p2) ((G13 14 (Int32.toNatClampNeg p2)) + p3) := ⟨_, rfl⟩
      have hP : va_P D vwCl (mW yy A F G20) H := by rw [e21]; exact hP
      have hD : va_D Z (mW yy A F G20) := by rw [e21]; exact hD
      replace hres := bvE e21 hres
      refine lv_goto (tgt := 58) hx hb (dd_of dX12_goes_0 31 rfl) (by decide) ?_
      subst hQ
      exact W.vret hx hb hr (fun t ht hW => ⟨⟨(F, G20), rfl, hres, by rw [ht]; exact hP, va_K.moved hW.alike hK, hD⟩, hS.F ht⟩) hS.2.2 (dd_of dX12_goes_1 0 rfl) hlk
set_option maxHeartbeats 4000000 in
set_option maxRecDepth 100000 in
theorem qX12_flows (l : Launch) (D : va_G) (yy : Nat → ClassId) (A : Nat → Nat) (F : jF) (G : jG) (sz : Nat) (p1 : Int32) (p2 : Int32) (p3 : Int64) (hok : okX12_flows F G p1 p2 p3) : Met l yX12_flows (Cond.code yX12_flows cX12_flows 10 (some .long) :: wsL_law) rmX12_flows (va_Pc [.ref (A 99), .int p1, .int p2, .long p3] (jP D yy (mW yy A F G) sz)) (va_Ql (fun r (u : jS) => (r, u) = gX12_flows F G p1 p2 p3) (fun (u : jS) t => jB D yy (va_A (mW yy A F G) sz) (mW yy A u.1 u.2) t) (va_A (mW yy A F G) sz)) 0 0 (va_A (mW yy A F G) sz) := by
  generalize hres : gX12_flows F G p1 p2 p3 = RES
  refine jM (own := RX12) (by decide) rfl (Nat.le_of_ble_eq_true rfl) ?_
  intro p e s m args below meth c ls Q hQ hargs S hr hlk hinit hB hl
  obtain ⟨hx, hb, hml, hown, hts⟩ := S
  have hl : lv_has ls 10 [(0, .ref (A 99)), (1, .int p1), (2, .int p2), (3, .long p3)] := hl
  have hin12 : ∀ w ∈ u_ws RX12 TX12 61, w ∈ (Cond.code yX12_flows cX12_flows 10 (some .long) :: wsL_law) := fun w h => List.mem_cons_of_mem _ (inlX12 w h)
  obtain ⟨hsz, hP, hK, hD0⟩ := hB
  subst hsz
  have hD := hD0.self (sz := s.heap.size)
  generalize hZ : va_A (mW yy A F G) s.heap.size = Z at hD hQ
  have hA : ∀ q : Nat, s.heap.size ≤ q → Z q := fun q h => by rw [← hZ]; exact Or.inr h
  obtain ⟨H, hH⟩ : ∃ z, z = s.heap := ⟨_, rfl⟩
  obtain ⟨locs, hlocs⟩ : ∃ z : List Loc, z = [] := ⟨_, rfl⟩
  have hS : va_S Z s.heap H locs := by rw [hH, hlocs]; exact va_S.rf
  rw [← hH] at hP
  suffices hgo : W p l e rmX12_flows s m args below meth c H locs 0 0 Q (F0 m 0 ls []) by rw [hH, hlocs] at hgo; exact hgo
  unfold gX12_flows at hres
  unfold okX12_flows at hok
  refine lv_aload_n hx hb (dd_of dX12_flows_0 0 rfl) rfl (lv_at hl 0 rfl) ?_
  refine lv_iload_n hx hb (dd_of dX12_flows_0 1 rfl) rfl (lv_at hl 1 rfl) ?_
  have h1 := hok.1
  replace hok := hok.2
  refine jc_l (As := [.int p1]) (rest := []) (w := (mW yy A F G)) (D := D) (yy := yy) ⟨hx, hb, hml, hown, hts⟩ (qX12_levelOf l D yy A F G p1 h1) (cwV 1 hts (jgV gw781 gw782 gw783 gw5 gw784) rfl rfl rfl (by decide +kernel) ⟨Nat.le_of_ble_eq_true rfl, Nat.le_of_ble_eq_true rfl⟩) hP hK (va_recv hK hP (ci := 12) (q0 := 0) rfl rfl) rfl hl.1 rfl (Nat.le_of_ble_eq_true rfl) (dd_of dX12_flows_0 2 rfl) ⟨Nat.zero_le _, Nat.zero_le _⟩ (fun x2 ex2 => ?_)
  replace hres := bvE ex2 hres
  replace hok := bvO ex2 hok
  refine lv_aload_n hx hb (dd_of dX12_flows_0 3 rfl) rfl (lv_at hl 0 rfl) ?_
  refine lv_iload_n hx hb (dd_of dX12_flows_0 4 rfl) rfl (lv_at hl 2 rfl) ?_
  have h3 := hok.1
  replace hok := hok.2
  refine jc_l (As := [.int p2]) (rest := [.long x2]) (w := (mW yy A F G)) (D := D) (yy := yy) ⟨hx, hb, hml, hown, hts⟩ (qX12_levelOf l D yy A F G p2 h3) (cwV 1 hts (jgV gw781 gw782 gw783 gw5 gw784) rfl rfl rfl (by decide +kernel) ⟨Nat.le_of_ble_eq_true rfl, Nat.le_of_ble_eq_true rfl⟩) hP hK (va_recv hK hP (ci := 12) (q0 := 0) rfl rfl) rfl hl.1 rfl (Nat.le_of_ble_eq_true rfl) (dd_of dX12_flows_0 5 rfl) ⟨Nat.zero_le _, Nat.zero_le _⟩ (fun x4 ex4 => ?_)
  replace hres := bvE ex4 hres
  replace hok := bvO ex4 hok
  obtain ⟨z20, q19⟩ : ∃ z : Int32, (if x2 < x4 then 0 else 1) = z := ⟨_, rfl⟩
  refine jn_i (ls := ls) (v := z20) 19 [] (fun v6 ev6 => ?_) (fun K21 => ?_)
  · replace hres := bvE (ev6.trans q19.symm) hres
    replace hok := bvO (ev6.trans q19.symm) hok
    refine lv_istore (lv' := [(5, .int v6), (0, .ref (A 99)), (1, .int p1), (2, .int p2), (3, .long p3)]) hx hb (dd_of dX12_flows_0 11 rfl) hl (by decide) rfl (fun ls hl => ?_)
    refine lv_iload hx hb (dd_of dX12_flows_0 12 rfl) (lv_at hl 0 rfl) ?_
    obtain ⟨z23, q22⟩ : ∃ z : Int32, (if v6 = 0 then p2 else p1) = z := ⟨_, rfl⟩
    refine jn_i (ls := ls) (v := z23) 31 [] (fun v8 ev8 => ?_) (fun K24 => ?_)
    · replace hres := bvE (ev8.trans q22.symm) hres
      replace hok := bvO (ev8.trans q22.symm) hok
      refine lv_istore (lv' := [(6, .int v8), (5, .int v6), (0, .ref (A 99)), (1, .int p1), (2, .int p2), (3, .long p3)]) hx hb (dd_of dX12_flows_0 17 rfl) hl (by decide) rfl (fun ls hl => ?_)
      refine lv_iload hx hb (dd_of dX12_flows_0 18 rfl) (lv_at hl 1 rfl) ?_
      obtain ⟨z26, q25⟩ : ∃ z : Int32, (if v6 = 0 then p1 else p2) = z := ⟨_, rfl⟩
      refine jn_i (ls := ls) (v := z26) 43 [] (fun v10 ev10 => ?_) (fun K27 => ?_)
      · replace hres := bvE (ev10.trans q25.symm) hres
        replace hok := bvO (ev10.trans q25.symm) hok
        refine lv_istore (lv' := [(7, .int v10), (6, .int v8), (5, .int v6), (0, .ref (A 99)), (1, .int p1), (2, .int p2), (3, .long p3)]) hx hb (dd_of dX12_flows_0 23 rfl) hl (by decide) rfl (fun ls hl => ?_)
        refine lv_aload_n hx hb (dd_of dX12_flows_0 24 rfl) rfl (lv_at hl 3 rfl) ?_
        refine lv_iload hx hb (dd_of dX12_flows_0 25 rfl) (lv_at hl 1 rfl) ?_
        refine lv_iload hx hb (dd_of dX12_flows_0 26 rfl) (lv_at hl 0 rfl) ?_
        have h11 := hok.1
        replace hok := hok.2
        refine jc_l (As := [.int v8, .int v10]) (rest := []) (w := (mW yy A F G)) (D := D) (yy := yy) ⟨hx, hb, hml, hown, hts⟩ (qX12_levels l D yy A F G v8 v10 h11) (cwV 2 hts (jgV gw905 gw906 gw907 gw5 gw908) rfl rfl rfl (by decide +kernel) ⟨Nat.le_of_ble_eq_true rfl, Nat.le_of_ble_eq_true rfl⟩) hP hK (va_recv hK hP (ci := 12) (q0 := 0) rfl rfl) rfl hl.1 rfl (Nat.le_of_ble_eq_true rfl) (dd_of dX12_flows_0 27 rfl) ⟨Nat.zero_le _, Nat.zero_le _⟩ (fun x12 ex12 => ?_)
        replace hres := bvE ex12 hres
        replace hok := bvO ex12 hok
        refine lv_lstore (lv' := [(8, .long x12), (7, .int v10), (6, .int v8), (5, .int v6), (0, .ref (A 99)), (1, .int p1), (2, .int p2), (3, .long p3)]) hx hb (dd_of dX12_flows_0 28 rfl) hl (by decide) rfl (fun ls hl => ?_)
        refine lv_lload hx hb (dd_of dX12_flows_0 29 rfl) (lv_at hl 0 rfl) ?_
        refine lv_lload_n hx hb (dd_of dX12_flows_0 30 rfl) rfl (lv_at hl 7 rfl) ?_
        obtain ⟨z29, q28⟩ : ∃ z : Int64, (if p3 ≤ x12 then p3 else x12) = z := ⟨_, rfl⟩
        refine jn_l (ls := ls) (v := z29) 68 [] (fun v14 ev14 => ?_) (fun K30 => ?_)
        · replace hres := bvE (ev14.trans q28.symm) hres
          replace hok := bvO (ev14.trans q28.symm) hok
          refine lv_lstore (lv' := [(8, .long v14), (7, .int v10), (6, .int v8), (5, .int v6), (0, .ref (A 99)), (1, .int p1), (2, .int p2), (3, .long p3)]) hx hb (dd_of dX12_flows_0 36 rfl) hl (by decide) rfl (fun ls hl => ?_)
          refine lv_aload_n hx hb (dd_of dX12_flows_0 37 rfl) rfl (lv_at hl 4 rfl) ?_
          refine lv_iload hx hb (dd_of dX12_flows_0 38 rfl) (lv_at hl 2 rfl) ?_
          refine lv_iload hx hb (dd_of dX12_flows_0 39 rfl) (lv_at hl 1 rfl) ?_
          refine lv_lload hx hb (dd_of dX12_flows_1 0 rfl) (lv_at hl 0 rfl) ?_
          have h15 := hok
          refine jm_v (As := [.int v8, .int v10, .long v14]) (rest := []) (w := (mW yy A F G)) (w1 := fun u : jS => (mW yy A u.1 u.2)) (D := D) (yy := yy) ⟨hx, hb, hml, hown, hts⟩ (qX12_goes l D yy A F G H.size v8 v10 v14 h15) (cwV 3 hts (jgV gw909 gw910 gw911 gw5 gw912) rfl rfl rfl (by decide +kernel) ⟨Nat.le_of_ble_eq_true rfl, Nat.le_of_ble_eq_true rfl⟩) hP hK hD hS hA (va_recv hK hP (ci := 12) (q0 := 0) rfl rfl) rfl hl.1 rfl (Nat.le_of_ble_eq_true rfl) (dd_of dX12_flows_1 1 rfl) ⟨Nat.zero_le _, Nat.zero_le _⟩ (fun u9 H locs w18 hP hD hS => ?_)
          obtain ⟨F16, G17⟩ := u9
          have hP : va_P D vwCl (mW yy A F16 G17) H := hP
          have hD : va_D Z (mW yy A F16 G17) := hD
          replace hres := bsE w18 hres
          refine lv_lload hx hb (dd_of dX12_flows_1 2 rfl) (lv_at hl 0 rfl) ?_
          subst hQ
          exact W.lret (v := v14) hx hb hr (fun t ht hW => ⟨⟨v14, (F16, G17), rfl, hres, by rw [ht]; exact hP, va_K.moved hW.alike hK, hD⟩, hS.F ht⟩) hS.2.2 (dd_of dX12_flows_1 3 rfl) hlk
        · skip
          refine jl_ge (tgt := 67) hx hb (dd_of dX12_flows_0 31 rfl) (dd_of dX12_flows_0 32 rfl) (by decide) (fun c13 => ?_) (fun c13 => ?_)
          · replace q28 := ifE c13 q28
            refine lv_lload_n hx hb (dd_of dX12_flows_0 35 rfl) rfl (lv_at hl 7 rfl) ?_
            exact K30 _ q28
          · replace q28 := ifN c13 q28
            refine lv_lload hx hb (dd_of dX12_flows_0 33 rfl) (lv_at hl 0 rfl) ?_
            refine lv_goto (tgt := 68) hx hb (dd_of dX12_flows_0 34 rfl) (by decide) ?_
            exact K30 _ q28
      · skip
        refine lv_if_eq (tgt := 42) hx hb (dd_of dX12_flows_0 19 rfl) (by decide) (fun c9 => ?_) (fun c9 => ?_)
        · replace q25 := ifE c9 q25
          refine lv_iload_n hx hb (dd_of dX12_flows_0 22 rfl) rfl (lv_at hl 3 rfl) ?_
          exact K27 _ q25
        · replace q25 := ifN c9 q25
          refine lv_iload_n hx hb (dd_of dX12_flows_0 20 rfl) rfl (lv_at hl 4 rfl) ?_
          refine lv_goto (tgt := 43) hx hb (dd_of dX12_flows_0 21 rfl) (by decide) ?_
          exact K27 _ q25
    · skip
      refine lv_if_eq (tgt := 30) hx hb (dd_of dX12_flows_0 13 rfl) (by decide) (fun c7 => ?_) (fun c7 => ?_)
      · replace q22 := ifE c7 q22
        refine lv_iload_n hx hb (dd_of dX12_flows_0 16 rfl) rfl (lv_at hl 3 rfl) ?_
        exact K24 _ q22
      · replace q22 := ifN c7 q22
        refine lv_iload_n hx hb (dd_of dX12_flows_0 14 rfl) rfl (lv_at hl 2 rfl) ?_
        refine lv_goto (tgt := 31) hx hb (dd_of dX12_flows_0 15 rfl) (by decide) ?_
        exact K24 _ q22
  · skip
    refine jl_lt (tgt := 18) hx hb (dd_of dX12_flows_0 6 rfl) (dd_of dX12_flows_0 7 rfl) (by decide) (fun c5 => ?_) (fun c5 => ?_)
    · replace q19 := ifE c5 q19
      refine lv_iconst (v := 0) hx hb (dd_of dX12_flows_0 10 rfl) (by decide) ?_
      exact K21 _ q19
    · replace q19 := ifN c5 q19
      refine lv_iconst (v := 1) hx hb (dd_of dX12_flows_0 8 rfl) (by decide) ?_
      refine lv_goto (tgt := 19) hx hb (dd_of dX12_flows_0 9 rfl) (by decide) ?_
      exact K21 _ q19
set_option maxHeartbeats 4000000 in
set_option maxRecDepth 100000 in
theorem qX12_isSeaHigher (l : Launch) (D : va_G) (yy : Nat → ClassId) (A : Nat → Nat) (F : jF) (G : jG) (p1 : Int32) (hok : okX12_isSeaHigher F G p1) : Met l yX12_isSeaHigher (Cond.code yX12_isSeaHigher cX12_isSeaHigher 4 (some .boolean) :: wsL_law) rmX12_isSeaHigher (va_Pc [.ref (A 99), .int p1] (jR D yy (mW yy A F G))) (vp_Si (fun r => r = gX12_isSeaHigher F G p1)) 0 0 (fun _ => False) := by
  generalize hres : gX12_isSeaHigher F G p1 = RES
  refine jM (own := RX12) (by decide) rfl (Nat.le_of_ble_eq_true rfl) ?_
  intro p e s m args below meth c ls Q hQ hargs S hr hlk hinit hB hl
  obtain ⟨hx, hb, hml, hown, hts⟩ := S
  have hl : lv_has ls 4 [(0, .ref (A 99)), (1, .int p1)] := hl
  have hin12 : ∀ w ∈ u_ws RX12 TX12 61, w ∈ (Cond.code yX12_isSeaHigher cX12_isSeaHigher 4 (some .boolean) :: wsL_law) := fun w h => List.mem_cons_of_mem _ (inlX12 w h)
  obtain ⟨hP, hK⟩ := hB
  unfold gX12_isSeaHigher at hres
  unfold okX12_isSeaHigher at hok
  refine lv_aload_n hx hb (dd_of dX12_isSeaHigher_0 0 rfl) rfl (lv_at hl 0 rfl) ?_
  refine va_get (D := D) (cl := vwCl) (tys := jT yy) (ci := 12) (v := .ref (A 18)) (C := RX12) (T := TX12) (N := 61) hx hb hts hin12 hown hK hP 0 rfl rfl 18 (by decide) (jw hts gw133) (fun _ h9 => h9) rfl (dd_of dX12_isSeaHigher_0 1 rfl) ?_
  refine lv_iload_n hx hb (dd_of dX12_isSeaHigher_0 2 rfl) rfl (lv_at hl 1 rfl) ?_
  have h1 := hok.1
  replace hok := hok.2
  refine va_iald hx hb hK hP 9 0 rfl rfl h1 (dd_of dX12_isSeaHigher_0 3 rfl) ?_
  refine lv_bipush (v := 20) hx hb (dd_of dX12_isSeaHigher_0 4 rfl) (by decide) ?_
  obtain ⟨z29, q28⟩ : ∃ z : Int32, (if (F 18 (Int32.toNatClampNeg p1)) = 20 then 1 else 0) = z := ⟨_, rfl⟩
  refine jn_i (ls := ls) (v := z29) 16 [] (fun v3 ev3 => ?_) (fun K30 => ?_)
  · replace hres := bvE (ev3.trans q28.symm) hres
    replace hok := bvO (ev3.trans q28.symm) hok
    refine lv_istore_n (lv' := [(2, .int v3), (0, .ref (A 99)), (1, .int p1)]) hx hb (dd_of dX12_isSeaHigher_0 9 rfl) rfl hl (by decide) rfl (fun ls hl => ?_)
    refine lv_aload_n hx hb (dd_of dX12_isSeaHigher_0 10 rfl) rfl (lv_at hl 1 rfl) ?_
    refine va_get (D := D) (cl := vwCl) (tys := jT yy) (ci := 12) (v := .ref (A 19)) (C := RX12) (T := TX12) (N := 61) hx hb hts hin12 hown hK hP 0 rfl rfl 19 (by decide) (jw hts gw134) (fun _ h9 => h9) rfl (dd_of dX12_isSeaHigher_0 11 rfl) ?_
    refine lv_iload_n hx hb (dd_of dX12_isSeaHigher_0 12 rfl) rfl (lv_at hl 2 rfl) ?_
    have h4 := hok.1
    replace hok := hok.2
    refine va_iald hx hb hK hP 10 0 rfl rfl h4 (dd_of dX12_isSeaHigher_0 13 rfl) ?_
    refine lv_bipush (v := 20) hx hb (dd_of dX12_isSeaHigher_0 14 rfl) (by decide) ?_
    obtain ⟨z32, q31⟩ : ∃ z : Int32, (if (F 19 (Int32.toNatClampNeg p1)) = 20 then 1 else 0) = z := ⟨_, rfl⟩
    refine jn_i (ls := ls) (v := z32) 33 [] (fun v6 ev6 => ?_) (fun K33 => ?_)
    · replace hres := bvE (ev6.trans q31.symm) hres
      replace hok := bvO (ev6.trans q31.symm) hok
      refine lv_istore_n (lv' := [(3, .int v6), (2, .int v3), (0, .ref (A 99)), (1, .int p1)]) hx hb (dd_of dX12_isSeaHigher_0 19 rfl) rfl hl (by decide) rfl (fun ls hl => ?_)
      refine lv_iload_n hx hb (dd_of dX12_isSeaHigher_0 20 rfl) rfl (lv_at hl 1 rfl) ?_
      refine lv_if_eq (tgt := 58) hx hb (dd_of dX12_isSeaHigher_0 21 rfl) (by decide) (fun c7 => ?_) (fun c7 => ?_)
      · replace hres := ifE c7 hres
        replace hok := hok.1 c7
        refine lv_iload_n hx hb (dd_of dX12_isSeaHigher_0 33 rfl) rfl (lv_at hl 0 rfl) ?_
        refine lv_if_eq (tgt := 86) hx hb (dd_of dX12_isSeaHigher_0 34 rfl) (by decide) (fun c8 => ?_) (fun c8 => ?_)
        · replace hres := ifE c8 hres
          refine lv_iconst (v := 0) hx hb (dd_of dX12_isSeaHigher_1 8 rfl) (by decide) ?_
          subst hQ
          exact W.zret (ty := .boolean) (v := 0) hx hb hr (jb_nz (Or.inl rfl)) (fun t ht _ => ⟨_, rfl, hres, ht⟩) (fun _ h => absurd h List.not_mem_nil) (dd_of dX12_isSeaHigher_1 9 rfl) hlk
        · replace hres := ifN c8 hres
          replace hok := hok.2 c8
          refine lv_aload_n hx hb (dd_of dX12_isSeaHigher_0 35 rfl) rfl (lv_at hl 2 rfl) ?_
          refine lv_bipush (v := 20) hx hb (dd_of dX12_isSeaHigher_0 36 rfl) (by decide) ?_
          have h9 := hok.1
          replace hok := hok.2
          refine jc_l (As := [.int 20]) (rest := []) (w := (mW yy A F G)) (D := D) (yy := yy) ⟨hx, hb, hml, hown, hts⟩ (qX12_levelOf l D yy A F G 20 h9) (cwV 1 hts (jgV gw781 gw782 gw783 gw5 gw784) rfl rfl rfl (by decide +kernel) ⟨Nat.le_of_ble_eq_true rfl, Nat.le_of_ble_eq_true rfl⟩) hP hK (va_recv hK hP (ci := 12) (q0 := 0) rfl rfl) rfl hl.1 rfl (Nat.le_of_ble_eq_true rfl) (dd_of dX12_isSeaHigher_0 37 rfl) ⟨Nat.zero_le _, Nat.zero_le _⟩ (fun x10 ex10 => ?_)
          replace hres := bvE ex10 hres
          replace hok := bvO ex10 hok
          refine lv_aload_n hx hb (dd_of dX12_isSeaHigher_0 38 rfl) rfl (lv_at hl 2 rfl) ?_
          refine lv_aload_n hx hb (dd_of dX12_isSeaHigher_0 39 rfl) rfl (lv_at hl 2 rfl) ?_
          refine va_get (D := D) (cl := vwCl) (tys := jT yy) (ci := 12) (v := .ref (A 18)) (C := RX12) (T := TX12) (N := 61) hx hb hts hin12 hown hK hP 0 rfl rfl 18 (by decide) (jw hts gw133) (fun _ h9 => h9) rfl (dd_of dX12_isSeaHigher_1 0 rfl) ?_
          refine lv_iload_n hx hb (dd_of dX12_isSeaHigher_1 1 rfl) rfl (lv_at hl 3 rfl) ?_
          have h11 := hok.1
          replace hok := hok.2
          refine va_iald hx hb hK hP 9 0 rfl rfl h11 (dd_of dX12_isSeaHigher_1 2 rfl) ?_
          have h12 := hok
          refine jc_l (As := [.int (F 18 (Int32.toNatClampNeg p1))]) (rest := [.long x10]) (w := (mW yy A F G)) (D := D) (yy := yy) ⟨hx, hb, hml, hown, hts⟩ (qX12_levelOf l D yy A F G (F 18 (Int32.toNatClampNeg p1)) h12) (cwV 1 hts (jgV gw781 gw782 gw783 gw5 gw784) rfl rfl rfl (by decide +kernel) ⟨Nat.le_of_ble_eq_true rfl, Nat.le_of_ble_eq_true rfl⟩) hP hK (va_recv hK hP (ci := 12) (q0 := 0) rfl rfl) rfl hl.1 rfl (Nat.le_of_ble_eq_true rfl) (dd_of dX12_isSeaHigher_1 3 rfl) ⟨Nat.zero_le _, Nat.zero_le _⟩ (fun x13 ex13 => ?_)
          replace hres := bvE ex13 hres
          refine jl_le (tgt := 86) hx hb (dd_of dX12_isSeaHigher_1 4 rfl) (dd_of dX12_isSeaHigher_1 5 rfl) (by decide) (fun c14 => ?_) (fun c14 => ?_)
          · replace hres := ifE c14 hres
            refine lv_iconst (v := 0) hx hb (dd_of dX12_isSeaHigher_1 8 rfl) (by decide) ?_
            subst hQ
            exact W.zret (ty := .boolean) (v := 0) hx hb hr (jb_nz (Or.inl rfl)) (fun t ht _ => ⟨_, rfl, hres, ht⟩) (fun _ h => absurd h List.not_mem_nil) (dd_of dX12_isSeaHigher_1 9 rfl) hlk
          · replace hres := ifN c14 hres
            refine lv_iconst (v := 1) hx hb (dd_of dX12_isSeaHigher_1 6 rfl) (by decide) ?_
            refine lv_goto (tgt := 87) hx hb (dd_of dX12_isSeaHigher_1 7 rfl) (by decide) ?_
            subst hQ
            exact W.zret (ty := .boolean) (v := 1) hx hb hr (jb_nz (Or.inr rfl)) (fun t ht _ => ⟨_, rfl, hres, ht⟩) (fun _ h => absurd h List.not_mem_nil) (dd_of dX12_isSeaHigher_1 9 rfl) hlk
      · replace hres := ifN c7 hres
        replace hok := hok.2 c7
        refine lv_aload_n hx hb (dd_of dX12_isSeaHigher_0 22 rfl) rfl (lv_at hl 2 rfl) ?_
        refine lv_bipush (v := 20) hx hb (dd_of dX12_isSeaHigher_0 23 rfl) (by decide) ?_
        have h15 := hok.1
        replace hok := hok.2
        refine jc_l (As := [.int 20]) (rest := []) (w := (mW yy A F G)) (D := D) (yy := yy) ⟨hx, hb, hml, hown, hts⟩ (qX12_levelOf l D yy A F G 20 h15) (cwV 1 hts (jgV gw781 gw782 gw783 gw5 gw784) rfl rfl rfl (by decide +kernel) ⟨Nat.le_of_ble_eq_true rfl, Nat.le_of_ble_eq_true rfl⟩) hP hK (va_recv hK hP (ci := 12) (q0 := 0) rfl rfl) rfl hl.1 rfl (Nat.le_of_ble_eq_true rfl) (dd_of dX12_isSeaHigher_0 24 rfl) ⟨Nat.zero_le _, Nat.zero_le _⟩ (fun x16 ex16 => ?_)
        replace hres := bvE ex16 hres
        replace hok := bvO ex16 hok
        refine lv_aload_n hx hb (dd_of dX12_isSeaHigher_0 25 rfl) rfl (lv_at hl 2 rfl) ?_
        refine lv_aload_n hx hb (dd_of dX12_isSeaHigher_0 26 rfl) rfl (lv_at hl 2 rfl) ?_
        refine va_get (D := D) (cl := vwCl) (tys := jT yy) (ci := 12) (v := .ref (A 19)) (C := RX12) (T := TX12) (N := 61) hx hb hts hin12 hown hK hP 0 rfl rfl 19 (by decide) (jw hts gw134) (fun _ h9 => h9) rfl (dd_of dX12_isSeaHigher_0 27 rfl) ?_
        refine lv_iload_n hx hb (dd_of dX12_isSeaHigher_0 28 rfl) rfl (lv_at hl 3 rfl) ?_
        have h17 := hok.1
        replace hok := hok.2
        refine va_iald hx hb hK hP 10 0 rfl rfl h17 (dd_of dX12_isSeaHigher_0 29 rfl) ?_
        have h18 := hok.1
        replace hok := hok.2
        refine jc_l (As := [.int (F 19 (Int32.toNatClampNeg p1))]) (rest := [.long x16]) (w := (mW yy A F G)) (D := D) (yy := yy) ⟨hx, hb, hml, hown, hts⟩ (qX12_levelOf l D yy A F G (F 19 (Int32.toNatClampNeg p1)) h18) (cwV 1 hts (jgV gw781 gw782 gw783 gw5 gw784) rfl rfl rfl (by decide +kernel) ⟨Nat.le_of_ble_eq_true rfl, Nat.le_of_ble_eq_true rfl⟩) hP hK (va_recv hK hP (ci := 12) (q0 := 0) rfl rfl) rfl hl.1 rfl (Nat.le_of_ble_eq_true rfl) (dd_of dX12_isSeaHigher_0 30 rfl) ⟨Nat.zero_le _, Nat.zero_le _⟩ (fun x19 ex19 => ?_)
        replace hres := bvE ex19 hres
        replace hok := bvO ex19 hok
        refine jl_gt (tgt := 82) hx hb (dd_of dX12_isSeaHigher_0 31 rfl) (dd_of dX12_isSeaHigher_0 32 rfl) (by decide) (fun c20 => ?_) (fun c20 => ?_)
        · replace hres := ifE c20 hres
          refine lv_iconst (v := 1) hx hb (dd_of dX12_isSeaHigher_1 6 rfl) (by decide) ?_
          refine lv_goto (tgt := 87) hx hb (dd_of dX12_isSeaHigher_1 7 rfl) (by decide) ?_
          subst hQ
          exact W.zret (ty := .boolean) (v := 1) hx hb hr (jb_nz (Or.inr rfl)) (fun t ht _ => ⟨_, rfl, hres, ht⟩) (fun _ h => absurd h List.not_mem_nil) (dd_of dX12_isSeaHigher_1 9 rfl) hlk
        · replace hres := ifN c20 hres
          replace hok := hok.2 c20
          refine lv_iload_n hx hb (dd_of dX12_isSeaHigher_0 33 rfl) rfl (lv_at hl 0 rfl) ?_
          refine lv_if_eq (tgt := 86) hx hb (dd_of dX12_isSeaHigher_0 34 rfl) (by decide) (fun c21 => ?_) (fun c21 => ?_)
          · replace hres := ifE c21 hres
            refine lv_iconst (v := 0) hx hb (dd_of dX12_isSeaHigher_1 8 rfl) (by decide) ?_
            subst hQ
            exact W.zret (ty := .boolean) (v := 0) hx hb hr (jb_nz (Or.inl rfl)) (fun t ht _ => ⟨_, rfl, hres, ht⟩) (fun _ h => absurd h List.not_mem_nil) (dd_of dX12_isSeaHigher_1 9 rfl) hlk
          · replace hres := ifN c21 hres
            replace hok := hok.2 c21
            refine lv_aload_n hx hb (dd_of dX12_isSeaHigher_0 35 rfl) rfl (lv_at hl 2 rfl) ?_
            refine lv_bipush (v := 20) hx hb (dd_of dX12_isSeaHigher_0 36 rfl) (by decide) ?_
            have h22 := hok.1
            replace hok := hok.2
            refine jc_l (As := [.int 20]) (rest := []) (w := (mW yy A F G)) (D := D) (yy := yy) ⟨hx, hb, hml, hown, hts⟩ (qX12_levelOf l D yy A F G 20 h22) (cwV 1 hts (jgV gw781 gw782 gw783 gw5 gw784) rfl rfl rfl (by decide +kernel) ⟨Nat.le_of_ble_eq_true rfl, Nat.le_of_ble_eq_true rfl⟩) hP hK (va_recv hK hP (ci := 12) (q0 := 0) rfl rfl) rfl hl.1 rfl (Nat.le_of_ble_eq_true rfl) (dd_of dX12_isSeaHigher_0 37 rfl) ⟨Nat.zero_le _, Nat.zero_le _⟩ (fun x23 ex23 => ?_)
            replace hres := bvE ex23 hres
            replace hok := bvO ex23 hok
            refine lv_aload_n hx hb (dd_of dX12_isSeaHigher_0 38 rfl) rfl (lv_at hl 2 rfl) ?_
            refine lv_aload_n hx hb (dd_of dX12_isSeaHigher_0 39 rfl) rfl (lv_at hl 2 rfl) ?_
            refine va_get (D := D) (cl := vwCl) (tys := jT yy) (ci := 12) (v := .ref (A 18)) (C := RX12) (T := TX12) (N := 61) hx hb hts hin12 hown hK hP 0 rfl rfl 18 (by decide) (jw hts gw133) (fun _ h9 => h9) rfl (dd_of dX12_isSeaHigher_1 0 rfl) ?_
            refine lv_iload_n hx hb (dd_of dX12_isSeaHigher_1 1 rfl) rfl (lv_at hl 3 rfl) ?_
            have h24 := hok.1
            replace hok := hok.2
            refine va_iald hx hb hK hP 9 0 rfl rfl h24 (dd_of dX12_isSeaHigher_1 2 rfl) ?_
            have h25 := hok
            refine jc_l (As := [.int (F 18 (Int32.toNatClampNeg p1))]) (rest := [.long x23]) (w := (mW yy A F G)) (D := D) (yy := yy) ⟨hx, hb, hml, hown, hts⟩ (qX12_levelOf l D yy A F G (F 18 (Int32.toNatClampNeg p1)) h25) (cwV 1 hts (jgV gw781 gw782 gw783 gw5 gw784) rfl rfl rfl (by decide +kernel) ⟨Nat.le_of_ble_eq_true rfl, Nat.le_of_ble_eq_true rfl⟩) hP hK (va_recv hK hP (ci := 12) (q0 := 0) rfl rfl) rfl hl.1 rfl (Nat.le_of_ble_eq_true rfl) (dd_of dX12_isSeaHigher_1 3 rfl) ⟨Nat.zero_le _, Nat.zero_le _⟩ (fun x26 ex26 => ?_)
            replace hres := bvE ex26 hres
            refine jl_le (tgt := 86) hx hb (dd_of dX12_isSeaHigher_1 4 rfl) (dd_of dX12_isSeaHigher_1 5 rfl) (by decide) (fun c27 => ?_) (fun c27 => ?_)
            · replace hres := ifE c27 hres
              refine lv_iconst (v := 0) hx hb (dd_of dX12_isSeaHigher_1 8 rfl) (by decide) ?_
              subst hQ
              exact W.zret (ty := .boolean) (v := 0) hx hb hr (jb_nz (Or.inl rfl)) (fun t ht _ => ⟨_, rfl, hres, ht⟩) (fun _ h => absurd h List.not_mem_nil) (dd_of dX12_isSeaHigher_1 9 rfl) hlk
            · replace hres := ifN c27 hres
              refine lv_iconst (v := 1) hx hb (dd_of dX12_isSeaHigher_1 6 rfl) (by decide) ?_
              refine lv_goto (tgt := 87) hx hb (dd_of dX12_isSeaHigher_1 7 rfl) (by decide) ?_
              subst hQ
              exact W.zret (ty := .boolean) (v := 1) hx hb hr (jb_nz (Or.inr rfl)) (fun t ht _ => ⟨_, rfl, hres, ht⟩) (fun _ h => absurd h List.not_mem_nil) (dd_of dX12_isSeaHigher_1 9 rfl) hlk
    · skip
      refine lv_icmp_ne (tgt := 32) hx hb (dd_of dX12_isSeaHigher_0 15 rfl) (by decide) (fun c5 => ?_) (fun c5 => ?_)
      · replace q31 := ifN c5 q31
        refine lv_iconst (v := 0) hx hb (dd_of dX12_isSeaHigher_0 18 rfl) (by decide) ?_
        exact K33 _ q31
      · replace q31 := ifE c5 q31
        refine lv_iconst (v := 1) hx hb (dd_of dX12_isSeaHigher_0 16 rfl) (by decide) ?_
        refine lv_goto (tgt := 33) hx hb (dd_of dX12_isSeaHigher_0 17 rfl) (by decide) ?_
        exact K33 _ q31
  · skip
    refine lv_icmp_ne (tgt := 15) hx hb (dd_of dX12_isSeaHigher_0 5 rfl) (by decide) (fun c2 => ?_) (fun c2 => ?_)
    · replace q28 := ifN c2 q28
      refine lv_iconst (v := 0) hx hb (dd_of dX12_isSeaHigher_0 8 rfl) (by decide) ?_
      exact K30 _ q28
    · replace q28 := ifE c2 q28
      refine lv_iconst (v := 1) hx hb (dd_of dX12_isSeaHigher_0 6 rfl) (by decide) ?_
      refine lv_goto (tgt := 16) hx hb (dd_of dX12_isSeaHigher_0 7 rfl) (by decide) ?_
      exact K30 _ q28
