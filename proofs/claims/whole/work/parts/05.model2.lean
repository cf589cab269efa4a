def gX12_command (F : jF) (G : jG) (p1 : Int32) (p2 : Int32) (p3 : Int32) : (Int32 × jS) := bv (gX12_in p1 0 ((F 17 0) - 1)) (fun x1 : Int32 => bv ((if x1 = 0 then 1 else bv (gX12_in p3 0 3) (fun x3 : Int32 => (if x3 = 0 then 2 else 0))) : Int32) (fun v5 : Int32 => bv (u2 F 60 0 v5) (fun F6 : jF => (if (F6 60 0) ≤ 0 then (if (F6 21 (Int32.toNatClampNeg p1)) ≤ p3 then (if p2 = 0 then bv (gX12_levelOf F6 G (F6 18 (Int32.toNatClampNeg p1))) (fun x14 : Int64 => bv (gX12_levelOf F6 G (F6 19 (Int32.toNatClampNeg p1))) (fun x17 : Int64 => bv (x14 - x17) (fun x18 : Int64 => bv ((if x18 ≤ 0 then (if 0 ≤ x18 then (-1) else (F6 18 (Int32.toNatClampNeg p1))) else (F6 19 (Int32.toNatClampNeg p1))) : Int32) (fun v23 : Int32 => (if p2 = 0 then bv ((if p2 = 0 then 0 else 1) : Int32) (fun v26 : Int32 => bv (u2 F6 22 (Int32.toNatClampNeg p1) v26) (fun F28 : jF => (0, (F28, G)))) else (if v23 = (-1) then bv ((if p2 = 0 then 0 else 1) : Int32) (fun v32 : Int32 => bv (u2 F6 22 (Int32.toNatClampNeg p1) v32) (fun F34 : jF => (0, (F34, G)))) else (if 20 ≤ v23 then bv ((if p2 = 0 then 0 else 1) : Int32) (fun v38 : Int32 => bv (u2 F6 22 (Int32.toNatClampNeg p1) v38) (fun F40 : jF => (0, (F40, G)))) else (if (F6 13 (Int32.toNatClampNeg v23)) ≤ 0 then bv ((if p2 = 0 then 0 else 1) : Int32) (fun v45 : Int32 => bv (u2 F6 22 (Int32.toNatClampNeg p1) v45) (fun F47 : jF => (0, (F47, G)))) else (if 3 ≤ p3 then bv ((if p2 = 0 then 0 else 1) : Int32) (fun v51 : Int32 => bv (u2 F6 22 (Int32.toNatClampNeg p1) v51) (fun F53 : jF => (0, (F53, G)))) else (3, (F6, G))))))))))) else bv (gX12_isSeaHigher F6 G p1) (fun x56 : Int32 => (if x56 = 0 then bv (gX12_levelOf F6 G (F6 18 (Int32.toNatClampNeg p1))) (fun x60 : Int64 => bv (gX12_levelOf F6 G (F6 19 (Int32.toNatClampNeg p1))) (fun x63 : Int64 => bv (x60 - x63) (fun x64 : Int64 => bv ((if x64 ≤ 0 then (if 0 ≤ x64 then (-1) else (F6 18 (Int32.toNatClampNeg p1))) else (F6 19 (Int32.toNatClampNeg p1))) : Int32) (fun v69 : Int32 => (if p2 = 0 then bv ((if p2 = 0 then 0 else 1) : Int32) (fun v72 : Int32 => bv (u2 F6 22 (Int32.toNatClampNeg p1) v72) (fun F74 : jF => (0, (F74, G)))) else (if v69 = (-1) then bv ((if p2 = 0 then 0 else 1) : Int32) (fun v78 : Int32 => bv (u2 F6 22 (Int32.toNatClampNeg p1) v78) (fun F80 : jF => (0, (F80, G)))) else (if 20 ≤ v69 then bv ((if p2 = 0 then 0 else 1) : Int32) (fun v84 : Int32 => bv (u2 F6 22 (Int32.toNatClampNeg p1) v84) (fun F86 : jF => (0, (F86, G)))) else (if (F6 13 (Int32.toNatClampNeg v69)) ≤ 0 then bv ((if p2 = 0 then 0 else 1) : Int32) (fun v91 : Int32 => bv (u2 F6 22 (Int32.toNatClampNeg p1) v91) (fun F93 : jF => (0, (F93, G)))) else (if 3 ≤ p3 then bv ((if p2 = 0 then 0 else 1) : Int32) (fun v97 : Int32 => bv (u2 F6 22 (Int32.toNatClampNeg p1) v97) (fun F99 : jF => (0, (F99, G)))) else (3, (F6, G))))))))))) else (2, (F6, G))))) else (1, (F6, G))) else (0, (F6, G))))))
def okX12_command (F : jF) (G : jG) (p1 : Int32) (p2 : Int32) (p3 : Int32) : Prop := bv (gX12_in p1 0 ((F 17 0) - 1)) (fun x1 : Int32 => bv ((if x1 = 0 then 1 else bv (gX12_in p3 0 3) (fun x3 : Int32 => (if x3 = 0 then 2 else 0))) : Int32) (fun v5 : Int32 => bv (u2 F 60 0 v5) (fun F6 : jF => (((F6 60 0) ≤ 0 → (vp_in p1 8 ∧ (((F6 21 (Int32.toNatClampNeg p1)) ≤ p3 → ((p2 = 0 → (vp_in p1 8 ∧ ((okX12_levelOf F6 G (F6 18 (Int32.toNatClampNeg p1))) ∧ bv (gX12_levelOf F6 G (F6 18 (Int32.toNatClampNeg p1))) (fun x14 : Int64 => (vp_in p1 8 ∧ ((okX12_levelOf F6 G (F6 19 (Int32.toNatClampNeg p1))) ∧ bv (gX12_levelOf F6 G (F6 19 (Int32.toNatClampNeg p1))) (fun x17 : Int64 => bv (x14 - x17) (fun x18 : Int64 => (((x18 ≤ 0 → ((0 ≤ x18 → True) ∧ (¬ 0 ≤ x18 → (vp_in p1 8)))) ∧ (¬ x18 ≤ 0 → (vp_in p1 8))) ∧ bv ((if x18 ≤ 0 then (if 0 ≤ x18 then (-1) else (F6 18 (Int32.toNatClampNeg p1))) else (F6 19 (Int32.toNatClampNeg p1))) : Int32) (fun v23 : Int32 => ((p2 = 0 → bv ((if p2 = 0 then 0 else 1) : Int32) (fun v26 : Int32 => (vp_in p1 8))) ∧ (¬ p2 = 0 → ((v23 = (-1) → bv ((if p2 = 0 then 0 else 1) : Int32) (fun v32 : Int32 => (vp_in p1 8))) ∧ (¬ v23 = (-1) → ((20 ≤ v23 → bv ((if p2 = 0 then 0 else 1) : Int32) (fun v38 : Int32 => (vp_in p1 8))) ∧ (¬ 20 ≤ v23 → (vp_in v23 8 ∧ (((F6 13 (Int32.toNatClampNeg v23)) ≤ 0 → bv ((if p2 = 0 then 0 else 1) : Int32) (fun v45 : Int32 => (vp_in p1 8))) ∧ (¬ (F6 13 (Int32.toNatClampNeg v23)) ≤ 0 → ((3 ≤ p3 → bv ((if p2 = 0 then 0 else 1) : Int32) (fun v51 : Int32 => (vp_in p1 8))) ∧ (¬ 3 ≤ p3 → True))))))))))))))))))))) ∧ (¬ p2 = 0 → ((okX12_isSeaHigher F6 G p1) ∧ bv (gX12_isSeaHigher F6 G p1) (fun x56 : Int32 => ((x56 = 0 → (vp_in p1 8 ∧ ((okX12_levelOf F6 G (F6 18 (Int32.toNatClampNeg p1))) ∧ bv (gX12_levelOf F6 G (F6 18 (Int32.toNatClampNeg p1))) (fun x60 : Int64 => (vp_in p1 8 ∧ ((okX12_levelOf F6 G (F6 19 (Int32.toNatClampNeg p1))) ∧ bv (gX12_levelOf F6 G (F6 19 (Int32.toNatClampNeg p1))) (fun x63 : Int64 => bv (x60 - x63) (fun x64 : Int64 => (((x64 ≤ 0 → ((0 ≤ x64 → True) ∧ (¬ 0 ≤ x64 → (vp_in p1 8)))) ∧ (¬ x64 ≤ 0 → (vp_in p1 8))) ∧ bv ((if x64 ≤ 0 then (if 0 ≤ x64 then (-1) else (F6 18 (Int32.toNatClampNeg p1))) else (F6 19 (Int32.toNatClampNeg p1))) : Int32) (fun v69 : Int32 => ((p2 = 0 → bv ((if p2 = 0 then 0 else 1) : Int32) (fun v72 : Int32 => (vp_in p1 8))) ∧ (¬ p2 = 0 → ((v69 = (-1) → bv ((if p2 = 0 then 0 else 1) : Int32) (fun v78 : Int32 => (vp_in p1 8))) ∧ (¬ v69 = (-1) → ((20 ≤ v69 → bv ((if p2 = 0 then 0 else 1) : Int32) (fun v84 : Int32 => (vp_in p1 8))) ∧ (¬ 20 ≤ v69 → (vp_in v69 8 ∧ (((F6 13 (Int32.toNatClampNeg v69)) ≤ 0 → bv ((if p2 = 0 then 0 else 1) : Int32) (fun v91 : Int32 => (vp_in p1 8))) ∧ (¬ (F6 13 (Int32.toNatClampNeg v69)) ≤ 0 → ((3 ≤ p3 → bv ((if p2 = 0 then 0 else 1) : Int32) (fun v97 : Int32 => (vp_in p1 8))) ∧ (¬ 3 ≤ p3 → True))))))))))))))))))))) ∧ (¬ x56 = 0 → True))))))) ∧ (¬ (F6 21 (Int32.toNatClampNeg p1)) ≤ p3 → True)))) ∧ (¬ (F6 60 0) ≤ 0 → True)))))
abbrev rmX12_command : Room := { frames := 4, cells := 0, slots := 0, locals := 97 }
def gX12_drive (F : jF) (G : jG) (p1 : Int32) (p2 : Int32) (p3 : Int32) : (Int32 × jS) := bv (gX12_in p1 0 ((F 23 0) - 1)) (fun x1 : Int32 => bv ((if x1 = 0 then 1 else bv (gX12_in p3 0 99) (fun x3 : Int32 => (if x3 = 0 then 2 else (if (Int32.toInt64 p3) ≤ (G 2 0) then 0 else 3)))) : Int32) (fun v6 : Int32 => bv (u2 F 60 0 v6) (fun F7 : jF => (if (F7 60 0) ≤ 0 then bv (u2 G 2 0 ((G 2 0) - (Int32.toInt64 p3))) (fun G10 : jG => bv (u2 F7 30 (Int32.toNatClampNeg p1) ((F7 30 (Int32.toNatClampNeg p1)) + p3)) (fun F14 : jF => bv ((if p2 = 0 then 0 else 1) : Int32) (fun v17 : Int32 => bv (u2 F14 29 (Int32.toNatClampNeg p1) v17) (fun F19 : jF => ((F19 30 (Int32.toNatClampNeg p1)), (F19, G10)))))) else (0, (F7, G))))))
def okX12_drive (F : jF) (G : jG) (p1 : Int32) (p2 : Int32) (p3 : Int32) : Prop := bv (gX12_in p1 0 ((F 23 0) - 1)) (fun x1 : Int32 => bv ((if x1 = 0 then 1 else bv (gX12_in p3 0 99) (fun x3 : Int32 => (if x3 = 0 then 2 else (if (Int32.toInt64 p3) ≤ (G 2 0) then 0 else 3)))) : Int32) (fun v6 : Int32 => bv (u2 F 60 0 v6) (fun F7 : jF => (((F7 60 0) ≤ 0 → bv (u2 G 2 0 ((G 2 0) - (Int32.toInt64 p3))) (fun G10 : jG => (vp_in p1 8 ∧ (vp_in p1 8 ∧ bv (u2 F7 30 (Int32.toNatClampNeg p1) ((F7 30 (Int32.toNatClampNeg p1)) + p3)) (fun F14 : jF => bv ((if p2 = 0 then 0 else 1) : Int32) (fun v17 : Int32 => (vp_in p1 8 ∧ bv (u2 F14 29 (Int32.toNatClampNeg p1) v17) (fun F19 : jF => (vp_in p1 8))))))))) ∧ (¬ (F7 60 0) ≤ 0 → True)))))
abbrev rmX12_drive : Room := { frames := 1, cells := 0, slots := 0, locals := 22 }
def gX12_mend (F : jF) (G : jG) (p1 : Int32) : (Int32 × jS) := bv (gX12_in p1 0 ((F 23 0) - 1)) (fun x1 : Int32 => bv ((if x1 = 0 then 1 else (if 20 ≤ (G 2 0) then 0 else 2)) : Int32) (fun v4 : Int32 => bv (u2 F 60 0 v4) (fun F5 : jF => (if (F5 60 0) ≤ 0 then bv (F5 31 (Int32.toNatClampNeg p1)) (fun x9 : Int32 => bv (u2 G 2 0 ((G 2 0) - 20)) (fun G10 : jG => bv (u2 F5 31 (Int32.toNatClampNeg p1) 0) (fun F13 : jF => (x9, (F13, G10))))) else (0, (F5, G))))))
def okX12_mend (F : jF) (G : jG) (p1 : Int32) : Prop := bv (gX12_in p1 0 ((F 23 0) - 1)) (fun x1 : Int32 => bv ((if x1 = 0 then 1 else (if 20 ≤ (G 2 0) then 0 else 2)) : Int32) (fun v4 : Int32 => bv (u2 F 60 0 v4) (fun F5 : jF => (((F5 60 0) ≤ 0 → (vp_in p1 8 ∧ bv (F5 31 (Int32.toNatClampNeg p1)) (fun x9 : Int32 => bv (u2 G 2 0 ((G 2 0) - 20)) (fun G10 : jG => (vp_in p1 8))))) ∧ (¬ (F5 60 0) ≤ 0 → True)))))
abbrev rmX12_mend : Room := { frames := 1, cells := 0, slots := 0, locals := 22 }
def gX12_send (F : jF) (G : jG) (p1 : Int32) (p2 : Int32) (p3 : Int32) : (Int32 × jS) := bv (gX12_in p1 0 2) (fun x1 : Int32 => bv ((if x1 = 0 then 1 else bv (gX12_in p2 (-1) ((F 32 0) - 1)) (fun x3 : Int32 => (if x3 = 0 then 1 else bv (gX12_in p3 0 99) (fun x5 : Int32 => (if x5 = 0 then 2 else (if (Int32.toInt64 p3) ≤ (G 2 0) then 0 else 3)))))) : Int32) (fun v8 : Int32 => bv (u2 F 60 0 v8) (fun F9 : jF => (if (F9 60 0) ≤ 0 then bv (u2 G 2 0 ((G 2 0) - (Int32.toInt64 p3))) (fun G12 : jG => bv (u2 F9 50 (Int32.toNatClampNeg p1) ((F9 50 (Int32.toNatClampNeg p1)) + p3)) (fun F16 : jF => bv (u2 F16 51 (Int32.toNatClampNeg p1) (p2 + 1)) (fun F19 : jF => ((F19 50 (Int32.toNatClampNeg p1)), (F19, G12))))) else (0, (F9, G))))))
def okX12_send (F : jF) (G : jG) (p1 : Int32) (p2 : Int32) (p3 : Int32) : Prop := bv (gX12_in p1 0 2) (fun x1 : Int32 => bv ((if x1 = 0 then 1 else bv (gX12_in p2 (-1) ((F 32 0) - 1)) (fun x3 : Int32 => (if x3 = 0 then 1 else bv (gX12_in p3 0 99) (fun x5 : Int32 => (if x5 = 0 then 2 else (if (Int32.toInt64 p3) ≤ (G 2 0) then 0 else 3)))))) : Int32) (fun v8 : Int32 => bv (u2 F 60 0 v8) (fun F9 : jF => (((F9 60 0) ≤ 0 → bv (u2 G 2 0 ((G 2 0) - (Int32.toInt64 p3))) (fun G12 : jG => (vp_in p1 3 ∧ (vp_in p1 3 ∧ bv (u2 F9 50 (Int32.toNatClampNeg p1) ((F9 50 (Int32.toNatClampNeg p1)) + p3)) (fun F16 : jF => (vp_in p1 3 ∧ bv (u2 F16 51 (Int32.toNatClampNeg p1) (p2 + 1)) (fun F19 : jF => (vp_in p1 3)))))))) ∧ (¬ (F9 60 0) ≤ 0 → True)))))
abbrev rmX12_send : Room := { frames := 1, cells := 0, slots := 0, locals := 22 }
def gX12_budget (F : jF) (G : jG) (p1 : Int32) (p2 : Int32) : (Int32 × jS) := bv (gX12_in p1 0 9999) (fun x1 : Int32 => bv ((if x1 = 0 then 1 else bv (gX12_in p2 0 9999) (fun x3 : Int32 => (if x3 = 0 then 1 else 0))) : Int32) (fun v5 : Int32 => bv (u2 F 60 0 v5) (fun F6 : jF => (if (F6 60 0) ≤ 0 then bv (u2 F6 3 0 p1) (fun F9 : jF => bv (u2 G 2 0 ((G 2 0) + (Int32.toInt64 p2))) (fun G11 : jG => ((Int64.toInt32 (G11 2 0)), (F9, G11)))) else (0, (F6, G))))))
abbrev rmX12_budget : Room := { frames := 1, cells := 0, slots := 0, locals := 22 }
def gX12_raise (F : jF) (G : jG) (p1 : Int32) (p2 : Int32) (p3 : Int32) : (Int32 × jS) := bv (gX12_in p1 0 ((F 32 0) - 1)) (fun x1 : Int32 => bv ((if x1 = 0 then 1 else bv (gX12_in p2 1 99) (fun x3 : Int32 => (if x3 = 0 then 2 else bv (gX12_in p3 1 9) (fun x5 : Int32 => (if x5 = 0 then 2 else (if (G 2 0) < (10 * (Int32.toInt64 p2)) then 3 else (if (F 52 0) = 6 then 3 else 0))))))) : Int32) (fun v9 : Int32 => bv (u2 F 60 0 v9) (fun F10 : jF => (if (F10 60 0) ≤ 0 then bv (u2 G 2 0 ((G 2 0) - (10 * (Int32.toInt64 p2)))) (fun G13 : jG => bv (u2 F10 53 (Int32.toNatClampNeg (F10 52 0)) p1) (fun F16 : jF => bv (u2 F16 54 (Int32.toNatClampNeg (F16 52 0)) p2) (fun F19 : jF => bv (u2 F19 55 (Int32.toNatClampNeg (F19 52 0)) p3) (fun F22 : jF => bv (u2 F22 52 0 ((F22 52 0) + 1)) (fun F24 : jF => ((Int64.toInt32 (G13 2 0)), (F24, G13))))))) else (0, (F10, G))))))
def okX12_raise (F : jF) (G : jG) (p1 : Int32) (p2 : Int32) (p3 : Int32) : Prop := bv (gX12_in p1 0 ((F 32 0) - 1)) (fun x1 : Int32 => bv ((if x1 = 0 then 1 else bv (gX12_in p2 1 99) (fun x3 : Int32 => (if x3 = 0 then 2 else bv (gX12_in p3 1 9) (fun x5 : Int32 => (if x5 = 0 then 2 else (if (G 2 0) < (10 * (Int32.toInt64 p2)) then 3 else (if (F 52 0) = 6 then 3 else 0))))))) : Int32) (fun v9 : Int32 => bv (u2 F 60 0 v9) (fun F10 : jF => (((F10 60 0) ≤ 0 → bv (u2 G 2 0 ((G 2 0) - (10 * (Int32.toInt64 p2)))) (fun G13 : jG => (vp_in (F10 52 0) 6 ∧ bv (u2 F10 53 (Int32.toNatClampNeg (F10 52 0)) p1) (fun F16 : jF => (vp_in (F16 52 0) 6 ∧ bv (u2 F16 54 (Int32.toNatClampNeg (F16 52 0)) p2) (fun F19 : jF => (vp_in (F19 52 0) 6))))))) ∧ (¬ (F10 60 0) ≤ 0 → True)))))
abbrev rmX12_raise : Room := { frames := 1, cells := 0, slots := 0, locals := 22 }
def gX12_rains_L2  (K : Int32 → jF → jG → jS) : Nat → Int32 → jF → jG → jS
  | 0, _, F, G => (F, G)
  | n9 + 1, v1, F, G => (if (F 44 0) ≤ v1 then (K v1 F G) else bv (gX12_in ((F 0 0) - (F 46 (Int32.toNatClampNeg v1))) 0 ((F 47 (Int32.toNatClampNeg v1)) - 1)) (fun x4 : Int32 => (if x4 = 0 then (gX12_rains_L2   K n9 (v1 + 1) F G) else bv (u2 G 14 (Int32.toNatClampNeg (F 45 (Int32.toNatClampNeg v1))) ((G 14 (Int32.toNatClampNeg (F 45 (Int32.toNatClampNeg v1)))) + (Int32.toInt64 (F 48 (Int32.toNatClampNeg v1))))) (fun G10 : jG => bv (u2 G10 56 (Int32.toNatClampNeg 1) ((G10 56 (Int32.toNatClampNeg 1)) + (Int32.toInt64 (F 48 (Int32.toNatClampNeg v1))))) (fun G13 : jG => (gX12_rains_L2   K n9 (v1 + 1) F G13))))))
def okX12_rains_L2  (okK : Int32 → jF → jG → Prop) : Nat → Int32 → jF → jG → Prop
  | 0, _, _, _ => False
  | n9 + 1, v1, F, G => (((F 44 0) ≤ v1 → (okK v1 F G)) ∧ (¬ (F 44 0) ≤ v1 → (vp_in v1 12 ∧ (vp_in v1 12 ∧ bv (gX12_in ((F 0 0) - (F 46 (Int32.toNatClampNeg v1))) 0 ((F 47 (Int32.toNatClampNeg v1)) - 1)) (fun x4 : Int32 => ((x4 = 0 → (okX12_rains_L2   okK n9 (v1 + 1) F G)) ∧ (¬ x4 = 0 → (vp_in v1 12 ∧ (vp_in (F 45 (Int32.toNatClampNeg v1)) 8 ∧ (vp_in v1 12 ∧ (vp_in (F 45 (Int32.toNatClampNeg v1)) 8 ∧ bv (u2 G 14 (Int32.toNatClampNeg (F 45 (Int32.toNatClampNeg v1))) ((G 14 (Int32.toNatClampNeg (F 45 (Int32.toNatClampNeg v1)))) + (Int32.toInt64 (F 48 (Int32.toNatClampNeg v1))))) (fun G10 : jG => (vp_in v1 12 ∧ bv (u2 G10 56 (Int32.toNatClampNeg 1) ((G10 56 (Int32.toNatClampNeg 1)) + (Int32.toInt64 (F 48 (Int32.toNatClampNeg v1))))) (fun G13 : jG => (okX12_rains_L2   okK n9 (v1 + 1) F G13)))))))))))))))
def gX12_rains (F : jF) (G : jG)  : jS := (gX12_rains_L2   (fun (y15 : Int32) (F16 : jF) (G17 : jG) => (F16, G17)) 80 0 F G)
def okX12_rains (F : jF) (G : jG)  : Prop := (okX12_rains_L2   (fun (y15 : Int32) (F16 : jF) (G17 : jG) => True) 80 0 F G)
abbrev rmX12_rains : Room := { frames := 1, cells := 0, slots := 0, locals := 22 }
def gX12_pumps (F : jF) (G : jG) (p1 : Int32) : jS := bv ((if (F 29 (Int32.toNatClampNeg p1)) = 1 then (if (F 30 (Int32.toNatClampNeg p1)) ≤ 0 then 0 else (if (F 28 (Int32.toNatClampNeg p1)) ≤ (F 31 (Int32.toNatClampNeg p1)) then 0 else 1)) else 0) : Int32) (fun v8 : Int32 => bv ((if 20 ≤ (F 24 (Int32.toNatClampNeg p1)) then (Int32.toInt64 (F 26 (Int32.toNatClampNeg p1))) else (G 14 (Int32.toNatClampNeg (F 24 (Int32.toNatClampNeg p1))))) : Int64) (fun v14 : Int64 => (if v8 = 0 then (F, G) else (if v14 ≤ 0 then (F, G) else bv (gX12_levelOf F G (F 25 (Int32.toNatClampNeg p1))) (fun x19 : Int64 => bv (gX12_levelOf F G (F 24 (Int32.toNatClampNeg p1))) (fun x22 : Int64 => (if (100 * (Int32.toInt64 (F 27 (Int32.toNatClampNeg p1)))) < (x19 - x22) then (F, G) else bv ((if (Int32.toInt64 (F 26 (Int32.toNatClampNeg p1))) ≤ v14 then (Int32.toInt64 (F 26 (Int32.toNatClampNeg p1))) else v14) : Int64) (fun v30 : Int64 => bs (gX12_goes F G (F 24 (Int32.toNatClampNeg p1)) (F 25 (Int32.toNatClampNeg p1)) v30) (fun (F32 : jF) (G33 : jG) => bv (u2 F32 30 (Int32.toNatClampNeg p1) ((F32 30 (Int32.toNatClampNeg p1)) - 1)) (fun F37 : jF => bv (u2 F37 31 (Int32.toNatClampNeg p1) ((F37 31 (Int32.toNatClampNeg p1)) + 1)) (fun F41 : jF => (F41, G33))))))))))))
def okX12_pumps (F : jF) (G : jG) (p1 : Int32) : Prop := (vp_in p1 8 ∧ ((((F 29 (Int32.toNatClampNeg p1)) = 1 → (vp_in p1 8 ∧ (((F 30 (Int32.toNatClampNeg p1)) ≤ 0 → True) ∧ (¬ (F 30 (Int32.toNatClampNeg p1)) ≤ 0 → (vp_in p1 8 ∧ (vp_in p1 8)))))) ∧ (¬ (F 29 (Int32.toNatClampNeg p1)) = 1 → True)) ∧ bv ((if (F 29 (Int32.toNatClampNeg p1)) = 1 then (if (F 30 (Int32.toNatClampNeg p1)) ≤ 0 then 0 else (if (F 28 (Int32.toNatClampNeg p1)) ≤ (F 31 (Int32.toNatClampNeg p1)) then 0 else 1)) else 0) : Int32) (fun v8 : Int32 => (vp_in p1 8 ∧ (((20 ≤ (F 24 (Int32.toNatClampNeg p1)) → (vp_in p1 8)) ∧ (¬ 20 ≤ (F 24 (Int32.toNatClampNeg p1)) → (vp_in p1 8 ∧ (vp_in (F 24 (Int32.toNatClampNeg p1)) 8)))) ∧ bv ((if 20 ≤ (F 24 (Int32.toNatClampNeg p1)) then (Int32.toInt64 (F 26 (Int32.toNatClampNeg p1))) else (G 14 (Int32.toNatClampNeg (F 24 (Int32.toNatClampNeg p1))))) : Int64) (fun v14 : Int64 => ((v8 = 0 → True) ∧ (¬ v8 = 0 → ((v14 ≤ 0 → True) ∧ (¬ v14 ≤ 0 → (vp_in p1 8 ∧ ((okX12_levelOf F G (F 25 (Int32.toNatClampNeg p1))) ∧ bv (gX12_levelOf F G (F 25 (Int32.toNatClampNeg p1))) (fun x19 : Int64 => (vp_in p1 8 ∧ ((okX12_levelOf F G (F 24 (Int32.toNatClampNeg p1))) ∧ bv (gX12_levelOf F G (F 24 (Int32.toNatClampNeg p1))) (fun x22 : Int64 => (vp_in p1 8 ∧ (((100 * (Int32.toInt64 (F 27 (Int32.toNatClampNeg p1)))) < (x19 - x22) → True) ∧ (¬ (100 * (Int32.toInt64 (F 27 (Int32.toNatClampNeg p1)))) < (x19 - x22) → (vp_in p1 8 ∧ (vp_in p1 8 ∧ (vp_in p1 8 ∧ ((((Int32.toInt64 (F 26 (Int32.toNatClampNeg p1))) ≤ v14 → (vp_in p1 8)) ∧ (¬ (Int32.toInt64 (F 26 (Int32.toNatClampNeg p1))) ≤ v14 → True)) ∧ bv ((if (Int32.toInt64 (F 26 (Int32.toNatClampNeg p1))) ≤ v14 then (Int32.toInt64 (F 26 (Int32.toNatClampNeg p1))) else v14) : Int64) (fun v30 : Int64 => ((okX12_goes F G (F 24 (Int32.toNatClampNeg p1)) (F 25 (Int32.toNatClampNeg p1)) v30) ∧ bs (gX12_goes F G (F 24 (Int32.toNatClampNeg p1)) (F 25 (Int32.toNatClampNeg p1)) v30) (fun (F32 : jF) (G33 : jG) => (vp_in p1 8 ∧ (vp_in p1 8 ∧ bv (u2 F32 30 (Int32.toNatClampNeg p1) ((F32 30 (Int32.toNatClampNeg p1)) - 1)) (fun F37 : jF => (vp_in p1 8 ∧ (vp_in p1 8)))))))))))))))))))))))))))))))
abbrev rmX12_pumps : Room := { frames := 3, cells := 0, slots := 0, locals := 74 }
def gX12_flowsOver (F : jF) (G : jG) (p1 : Int32) : (Int64 × jS) := bv (F 33 (Int32.toNatClampNeg p1)) (fun x2 : Int32 => bv (F 34 (Int32.toNatClampNeg p1)) (fun x4 : Int32 => bv (gX12_levelOf F G x2) (fun x6 : Int64 => bv (gX12_levelOf F G x4) (fun x8 : Int64 => bv ((if x6 < x8 then x4 else x2) : Int32) (fun v10 : Int32 => bv (gX12_levelOf F G v10) (fun x12 : Int64 => bv (x12 - (100 * (Int32.toInt64 (F 35 (Int32.toNatClampNeg p1))))) (fun x14 : Int64 => (if 0 < x14 then bv ((if 20 ≤ v10 then 500 else ((x14 * (Int32.toInt64 (F 9 (Int32.toNatClampNeg v10)))) / 100)) : Int64) (fun v18 : Int64 => bv ((if 500 ≤ v18 then 500 else v18) : Int64) (fun v20 : Int64 => br (gX12_flows F G x2 x4 v20) (fun (x25 : Int64) (F22 : jF) (G23 : jG) => (x25, (F22, G23))))) else (0, (F, G))))))))))
def okX12_flowsOver (F : jF) (G : jG) (p1 : Int32) : Prop := (vp_in p1 8 ∧ bv (F 33 (Int32.toNatClampNeg p1)) (fun x2 : Int32 => (vp_in p1 8 ∧ bv (F 34 (Int32.toNatClampNeg p1)) (fun x4 : Int32 => ((okX12_levelOf F G x2) ∧ bv (gX12_levelOf F G x2) (fun x6 : Int64 => ((okX12_levelOf F G x4) ∧ bv (gX12_levelOf F G x4) (fun x8 : Int64 => bv ((if x6 < x8 then x4 else x2) : Int32) (fun v10 : Int32 => ((okX12_levelOf F G v10) ∧ bv (gX12_levelOf F G v10) (fun x12 : Int64 => (vp_in p1 8 ∧ bv (x12 - (100 * (Int32.toInt64 (F 35 (Int32.toNatClampNeg p1))))) (fun x14 : Int64 => ((0 < x14 → (((20 ≤ v10 → True) ∧ (¬ 20 ≤ v10 → (vp_in v10 8))) ∧ bv ((if 20 ≤ v10 then 500 else ((x14 * (Int32.toInt64 (F 9 (Int32.toNatClampNeg v10)))) / 100)) : Int64) (fun v18 : Int64 => bv ((if 500 ≤ v18 then 500 else v18) : Int64) (fun v20 : Int64 => (okX12_flows F G x2 x4 v20))))) ∧ (¬ 0 < x14 → True)))))))))))))))
abbrev rmX12_flowsOver : Room := { frames := 5, cells := 0, slots := 0, locals := 129 }
def gX12_holds (F : jF) (G : jG) (p1 : Int32) : jS := (if (F 39 (Int32.toNatClampNeg p1)) ≤ 0 then bv (gX12_levelOf F G (F 33 (Int32.toNatClampNeg p1))) (fun x5 : Int64 => bv (gX12_levelOf F G (F 34 (Int32.toNatClampNeg p1))) (fun x8 : Int64 => bv (x5 - x8) (fun x9 : Int64 => bv ((if 0 ≤ x9 then x9 else (-x9)) : Int64) (fun v11 : Int64 => br (gX12_flows F G (F 33 (Int32.toNatClampNeg p1)) (F 34 (Int32.toNatClampNeg p1)) ((v11 * (Int32.toInt64 (F 37 (Int32.toNatClampNeg p1)))) / 1000)) (fun (x19 : Int64) (F16 : jF) (G17 : jG) => br (gX12_flowsOver F16 G17 p1) (fun (x24 : Int64) (F21 : jF) (G22 : jG) => bv ((if v11 < 200 then 0 else (v11 / 100)) : Int64) (fun v27 : Int64 => bv ((if x24 ≤ 0 then 0 else 20) : Int64) (fun v29 : Int64 => bv (((Int32.toInt64 (F21 38 (Int32.toNatClampNeg p1))) + v27) + v29) (fun x30 : Int64 => bv ((if x30 ≤ 2000000000 then (Int64.toInt32 x30) else 2000000000) : Int32) (fun v32 : Int32 => bv (u2 F21 38 (Int32.toNatClampNeg p1) v32) (fun F34 : jF => bv ((if (F34 38 (Int32.toNatClampNeg p1)) < (F34 36 (Int32.toNatClampNeg p1)) then 0 else 1) : Int32) (fun v39 : Int32 => bv (u2 F34 39 (Int32.toNatClampNeg p1) v39) (fun F41 : jF => (F41, G22)))))))))))))) else br (gX12_flows F G (F 33 (Int32.toNatClampNeg p1)) (F 34 (Int32.toNatClampNeg p1)) (50 * (Int32.toInt64 (F 39 (Int32.toNatClampNeg p1))))) (fun (x50 : Int64) (F47 : jF) (G48 : jG) => bv ((if 10 ≤ (F47 39 (Int32.toNatClampNeg p1)) then 0 else 1) : Int32) (fun v54 : Int32 => bv (u2 F47 39 (Int32.toNatClampNeg p1) ((F47 39 (Int32.toNatClampNeg p1)) + v54)) (fun F56 : jF => (F56, G48)))))
def okX12_holds (F : jF) (G : jG) (p1 : Int32) : Prop := (vp_in p1 8 ∧ (((F 39 (Int32.toNatClampNeg p1)) ≤ 0 → (vp_in p1 8 ∧ ((okX12_levelOf F G (F 33 (Int32.toNatClampNeg p1))) ∧ bv (gX12_levelOf F G (F 33 (Int32.toNatClampNeg p1))) (fun x5 : Int64 => (vp_in p1 8 ∧ ((okX12_levelOf F G (F 34 (Int32.toNatClampNeg p1))) ∧ bv (gX12_levelOf F G (F 34 (Int32.toNatClampNeg p1))) (fun x8 : Int64 => bv (x5 - x8) (fun x9 : Int64 => bv ((if 0 ≤ x9 then x9 else (-x9)) : Int64) (fun v11 : Int64 => (vp_in p1 8 ∧ (vp_in p1 8 ∧ (vp_in p1 8 ∧ ((okX12_flows F G (F 33 (Int32.toNatClampNeg p1)) (F 34 (Int32.toNatClampNeg p1)) ((v11 * (Int32.toInt64 (F 37 (Int32.toNatClampNeg p1)))) / 1000)) ∧ br (gX12_flows F G (F 33 (Int32.toNatClampNeg p1)) (F 34 (Int32.toNatClampNeg p1)) ((v11 * (Int32.toInt64 (F 37 (Int32.toNatClampNeg p1)))) / 1000)) (fun (x19 : Int64) (F16 : jF) (G17 : jG) => ((okX12_flowsOver F16 G17 p1) ∧ br (gX12_flowsOver F16 G17 p1) (fun (x24 : Int64) (F21 : jF) (G22 : jG) => (vp_in p1 8 ∧ bv ((if v11 < 200 then 0 else (v11 / 100)) : Int64) (fun v27 : Int64 => bv ((if x24 ≤ 0 then 0 else 20) : Int64) (fun v29 : Int64 => bv (((Int32.toInt64 (F21 38 (Int32.toNatClampNeg p1))) + v27) + v29) (fun x30 : Int64 => bv ((if x30 ≤ 2000000000 then (Int64.toInt32 x30) else 2000000000) : Int32) (fun v32 : Int32 => (vp_in p1 8 ∧ bv (u2 F21 38 (Int32.toNatClampNeg p1) v32) (fun F34 : jF => (vp_in p1 8 ∧ (vp_in p1 8 ∧ bv ((if (F34 38 (Int32.toNatClampNeg p1)) < (F34 36 (Int32.toNatClampNeg p1)) then 0 else 1) : Int32) (fun v39 : Int32 => (vp_in p1 8))))))))))))))))))))))))))) ∧ (¬ (F 39 (Int32.toNatClampNeg p1)) ≤ 0 → (vp_in p1 8 ∧ (vp_in p1 8 ∧ (vp_in p1 8 ∧ ((okX12_flows F G (F 33 (Int32.toNatClampNeg p1)) (F 34 (Int32.toNatClampNeg p1)) (50 * (Int32.toInt64 (F 39 (Int32.toNatClampNeg p1))))) ∧ br (gX12_flows F G (F 33 (Int32.toNatClampNeg p1)) (F 34 (Int32.toNatClampNeg p1)) (50 * (Int32.toInt64 (F 39 (Int32.toNatClampNeg p1))))) (fun (x50 : Int64) (F47 : jF) (G48 : jG) => (vp_in p1 8 ∧ (vp_in p1 8 ∧ bv ((if 10 ≤ (F47 39 (Int32.toNatClampNeg p1)) then 0 else 1) : Int32) (fun v54 : Int32 => (vp_in p1 8))))))))))))
abbrev rmX12_holds : Room := { frames := 6, cells := 0, slots := 0, locals := 157 }
def gX12_floorOf (F : jF) (G : jG) (p1 : Int32) : Int64 := ((100 * (Int32.toInt64 (F 10 (Int32.toNatClampNeg p1)))) + (Int32.toInt64 (F 12 (Int32.toNatClampNeg p1))))
def okX12_floorOf (F : jF) (G : jG) (p1 : Int32) : Prop := (vp_in p1 8 ∧ (vp_in p1 8))
abbrev rmX12_floorOf : Room := { frames := 0, cells := 0, slots := 0, locals := 0 }
def gX12_harms_L2  (K : Int32 → jF → jG → jS) : Nat → Int32 → jF → jG → jS
  | 0, _, F, G => (F, G)
  | n9 + 1, v1, F, G => (if (F 8 0) ≤ v1 then (K v1 F G) else bv (gX12_levelOf F G v1) (fun x3 : Int64 => bv (gX12_floorOf F G v1) (fun x5 : Int64 => bv (x3 - x5) (fun x6 : Int64 => (if (F 13 (Int32.toNatClampNeg v1)) ≤ 0 then (gX12_harms_L2   K n9 (v1 + 1) F G) else (if x6 ≤ 0 then (gX12_harms_L2   K n9 (v1 + 1) F G) else bv ((if 9 ≤ (x6 / 50) then 9 else (x6 / 50)) : Int64) (fun v13 : Int64 => bv (u2 G 15 (Int32.toNatClampNeg v1) ((G 15 (Int32.toNatClampNeg v1)) + ((Int32.toInt64 (F 13 (Int32.toNatClampNeg v1))) * (v13 + 1)))) (fun G15 : jG => (gX12_harms_L2   K n9 (v1 + 1) F G15)))))))))
def okX12_harms_L2  (okK : Int32 → jF → jG → Prop) : Nat → Int32 → jF → jG → Prop
  | 0, _, _, _ => False
  | n9 + 1, v1, F, G => (((F 8 0) ≤ v1 → (okK v1 F G)) ∧ (¬ (F 8 0) ≤ v1 → ((okX12_levelOf F G v1) ∧ bv (gX12_levelOf F G v1) (fun x3 : Int64 => ((okX12_floorOf F G v1) ∧ bv (gX12_floorOf F G v1) (fun x5 : Int64 => bv (x3 - x5) (fun x6 : Int64 => (vp_in v1 8 ∧ (((F 13 (Int32.toNatClampNeg v1)) ≤ 0 → (okX12_harms_L2   okK n9 (v1 + 1) F G)) ∧ (¬ (F 13 (Int32.toNatClampNeg v1)) ≤ 0 → ((x6 ≤ 0 → (okX12_harms_L2   okK n9 (v1 + 1) F G)) ∧ (¬ x6 ≤ 0 → (vp_in v1 8 ∧ (vp_in v1 8 ∧ bv ((if 9 ≤ (x6 / 50) then 9 else (x6 / 50)) : Int64) (fun v13 : Int64 => (vp_in v1 8 ∧ bv (u2 G 15 (Int32.toNatClampNeg v1) ((G 15 (Int32.toNatClampNeg v1)) + ((Int32.toInt64 (F 13 (Int32.toNatClampNeg v1))) * (v13 + 1)))) (fun G15 : jG => (okX12_harms_L2   okK n9 (v1 + 1) F G15))))))))))))))))))
def gX12_harms (F : jF) (G : jG)  : jS := (gX12_harms_L2   (fun (y17 : Int32) (F18 : jF) (G19 : jG) => (F18, G19)) 80 0 F G)
def okX12_harms (F : jF) (G : jG)  : Prop := (okX12_harms_L2   (fun (y17 : Int32) (F18 : jF) (G19 : jG) => True) 80 0 F G)
abbrev rmX12_harms : Room := { frames := 3, cells := 0, slots := 0, locals := 74 }
def gX12_isCut (F : jF) (G : jG) (p1 : Int32) : Int32 := bv (gX12_levelOf F G p1) (fun x2 : Int64 => bv (gX12_floorOf F G p1) (fun x4 : Int64 => (if (x2 - x4) < 100 then 0 else 1)))
def okX12_isCut (F : jF) (G : jG) (p1 : Int32) : Prop := ((okX12_levelOf F G p1) ∧ bv (gX12_levelOf F G p1) (fun x2 : Int64 => (okX12_floorOf F G p1)))
abbrev rmX12_isCut : Room := { frames := 3, cells := 0, slots := 0, locals := 74 }
def gX12_measures_L2 (f1 : Int32) (K : Int32 → jF → jG → jS) : Nat → Int32 → jF → jG → jS
  | 0, _, F, G => (F, G)
  | n9 + 1, v2, F, G => (if 8 ≤ v2 then (K v2 F G) else bv ((if v2 = f1 then 0 else 100) : Int32) (fun v3 : Int32 => bv (u2 F 59 (Int32.toNatClampNeg v2) v3) (fun F5 : jF => (gX12_measures_L2  f1 K n9 (v2 + 1) F5 G))))
def okX12_measures_L2 (f1 : Int32) (okK : Int32 → jF → jG → Prop) : Nat → Int32 → jF → jG → Prop
  | 0, _, _, _ => False
  | n9 + 1, v2, F, G => ((8 ≤ v2 → (okK v2 F G)) ∧ (¬ 8 ≤ v2 → bv ((if v2 = f1 then 0 else 100) : Int32) (fun v3 : Int32 => (vp_in v2 8 ∧ bv (u2 F 59 (Int32.toNatClampNeg v2) v3) (fun F5 : jF => (okX12_measures_L2  f1 okK n9 (v2 + 1) F5 G))))))
def gX12_measures_L52 (f3 : Int32) (f2 : Int32) (K : Int32 → jF → jG → jS) : Nat → Int32 → jF → jG → jS
  | 0, _, F, G => (F, G)
  | n9 + 1, v4, F, G => (if (F 8 0) ≤ v4 then (K v4 F G) else bv ((if (F 16 (Int32.toNatClampNeg ((8 * f3) + v4))) = 1 then bv (gX12_isCut F G f3) (fun x16 : Int32 => (if x16 = 0 then bv (gX12_isCut F G v4) (fun x19 : Int32 => (if x19 = 0 then 1 else 0)) else 0)) else 0) : Int32) (fun v21 : Int32 => bv ((if v21 = 0 then (F 59 (Int32.toNatClampNeg f3)) else (if (F 59 (Int32.toNatClampNeg f3)) ≤ ((F 59 (Int32.toNatClampNeg v4)) + 1) then (F 59 (Int32.toNatClampNeg f3)) else ((F 59 (Int32.toNatClampNeg v4)) + 1))) : Int32) (fun v29 : Int32 => bv (u2 F 59 (Int32.toNatClampNeg f3) v29) (fun F31 : jF => (gX12_measures_L52  f3 f2 K n9 (v4 + 1) F31 G)))))
def okX12_measures_L52 (f3 : Int32) (f2 : Int32) (okK : Int32 → jF → jG → Prop) : Nat → Int32 → jF → jG → Prop
  | 0, _, _, _ => False
  | n9 + 1, v4, F, G => (((F 8 0) ≤ v4 → (okK v4 F G)) ∧ (¬ (F 8 0) ≤ v4 → (vp_in ((8 * f3) + v4) 64 ∧ ((((F 16 (Int32.toNatClampNeg ((8 * f3) + v4))) = 1 → ((okX12_isCut F G f3) ∧ bv (gX12_isCut F G f3) (fun x16 : Int32 => ((x16 = 0 → (okX12_isCut F G v4)) ∧ (¬ x16 = 0 → True))))) ∧ (¬ (F 16 (Int32.toNatClampNeg ((8 * f3) + v4))) = 1 → True)) ∧ bv ((if (F 16 (Int32.toNatClampNeg ((8 * f3) + v4))) = 1 then bv (gX12_isCut F G f3) (fun x16 : Int32 => (if x16 = 0 then bv (gX12_isCut F G v4) (fun x19 : Int32 => (if x19 = 0 then 1 else 0)) else 0)) else 0) : Int32) (fun v21 : Int32 => (((v21 = 0 → (vp_in f3 8)) ∧ (¬ v21 = 0 → (vp_in v4 8 ∧ (vp_in f3 8 ∧ (((F 59 (Int32.toNatClampNeg f3)) ≤ ((F 59 (Int32.toNatClampNeg v4)) + 1) → (vp_in f3 8)) ∧ (¬ (F 59 (Int32.toNatClampNeg f3)) ≤ ((F 59 (Int32.toNatClampNeg v4)) + 1) → (vp_in v4 8))))))) ∧ bv ((if v21 = 0 then (F 59 (Int32.toNatClampNeg f3)) else (if (F 59 (Int32.toNatClampNeg f3)) ≤ ((F 59 (Int32.toNatClampNeg v4)) + 1) then (F 59 (Int32.toNatClampNeg f3)) else ((F 59 (Int32.toNatClampNeg v4)) + 1))) : Int32) (fun v29 : Int32 => (vp_in f3 8 ∧ bv (u2 F 59 (Int32.toNatClampNeg f3) v29) (fun F31 : jF => (okX12_measures_L52  f3 f2 okK n9 (v4 + 1) F31 G))))))))))
def gX12_measures_L41 (f2 : Int32) (K : Int32 → jF → jG → jS) : Nat → Int32 → jF → jG → jS
  | 0, _, F, G => (F, G)
  | n9 + 1, v3, F, G => (if (F 8 0) ≤ v3 then (K v3 F G) else (gX12_measures_L52  v3 f2 (fun (y33 : Int32) (F34 : jF) (G35 : jG) => (gX12_measures_L41  f2 K n9 (v3 + 1) F34 G35)) 80 0 F G))
def okX12_measures_L41 (f2 : Int32) (okK : Int32 → jF → jG → Prop) : Nat → Int32 → jF → jG → Prop
  | 0, _, _, _ => False
  | n9 + 1, v3, F, G => (((F 8 0) ≤ v3 → (okK v3 F G)) ∧ (¬ (F 8 0) ≤ v3 → (okX12_measures_L52  v3 f2 (fun (y33 : Int32) (F34 : jF) (G35 : jG) => (okX12_measures_L41  f2 okK n9 (v3 + 1) F34 G35)) 80 0 F G)))
def gX12_measures_L33  (K : Int32 → jF → jG → jS) : Nat → Int32 → jF → jG → jS
  | 0, _, F, G => (F, G)
  | n9 + 1, v2, F, G => (if 8 ≤ v2 then (K v2 F G) else (gX12_measures_L41  v2 (fun (y36 : Int32) (F37 : jF) (G38 : jG) => (gX12_measures_L33   K n9 (v2 + 1) F37 G38)) 80 0 F G))
def okX12_measures_L33  (okK : Int32 → jF → jG → Prop) : Nat → Int32 → jF → jG → Prop
  | 0, _, _, _ => False
  | n9 + 1, v2, F, G => ((8 ≤ v2 → (okK v2 F G)) ∧ (¬ 8 ≤ v2 → (okX12_measures_L41  v2 (fun (y36 : Int32) (F37 : jF) (G38 : jG) => (okX12_measures_L33   okK n9 (v2 + 1) F37 G38)) 80 0 F G)))
def gX12_measures (F : jF) (G : jG) (p1 : Int32) : jS := (gX12_measures_L2  p1 (fun (y7 : Int32) (F8 : jF) (G9 : jG) => (gX12_measures_L33   (fun (y39 : Int32) (F40 : jF) (G41 : jG) => (F40, G41)) 80 0 F8 G9)) 80 0 F G)
def okX12_measures (F : jF) (G : jG) (p1 : Int32) : Prop := (okX12_measures_L2  p1 (fun (y7 : Int32) (F8 : jF) (G9 : jG) => (okX12_measures_L33   (fun (y39 : Int32) (F40 : jF) (G41 : jG) => True) 80 0 F8 G9)) 80 0 F G)
abbrev rmX12_measures : Room := { frames := 4, cells := 0, slots := 0, locals := 95 }
def gX12_works (F : jF) (G : jG) (p1 : Int32) (p2 : Int32) : jS := (if (F 50 (Int32.toNatClampNeg p1)) = 0 then (F, G) else (if (F 39 (Int32.toNatClampNeg p2)) = 0 then (if (F 38 (Int32.toNatClampNeg p2)) = 0 then (F, G) else bv (u2 F 50 (Int32.toNatClampNeg p1) ((F 50 (Int32.toNatClampNeg p1)) - 1)) (fun F36 : jF => (if (F36 39 (Int32.toNatClampNeg p2)) ≤ 0 then bv ((if (F36 38 (Int32.toNatClampNeg p2)) ≤ 15 then 0 else ((F36 38 (Int32.toNatClampNeg p2)) - 15)) : Int32) (fun v43 : Int32 => bv (u2 F36 38 (Int32.toNatClampNeg p2) v43) (fun F45 : jF => (F45, G))) else bv ((if (F36 39 (Int32.toNatClampNeg p2)) ≤ 3 then 0 else ((F36 39 (Int32.toNatClampNeg p2)) - 3)) : Int32) (fun v50 : Int32 => bv (u2 F36 39 (Int32.toNatClampNeg p2) v50) (fun F52 : jF => bv ((if (F52 39 (Int32.toNatClampNeg p2)) = 0 then 0 else (F52 38 (Int32.toNatClampNeg p2))) : Int32) (fun v57 : Int32 => bv (u2 F52 38 (Int32.toNatClampNeg p2) v57) (fun F59 : jF => (F59, G)))))))) else bv (u2 F 50 (Int32.toNatClampNeg p1) ((F 50 (Int32.toNatClampNeg p1)) - 1)) (fun F7 : jF => (if (F7 39 (Int32.toNatClampNeg p2)) ≤ 0 then bv ((if (F7 38 (Int32.toNatClampNeg p2)) ≤ 15 then 0 else ((F7 38 (Int32.toNatClampNeg p2)) - 15)) : Int32) (fun v14 : Int32 => bv (u2 F7 38 (Int32.toNatClampNeg p2) v14) (fun F16 : jF => (F16, G))) else bv ((if (F7 39 (Int32.toNatClampNeg p2)) ≤ 3 then 0 else ((F7 39 (Int32.toNatClampNeg p2)) - 3)) : Int32) (fun v21 : Int32 => bv (u2 F7 39 (Int32.toNatClampNeg p2) v21) (fun F23 : jF => bv ((if (F23 39 (Int32.toNatClampNeg p2)) = 0 then 0 else (F23 38 (Int32.toNatClampNeg p2))) : Int32) (fun v28 : Int32 => bv (u2 F23 38 (Int32.toNatClampNeg p2) v28) (fun F30 : jF => (F30, G)))))))))
def okX12_works (F : jF) (G : jG) (p1 : Int32) (p2 : Int32) : Prop := (vp_in p1 3 ∧ (((F 50 (Int32.toNatClampNeg p1)) = 0 → True) ∧ (¬ (F 50 (Int32.toNatClampNeg p1)) = 0 → (vp_in p2 8 ∧ (((F 39 (Int32.toNatClampNeg p2)) = 0 → (vp_in p2 8 ∧ (((F 38 (Int32.toNatClampNeg p2)) = 0 → True) ∧ (¬ (F 38 (Int32.toNatClampNeg p2)) = 0 → (vp_in p1 3 ∧ (vp_in p1 3 ∧ bv (u2 F 50 (Int32.toNatClampNeg p1) ((F 50 (Int32.toNatClampNeg p1)) - 1)) (fun F36 : jF => (vp_in p2 8 ∧ (((F36 39 (Int32.toNatClampNeg p2)) ≤ 0 → (vp_in p2 8 ∧ ((((F36 38 (Int32.toNatClampNeg p2)) ≤ 15 → True) ∧ (¬ (F36 38 (Int32.toNatClampNeg p2)) ≤ 15 → (vp_in p2 8))) ∧ bv ((if (F36 38 (Int32.toNatClampNeg p2)) ≤ 15 then 0 else ((F36 38 (Int32.toNatClampNeg p2)) - 15)) : Int32) (fun v43 : Int32 => (vp_in p2 8))))) ∧ (¬ (F36 39 (Int32.toNatClampNeg p2)) ≤ 0 → (vp_in p2 8 ∧ ((((F36 39 (Int32.toNatClampNeg p2)) ≤ 3 → True) ∧ (¬ (F36 39 (Int32.toNatClampNeg p2)) ≤ 3 → (vp_in p2 8))) ∧ bv ((if (F36 39 (Int32.toNatClampNeg p2)) ≤ 3 then 0 else ((F36 39 (Int32.toNatClampNeg p2)) - 3)) : Int32) (fun v50 : Int32 => (vp_in p2 8 ∧ bv (u2 F36 39 (Int32.toNatClampNeg p2) v50) (fun F52 : jF => (vp_in p2 8 ∧ ((((F52 39 (Int32.toNatClampNeg p2)) = 0 → True) ∧ (¬ (F52 39 (Int32.toNatClampNeg p2)) = 0 → (vp_in p2 8))) ∧ bv ((if (F52 39 (Int32.toNatClampNeg p2)) = 0 then 0 else (F52 38 (Int32.toNatClampNeg p2))) : Int32) (fun v57 : Int32 => (vp_in p2 8))))))))))))))))))) ∧ (¬ (F 39 (Int32.toNatClampNeg p2)) = 0 → (vp_in p1 3 ∧ (vp_in p1 3 ∧ bv (u2 F 50 (Int32.toNatClampNeg p1) ((F 50 (Int32.toNatClampNeg p1)) - 1)) (fun F7 : jF => (vp_in p2 8 ∧ (((F7 39 (Int32.toNatClampNeg p2)) ≤ 0 → (vp_in p2 8 ∧ ((((F7 38 (Int32.toNatClampNeg p2)) ≤ 15 → True) ∧ (¬ (F7 38 (Int32.toNatClampNeg p2)) ≤ 15 → (vp_in p2 8))) ∧ bv ((if (F7 38 (Int32.toNatClampNeg p2)) ≤ 15 then 0 else ((F7 38 (Int32.toNatClampNeg p2)) - 15)) : Int32) (fun v14 : Int32 => (vp_in p2 8))))) ∧ (¬ (F7 39 (Int32.toNatClampNeg p2)) ≤ 0 → (vp_in p2 8 ∧ ((((F7 39 (Int32.toNatClampNeg p2)) ≤ 3 → True) ∧ (¬ (F7 39 (Int32.toNatClampNeg p2)) ≤ 3 → (vp_in p2 8))) ∧ bv ((if (F7 39 (Int32.toNatClampNeg p2)) ≤ 3 then 0 else ((F7 39 (Int32.toNatClampNeg p2)) - 3)) : Int32) (fun v21 : Int32 => (vp_in p2 8 ∧ bv (u2 F7 39 (Int32.toNatClampNeg p2) v21) (fun F23 : jF => (vp_in p2 8 ∧ ((((F23 39 (Int32.toNatClampNeg p2)) = 0 → True) ∧ (¬ (F23 39 (Int32.toNatClampNeg p2)) = 0 → (vp_in p2 8))) ∧ bv ((if (F23 39 (Int32.toNatClampNeg p2)) = 0 then 0 else (F23 38 (Int32.toNatClampNeg p2))) : Int32) (fun v28 : Int32 => (vp_in p2 8)))))))))))))))))))))
abbrev rmX12_works : Room := { frames := 0, cells := 0, slots := 0, locals := 0 }
def gX12_crews_L80 (f4 : Int32) (f1 : Int32) (K : Int32 → jF → jG → jS) : Nat → Int32 → jF → jG → jS
  | 0, _, F, G => (F, G)
  | n9 + 1, v5, F, G => (if v5 < 0 then (K v5 F G) else (if 100 ≤ (F 59 (Int32.toNatClampNeg f4)) then (K v5 F G) else bv ((if (F 16 (Int32.toNatClampNeg ((8 * f4) + v5))) = 1 then bv (gX12_isCut F G v5) (fun x24 : Int32 => (if x24 = 0 then bv (gX12_isCut F G f4) (fun x27 : Int32 => (if x27 = 0 then (if (F 59 (Int32.toNatClampNeg v5)) = ((F 59 (Int32.toNatClampNeg f4)) - 1) then 1 else 0) else 0)) else 0)) else 0) : Int32) (fun v32 : Int32 => bv ((if v32 = 0 then (F 49 (Int32.toNatClampNeg f1)) else v5) : Int32) (fun v35 : Int32 => bv (u2 F 49 (Int32.toNatClampNeg f1) v35) (fun F37 : jF => (gX12_crews_L80  f4 f1 K n9 (v5 + (-1)) F37 G))))))
def okX12_crews_L80 (f4 : Int32) (f1 : Int32) (okK : Int32 → jF → jG → Prop) : Nat → Int32 → jF → jG → Prop
  | 0, _, _, _ => False
  | n9 + 1, v5, F, G => ((v5 < 0 → (okK v5 F G)) ∧ (¬ v5 < 0 → (vp_in f4 8 ∧ ((100 ≤ (F 59 (Int32.toNatClampNeg f4)) → (okK v5 F G)) ∧ (¬ 100 ≤ (F 59 (Int32.toNatClampNeg f4)) → (vp_in ((8 * f4) + v5) 64 ∧ ((((F 16 (Int32.toNatClampNeg ((8 * f4) + v5))) = 1 → ((okX12_isCut F G v5) ∧ bv (gX12_isCut F G v5) (fun x24 : Int32 => ((x24 = 0 → ((okX12_isCut F G f4) ∧ bv (gX12_isCut F G f4) (fun x27 : Int32 => ((x27 = 0 → (vp_in v5 8 ∧ (vp_in f4 8))) ∧ (¬ x27 = 0 → True))))) ∧ (¬ x24 = 0 → True))))) ∧ (¬ (F 16 (Int32.toNatClampNeg ((8 * f4) + v5))) = 1 → True)) ∧ bv ((if (F 16 (Int32.toNatClampNeg ((8 * f4) + v5))) = 1 then bv (gX12_isCut F G v5) (fun x24 : Int32 => (if x24 = 0 then bv (gX12_isCut F G f4) (fun x27 : Int32 => (if x27 = 0 then (if (F 59 (Int32.toNatClampNeg v5)) = ((F 59 (Int32.toNatClampNeg f4)) - 1) then 1 else 0) else 0)) else 0)) else 0) : Int32) (fun v32 : Int32 => (((v32 = 0 → (vp_in f1 3)) ∧ (¬ v32 = 0 → True)) ∧ bv ((if v32 = 0 then (F 49 (Int32.toNatClampNeg f1)) else v5) : Int32) (fun v35 : Int32 => (vp_in f1 3 ∧ bv (u2 F 49 (Int32.toNatClampNeg f1) v35) (fun F37 : jF => (okX12_crews_L80  f4 f1 okK n9 (v5 + (-1)) F37 G)))))))))))))
def gX12_crews (F : jF) (G : jG) (p1 : Int32) : jS := bv ((F 51 (Int32.toNatClampNeg p1)) - 1) (fun x2 : Int32 => (if x2 = (-1) then (F, G) else bv ((if 20 ≤ (F 33 (Int32.toNatClampNeg x2)) then (F 34 (Int32.toNatClampNeg x2)) else (F 33 (Int32.toNatClampNeg x2))) : Int32) (fun v8 : Int32 => (if (F 49 (Int32.toNatClampNeg p1)) = v8 then bs (gX12_works F G p1 x2) (fun (F43 : jF) (G44 : jG) => (F43, G44)) else bs (gX12_measures F G v8) (fun (F12 : jF) (G13 : jG) => bv (F12 49 (Int32.toNatClampNeg p1)) (fun x16 : Int32 => bv ((F12 8 0) - 1) (fun x17 : Int32 => (gX12_crews_L80  x16 p1 (fun (y39 : Int32) (F40 : jF) (G41 : jG) => (F40, G41)) 80 x17 F12 G13))))))))
def okX12_crews (F : jF) (G : jG) (p1 : Int32) : Prop := (vp_in p1 3 ∧ bv ((F 51 (Int32.toNatClampNeg p1)) - 1) (fun x2 : Int32 => ((x2 = (-1) → True) ∧ (¬ x2 = (-1) → (vp_in x2 8 ∧ (((20 ≤ (F 33 (Int32.toNatClampNeg x2)) → (vp_in x2 8)) ∧ (¬ 20 ≤ (F 33 (Int32.toNatClampNeg x2)) → (vp_in x2 8))) ∧ bv ((if 20 ≤ (F 33 (Int32.toNatClampNeg x2)) then (F 34 (Int32.toNatClampNeg x2)) else (F 33 (Int32.toNatClampNeg x2))) : Int32) (fun v8 : Int32 => (vp_in p1 3 ∧ (((F 49 (Int32.toNatClampNeg p1)) = v8 → (okX12_works F G p1 x2)) ∧ (¬ (F 49 (Int32.toNatClampNeg p1)) = v8 → ((okX12_measures F G v8) ∧ bs (gX12_measures F G v8) (fun (F12 : jF) (G13 : jG) => (vp_in p1 3 ∧ bv (F12 49 (Int32.toNatClampNeg p1)) (fun x16 : Int32 => bv ((F12 8 0) - 1) (fun x17 : Int32 => (okX12_crews_L80  x16 p1 (fun (y39 : Int32) (F40 : jF) (G41 : jG) => True) 80 x17 F12 G13))))))))))))))))
abbrev rmX12_crews : Room := { frames := 5, cells := 0, slots := 0, locals := 120 }
def gX12_goesOn_L6  (K : Int32 → jF → jG → jS) : Nat → Int32 → jF → jG → jS
  | 0, _, F, G => (F, G)
  | n9 + 1, v1, F, G => (if (F 17 0) ≤ v1 then (K v1 F G) else bv (gX12_isSeaHigher F G v1) (fun x7 : Int32 => bv ((if x7 = 0 then (F 22 (Int32.toNatClampNeg v1)) else 0) : Int32) (fun v10 : Int32 => bv (u2 F 22 (Int32.toNatClampNeg v1) v10) (fun F12 : jF => (if (F12 22 (Int32.toNatClampNeg v1)) = 1 then br (gX12_flows F12 G (F12 18 (Int32.toNatClampNeg v1)) (F12 19 (Int32.toNatClampNeg v1)) (Int32.toInt64 (F12 20 (Int32.toNatClampNeg v1)))) (fun (x23 : Int64) (F20 : jF) (G21 : jG) => (gX12_goesOn_L6   K n9 (v1 + 1) F20 G21)) else (gX12_goesOn_L6   K n9 (v1 + 1) F12 G))))))
def okX12_goesOn_L6  (okK : Int32 → jF → jG → Prop) : Nat → Int32 → jF → jG → Prop
  | 0, _, _, _ => False
  | n9 + 1, v1, F, G => (((F 17 0) ≤ v1 → (okK v1 F G)) ∧ (¬ (F 17 0) ≤ v1 → ((okX12_isSeaHigher F G v1) ∧ bv (gX12_isSeaHigher F G v1) (fun x7 : Int32 => (((x7 = 0 → (vp_in v1 8)) ∧ (¬ x7 = 0 → True)) ∧ bv ((if x7 = 0 then (F 22 (Int32.toNatClampNeg v1)) else 0) : Int32) (fun v10 : Int32 => (vp_in v1 8 ∧ bv (u2 F 22 (Int32.toNatClampNeg v1) v10) (fun F12 : jF => (vp_in v1 8 ∧ (((F12 22 (Int32.toNatClampNeg v1)) = 1 → (vp_in v1 8 ∧ (vp_in v1 8 ∧ (vp_in v1 8 ∧ ((okX12_flows F12 G (F12 18 (Int32.toNatClampNeg v1)) (F12 19 (Int32.toNatClampNeg v1)) (Int32.toInt64 (F12 20 (Int32.toNatClampNeg v1)))) ∧ br (gX12_flows F12 G (F12 18 (Int32.toNatClampNeg v1)) (F12 19 (Int32.toNatClampNeg v1)) (Int32.toInt64 (F12 20 (Int32.toNatClampNeg v1)))) (fun (x23 : Int64) (F20 : jF) (G21 : jG) => (okX12_goesOn_L6   okK n9 (v1 + 1) F20 G21))))))) ∧ (¬ (F12 22 (Int32.toNatClampNeg v1)) = 1 → (okX12_goesOn_L6   okK n9 (v1 + 1) F12 G))))))))))))
def gX12_goesOn_L80  (K : Int32 → jF → jG → jS) : Nat → Int32 → jF → jG → jS
  | 0, _, F, G => (F, G)
  | n9 + 1, v1, F, G => (if (F 23 0) ≤ v1 then (K v1 F G) else bs (gX12_pumps F G v1) (fun (F29 : jF) (G30 : jG) => (gX12_goesOn_L80   K n9 (v1 + 1) F29 G30)))
def okX12_goesOn_L80  (okK : Int32 → jF → jG → Prop) : Nat → Int32 → jF → jG → Prop
  | 0, _, _, _ => False
  | n9 + 1, v1, F, G => (((F 23 0) ≤ v1 → (okK v1 F G)) ∧ (¬ (F 23 0) ≤ v1 → ((okX12_pumps F G v1) ∧ bs (gX12_pumps F G v1) (fun (F29 : jF) (G30 : jG) => (okX12_goesOn_L80   okK n9 (v1 + 1) F29 G30)))))
def gX12_goesOn_L101  (K : Int32 → jF → jG → jS) : Nat → Int32 → jF → jG → jS
  | 0, _, F, G => (F, G)
  | n9 + 1, v1, F, G => (if (F 32 0) ≤ v1 then (K v1 F G) else bs (gX12_holds F G v1) (fun (F37 : jF) (G38 : jG) => (gX12_goesOn_L101   K n9 (v1 + 1) F37 G38)))
def okX12_goesOn_L101  (okK : Int32 → jF → jG → Prop) : Nat → Int32 → jF → jG → Prop
  | 0, _, _, _ => False
  | n9 + 1, v1, F, G => (((F 32 0) ≤ v1 → (okK v1 F G)) ∧ (¬ (F 32 0) ≤ v1 → ((okX12_holds F G v1) ∧ bs (gX12_holds F G v1) (fun (F37 : jF) (G38 : jG) => (okX12_goesOn_L101   okK n9 (v1 + 1) F37 G38)))))
def gX12_goesOn_L126  (K : Int32 → jF → jG → jS) : Nat → Int32 → jF → jG → jS
  | 0, _, F, G => (F, G)
  | n9 + 1, v1, F, G => (if 3 ≤ v1 then (K v1 F G) else bs (gX12_crews F G v1) (fun (F49 : jF) (G50 : jG) => (gX12_goesOn_L126   K n9 (v1 + 1) F49 G50)))
def okX12_goesOn_L126  (okK : Int32 → jF → jG → Prop) : Nat → Int32 → jF → jG → Prop
  | 0, _, _, _ => False
  | n9 + 1, v1, F, G => ((3 ≤ v1 → (okK v1 F G)) ∧ (¬ 3 ≤ v1 → ((okX12_crews F G v1) ∧ bs (gX12_crews F G v1) (fun (F49 : jF) (G50 : jG) => (okX12_goesOn_L126   okK n9 (v1 + 1) F49 G50)))))
def gX12_goesOn (F : jF) (G : jG)  : jS := bs (gX12_rains F G) (fun (F2 : jF) (G3 : jG) => (gX12_goesOn_L6   (fun (y24 : Int32) (F25 : jF) (G26 : jG) => (gX12_goesOn_L80   (fun (y32 : Int32) (F33 : jF) (G34 : jG) => (gX12_goesOn_L101   (fun (y40 : Int32) (F41 : jF) (G42 : jG) => bs (gX12_harms F41 G42) (fun (F44 : jF) (G45 : jG) => (gX12_goesOn_L126   (fun (y52 : Int32) (F53 : jF) (G54 : jG) => bv (gX12_seaAt F53 G54 (F53 0 0)) (fun x56 : Int64 => bv ((if x56 ≤ (G54 58 0) then (G54 58 0) else bv (gX12_seaAt F53 G54 (F53 0 0)) (fun x59 : Int64 => x59)) : Int64) (fun v60 : Int64 => bv (u2 G54 58 0 v60) (fun G61 : jG => bv (u2 F53 0 0 ((F53 0 0) + 1)) (fun F63 : jF => (F63, G61)))))) 80 0 F44 G45))) 80 0 F33 G34)) 80 0 F25 G26)) 80 0 F2 G3))
def okX12_goesOn (F : jF) (G : jG)  : Prop := ((okX12_rains F G ) ∧ bs (gX12_rains F G) (fun (F2 : jF) (G3 : jG) => (okX12_goesOn_L6   (fun (y24 : Int32) (F25 : jF) (G26 : jG) => (okX12_goesOn_L80   (fun (y32 : Int32) (F33 : jF) (G34 : jG) => (okX12_goesOn_L101   (fun (y40 : Int32) (F41 : jF) (G42 : jG) => ((okX12_harms F41 G42 ) ∧ bs (gX12_harms F41 G42) (fun (F44 : jF) (G45 : jG) => (okX12_goesOn_L126   (fun (y52 : Int32) (F53 : jF) (G54 : jG) => ((okX12_seaAt F53 G54 (F53 0 0)) ∧ bv (gX12_seaAt F53 G54 (F53 0 0)) (fun x56 : Int64 => ((x56 ≤ (G54 58 0) → True) ∧ (¬ x56 ≤ (G54 58 0) → (okX12_seaAt F53 G54 (F53 0 0))))))) 80 0 F44 G45)))) 80 0 F33 G34)) 80 0 F25 G26)) 80 0 F2 G3)))
abbrev rmX12_goesOn : Room := { frames := 7, cells := 0, slots := 0, locals := 184 }
def gX12_run_L37 (f1 : Int32) (K : Int32 → jF → jG → (Int32 × jS)) : Nat → Int32 → jF → jG → (Int32 × jS)
  | 0, _, F, G => (0, (F, G))
  | n9 + 1, v2, F, G => (if f1 ≤ v2 then (K v2 F G) else (if (F 60 0) = 0 then bs (gX12_goesOn F G) (fun (F10 : jF) (G11 : jG) => (gX12_run_L37  f1 K n9 (v2 + 1) F10 G11)) else (K v2 F G)))
def okX12_run_L37 (f1 : Int32) (okK : Int32 → jF → jG → Prop) : Nat → Int32 → jF → jG → Prop
  | 0, _, _, _ => False
  | n9 + 1, v2, F, G => ((f1 ≤ v2 → (okK v2 F G)) ∧ (¬ f1 ≤ v2 → (((F 60 0) = 0 → ((okX12_goesOn F G ) ∧ bs (gX12_goesOn F G) (fun (F10 : jF) (G11 : jG) => (okX12_run_L37  f1 okK n9 (v2 + 1) F10 G11)))) ∧ (¬ (F 60 0) = 0 → (okK v2 F G)))))
def gX12_run (F : jF) (G : jG) (p1 : Int32) : (Int32 × jS) := bv (gX12_in p1 1 50) (fun x1 : Int32 => bv ((if x1 = 0 then 1 else (if ((F 0 0) + p1) ≤ 9999 then 0 else 2)) : Int32) (fun v4 : Int32 => bv (u2 F 60 0 v4) (fun F5 : jF => (gX12_run_L37  p1 (fun (y13 : Int32) (F14 : jF) (G15 : jG) => bv ((if (F14 60 0) = 0 then (F14 0 0) else 0) : Int32) (fun v17 : Int32 => (v17, (F14, G15)))) 80 0 F5 G))))
def okX12_run (F : jF) (G : jG) (p1 : Int32) : Prop := bv (gX12_in p1 1 50) (fun x1 : Int32 => bv ((if x1 = 0 then 1 else (if ((F 0 0) + p1) ≤ 9999 then 0 else 2)) : Int32) (fun v4 : Int32 => bv (u2 F 60 0 v4) (fun F5 : jF => (okX12_run_L37  p1 (fun (y13 : Int32) (F14 : jF) (G15 : jG) => True) 80 0 F5 G))))
abbrev rmX12_run : Room := { frames := 8, cells := 0, slots := 0, locals := 205 }
def gX12_endYear_L29  (K : Int32 → jF → jG → (Int32 × jS)) : Nat → Int32 → jF → jG → (Int32 × jS)
  | 0, _, F, G => (0, (F, G))
  | n9 + 1, v1, F, G => (if (F 8 0) ≤ v1 then (K v1 F G) else bv (u2 F 10 (Int32.toNatClampNeg v1) ((F 10 (Int32.toNatClampNeg v1)) - (F 11 (Int32.toNatClampNeg v1)))) (fun F10 : jF => (gX12_endYear_L29   K n9 (v1 + 1) F10 G)))
def okX12_endYear_L29  (okK : Int32 → jF → jG → Prop) : Nat → Int32 → jF → jG → Prop
  | 0, _, _, _ => False
  | n9 + 1, v1, F, G => (((F 8 0) ≤ v1 → (okK v1 F G)) ∧ (¬ (F 8 0) ≤ v1 → (vp_in v1 8 ∧ (vp_in v1 8 ∧ (vp_in v1 8 ∧ bv (u2 F 10 (Int32.toNatClampNeg v1) ((F 10 (Int32.toNatClampNeg v1)) - (F 11 (Int32.toNatClampNeg v1)))) (fun F10 : jF => (okX12_endYear_L29   okK n9 (v1 + 1) F10 G)))))))
def gX12_endYear_L76  (K : Int32 → Int32 → jF → jG → (Int32 × jS)) : Nat → Int32 → Int32 → jF → jG → (Int32 × jS)
  | 0, _, _, F, G => (0, (F, G))
  | n9 + 1, v2, v1, F, G => (if (F 52 0) ≤ v2 then (K v2 v1 F G) else bv (u2 F 55 (Int32.toNatClampNeg v2) ((F 55 (Int32.toNatClampNeg v2)) - 1)) (fun F20 : jF => bv ((if (F20 55 (Int32.toNatClampNeg v2)) = 0 then (F20 54 (Int32.toNatClampNeg v2)) else 0) : Int32) (fun v27 : Int32 => bv (u2 F20 35 (Int32.toNatClampNeg (F20 53 (Int32.toNatClampNeg v2))) ((F20 35 (Int32.toNatClampNeg (F20 53 (Int32.toNatClampNeg v2)))) + v27)) (fun F29 : jF => bv (u2 F29 53 (Int32.toNatClampNeg v1) (F29 53 (Int32.toNatClampNeg v2))) (fun F33 : jF => bv (u2 F33 54 (Int32.toNatClampNeg v1) (F33 54 (Int32.toNatClampNeg v2))) (fun F37 : jF => bv (u2 F37 55 (Int32.toNatClampNeg v1) (F37 55 (Int32.toNatClampNeg v2))) (fun F41 : jF => bv ((if (F41 55 (Int32.toNatClampNeg v2)) ≤ 0 then 0 else 1) : Int32) (fun v45 : Int32 => bv (v1 + v45) (fun x46 : Int32 => (gX12_endYear_L76   K n9 (v2 + 1) x46 F41 G))))))))))
def okX12_endYear_L76  (okK : Int32 → Int32 → jF → jG → Prop) : Nat → Int32 → Int32 → jF → jG → Prop
  | 0, _, _, _, _ => False
  | n9 + 1, v2, v1, F, G => (((F 52 0) ≤ v2 → (okK v2 v1 F G)) ∧ (¬ (F 52 0) ≤ v2 → (vp_in v2 6 ∧ (vp_in v2 6 ∧ bv (u2 F 55 (Int32.toNatClampNeg v2) ((F 55 (Int32.toNatClampNeg v2)) - 1)) (fun F20 : jF => (vp_in v2 6 ∧ (vp_in (F20 53 (Int32.toNatClampNeg v2)) 8 ∧ (vp_in v2 6 ∧ ((((F20 55 (Int32.toNatClampNeg v2)) = 0 → (vp_in v2 6)) ∧ (¬ (F20 55 (Int32.toNatClampNeg v2)) = 0 → True)) ∧ bv ((if (F20 55 (Int32.toNatClampNeg v2)) = 0 then (F20 54 (Int32.toNatClampNeg v2)) else 0) : Int32) (fun v27 : Int32 => (vp_in (F20 53 (Int32.toNatClampNeg v2)) 8 ∧ bv (u2 F20 35 (Int32.toNatClampNeg (F20 53 (Int32.toNatClampNeg v2))) ((F20 35 (Int32.toNatClampNeg (F20 53 (Int32.toNatClampNeg v2)))) + v27)) (fun F29 : jF => (vp_in v2 6 ∧ (vp_in v1 6 ∧ bv (u2 F29 53 (Int32.toNatClampNeg v1) (F29 53 (Int32.toNatClampNeg v2))) (fun F33 : jF => (vp_in v2 6 ∧ (vp_in v1 6 ∧ bv (u2 F33 54 (Int32.toNatClampNeg v1) (F33 54 (Int32.toNatClampNeg v2))) (fun F37 : jF => (vp_in v2 6 ∧ (vp_in v1 6 ∧ bv (u2 F37 55 (Int32.toNatClampNeg v1) (F37 55 (Int32.toNatClampNeg v2))) (fun F41 : jF => (vp_in v2 6 ∧ bv ((if (F41 55 (Int32.toNatClampNeg v2)) ≤ 0 then 0 else 1) : Int32) (fun v45 : Int32 => bv (v1 + v45) (fun x46 : Int32 => (okX12_endYear_L76   okK n9 (v2 + 1) x46 F41 G)))))))))))))))))))))))))
def gX12_endYear (F : jF) (G : jG)  : (Int32 × jS) := bv ((if (F 1 0) = 20 then 1 else 0) : Int32) (fun v2 : Int32 => bv (u2 F 60 0 v2) (fun F3 : jF => (if (F3 60 0) ≤ 0 then (gX12_endYear_L29   (fun (y12 : Int32) (F13 : jF) (G14 : jG) => bv (u2 G14 2 0 ((G14 2 0) + (Int32.toInt64 (F13 3 0)))) (fun G15 : jG => (gX12_endYear_L76   (fun (y47 : Int32) (y48 : Int32) (F49 : jF) (G50 : jG) => bv (u2 F49 52 0 y48) (fun F51 : jF => bv (u2 G50 57 (Int32.toNatClampNeg (F51 1 0)) (G50 58 0)) (fun G54 : jG => bv (u2 G54 58 0 (-9223372036854775808)) (fun G56 : jG => bv (u2 F51 1 0 ((F51 1 0) + 1)) (fun F58 : jF => ((F58 1 0), (F58, G56))))))) 80 0 0 F13 G15))) 80 0 F3 G) else (0, (F3, G)))))
def okX12_endYear (F : jF) (G : jG)  : Prop := bv ((if (F 1 0) = 20 then 1 else 0) : Int32) (fun v2 : Int32 => bv (u2 F 60 0 v2) (fun F3 : jF => (((F3 60 0) ≤ 0 → (okX12_endYear_L29   (fun (y12 : Int32) (F13 : jF) (G14 : jG) => bv (u2 G14 2 0 ((G14 2 0) + (Int32.toInt64 (F13 3 0)))) (fun G15 : jG => (okX12_endYear_L76   (fun (y47 : Int32) (y48 : Int32) (F49 : jF) (G50 : jG) => bv (u2 F49 52 0 y48) (fun F51 : jF => (vp_in (F51 1 0) 20))) 80 0 0 F13 G15))) 80 0 F3 G)) ∧ (¬ (F3 60 0) ≤ 0 → True))))
abbrev rmX12_endYear : Room := { frames := 0, cells := 0, slots := 0, locals := 0 }
def gX12_hour (F : jF) (G : jG)  : (Int32 × jS) := bv (u2 F 60 0 0) (fun F1 : jF => ((F1 0 0), (F1, G)))
abbrev rmX12_hour : Room := { frames := 0, cells := 0, slots := 0, locals := 0 }
def gX12_money (F : jF) (G : jG)  : (Int32 × jS) := bv (u2 F 60 0 0) (fun F1 : jF => ((Int64.toInt32 (G 2 0)), (F1, G)))
abbrev rmX12_money : Room := { frames := 0, cells := 0, slots := 0, locals := 0 }
def gX12_level (F : jF) (G : jG) (p1 : Int32) : (Int64 × jS) := bv (gX12_isEnd F G p1) (fun x2 : Int32 => bv ((if x2 = 0 then 1 else 0) : Int32) (fun v4 : Int32 => bv (u2 F 60 0 v4) (fun F5 : jF => bv ((if (F5 60 0) = 0 then bv (gX12_levelOf F5 G p1) (fun x9 : Int64 => x9) else 0) : Int64) (fun v10 : Int64 => (v10, (F5, G))))))
def okX12_level (F : jF) (G : jG) (p1 : Int32) : Prop := ((okX12_isEnd F G p1) ∧ bv (gX12_isEnd F G p1) (fun x2 : Int32 => bv ((if x2 = 0 then 1 else 0) : Int32) (fun v4 : Int32 => bv (u2 F 60 0 v4) (fun F5 : jF => (((F5 60 0) = 0 → (okX12_levelOf F5 G p1)) ∧ (¬ (F5 60 0) = 0 → True))))))
abbrev rmX12_level : Room := { frames := 3, cells := 0, slots := 0, locals := 74 }
set_option maxHeartbeats 4000000 in
set_option maxRecDepth 100000 in
theorem qX12_command (l : Launch) (D : va_G) (yy : Nat → ClassId) (A : Nat → Nat) (F : jF) (G : jG) (sz : Nat) (p1 : Int32) (p2 : Int32) (p3 : Int32) (hok : okX12_command F G p1 p2 p3) : Met l yX12_command (Cond.code yX12_command cX12_command 7 (some .int) :: wsL_law) rmX12_command (va_Pc [.ref (A 99), .int p1, .int p2, .int p3] (jP D yy (mW yy A F G) sz)) (va_Qi (fun r (u : jS) => (r, u) = gX12_command F G p1 p2 p3) (fun (u : jS) t => jB D yy (va_A (mW yy A F G) sz) (mW yy A u.1 u.2) t) (va_A (mW yy A F G) sz)) 0 0 (va_A (mW yy A F G) sz) := by
  generalize hres : gX12_command F G p1 p2 p3 = RES
  refine jM (own := RX12) (by decide) rfl (Nat.le_of_ble_eq_true rfl) ?_
  intro p e s m args below meth c ls Q hQ hargs S hr hlk hinit hB hl
  obtain ⟨hx, hb, hml, hown, hts⟩ := S
  have hl : lv_has ls 7 [(0, .ref (A 99)), (1, .int p1), (2, .int p2), (3, .int p3)] := hl
  have hin12 : ∀ w ∈ u_ws RX12 TX12 61, w ∈ (Cond.code yX12_command cX12_command 7 (some .int) :: wsL_law) := fun w h => List.mem_cons_of_mem _ (inlX12 w h)
  obtain ⟨hsz, hP, hK, hD0⟩ := hB
  subst hsz
  have hD := hD0.self (sz := s.heap.size)
  generalize hZ : va_A (mW yy A F G) s.heap.size = Z at hD hQ
  have hA : ∀ q : Nat, s.heap.size ≤ q → Z q := fun q h => by rw [← hZ]; exact Or.inr h
  obtain ⟨H, hH⟩ : ∃ z, z = s.heap := ⟨_, rfl⟩
  obtain ⟨locs, hlocs⟩ : ∃ z : List Loc, z = [] := ⟨_, rfl⟩
  have hS : va_S Z s.heap H locs := by rw [hH, hlocs]; exact va_S.rf
  rw [← hH] at hP
  suffices hgo : W p l e rmX12_command s m args below meth c H locs 0 0 Q (F0 m 0 ls []) by rw [hH, hlocs] at hgo; exact hgo
  unfold gX12_command at hres
  unfold okX12_command at hok
  refine lv_aload_n hx hb (dd_of dX12_command_0 0 rfl) rfl (lv_at hl 0 rfl) ?_
  refine lv_iload_n hx hb (dd_of dX12_command_0 1 rfl) rfl (lv_at hl 1 rfl) ?_
  refine lv_iconst (v := 0) hx hb (dd_of dX12_command_0 2 rfl) (by decide) ?_
  refine lv_aload_n hx hb (dd_of dX12_command_0 3 rfl) rfl (lv_at hl 0 rfl) ?_
  refine va_get (D := D) (cl := vwCl) (tys := jT yy) (ci := 12) (v := .int (F 17 0)) (C := RX12) (T := TX12) (N := 61) hx hb hts hin12 hown hK hP 0 rfl rfl 17 (by decide) (jw hts gw673) (fun _ h9 => h9) rfl (dd_of dX12_command_0 4 rfl) ?_
  refine lv_iconst (v := 1) hx hb (dd_of dX12_command_0 5 rfl) (by decide) ?_
  refine lv_isub hx hb (dd_of dX12_command_0 6 rfl) ?_
  refine jc_si (As := [.int p1, .int 0, .int ((F 17 0) - 1)]) (rest := [.ref (A 99)]) ⟨hx, hb, hml, hown, hts⟩ (qX12_in l p1 0 ((F 17 0) - 1) ) (cwS 3 hts (jgS gw591 gw592 gw5 gw593) rfl rfl rfl (by decide +kernel) ⟨Nat.le_of_ble_eq_true rfl, Nat.le_of_ble_eq_true rfl⟩) rfl hl.1 rfl (Nat.le_of_ble_eq_true rfl) (dd_of dX12_command_0 7 rfl) ⟨Nat.zero_le _, Nat.zero_le _⟩ (fun x1 ex1 => ?_)
  replace hres := bvE ex1 hres
  replace hok := bvO ex1 hok
  obtain ⟨z102, q101⟩ : ∃ z : Int32, (if x1 = 0 then 1 else bv (gX12_in p3 0 3) (fun x3 : Int32 => (if x3 = 0 then 2 else 0))) = z := ⟨_, rfl⟩
  refine jn_i (ls := ls) (v := z102) 33 [.ref (A 99)] (fun v5 ev5 => ?_) (fun K103 => ?_)
  · replace hres := bvE (ev5.trans q101.symm) hres
    replace hok := bvO (ev5.trans q101.symm) hok
    refine va_put (D := D) (cl := vwCl) (tys := jT yy) (ci := 12) (v := .int v5) (ty := .int) (C := RX12) (T := TX12) (N := 61) hx hb hts hin12 tyX12 tyX12_ok nmX12 hown hK hP hD hS 0 rfl rfl 60 (by decide) (jw hts gw590) (fun _ h9 => h9) rfl (by decide +kernel) rfl rfl (Nat.le_of_ble_eq_true rfl) (dd_of dX12_command_0 19 rfl) (fun H locs hP hD hS => ?_)
    obtain ⟨F6, e7⟩ : ∃ z : jF, z = u2 F 60 0 v5 := ⟨_, rfl⟩
    have hP : va_P D vwCl (mW yy A F6 G) H := by rw [e7]; exact hP
    have hD : va_D Z (mW yy A F6 G) := by rw [e7]; exact hD
    replace hres := bvE e7 hres
    replace hok := bvO e7 hok
    refine lv_aload_n hx hb (dd_of dX12_command_0 20 rfl) rfl (lv_at hl 0 rfl) ?_
    refine va_get (D := D) (cl := vwCl) (tys := jT yy) (ci := 12) (v := .int (F6 60 0)) (C := RX12) (T := TX12) (N := 61) hx hb hts hin12 hown hK hP 0 rfl rfl 60 (by decide) (jw hts gw590) (fun _ h9 => h9) rfl (dd_of dX12_command_0 21 rfl) ?_
    refine lv_if_le (tgt := 45) hx hb (dd_of dX12_command_0 22 rfl) (by decide) (fun c8 => ?_) (fun c8 => ?_)
    · replace hres := ifE c8 hres
      replace hok := hok.1 c8
      refine lv_iload_n hx hb (dd_of dX12_command_0 25 rfl) rfl (lv_at hl 3 rfl) ?_
      refine lv_aload_n hx hb (dd_of dX12_command_0 26 rfl) rfl (lv_at hl 0 rfl) ?_
      refine va_get (D := D) (cl := vwCl) (tys := jT yy) (ci := 12) (v := .ref (A 21)) (C := RX12) (T := TX12) (N := 61) hx hb hts hin12 hown hK hP 0 rfl rfl 21 (by decide) (jw hts gw136) (fun _ h9 => h9) rfl (dd_of dX12_command_0 27 rfl) ?_
      refine lv_iload_n hx hb (dd_of dX12_command_0 28 rfl) rfl (lv_at hl 1 rfl) ?_
      have h9 := hok.1
      replace hok := hok.2
      refine va_iald hx hb hK hP 12 0 rfl rfl h9 (dd_of dX12_command_0 29 rfl) ?_
      refine lv_icmp_ge (tgt := 57) hx hb (dd_of dX12_command_0 30 rfl) (by decide) (fun c10 => ?_) (fun c10 => ?_)
      · replace hres := ifE c10 hres
        replace hok := hok.1 c10
        refine lv_iload_n hx hb (dd_of dX12_command_0 33 rfl) rfl (lv_at hl 2 rfl) ?_
        refine lv_if_eq (tgt := 71) hx hb (dd_of dX12_command_0 34 rfl) (by decide) (fun c11 => ?_) (fun c11 => ?_)
        · replace hres := ifE c11 hres
          replace hok := hok.1 c11
          refine lv_aload_n hx hb (dd_of dX12_command_1 1 rfl) rfl (lv_at hl 0 rfl) ?_
          refine lv_aload_n hx hb (dd_of dX12_command_1 2 rfl) rfl (lv_at hl 0 rfl) ?_
          refine va_get (D := D) (cl := vwCl) (tys := jT yy) (ci := 12) (v := .ref (A 18)) (C := RX12) (T := TX12) (N := 61) hx hb hts hin12 hown hK hP 0 rfl rfl 18 (by decide) (jw hts gw133) (fun _ h9 => h9) rfl (dd_of dX12_command_1 3 rfl) ?_
          refine lv_iload_n hx hb (dd_of dX12_command_1 4 rfl) rfl (lv_at hl 1 rfl) ?_
          have h12 := hok.1
          replace hok := hok.2
          refine va_iald hx hb hK hP 9 0 rfl rfl h12 (dd_of dX12_command_1 5 rfl) ?_
          have h13 := hok.1
          replace hok := hok.2
          refine jc_l (As := [.int (F6 18 (Int32.toNatClampNeg p1))]) (rest := []) (w := (mW yy A F6 G)) (D := D) (yy := yy) ⟨hx, hb, hml, hown, hts⟩ (qX12_levelOf l D yy A F6 G (F6 18 (Int32.toNatClampNeg p1)) h13) (cwV 1 hts (jgV gw781 gw782 gw783 gw5 gw784) rfl rfl rfl (by decide +kernel) ⟨Nat.le_of_ble_eq_true rfl, Nat.le_of_ble_eq_true rfl⟩) hP hK (va_recv hK hP (ci := 12) (q0 := 0) rfl rfl) rfl hl.1 rfl (Nat.le_of_ble_eq_true rfl) (dd_of dX12_command_1 6 rfl) ⟨Nat.zero_le _, Nat.zero_le _⟩ (fun x14 ex14 => ?_)
          replace hres := bvE ex14 hres
          replace hok := bvO ex14 hok
          refine lv_aload_n hx hb (dd_of dX12_command_1 7 rfl) rfl (lv_at hl 0 rfl) ?_
          refine lv_aload_n hx hb (dd_of dX12_command_1 8 rfl) rfl (lv_at hl 0 rfl) ?_
          refine va_get (D := D) (cl := vwCl) (tys := jT yy) (ci := 12) (v := .ref (A 19)) (C := RX12) (T := TX12) (N := 61) hx hb hts hin12 hown hK hP 0 rfl rfl 19 (by decide) (jw hts gw134) (fun _ h9 => h9) rfl (dd_of dX12_command_1 9 rfl) ?_
          refine lv_iload_n hx hb (dd_of dX12_command_1 10 rfl) rfl (lv_at hl 1 rfl) ?_
          have h15 := hok.1
          replace hok := hok.2
          refine va_iald hx hb hK hP 10 0 rfl rfl h15 (dd_of dX12_command_1 11 rfl) ?_
          have h16 := hok.1
          replace hok := hok.2
          refine jc_l (As := [.int (F6 19 (Int32.toNatClampNeg p1))]) (rest := [.long x14]) (w := (mW yy A F6 G)) (D := D) (yy := yy) ⟨hx, hb, hml, hown, hts⟩ (qX12_levelOf l D yy A F6 G (F6 19 (Int32.toNatClampNeg p1)) h16) (cwV 1 hts (jgV gw781 gw782 gw783 gw5 gw784) rfl rfl rfl (by decide +kernel) ⟨Nat.le_of_ble_eq_true rfl, Nat.le_of_ble_eq_true rfl⟩) hP hK (va_recv hK hP (ci := 12) (q0 := 0) rfl rfl) rfl hl.1 rfl (Nat.le_of_ble_eq_true rfl) (dd_of dX12_command_1 12 rfl) ⟨Nat.zero_le _, Nat.zero_le _⟩ (fun x17 ex17 => ?_)
          replace hres := bvE ex17 hres
          replace hok := bvO ex17 hok
          refine lv_lsub hx hb (dd_of dX12_command_1 13 rfl) ?_
          refine lv_topl (fun x18 ex18 => ?_)
          replace hres := bvE ex18 hres
          replace hok := bvO ex18 hok
          refine lv_lstore (lv' := [(4, .long x18), (0, .ref (A 99)), (1, .int p1), (2, .int p2), (3, .int p3)]) hx hb (dd_of dX12_command_1 14 rfl) hl (by decide) rfl (fun ls hl => ?_)
          refine lv_lload hx hb (dd_of dX12_command_1 15 rfl) (lv_at hl 0 rfl) ?_
          refine lv_lconst (v := 0) hx hb (dd_of dX12_command_1 16 rfl) (by decide) ?_
          obtain ⟨z105, q104⟩ : ∃ z : Int32, (if x18 ≤ 0 then (if 0 ≤ x18 then (-1) else (F6 18 (Int32.toNatClampNeg p1))) else (F6 19 (Int32.toNatClampNeg p1))) = z := ⟨_, rfl⟩
          have o107 := hok.1
          replace hok := hok.2
          refine jn_i (ls := ls) (v := z105) 127 [] (fun v23 ev23 => ?_) (fun K106 => ?_)
          · replace hres := bvE (ev23.trans q104.symm) hres
            replace hok := bvO (ev23.trans q104.symm) hok
            refine lv_istore (lv' := [(6, .int v23), (4, .long x18), (0, .ref (A 99)), (1, .int p1), (2, .int p2), (3, .int p3)]) hx hb (dd_of dX12_command_1 34 rfl) hl (by decide) rfl (fun ls hl => ?_)
            refine lv_iload_n hx hb (dd_of dX12_command_1 35 rfl) rfl (lv_at hl 4 rfl) ?_
            refine lv_if_eq (tgt := 163) hx hb (dd_of dX12_command_1 36 rfl) (by decide) (fun c24 => ?_) (fun c24 => ?_)
            · replace hres := ifE c24 hres
              replace hok := hok.1 c24
              refine lv_aload_n hx hb (dd_of dX12_command_2 13 rfl) rfl (lv_at hl 2 rfl) ?_
              refine va_get (D := D) (cl := vwCl) (tys := jT yy) (ci := 12) (v := .ref (A 22)) (C := RX12) (T := TX12) (N := 61) hx hb hts hin12 hown hK hP 0 rfl rfl 22 (by decide) (jw hts gw137) (fun _ h9 => h9) rfl (dd_of dX12_command_2 14 rfl) ?_
              refine lv_iload_n hx hb (dd_of dX12_command_2 15 rfl) rfl (lv_at hl 3 rfl) ?_
              refine lv_iload_n hx hb (dd_of dX12_command_2 16 rfl) rfl (lv_at hl 4 rfl) ?_
              obtain ⟨z109, q108⟩ : ∃ z : Int32, (if p2 = 0 then 0 else 1) = z := ⟨_, rfl⟩
              refine jn_i (ls := ls) (v := z109) 177 [.int p1, .ref (A 22)] (fun v26 ev26 => ?_) (fun K110 => ?_)
              · replace hres := bvE (ev26.trans q108.symm) hres
                replace hok := bvO (ev26.trans q108.symm) hok
                have h27 := hok
                refine va_iast hx hb hK hP hD hS 13 0 rfl rfl h27 (dd_of dX12_command_2 21 rfl) (fun H locs hP hD hS => ?_)
                obtain ⟨F28, e29⟩ : ∃ z : jF, z = u2 F6 22 (Int32.toNatClampNeg p1) v26 := ⟨_, rfl⟩
                have hP : va_P D vwCl (mW yy A F28 G) H := by rw [e29]; exact hP
                have hD : va_D Z (mW yy A F28 G) := by rw [e29]; exact hD
                replace hres := bvE e29 hres
                refine lv_iconst (v := 0) hx hb (dd_of dX12_command_2 22 rfl) (by decide) ?_
                subst hQ
                exact W.iret (v := 0) hx hb hr (fun t ht hW => ⟨⟨0, (F28, G), rfl, hres, by rw [ht]; exact hP, va_K.moved hW.alike hK, hD⟩, hS.F ht⟩) hS.2.2 (dd_of dX12_command_2 23 rfl) hlk
              · skip
                refine lv_if_eq (tgt := 176) hx hb (dd_of dX12_command_2 17 rfl) (by decide) (fun c25 => ?_) (fun c25 => ?_)
                · replace q108 := ifE c25 q108
                  refine lv_iconst (v := 0) hx hb (dd_of dX12_command_2 20 rfl) (by decide) ?_
                  exact K110 _ q108
                · replace q108 := ifN c25 q108
                  refine lv_iconst (v := 1) hx hb (dd_of dX12_command_2 18 rfl) (by decide) ?_
                  refine lv_goto (tgt := 177) hx hb (dd_of dX12_command_2 19 rfl) (by decide) ?_
                  exact K110 _ q108
            · replace hres := ifN c24 hres
              replace hok := hok.2 c24
              refine lv_iload hx hb (dd_of dX12_command_1 37 rfl) (lv_at hl 0 rfl) ?_
              refine lv_iconst (v := (-1)) hx hb (dd_of dX12_command_1 38 rfl) (by decide) ?_
              refine lv_icmp_eq (tgt := 163) hx hb (dd_of dX12_command_1 39 rfl) (by decide) (fun c30 => ?_) (fun c30 => ?_)
              · replace hres := ifE c30 hres
                replace hok := hok.1 c30
                refine lv_aload_n hx hb (dd_of dX12_command_2 13 rfl) rfl (lv_at hl 2 rfl) ?_
                refine va_get (D := D) (cl := vwCl) (tys := jT yy) (ci := 12) (v := .ref (A 22)) (C := RX12) (T := TX12) (N := 61) hx hb hts hin12 hown hK hP 0 rfl rfl 22 (by decide) (jw hts gw137) (fun _ h9 => h9) rfl (dd_of dX12_command_2 14 rfl) ?_
                refine lv_iload_n hx hb (dd_of dX12_command_2 15 rfl) rfl (lv_at hl 3 rfl) ?_
                refine lv_iload_n hx hb (dd_of dX12_command_2 16 rfl) rfl (lv_at hl 4 rfl) ?_
                obtain ⟨z112, q111⟩ : ∃ z : Int32, (if p2 = 0 then 0 else 1) = z := ⟨_, rfl⟩
                refine jn_i (ls := ls) (v := z112) 177 [.int p1, .ref (A 22)] (fun v32 ev32 => ?_) (fun K113 => ?_)
                · replace hres := bvE (ev32.trans q111.symm) hres
                  replace hok := bvO (ev32.trans q111.symm) hok
                  have h33 := hok
                  refine va_iast hx hb hK hP hD hS 13 0 rfl rfl h33 (dd_of dX12_command_2 21 rfl) (fun H locs hP hD hS => ?_)
                  obtain ⟨F34, e35⟩ : ∃ z : jF, z = u2 F6 22 (Int32.toNatClampNeg p1) v32 := ⟨_, rfl⟩
                  have hP : va_P D vwCl (mW yy A F34 G) H := by rw [e35]; exact hP
                  have hD : va_D Z (mW yy A F34 G) := by rw [e35]; exact hD
                  replace hres := bvE e35 hres
                  refine lv_iconst (v := 0) hx hb (dd_of dX12_command_2 22 rfl) (by decide) ?_
                  subst hQ
                  exact W.iret (v := 0) hx hb hr (fun t ht hW => ⟨⟨0, (F34, G), rfl, hres, by rw [ht]; exact hP, va_K.moved hW.alike hK, hD⟩, hS.F ht⟩) hS.2.2 (dd_of dX12_command_2 23 rfl) hlk
                · skip
                  refine lv_if_eq (tgt := 176) hx hb (dd_of dX12_command_2 17 rfl) (by decide) (fun c31 => ?_) (fun c31 => ?_)
                  · replace q111 := ifE c31 q111
                    refine lv_iconst (v := 0) hx hb (dd_of dX12_command_2 20 rfl) (by decide) ?_
                    exact K113 _ q111
                  · replace q111 := ifN c31 q111
                    refine lv_iconst (v := 1) hx hb (dd_of dX12_command_2 18 rfl) (by decide) ?_
                    refine lv_goto (tgt := 177) hx hb (dd_of dX12_command_2 19 rfl) (by decide) ?_
                    exact K113 _ q111
              · replace hres := ifN c30 hres
                replace hok := hok.2 c30
                refine lv_iload hx hb (dd_of dX12_command_2 0 rfl) (lv_at hl 0 rfl) ?_
                refine lv_bipush (v := 20) hx hb (dd_of dX12_command_2 1 rfl) (by decide) ?_
                refine lv_icmp_ge (tgt := 163) hx hb (dd_of dX12_command_2 2 rfl) (by decide) (fun c36 => ?_) (fun c36 => ?_)
                · replace hres := ifE c36 hres
                  replace hok := hok.1 c36
                  refine lv_aload_n hx hb (dd_of dX12_command_2 13 rfl) rfl (lv_at hl 2 rfl) ?_
                  refine va_get (D := D) (cl := vwCl) (tys := jT yy) (ci := 12) (v := .ref (A 22)) (C := RX12) (T := TX12) (N := 61) hx hb hts hin12 hown hK hP 0 rfl rfl 22 (by decide) (jw hts gw137) (fun _ h9 => h9) rfl (dd_of dX12_command_2 14 rfl) ?_
                  refine lv_iload_n hx hb (dd_of dX12_command_2 15 rfl) rfl (lv_at hl 3 rfl) ?_
                  refine lv_iload_n hx hb (dd_of dX12_command_2 16 rfl) rfl (lv_at hl 4 rfl) ?_
                  obtain ⟨z115, q114⟩ : ∃ z : Int32, (if p2 = 0 then 0 else 1) = z := ⟨_, rfl⟩
                  refine jn_i (ls := ls) (v := z115) 177 [.int p1, .ref (A 22)] (fun v38 ev38 => ?_) (fun K116 => ?_)
                  · replace hres := bvE (ev38.trans q114.symm) hres
                    replace hok := bvO (ev38.trans q114.symm) hok
                    have h39 := hok
                    refine va_iast hx hb hK hP hD hS 13 0 rfl rfl h39 (dd_of dX12_command_2 21 rfl) (fun H locs hP hD hS => ?_)
                    obtain ⟨F40, e41⟩ : ∃ z : jF, z = u2 F6 22 (Int32.toNatClampNeg p1) v38 := ⟨_, rfl⟩
                    have hP : va_P D vwCl (mW yy A F40 G) H := by rw [e41]; exact hP
                    have hD : va_D Z (mW yy A F40 G) := by rw [e41]; exact hD
                    replace hres := bvE e41 hres
                    refine lv_iconst (v := 0) hx hb (dd_of dX12_command_2 22 rfl) (by decide) ?_
                    subst hQ
                    exact W.iret (v := 0) hx hb hr (fun t ht hW => ⟨⟨0, (F40, G), rfl, hres, by rw [ht]; exact hP, va_K.moved hW.alike hK, hD⟩, hS.F ht⟩) hS.2.2 (dd_of dX12_command_2 23 rfl) hlk
                  · skip
                    refine lv_if_eq (tgt := 176) hx hb (dd_of dX12_command_2 17 rfl) (by decide) (fun c37 => ?_) (fun c37 => ?_)
                    · replace q114 := ifE c37 q114
                      refine lv_iconst (v := 0) hx hb (dd_of dX12_command_2 20 rfl) (by decide) ?_
                      exact K116 _ q114
                    · replace q114 := ifN c37 q114
                      refine lv_iconst (v := 1) hx hb (dd_of dX12_command_2 18 rfl) (by decide) ?_
                      refine lv_goto (tgt := 177) hx hb (dd_of dX12_command_2 19 rfl) (by decide) ?_
                      exact K116 _ q114
                · replace hres := ifN c36 hres
                  replace hok := hok.2 c36
                  refine lv_aload_n hx hb (dd_of dX12_command_2 3 rfl) rfl (lv_at hl 2 rfl) ?_
                  refine va_get (D := D) (cl := vwCl) (tys := jT yy) (ci := 12) (v := .ref (A 13)) (C := RX12) (T := TX12) (N := 61) hx hb hts hin12 hown hK hP 0 rfl rfl 13 (by decide) (jw hts gw129) (fun _ h9 => h9) rfl (dd_of dX12_command_2 4 rfl) ?_
                  refine lv_iload hx hb (dd_of dX12_command_2 5 rfl) (lv_at hl 0 rfl) ?_
                  have h42 := hok.1
                  replace hok := hok.2
                  refine va_iald hx hb hK hP 5 0 rfl rfl h42 (dd_of dX12_command_2 6 rfl) ?_
                  refine lv_if_le (tgt := 163) hx hb (dd_of dX12_command_2 7 rfl) (by decide) (fun c43 => ?_) (fun c43 => ?_)
                  · replace hres := ifE c43 hres
                    replace hok := hok.1 c43
                    refine lv_aload_n hx hb (dd_of dX12_command_2 13 rfl) rfl (lv_at hl 2 rfl) ?_
                    refine va_get (D := D) (cl := vwCl) (tys := jT yy) (ci := 12) (v := .ref (A 22)) (C := RX12) (T := TX12) (N := 61) hx hb hts hin12 hown hK hP 0 rfl rfl 22 (by decide) (jw hts gw137) (fun _ h9 => h9) rfl (dd_of dX12_command_2 14 rfl) ?_
                    refine lv_iload_n hx hb (dd_of dX12_command_2 15 rfl) rfl (lv_at hl 3 rfl) ?_
                    refine lv_iload_n hx hb (dd_of dX12_command_2 16 rfl) rfl (lv_at hl 4 rfl) ?_
                    obtain ⟨z118, q117⟩ : ∃ z : Int32, (if p2 = 0 then 0 else 1) = z := ⟨_, rfl⟩
                    refine jn_i (ls := ls) (v := z118) 177 [.int p1, .ref (A 22)] (fun v45 ev45 => ?_) (fun K119 => ?_)
                    · replace hres := bvE (ev45.trans q117.symm) hres
                      replace hok := bvO (ev45.trans q117.symm) hok
                      have h46 := hok
                      refine va_iast hx hb hK hP hD hS 13 0 rfl rfl h46 (dd_of dX12_command_2 21 rfl) (fun H locs hP hD hS => ?_)
                      obtain ⟨F47, e48⟩ : ∃ z : jF, z = u2 F6 22 (Int32.toNatClampNeg p1) v45 := ⟨_, rfl⟩
                      have hP : va_P D vwCl (mW yy A F47 G) H := by rw [e48]; exact hP
                      have hD : va_D Z (mW yy A F47 G) := by rw [e48]; exact hD
                      replace hres := bvE e48 hres
                      refine lv_iconst (v := 0) hx hb (dd_of dX12_command_2 22 rfl) (by decide) ?_
                      subst hQ
                      exact W.iret (v := 0) hx hb hr (fun t ht hW => ⟨⟨0, (F47, G), rfl, hres, by rw [ht]; exact hP, va_K.moved hW.alike hK, hD⟩, hS.F ht⟩) hS.2.2 (dd_of dX12_command_2 23 rfl) hlk
                    · skip
                      refine lv_if_eq (tgt := 176) hx hb (dd_of dX12_command_2 17 rfl) (by decide) (fun c44 => ?_) (fun c44 => ?_)
                      · replace q117 := ifE c44 q117
                        refine lv_iconst (v := 0) hx hb (dd_of dX12_command_2 20 rfl) (by decide) ?_
                        exact K119 _ q117
                      · replace q117 := ifN c44 q117
                        refine lv_iconst (v := 1) hx hb (dd_of dX12_command_2 18 rfl) (by decide) ?_
                        refine lv_goto (tgt := 177) hx hb (dd_of dX12_command_2 19 rfl) (by decide) ?_
                        exact K119 _ q117
                  · replace hres := ifN c43 hres
                    replace hok := hok.2 c43
                    refine lv_iload_n hx hb (dd_of dX12_command_2 8 rfl) rfl (lv_at hl 5 rfl) ?_
                    refine lv_iconst (v := 3) hx hb (dd_of dX12_command_2 9 rfl) (by decide) ?_
                    refine lv_icmp_ge (tgt := 163) hx hb (dd_of dX12_command_2 10 rfl) (by decide) (fun c49 => ?_) (fun c49 => ?_)
                    · replace hres := ifE c49 hres
                      replace hok := hok.1 c49
                      refine lv_aload_n hx hb (dd_of dX12_command_2 13 rfl) rfl (lv_at hl 2 rfl) ?_
                      refine va_get (D := D) (cl := vwCl) (tys := jT yy) (ci := 12) (v := .ref (A 22)) (C := RX12) (T := TX12) (N := 61) hx hb hts hin12 hown hK hP 0 rfl rfl 22 (by decide) (jw hts gw137) (fun _ h9 => h9) rfl (dd_of dX12_command_2 14 rfl) ?_
                      refine lv_iload_n hx hb (dd_of dX12_command_2 15 rfl) rfl (lv_at hl 3 rfl) ?_
                      refine lv_iload_n hx hb (dd_of dX12_command_2 16 rfl) rfl (lv_at hl 4 rfl) ?_
                      obtain ⟨z121, q120⟩ : ∃ z : Int32, (if p2 = 0 then 0 else 1) = z := ⟨_, rfl⟩
                      refine jn_i (ls := ls) (v := z121) 177 [.int p1, .ref (A 22)] (fun v51 ev51 => ?_) (fun K122 => ?_)
                      · replace hres := bvE (ev51.trans q120.symm) hres
                        replace hok := bvO (ev51.trans q120.symm) hok
                        have h52 := hok
                        refine va_iast hx hb hK hP hD hS 13 0 rfl rfl h52 (dd_of dX12_command_2 21 rfl) (fun H locs hP hD hS => ?_)
                        obtain ⟨F53, e54⟩ : ∃ z : jF, z = u2 F6 22 (Int32.toNatClampNeg p1) v51 := ⟨_, rfl⟩
                        have hP : va_P D vwCl (mW yy A F53 G) H := by rw [e54]; exact hP
                        have hD : va_D Z (mW yy A F53 G) := by rw [e54]; exact hD
                        replace hres := bvE e54 hres
                        refine lv_iconst (v := 0) hx hb (dd_of dX12_command_2 22 rfl) (by decide) ?_
                        subst hQ
                        exact W.iret (v := 0) hx hb hr (fun t ht hW => ⟨⟨0, (F53, G), rfl, hres, by rw [ht]; exact hP, va_K.moved hW.alike hK, hD⟩, hS.F ht⟩) hS.2.2 (dd_of dX12_command_2 23 rfl) hlk
                      · skip
                        refine lv_if_eq (tgt := 176) hx hb (dd_of dX12_command_2 17 rfl) (by decide) (fun c50 => ?_) (fun c50 => ?_)
                        · replace q120 := ifE c50 q120
                          refine lv_iconst (v := 0) hx hb (dd_of dX12_command_2 20 rfl) (by decide) ?_
                          exact K122 _ q120
                        · replace q120 := ifN c50 q120
                          refine lv_iconst (v := 1) hx hb (dd_of dX12_command_2 18 rfl) (by decide) ?_
                          refine lv_goto (tgt := 177) hx hb (dd_of dX12_command_2 19 rfl) (by decide) ?_
                          exact K122 _ q120
                    · replace hres := ifN c49 hres
                      refine lv_iconst (v := 3) hx hb (dd_of dX12_command_2 11 rfl) (by decide) ?_
                      subst hQ
                      exact W.iret (v := 3) hx hb hr (fun t ht hW => ⟨⟨3, (F6, G), rfl, hres, by rw [ht]; exact hP, va_K.moved hW.alike hK, hD⟩, hS.F ht⟩) hS.2.2 (dd_of dX12_command_2 12 rfl) hlk
          · skip
            refine jl_le (tgt := 110) hx hb (dd_of dX12_command_1 17 rfl) (dd_of dX12_command_1 18 rfl) (by decide) (fun c19 => ?_) (fun c19 => ?_)
            · replace q104 := ifE c19 q104
              replace o107 := o107.1 c19
              refine lv_lload hx hb (dd_of dX12_command_1 24 rfl) (lv_at hl 0 rfl) ?_
              refine lv_lconst (v := 0) hx hb (dd_of dX12_command_1 25 rfl) (by decide) ?_
              refine jl_ge (tgt := 126) hx hb (dd_of dX12_command_1 26 rfl) (dd_of dX12_command_1 27 rfl) (by decide) (fun c20 => ?_) (fun c20 => ?_)
              · replace q104 := ifE c20 q104
                refine lv_iconst (v := (-1)) hx hb (dd_of dX12_command_1 33 rfl) (by decide) ?_
                exact K106 _ q104
              · replace q104 := ifN c20 q104
                replace o107 := o107.2 c20
                refine lv_aload_n hx hb (dd_of dX12_command_1 28 rfl) rfl (lv_at hl 1 rfl) ?_
                refine va_get (D := D) (cl := vwCl) (tys := jT yy) (ci := 12) (v := .ref (A 18)) (C := RX12) (T := TX12) (N := 61) hx hb hts hin12 hown hK hP 0 rfl rfl 18 (by decide) (jw hts gw133) (fun _ h9 => h9) rfl (dd_of dX12_command_1 29 rfl) ?_
                refine lv_iload_n hx hb (dd_of dX12_command_1 30 rfl) rfl (lv_at hl 2 rfl) ?_
                have h21 := o107
                refine va_iald hx hb hK hP 9 0 rfl rfl h21 (dd_of dX12_command_1 31 rfl) ?_
                refine lv_goto (tgt := 127) hx hb (dd_of dX12_command_1 32 rfl) (by decide) ?_
                exact K106 _ q104
            · replace q104 := ifN c19 q104
              replace o107 := o107.2 c19
              refine lv_aload_n hx hb (dd_of dX12_command_1 19 rfl) rfl (lv_at hl 1 rfl) ?_
              refine va_get (D := D) (cl := vwCl) (tys := jT yy) (ci := 12) (v := .ref (A 19)) (C := RX12) (T := TX12) (N := 61) hx hb hts hin12 hown hK hP 0 rfl rfl 19 (by decide) (jw hts gw134) (fun _ h9 => h9) rfl (dd_of dX12_command_1 20 rfl) ?_
              refine lv_iload_n hx hb (dd_of dX12_command_1 21 rfl) rfl (lv_at hl 2 rfl) ?_
              have h22 := o107
              refine va_iald hx hb hK hP 10 0 rfl rfl h22 (dd_of dX12_command_1 22 rfl) ?_
              refine lv_goto (tgt := 127) hx hb (dd_of dX12_command_1 23 rfl) (by decide) ?_
              exact K106 _ q104
        · replace hres := ifN c11 hres
          replace hok := hok.2 c11
          refine lv_aload_n hx hb (dd_of dX12_command_0 35 rfl) rfl (lv_at hl 0 rfl) ?_
          refine lv_iload_n hx hb (dd_of dX12_command_0 36 rfl) rfl (lv_at hl 1 rfl) ?_
          have h55 := hok.1
          replace hok := hok.2
          refine jc_i (As := [.int p1]) (rest := []) (w := (mW yy A F6 G)) (D := D) (yy := yy) ⟨hx, hb, hml, hown, hts⟩ (qX12_isSeaHigher l D yy A F6 G p1 h55) (cwV 1 hts (jgV gw777 gw778 gw779 gw5 gw780) rfl rfl rfl (by decide +kernel) ⟨Nat.le_of_ble_eq_true rfl, Nat.le_of_ble_eq_true rfl⟩) hP hK (va_recv hK hP (ci := 12) (q0 := 0) rfl rfl) rfl hl.1 rfl (Nat.le_of_ble_eq_true rfl) (dd_of dX12_command_0 37 rfl) ⟨Nat.zero_le _, Nat.zero_le _⟩ (fun x56 ex56 => ?_)
          replace hres := bvE ex56 hres
          replace hok := bvO ex56 hok
          refine lv_if_eq (tgt := 71) hx hb (dd_of dX12_command_0 38 rfl) (by decide) (fun c57 => ?_) (fun c57 => ?_)
          · replace hres := ifE c57 hres
            replace hok := hok.1 c57
            refine lv_aload_n hx hb (dd_of dX12_command_1 1 rfl) rfl (lv_at hl 0 rfl) ?_
            refine lv_aload_n hx hb (dd_of dX12_command_1 2 rfl) rfl (lv_at hl 0 rfl) ?_
            refine va_get (D := D) (cl := vwCl) (tys := jT yy) (ci := 12) (v := .ref (A 18)) (C := RX12) (T := TX12) (N := 61) hx hb hts hin12 hown hK hP 0 rfl rfl 18 (by decide) (jw hts gw133) (fun _ h9 => h9) rfl (dd_of dX12_command_1 3 rfl) ?_
            refine lv_iload_n hx hb (dd_of dX12_command_1 4 rfl) rfl (lv_at hl 1 rfl) ?_
            have h58 := hok.1
            replace hok := hok.2
            refine va_iald hx hb hK hP 9 0 rfl rfl h58 (dd_of dX12_command_1 5 rfl) ?_
            have h59 := hok.1
            replace hok := hok.2
            refine jc_l (As := [.int (F6 18 (Int32.toNatClampNeg p1))]) (rest := []) (w := (mW yy A F6 G)) (D := D) (yy := yy) ⟨hx, hb, hml, hown, hts⟩ (qX12_levelOf l D yy A F6 G (F6 18 (Int32.toNatClampNeg p1)) h59) (cwV 1 hts (jgV gw781 gw782 gw783 gw5 gw784) rfl rfl rfl (by decide +kernel) ⟨Nat.le_of_ble_eq_true rfl, Nat.le_of_ble_eq_true rfl⟩) hP hK (va_recv hK hP (ci := 12) (q0 := 0) rfl rfl) rfl hl.1 rfl (Nat.le_of_ble_eq_true rfl) (dd_of dX12_command_1 6 rfl) ⟨Nat.zero_le _, Nat.zero_le _⟩ (fun x60 ex60 => ?_)
            replace hres := bvE ex60 hres
            replace hok := bvO ex60 hok
            refine lv_aload_n hx hb (dd_of dX12_command_1 7 rfl) rfl (lv_at hl 0 rfl) ?_
            refine lv_aload_n hx hb (dd_of dX12_command_1 8 rfl) rfl (lv_at hl 0 rfl) ?_
            refine va_get (D := D) (cl := vwCl) (tys := jT yy) (ci := 12) (v := .ref (A 19)) (C := RX12) (T := TX12) (N := 61) hx hb hts hin12 hown hK hP 0 rfl rfl 19 (by decide) (jw hts gw134) (fun _ h9 => h9) rfl (dd_of dX12_command_1 9 rfl) ?_
            refine lv_iload_n hx hb (dd_of dX12_command_1 10 rfl) rfl (lv_at hl 1 rfl) ?_
            have h61 := hok.1
            replace hok := hok.2
            refine va_iald hx hb hK hP 10 0 rfl rfl h61 (dd_of dX12_command_1 11 rfl) ?_
            have h62 := hok.1
            replace hok := hok.2
            refine jc_l (As := [.int (F6 19 (Int32.toNatClampNeg p1))]) (rest := [.long x60]) (w := (mW yy A F6 G)) (D := D) (yy := yy) ⟨hx, hb, hml, hown, hts⟩ (qX12_levelOf l D yy A F6 G (F6 19 (Int32.toNatClampNeg p1)) h62) (cwV 1 hts (jgV gw781 gw782 gw783 gw5 gw784) rfl rfl rfl (by decide +kernel) ⟨Nat.le_of_ble_eq_true rfl, Nat.le_of_ble_eq_true rfl⟩) hP hK (va_recv hK hP (ci := 12) (q0 := 0) rfl rfl) rfl hl.1 rfl (Nat.le_of_ble_eq_true rfl) (dd_of dX12_command_1 12 rfl) ⟨Nat.zero_le _, Nat.zero_le _⟩ (fun x63 ex63 => ?_)
            replace hres := bvE ex63 hres
            replace hok := bvO ex63 hok
            refine lv_lsub hx hb (dd_of dX12_command_1 13 rfl) ?_
            refine lv_topl (fun x64 ex64 => ?_)
            replace hres := bvE ex64 hres
            replace hok := bvO ex64 hok
            refine lv_lstore (lv' := [(4, .long x64), (0, .ref (A 99)), (1, .int p1), (2, .int p2), (3, .int p3)]) hx hb (dd_of dX12_command_1 14 rfl) hl (by decide) rfl (fun ls hl => ?_)
            refine lv_lload hx hb (dd_of dX12_command_1 15 rfl) (lv_at hl 0 rfl) ?_
            refine lv_lconst (v := 0) hx hb (dd_of dX12_command_1 16 rfl) (by decide) ?_
            obtain ⟨z124, q123⟩ : ∃ z : Int32, (if x64 ≤ 0 then (if 0 ≤ x64 then (-1) else (F6 18 (Int32.toNatClampNeg p1))) else (F6 19 (Int32.toNatClampNeg p1))) = z := ⟨_, rfl⟩
            have o126 := hok.1
            replace hok := hok.2
            refine jn_i (ls := ls) (v := z124) 127 [] (fun v69 ev69 => ?_) (fun K125 => ?_)
            · replace hres := bvE (ev69.trans q123.symm) hres
              replace hok := bvO (ev69.trans q123.symm) hok
              refine lv_istore (lv' := [(6, .int v69), (4, .long x64), (0, .ref (A 99)), (1, .int p1), (2, .int p2), (3, .int p3)]) hx hb (dd_of dX12_command_1 34 rfl) hl (by decide) rfl (fun ls hl => ?_)
              refine lv_iload_n hx hb (dd_of dX12_command_1 35 rfl) rfl (lv_at hl 4 rfl) ?_
              refine lv_if_eq (tgt := 163) hx hb (dd_of dX12_command_1 36 rfl) (by decide) (fun c70 => ?_) (fun c70 => ?_)
              · replace hres := ifE c70 hres
                replace hok := hok.1 c70
                refine lv_aload_n hx hb (dd_of dX12_command_2 13 rfl) rfl (lv_at hl 2 rfl) ?_
                refine va_get (D := D) (cl := vwCl) (tys := jT yy) (ci := 12) (v := .ref (A 22)) (C := RX12) (T := TX12) (N := 61) hx hb hts hin12 hown hK hP 0 rfl rfl 22 (by decide) (jw hts gw137) (fun _ h9 => h9) rfl (dd_of dX12_command_2 14 rfl) ?_
                refine lv_iload_n hx hb (dd_of dX12_command_2 15 rfl) rfl (lv_at hl 3 rfl) ?_
                refine lv_iload_n hx hb (dd_of dX12_command_2 16 rfl) rfl (lv_at hl 4 rfl) ?_
                obtain ⟨z128, q127⟩ : ∃ z : Int32, (if p2 = 0 then 0 else 1) = z := ⟨_, rfl⟩
                refine jn_i (ls := ls) (v := z128) 177 [.int p1, .ref (A 22)] (fun v72 ev72 => ?_) (fun K129 => ?_)
                · replace hres := bvE (ev72.trans q127.symm) hres
                  replace hok := bvO (ev72.trans q127.symm) hok
                  have h73 := hok
                  refine va_iast hx hb hK hP hD hS 13 0 rfl rfl h73 (dd_of dX12_command_2 21 rfl) (fun H locs hP hD hS => ?_)
                  obtain ⟨F74, e75⟩ : ∃ z : jF, z = u2 F6 22 (Int32.toNatClampNeg p1) v72 := ⟨_, rfl⟩
                  have hP : va_P D vwCl (mW yy A F74 G) H := by rw [e75]; exact hP
                  have hD : va_D Z (mW yy A F74 G) := by rw [e75]; exact hD
                  replace hres := bvE e75 hres
                  refine lv_iconst (v := 0) hx hb (dd_of dX12_command_2 22 rfl) (by decide) ?_
                  subst hQ
                  exact W.iret (v := 0) hx hb hr (fun t ht hW => ⟨⟨0, (F74, G), rfl, hres, by rw [ht]; exact hP, va_K.moved hW.alike hK, hD⟩, hS.F ht⟩) hS.2.2 (dd_of dX12_command_2 23 rfl) hlk
                · skip
                  refine lv_if_eq (tgt := 176) hx hb (dd_of dX12_command_2 17 rfl) (by decide) (fun c71 => ?_) (fun c71 => ?_)
                  · replace q127 := ifE c71 q127
                    refine lv_iconst (v := 0) hx hb (dd_of dX12_command_2 20 rfl) (by decide) ?_
                    exact K129 _ q127
                  · replace q127 := ifN c71 q127
                    refine lv_iconst (v := 1) hx hb (dd_of dX12_command_2 18 rfl) (by decide) ?_
                    refine lv_goto (tgt := 177) hx hb (dd_of dX12_command_2 19 rfl) (by decide) ?_
                    exact K129 _ q127
              · replace hres := ifN c70 hres
                replace hok := hok.2 c70
                refine lv_iload hx hb (dd_of dX12_command_1 37 rfl) (lv_at hl 0 rfl) ?_
                refine lv_iconst (v := (-1)) hx hb (dd_of dX12_command_1 38 rfl) (by decide) ?_
                refine lv_icmp_eq (tgt := 163) hx hb (dd_of dX12_command_1 39 rfl) (by decide) (fun c76 => ?_) (fun c76 => ?_)
                · replace hres := ifE c76 hres
                  replace hok := hok.1 c76
                  refine lv_aload_n hx hb (dd_of dX12_command_2 13 rfl) rfl (lv_at hl 2 rfl) ?_
                  refine va_get (D := D) (cl := vwCl) (tys := jT yy) (ci := 12) (v := .ref (A 22)) (C := RX12) (T := TX12) (N := 61) hx hb hts hin12 hown hK hP 0 rfl rfl 22 (by decide) (jw hts gw137) (fun _ h9 => h9) rfl (dd_of dX12_command_2 14 rfl) ?_
                  refine lv_iload_n hx hb (dd_of dX12_command_2 15 rfl) rfl (lv_at hl 3 rfl) ?_
                  refine lv_iload_n hx hb (dd_of dX12_command_2 16 rfl) rfl (lv_at hl 4 rfl) ?_
                  obtain ⟨z131, q130⟩ : ∃ z : Int32, (if p2 = 0 then 0 else 1) = z := ⟨_, rfl⟩
                  refine jn_i (ls := ls) (v := z131) 177 [.int p1, .ref (A 22)] (fun v78 ev78 => ?_) (fun K132 => ?_)
                  · replace hres := bvE (ev78.trans q130.symm) hres
                    replace hok := bvO (ev78.trans q130.symm) hok
                    have h79 := hok
                    refine va_iast hx hb hK hP hD hS 13 0 rfl rfl h79 (dd_of dX12_command_2 21 rfl) (fun H locs hP hD hS => ?_)
                    obtain ⟨F80, e81⟩ : ∃ z : jF, z = u2 F6 22 (Int32.toNatClampNeg p1) v78 := ⟨_, rfl⟩
                    have hP : va_P D vwCl (mW yy A F80 G) H := by rw [e81]; exact hP
                    have hD : va_D Z (mW yy A F80 G) := by rw [e81]; exact hD
                    replace hres := bvE e81 hres
                    refine lv_iconst (v := 0) hx hb (dd_of dX12_command_2 22 rfl) (by decide) ?_
                    subst hQ
                    exact W.iret (v := 0) hx hb hr (fun t ht hW => ⟨⟨0, (F80, G), rfl, hres, by rw [ht]; exact hP, va_K.moved hW.alike hK, hD⟩, hS.F ht⟩) hS.2.2 (dd_of dX12_command_2 23 rfl) hlk
                  · skip
                    refine lv_if_eq (tgt := 176) hx hb (dd_of dX12_command_2 17 rfl) (by decide) (fun c77 => ?_) (fun c77 => ?_)
                    · replace q130 := ifE c77 q130
                      refine lv_iconst (v := 0) hx hb (dd_of dX12_command_2 20 rfl) (by decide) ?_
                      exact K132 _ q130
                    · replace q130 := ifN c77 q130
                      refine lv_iconst (v := 1) hx hb (dd_of dX12_command_2 18 rfl) (by decide) ?_
                      refine lv_goto (tgt := 177) hx hb (dd_of dX12_command_2 19 rfl) (by decide) ?_
                      exact K132 _ q130
                · replace hres := ifN c76 hres
                  replace hok := hok.2 c76
                  refine lv_iload hx hb (dd_of dX12_command_2 0 rfl) (lv_at hl 0 rfl) ?_
                  refine lv_bipush (v := 20) hx hb (dd_of dX12_command_2 1 rfl) (by decide) ?_
                  refine lv_icmp_ge (tgt := 163) hx hb (dd_of dX12_command_2 2 rfl) (by decide) (fun c82 => ?_) (fun c82 => ?_)
                  · replace hres := ifE c82 hres
                    replace hok := hok.1 c82
                    refine lv_aload_n hx hb (dd_of dX12_command_2 13 rfl) rfl (lv_at hl 2 rfl) ?_
                    refine va_get (D := D) (cl := vwCl) (tys := jT yy) (ci := 12) (v := .ref (A 22)) (C := RX12) (T := TX12) (N := 61) hx hb hts hin12 hown hK hP 0 rfl rfl 22 (by decide) (jw hts gw137) (fun _ h9 => h9) rfl (dd_of dX12_command_2 14 rfl) ?_
                    refine lv_iload_n hx hb (dd_of dX12_command_2 15 rfl) rfl (lv_at hl 3 rfl) ?_
                    refine lv_iload_n hx hb (dd_of dX12_command_2 16 rfl) rfl (lv_at hl 4 rfl) ?_
                    obtain ⟨z134, q133⟩ : ∃ z : Int32, (if p2 = 0 then 0 else 1) = z := ⟨_, rfl⟩
                    refine jn_i (ls := ls) (v := z134) 177 [.int p1, .ref (A 22)] (fun v84 ev84 => ?_) (fun K135 => ?_)
                    · replace hres := bvE (ev84.trans q133.symm) hres
                      replace hok := bvO (ev84.trans q133.symm) hok
                      have h85 := hok
                      refine va_iast hx hb hK hP hD hS 13 0 rfl rfl h85 (dd_of dX12_command_2 21 rfl) (fun H locs hP hD hS => ?_)
                      obtain ⟨F86, e87⟩ : ∃ z : jF, z = u2 F6 22 (Int32.toNatClampNeg p1) v84 := ⟨_, rfl⟩
                      have hP : va_P D vwCl (mW yy A F86 G) H := by rw [e87]; exact hP
                      have hD : va_D Z (mW yy A F86 G) := by rw [e87]; exact hD
                      replace hres := bvE e87 hres
                      refine lv_iconst (v := 0) hx hb (dd_of dX12_command_2 22 rfl) (by decide) ?_
                      subst hQ
                      exact W.iret (v := 0) hx hb hr (fun t ht hW => ⟨⟨0, (F86, G), rfl, hres, by rw [ht]; exact hP, va_K.moved hW.alike hK, hD⟩, hS.F ht⟩) hS.2.2 (dd_of dX12_command_2 23 rfl) hlk
                    · skip
                      refine lv_if_eq (tgt := 176) hx hb (dd_of dX12_command_2 17 rfl) (by decide) (fun c83 => ?_) (fun c83 => ?_)
                      · replace q133 := ifE c83 q133
                        refine lv_iconst (v := 0) hx hb (dd_of dX12_command_2 20 rfl) (by decide) ?_
                        exact K135 _ q133
                      · replace q133 := ifN c83 q133
                        refine lv_iconst (v := 1) hx hb (dd_of dX12_command_2 18 rfl) (by decide) ?_
                        refine lv_goto (tgt := 177) hx hb (dd_of dX12_command_2 19 rfl) (by decide) ?_
                        exact K135 _ q133
                  · replace hres := ifN c82 hres
                    replace hok := hok.2 c82
                    refine lv_aload_n hx hb (dd_of dX12_command_2 3 rfl) rfl (lv_at hl 2 rfl) ?_
                    refine va_get (D := D) (cl := vwCl) (tys := jT yy) (ci := 12) (v := .ref (A 13)) (C := RX12) (T := TX12) (N := 61) hx hb hts hin12 hown hK hP 0 rfl rfl 13 (by decide) (jw hts gw129) (fun _ h9 => h9) rfl (dd_of dX12_command_2 4 rfl) ?_
                    refine lv_iload hx hb (dd_of dX12_command_2 5 rfl) (lv_at hl 0 rfl) ?_
                    have h88 := hok.1
                    replace hok := hok.2
                    refine va_iald hx hb hK hP 5 0 rfl rfl h88 (dd_of dX12_command_2 6 rfl) ?_
                    refine lv_if_le (tgt := 163) hx hb (dd_of dX12_command_2 7 rfl) (by decide) (fun c89 => ?_) (fun c89 => ?_)
                    · replace hres := ifE c89 hres
                      replace hok := hok.1 c89
                      refine lv_aload_n hx hb (dd_of dX12_command_2 13 rfl) rfl (lv_at hl 2 rfl) ?_
                      refine va_get (D := D) (cl := vwCl) (tys := jT yy) (ci := 12) (v := .ref (A 22)) (C := RX12) (T := TX12) (N := 61) hx hb hts hin12 hown hK hP 0 rfl rfl 22 (by decide) (jw hts gw137) (fun _ h9 => h9) rfl (dd_of dX12_command_2 14 rfl) ?_
                      refine lv_iload_n hx hb (dd_of dX12_command_2 15 rfl) rfl (lv_at hl 3 rfl) ?_
                      refine lv_iload_n hx hb (dd_of dX12_command_2 16 rfl) rfl (lv_at hl 4 rfl) ?_
                      obtain ⟨z137, q136⟩ : ∃ z : Int32, (if p2 = 0 then 0 else 1) = z := ⟨_, rfl⟩
                      refine jn_i (ls := ls) (v := z137) 177 [.int p1, .ref (A 22)] (fun v91 ev91 => ?_) (fun K138 => ?_)
                      · replace hres := bvE (ev91.trans q136.symm) hres
                        replace hok := bvO (ev91.trans q136.symm) hok
                        have h92 := hok
                        refine va_iast hx hb hK hP hD hS 13 0 rfl rfl h92 (dd_of dX12_command_2 21 rfl) (fun H locs hP hD hS => ?_)
                        obtain ⟨F93, e94⟩ : ∃ z : jF, z = u2 F6 22 (Int32.toNatClampNeg p1) v91 := ⟨_, rfl⟩
                        have hP : va_P D vwCl (mW yy A F93 G) H := by rw [e94]; exact hP
                        have hD : va_D Z (mW yy A F93 G) := by rw [e94]; exact hD
                        replace hres := bvE e94 hres
                        refine lv_iconst (v := 0) hx hb (dd_of dX12_command_2 22 rfl) (by decide) ?_
                        subst hQ
                        exact W.iret (v := 0) hx hb hr (fun t ht hW => ⟨⟨0, (F93, G), rfl, hres, by rw [ht]; exact hP, va_K.moved hW.alike hK, hD⟩, hS.F ht⟩) hS.2.2 (dd_of dX12_command_2 23 rfl) hlk
                      · skip
                        refine lv_if_eq (tgt := 176) hx hb (dd_of dX12_command_2 17 rfl) (by decide) (fun c90 => ?_) (fun c90 => ?_)
                        · replace q136 := ifE c90 q136
                          refine lv_iconst (v := 0) hx hb (dd_of dX12_command_2 20 rfl) (by decide) ?_
                          exact K138 _ q136
                        · replace q136 := ifN c90 q136
                          refine lv_iconst (v := 1) hx hb (dd_of dX12_command_2 18 rfl) (by decide) ?_
                          refine lv_goto (tgt := 177) hx hb (dd_of dX12_command_2 19 rfl) (by decide) ?_
                          exact K138 _ q136
                    · replace hres := ifN c89 hres
                      replace hok := hok.2 c89
                      refine lv_iload_n hx hb (dd_of dX12_command_2 8 rfl) rfl (lv_at hl 5 rfl) ?_
                      refine lv_iconst (v := 3) hx hb (dd_of dX12_command_2 9 rfl) (by decide) ?_
                      refine lv_icmp_ge (tgt := 163) hx hb (dd_of dX12_command_2 10 rfl) (by decide) (fun c95 => ?_) (fun c95 => ?_)
                      · replace hres := ifE c95 hres
                        replace hok := hok.1 c95
                        refine lv_aload_n hx hb (dd_of dX12_command_2 13 rfl) rfl (lv_at hl 2 rfl) ?_
                        refine va_get (D := D) (cl := vwCl) (tys := jT yy) (ci := 12) (v := .ref (A 22)) (C := RX12) (T := TX12) (N := 61) hx hb hts hin12 hown hK hP 0 rfl rfl 22 (by decide) (jw hts gw137) (fun _ h9 => h9) rfl (dd_of dX12_command_2 14 rfl) ?_
                        refine lv_iload_n hx hb (dd_of dX12_command_2 15 rfl) rfl (lv_at hl 3 rfl) ?_
                        refine lv_iload_n hx hb (dd_of dX12_command_2 16 rfl) rfl (lv_at hl 4 rfl) ?_
                        obtain ⟨z140, q139⟩ : ∃ z : Int32, (if p2 = 0 then 0 else 1) = z := ⟨_, rfl⟩
                        refine jn_i (ls := ls) (v := z140) 177 [.int p1, .ref (A 22)] (fun v97 ev97 => ?_) (fun K141 => ?_)
                        · replace hres := bvE (ev97.trans q139.symm) hres
                          replace hok := bvO (ev97.trans q139.symm) hok
                          have h98 := hok
                          refine va_iast hx hb hK hP hD hS 13 0 rfl rfl h98 (dd_of dX12_command_2 21 rfl) (fun H locs hP hD hS => ?_)
                          obtain ⟨F99, e100⟩ : ∃ z : jF, z = u2 F6 22 (Int32.toNatClampNeg p1) v97 := ⟨_, rfl⟩
                          have hP : va_P D vwCl (mW yy A F99 G) H := by rw [e100]; exact hP
                          have hD : va_D Z (mW yy A F99 G) := by rw [e100]; exact hD
                          replace hres := bvE e100 hres
                          refine lv_iconst (v := 0) hx hb (dd_of dX12_command_2 22 rfl) (by decide) ?_
                          subst hQ
                          exact W.iret (v := 0) hx hb hr (fun t ht hW => ⟨⟨0, (F99, G), rfl, hres, by rw [ht]; exact hP, va_K.moved hW.alike hK, hD⟩, hS.F ht⟩) hS.2.2 (dd_of dX12_command_2 23 rfl) hlk
                        · skip
                          refine lv_if_eq (tgt := 176) hx hb (dd_of dX12_command_2 17 rfl) (by decide) (fun c96 => ?_) (fun c96 => ?_)
                          · replace q139 := ifE c96 q139
                            refine lv_iconst (v := 0) hx hb (dd_of dX12_command_2 20 rfl) (by decide) ?_
                            exact K141 _ q139
                          · replace q139 := ifN c96 q139
                            refine lv_iconst (v := 1) hx hb (dd_of dX12_command_2 18 rfl) (by decide) ?_
                            refine lv_goto (tgt := 177) hx hb (dd_of dX12_command_2 19 rfl) (by decide) ?_
                            exact K141 _ q139
                      · replace hres := ifN c95 hres
                        refine lv_iconst (v := 3) hx hb (dd_of dX12_command_2 11 rfl) (by decide) ?_
                        subst hQ
                        exact W.iret (v := 3) hx hb hr (fun t ht hW => ⟨⟨3, (F6, G), rfl, hres, by rw [ht]; exact hP, va_K.moved hW.alike hK, hD⟩, hS.F ht⟩) hS.2.2 (dd_of dX12_command_2 12 rfl) hlk
            · skip
              refine jl_le (tgt := 110) hx hb (dd_of dX12_command_1 17 rfl) (dd_of dX12_command_1 18 rfl) (by decide) (fun c65 => ?_) (fun c65 => ?_)
              · replace q123 := ifE c65 q123
                replace o126 := o126.1 c65
                refine lv_lload hx hb (dd_of dX12_command_1 24 rfl) (lv_at hl 0 rfl) ?_
                refine lv_lconst (v := 0) hx hb (dd_of dX12_command_1 25 rfl) (by decide) ?_
                refine jl_ge (tgt := 126) hx hb (dd_of dX12_command_1 26 rfl) (dd_of dX12_command_1 27 rfl) (by decide) (fun c66 => ?_) (fun c66 => ?_)
                · replace q123 := ifE c66 q123
                  refine lv_iconst (v := (-1)) hx hb (dd_of dX12_command_1 33 rfl) (by decide) ?_
                  exact K125 _ q123
                · replace q123 := ifN c66 q123
                  replace o126 := o126.2 c66
                  refine lv_aload_n hx hb (dd_of dX12_command_1 28 rfl) rfl (lv_at hl 1 rfl) ?_
                  refine va_get (D := D) (cl := vwCl) (tys := jT yy) (ci := 12) (v := .ref (A 18)) (C := RX12) (T := TX12) (N := 61) hx hb hts hin12 hown hK hP 0 rfl rfl 18 (by decide) (jw hts gw133) (fun _ h9 => h9) rfl (dd_of dX12_command_1 29 rfl) ?_
                  refine lv_iload_n hx hb (dd_of dX12_command_1 30 rfl) rfl (lv_at hl 2 rfl) ?_
                  have h67 := o126
                  refine va_iald hx hb hK hP 9 0 rfl rfl h67 (dd_of dX12_command_1 31 rfl) ?_
                  refine lv_goto (tgt := 127) hx hb (dd_of dX12_command_1 32 rfl) (by decide) ?_
                  exact K125 _ q123
              · replace q123 := ifN c65 q123
                replace o126 := o126.2 c65
                refine lv_aload_n hx hb (dd_of dX12_command_1 19 rfl) rfl (lv_at hl 1 rfl) ?_
                refine va_get (D := D) (cl := vwCl) (tys := jT yy) (ci := 12) (v := .ref (A 19)) (C := RX12) (T := TX12) (N := 61) hx hb hts hin12 hown hK hP 0 rfl rfl 19 (by decide) (jw hts gw134) (fun _ h9 => h9) rfl (dd_of dX12_command_1 20 rfl) ?_
                refine lv_iload_n hx hb (dd_of dX12_command_1 21 rfl) rfl (lv_at hl 2 rfl) ?_
                have h68 := o126
                refine va_iald hx hb hK hP 10 0 rfl rfl h68 (dd_of dX12_command_1 22 rfl) ?_
                refine lv_goto (tgt := 127) hx hb (dd_of dX12_command_1 23 rfl) (by decide) ?_
                exact K125 _ q123
          · replace hres := ifN c57 hres
            refine lv_iconst (v := 2) hx hb (dd_of dX12_command_0 39 rfl) (by decide) ?_
            subst hQ
            exact W.iret (v := 2) hx hb hr (fun t ht hW => ⟨⟨2, (F6, G), rfl, hres, by rw [ht]; exact hP, va_K.moved hW.alike hK, hD⟩, hS.F ht⟩) hS.2.2 (dd_of dX12_command_1 0 rfl) hlk
      · replace hres := ifN c10 hres
        refine lv_iconst (v := 1) hx hb (dd_of dX12_command_0 31 rfl) (by decide) ?_
        subst hQ
        exact W.iret (v := 1) hx hb hr (fun t ht hW => ⟨⟨1, (F6, G), rfl, hres, by rw [ht]; exact hP, va_K.moved hW.alike hK, hD⟩, hS.F ht⟩) hS.2.2 (dd_of dX12_command_0 32 rfl) hlk
    · replace hres := ifN c8 hres
      refine lv_iconst (v := 0) hx hb (dd_of dX12_command_0 23 rfl) (by decide) ?_
      subst hQ
      exact W.iret (v := 0) hx hb hr (fun t ht hW => ⟨⟨0, (F6, G), rfl, hres, by rw [ht]; exact hP, va_K.moved hW.alike hK, hD⟩, hS.F ht⟩) hS.2.2 (dd_of dX12_command_0 24 rfl) hlk
  · skip
    refine lv_if_ne (tgt := 19) hx hb (dd_of dX12_command_0 8 rfl) (by decide) (fun c2 => ?_) (fun c2 => ?_)
    · replace q101 := ifN c2 q101
      refine lv_iload_n hx hb (dd_of dX12_command_0 11 rfl) rfl (lv_at hl 3 rfl) ?_
      refine lv_iconst (v := 0) hx hb (dd_of dX12_command_0 12 rfl) (by decide) ?_
      refine lv_iconst (v := 3) hx hb (dd_of dX12_command_0 13 rfl) (by decide) ?_
      refine jc_si (As := [.int p3, .int 0, .int 3]) (rest := [.ref (A 99)]) ⟨hx, hb, hml, hown, hts⟩ (qX12_in l p3 0 3 ) (cwS 3 hts (jgS gw591 gw592 gw5 gw593) rfl rfl rfl (by decide +kernel) ⟨Nat.le_of_ble_eq_true rfl, Nat.le_of_ble_eq_true rfl⟩) rfl hl.1 rfl (Nat.le_of_ble_eq_true rfl) (dd_of dX12_command_0 14 rfl) ⟨Nat.zero_le _, Nat.zero_le _⟩ (fun x3 ex3 => ?_)
      replace q101 := bvE ex3 q101
      refine lv_if_ne (tgt := 32) hx hb (dd_of dX12_command_0 15 rfl) (by decide) (fun c4 => ?_) (fun c4 => ?_)
      · replace q101 := ifN c4 q101
        refine lv_iconst (v := 0) hx hb (dd_of dX12_command_0 18 rfl) (by decide) ?_
        exact K103 _ q101
      · replace q101 := ifE c4 q101
        refine lv_iconst (v := 2) hx hb (dd_of dX12_command_0 16 rfl) (by decide) ?_
        refine lv_goto (tgt := 33) hx hb (dd_of dX12_command_0 17 rfl) (by decide) ?_
        exact K103 _ q101
    · replace q101 := ifE c2 q101
      refine lv_iconst (v := 1) hx hb (dd_of dX12_command_0 9 rfl) (by decide) ?_
      refine lv_goto (tgt := 33) hx hb (dd_of dX12_command_0 10 rfl) (by decide) ?_
      exact K103 _ q101
set_option maxHeartbeats 4000000 in
set_option maxRecDepth 100000 in
theorem qX12_drive (l : Launch) (D : va_G) (yy : Nat → ClassId) (A : Nat → Nat) (F : jF) (G : jG) (sz : Nat) (p1 : Int32) (p2 : Int32) (p3 : Int32) (hok : okX12_drive F G p1 p2 p3) : Met l yX12_drive (Cond.code yX12_drive cX12_drive 4 (some .int) :: wsL_law) rmX12_drive (va_Pc [.ref (A 99), .int p1, .int p2, .int p3] (jP D yy (mW yy A F G) sz)) (va_Qi (fun r (u : jS) => (r, u) = gX12_drive F G p1 p2 p3) (fun (u : jS) t => jB D yy (va_A (mW yy A F G) sz) (mW yy A u.1 u.2) t) (va_A (mW yy A F G) sz)) 0 0 (va_A (mW yy A F G) sz) := by
  generalize hres : gX12_drive F G p1 p2 p3 = RES
  refine jM (own := RX12) (by decide) rfl (Nat.le_of_ble_eq_true rfl) ?_
  intro p e s m args below meth c ls Q hQ hargs S hr hlk hinit hB hl
  obtain ⟨hx, hb, hml, hown, hts⟩ := S
  have hl : lv_has ls 4 [(0, .ref (A 99)), (1, .int p1), (2, .int p2), (3, .int p3)] := hl
  have hin12 : ∀ w ∈ u_ws RX12 TX12 61, w ∈ (Cond.code yX12_drive cX12_drive 4 (some .int) :: wsL_law) := fun w h => List.mem_cons_of_mem _ (inlX12 w h)
  obtain ⟨hsz, hP, hK, hD0⟩ := hB
  subst hsz
  have hD := hD0.self (sz := s.heap.size)
  generalize hZ : va_A (mW yy A F G) s.heap.size = Z at hD hQ
  have hA : ∀ q : Nat, s.heap.size ≤ q → Z q := fun q h => by rw [← hZ]; exact Or.inr h
  obtain ⟨H, hH⟩ : ∃ z, z = s.heap := ⟨_, rfl⟩
  obtain ⟨locs, hlocs⟩ : ∃ z : List Loc, z = [] := ⟨_, rfl⟩
  have hS : va_S Z s.heap H locs := by rw [hH, hlocs]; exact va_S.rf
  rw [← hH] at hP
  suffices hgo : W p l e rmX12_drive s m args below meth c H locs 0 0 Q (F0 m 0 ls []) by rw [hH, hlocs] at hgo; exact hgo
  unfold gX12_drive at hres
  unfold okX12_drive at hok
  refine lv_aload_n hx hb (dd_of dX12_drive_0 0 rfl) rfl (lv_at hl 0 rfl) ?_
  refine lv_iload_n hx hb (dd_of dX12_drive_0 1 rfl) rfl (lv_at hl 1 rfl) ?_
  refine lv_iconst (v := 0) hx hb (dd_of dX12_drive_0 2 rfl) (by decide) ?_
  refine lv_aload_n hx hb (dd_of dX12_drive_0 3 rfl) rfl (lv_at hl 0 rfl) ?_
  refine va_get (D := D) (cl := vwCl) (tys := jT yy) (ci := 12) (v := .int (F 23 0)) (C := RX12) (T := TX12) (N := 61) hx hb hts hin12 hown hK hP 0 rfl rfl 23 (by decide) (jw hts gw694) (fun _ h9 => h9) rfl (dd_of dX12_drive_0 4 rfl) ?_
  refine lv_iconst (v := 1) hx hb (dd_of dX12_drive_0 5 rfl) (by decide) ?_
  refine lv_isub hx hb (dd_of dX12_drive_0 6 rfl) ?_
  refine jc_si (As := [.int p1, .int 0, .int ((F 23 0) - 1)]) (rest := [.ref (A 99)]) ⟨hx, hb, hml, hown, hts⟩ (qX12_in l p1 0 ((F 23 0) - 1) ) (cwS 3 hts (jgS gw591 gw592 gw5 gw593) rfl rfl rfl (by decide +kernel) ⟨Nat.le_of_ble_eq_true rfl, Nat.le_of_ble_eq_true rfl⟩) rfl hl.1 rfl (Nat.le_of_ble_eq_true rfl) (dd_of dX12_drive_0 7 rfl) ⟨Nat.zero_le _, Nat.zero_le _⟩ (fun x1 ex1 => ?_)
  replace hres := bvE ex1 hres
  replace hok := bvO ex1 hok
  obtain ⟨z23, q22⟩ : ∃ z : Int32, (if x1 = 0 then 1 else bv (gX12_in p3 0 99) (fun x3 : Int32 => (if x3 = 0 then 2 else (if (Int32.toInt64 p3) ≤ (G 2 0) then 0 else 3)))) = z := ⟨_, rfl⟩
  refine jn_i (ls := ls) (v := z23) 48 [.ref (A 99)] (fun v6 ev6 => ?_) (fun K24 => ?_)
  · replace hres := bvE (ev6.trans q22.symm) hres
    replace hok := bvO (ev6.trans q22.symm) hok
    refine va_put (D := D) (cl := vwCl) (tys := jT yy) (ci := 12) (v := .int v6) (ty := .int) (C := RX12) (T := TX12) (N := 61) hx hb hts hin12 tyX12 tyX12_ok nmX12 hown hK hP hD hS 0 rfl rfl 60 (by decide) (jw hts gw590) (fun _ h9 => h9) rfl (by decide +kernel) rfl rfl (Nat.le_of_ble_eq_true rfl) (dd_of dX12_drive_0 27 rfl) (fun H locs hP hD hS => ?_)
    obtain ⟨F7, e8⟩ : ∃ z : jF, z = u2 F 60 0 v6 := ⟨_, rfl⟩
    have hP : va_P D vwCl (mW yy A F7 G) H := by rw [e8]; exact hP
    have hD : va_D Z (mW yy A F7 G) := by rw [e8]; exact hD
    replace hres := bvE e8 hres
    replace hok := bvO e8 hok
    refine lv_aload_n hx hb (dd_of dX12_drive_0 28 rfl) rfl (lv_at hl 0 rfl) ?_
    refine va_get (D := D) (cl := vwCl) (tys := jT yy) (ci := 12) (v := .int (F7 60 0)) (C := RX12) (T := TX12) (N := 61) hx hb hts hin12 hown hK hP 0 rfl rfl 60 (by decide) (jw hts gw590) (fun _ h9 => h9) rfl (dd_of dX12_drive_0 29 rfl) ?_
    refine lv_if_le (tgt := 60) hx hb (dd_of dX12_drive_0 30 rfl) (by decide) (fun c9 => ?_) (fun c9 => ?_)
    · replace hres := ifE c9 hres
      replace hok := hok.1 c9
      refine lv_aload_n hx hb (dd_of dX12_drive_0 33 rfl) rfl (lv_at hl 0 rfl) ?_
      refine lv_dup hx hb (dd_of dX12_drive_0 34 rfl) rfl ?_
      refine va_get (D := D) (cl := vwCl) (tys := jT yy) (ci := 12) (v := .long (G 2 0)) (C := RX12) (T := TX12) (N := 61) hx hb hts hin12 hown hK hP 0 rfl rfl 2 (by decide) (jw hts gw814) (fun _ h9 => h9) rfl (dd_of dX12_drive_0 35 rfl) ?_
      refine lv_iload_n hx hb (dd_of dX12_drive_0 36 rfl) rfl (lv_at hl 3 rfl) ?_
      refine lv_i2l (v := (Int32.toInt64 p3)) hx hb (dd_of dX12_drive_0 37 rfl) rfl ?_
      refine lv_lsub hx hb (dd_of dX12_drive_0 38 rfl) ?_
      refine va_put (D := D) (cl := vwCl) (tys := jT yy) (ci := 12) (v := .long ((G 2 0) - (Int32.toInt64 p3))) (ty := .long) (C := RX12) (T := TX12) (N := 61) hx hb hts hin12 tyX12 tyX12_ok nmX12 hown hK hP hD hS 0 rfl rfl 2 (by decide) (jw hts gw814) (fun _ h9 => h9) rfl (by decide +kernel) rfl rfl (Nat.le_of_ble_eq_true rfl) (dd_of dX12_drive_0 39 rfl) (fun H locs hP hD hS => ?_)
      obtain ⟨G10, e11⟩ : ∃ z : jG, z = u2 G 2 0 ((G 2 0) - (Int32.toInt64 p3)) := ⟨_, rfl⟩
      have hP : va_P D vwCl (mW yy A F7 G10) H := by rw [e11]; exact hP
      have hD : va_D Z (mW yy A F7 G10) := by rw [e11]; exact hD
      replace hres := bvE e11 hres
      replace hok := bvO e11 hok
      refine lv_aload_n hx hb (dd_of dX12_drive_1 0 rfl) rfl (lv_at hl 0 rfl) ?_
      refine va_get (D := D) (cl := vwCl) (tys := jT yy) (ci := 12) (v := .ref (A 30)) (C := RX12) (T := TX12) (N := 61) hx hb hts hin12 hown hK hP 0 rfl rfl 30 (by decide) (jw hts gw144) (fun _ h9 => h9) rfl (dd_of dX12_drive_1 1 rfl) ?_
      refine lv_iload_n hx hb (dd_of dX12_drive_1 2 rfl) rfl (lv_at hl 1 rfl) ?_
      refine lv_dup2_11 hx hb (dd_of dX12_drive_1 3 rfl) rfl rfl ?_
      have h12 := hok.1
      replace hok := hok.2
      refine va_iald hx hb hK hP 20 0 rfl rfl h12 (dd_of dX12_drive_1 4 rfl) ?_
      refine lv_iload_n hx hb (dd_of dX12_drive_1 5 rfl) rfl (lv_at hl 3 rfl) ?_
      refine lv_iadd hx hb (dd_of dX12_drive_1 6 rfl) ?_
      have h13 := hok.1
      replace hok := hok.2
      refine va_iast hx hb hK hP hD hS 20 0 rfl rfl h13 (dd_of dX12_drive_1 7 rfl) (fun H locs hP hD hS => ?_)
      obtain ⟨F14, e15⟩ : ∃ z : jF, z = u2 F7 30 (Int32.toNatClampNeg p1) ((F7 30 (Int32.toNatClampNeg p1)) + p3) := ⟨_, rfl⟩
      have hP : va_P D vwCl (mW yy A F14 G10) H := by rw [e15]; exact hP
      have hD : va_D Z (mW yy A F14 G10) := by rw [e15]; exact hD
      replace hres := bvE e15 hres
      replace hok := bvO e15 hok
      refine lv_aload_n hx hb (dd_of dX12_drive_1 8 rfl) rfl (lv_at hl 0 rfl) ?_
      refine va_get (D := D) (cl := vwCl) (tys := jT yy) (ci := 12) (v := .ref (A 29)) (C := RX12) (T := TX12) (N := 61) hx hb hts hin12 hown hK hP 0 rfl rfl 29 (by decide) (jw hts gw143) (fun _ h9 => h9) rfl (dd_of dX12_drive_1 9 rfl) ?_
      refine lv_iload_n hx hb (dd_of dX12_drive_1 10 rfl) rfl (lv_at hl 1 rfl) ?_
      refine lv_iload_n hx hb (dd_of dX12_drive_1 11 rfl) rfl (lv_at hl 2 rfl) ?_
      obtain ⟨z26, q25⟩ : ∃ z : Int32, (if p2 = 0 then 0 else 1) = z := ⟨_, rfl⟩
      refine jn_i (ls := ls) (v := z26) 95 [.int p1, .ref (A 29)] (fun v17 ev17 => ?_) (fun K27 => ?_)
      · replace hres := bvE (ev17.trans q25.symm) hres
        replace hok := bvO (ev17.trans q25.symm) hok
        have h18 := hok.1
        replace hok := hok.2
        refine va_iast hx hb hK hP hD hS 19 0 rfl rfl h18 (dd_of dX12_drive_1 16 rfl) (fun H locs hP hD hS => ?_)
        obtain ⟨F19, e20⟩ : ∃ z : jF, z = u2 F14 29 (Int32.toNatClampNeg p1) v17 := ⟨_, rfl⟩
        have hP : va_P D vwCl (mW yy A F19 G10) H := by rw [e20]; exact hP
        have hD : va_D Z (mW yy A F19 G10) := by rw [e20]; exact hD
        replace hres := bvE e20 hres
        replace hok := bvO e20 hok
        refine lv_aload_n hx hb (dd_of dX12_drive_1 17 rfl) rfl (lv_at hl 0 rfl) ?_
        refine va_get (D := D) (cl := vwCl) (tys := jT yy) (ci := 12) (v := .ref (A 30)) (C := RX12) (T := TX12) (N := 61) hx hb hts hin12 hown hK hP 0 rfl rfl 30 (by decide) (jw hts gw144) (fun _ h9 => h9) rfl (dd_of dX12_drive_1 18 rfl) ?_
        refine lv_iload_n hx hb (dd_of dX12_drive_1 19 rfl) rfl (lv_at hl 1 rfl) ?_
        have h21 := hok
        refine va_iald hx hb hK hP 20 0 rfl rfl h21 (dd_of dX12_drive_1 20 rfl) ?_
        subst hQ
        exact W.iret (v := (F19 30 (Int32.toNatClampNeg p1))) hx hb hr (fun t ht hW => ⟨⟨(F19 30 (Int32.toNatClampNeg p1)), (F19, G10), rfl, hres, by rw [ht]; exact hP, va_K.moved hW.alike hK, hD⟩, hS.F ht⟩) hS.2.2 (dd_of dX12_drive_1 21 rfl) hlk
      · skip
        refine lv_if_eq (tgt := 94) hx hb (dd_of dX12_drive_1 12 rfl) (by decide) (fun c16 => ?_) (fun c16 => ?_)
        · replace q25 := ifE c16 q25
          refine lv_iconst (v := 0) hx hb (dd_of dX12_drive_1 15 rfl) (by decide) ?_
          exact K27 _ q25
        · replace q25 := ifN c16 q25
          refine lv_iconst (v := 1) hx hb (dd_of dX12_drive_1 13 rfl) (by decide) ?_
          refine lv_goto (tgt := 95) hx hb (dd_of dX12_drive_1 14 rfl) (by decide) ?_
          exact K27 _ q25
    · replace hres := ifN c9 hres
      refine lv_iconst (v := 0) hx hb (dd_of dX12_drive_0 31 rfl) (by decide) ?_
      subst hQ
      exact W.iret (v := 0) hx hb hr (fun t ht hW => ⟨⟨0, (F7, G), rfl, hres, by rw [ht]; exact hP, va_K.moved hW.alike hK, hD⟩, hS.F ht⟩) hS.2.2 (dd_of dX12_drive_0 32 rfl) hlk
  · skip
    refine lv_if_ne (tgt := 19) hx hb (dd_of dX12_drive_0 8 rfl) (by decide) (fun c2 => ?_) (fun c2 => ?_)
    · replace q22 := ifN c2 q22
      refine lv_iload_n hx hb (dd_of dX12_drive_0 11 rfl) rfl (lv_at hl 3 rfl) ?_
      refine lv_iconst (v := 0) hx hb (dd_of dX12_drive_0 12 rfl) (by decide) ?_
      refine lv_bipush (v := 99) hx hb (dd_of dX12_drive_0 13 rfl) (by decide) ?_
      refine jc_si (As := [.int p3, .int 0, .int 99]) (rest := [.ref (A 99)]) ⟨hx, hb, hml, hown, hts⟩ (qX12_in l p3 0 99 ) (cwS 3 hts (jgS gw591 gw592 gw5 gw593) rfl rfl rfl (by decide +kernel) ⟨Nat.le_of_ble_eq_true rfl, Nat.le_of_ble_eq_true rfl⟩) rfl hl.1 rfl (Nat.le_of_ble_eq_true rfl) (dd_of dX12_drive_0 14 rfl) ⟨Nat.zero_le _, Nat.zero_le _⟩ (fun x3 ex3 => ?_)
      replace q22 := bvE ex3 q22
      refine lv_if_ne (tgt := 33) hx hb (dd_of dX12_drive_0 15 rfl) (by decide) (fun c4 => ?_) (fun c4 => ?_)
      · replace q22 := ifN c4 q22
        refine lv_aload_n hx hb (dd_of dX12_drive_0 18 rfl) rfl (lv_at hl 0 rfl) ?_
        refine va_get (D := D) (cl := vwCl) (tys := jT yy) (ci := 12) (v := .long (G 2 0)) (C := RX12) (T := TX12) (N := 61) hx hb hts hin12 hown hK hP 0 rfl rfl 2 (by decide) (jw hts gw814) (fun _ h9 => h9) rfl (dd_of dX12_drive_0 19 rfl) ?_
        refine lv_iload_n hx hb (dd_of dX12_drive_0 20 rfl) rfl (lv_at hl 3 rfl) ?_
        refine lv_i2l (v := (Int32.toInt64 p3)) hx hb (dd_of dX12_drive_0 21 rfl) rfl ?_
        refine jl_ge (tgt := 47) hx hb (dd_of dX12_drive_0 22 rfl) (dd_of dX12_drive_0 23 rfl) (by decide) (fun c5 => ?_) (fun c5 => ?_)
        · replace q22 := ifE c5 q22
          refine lv_iconst (v := 0) hx hb (dd_of dX12_drive_0 26 rfl) (by decide) ?_
          exact K24 _ q22
        · replace q22 := ifN c5 q22
          refine lv_iconst (v := 3) hx hb (dd_of dX12_drive_0 24 rfl) (by decide) ?_
          refine lv_goto (tgt := 48) hx hb (dd_of dX12_drive_0 25 rfl) (by decide) ?_
          exact K24 _ q22
      · replace q22 := ifE c4 q22
        refine lv_iconst (v := 2) hx hb (dd_of dX12_drive_0 16 rfl) (by decide) ?_
        refine lv_goto (tgt := 48) hx hb (dd_of dX12_drive_0 17 rfl) (by decide) ?_
        exact K24 _ q22
    · replace q22 := ifE c2 q22
      refine lv_iconst (v := 1) hx hb (dd_of dX12_drive_0 9 rfl) (by decide) ?_
      refine lv_goto (tgt := 48) hx hb (dd_of dX12_drive_0 10 rfl) (by decide) ?_
      exact K24 _ q22
set_option maxHeartbeats 4000000 in
set_option maxRecDepth 100000 in
theorem qX12_mend (l : Launch) (D : va_G) (yy : Nat → ClassId) (A : Nat → Nat) (F : jF) (G : jG) (sz : Nat) (p1 : Int32) (hok : okX12_mend F G p1) : Met l yX12_mend (Cond.code yX12_mend cX12_mend 3 (some .int) :: wsL_law) rmX12_mend (va_Pc [.ref (A 99), .int p1] (jP D yy (mW yy A F G) sz)) (va_Qi (fun r (u : jS) => (r, u) = gX12_mend F G p1) (fun (u : jS) t => jB D yy (va_A (mW yy A F G) sz) (mW yy A u.1 u.2) t) (va_A (mW yy A F G) sz)) 0 0 (va_A (mW yy A F G) sz) := by
  generalize hres : gX12_mend F G p1 = RES
  refine jM (own := RX12) (by decide) rfl (Nat.le_of_ble_eq_true rfl) ?_
  intro p e s m args below meth c ls Q hQ hargs S hr hlk hinit hB hl
  obtain ⟨hx, hb, hml, hown, hts⟩ := S
  have hl : lv_has ls 3 [(0, .ref (A 99)), (1, .int p1)] := hl
  have hin12 : ∀ w ∈ u_ws RX12 TX12 61, w ∈ (Cond.code yX12_mend cX12_mend 3 (some .int) :: wsL_law) := fun w h => List.mem_cons_of_mem _ (inlX12 w h)
  obtain ⟨hsz, hP, hK, hD0⟩ := hB
  subst hsz
  have hD := hD0.self (sz := s.heap.size)
  generalize hZ : va_A (mW yy A F G) s.heap.size = Z at hD hQ
  have hA : ∀ q : Nat, s.heap.size ≤ q → Z q := fun q h => by rw [← hZ]; exact Or.inr h
  obtain ⟨H, hH⟩ : ∃ z, z = s.heap := ⟨_, rfl⟩
  obtain ⟨locs, hlocs⟩ : ∃ z : List Loc, z = [] := ⟨_, rfl⟩
  have hS : va_S Z s.heap H locs := by rw [hH, hlocs]; exact va_S.rf
  rw [← hH] at hP
  suffices hgo : W p l e rmX12_mend s m args below meth c H locs 0 0 Q (F0 m 0 ls []) by rw [hH, hlocs] at hgo; exact hgo
  unfold gX12_mend at hres
  unfold okX12_mend at hok
  refine lv_aload_n hx hb (dd_of dX12_mend_0 0 rfl) rfl (lv_at hl 0 rfl) ?_
  refine lv_iload_n hx hb (dd_of dX12_mend_0 1 rfl) rfl (lv_at hl 1 rfl) ?_
  refine lv_iconst (v := 0) hx hb (dd_of dX12_mend_0 2 rfl) (by decide) ?_
  refine lv_aload_n hx hb (dd_of dX12_mend_0 3 rfl) rfl (lv_at hl 0 rfl) ?_
  refine va_get (D := D) (cl := vwCl) (tys := jT yy) (ci := 12) (v := .int (F 23 0)) (C := RX12) (T := TX12) (N := 61) hx hb hts hin12 hown hK hP 0 rfl rfl 23 (by decide) (jw hts gw694) (fun _ h9 => h9) rfl (dd_of dX12_mend_0 4 rfl) ?_
  refine lv_iconst (v := 1) hx hb (dd_of dX12_mend_0 5 rfl) (by decide) ?_
  refine lv_isub hx hb (dd_of dX12_mend_0 6 rfl) ?_
  refine jc_si (As := [.int p1, .int 0, .int ((F 23 0) - 1)]) (rest := [.ref (A 99)]) ⟨hx, hb, hml, hown, hts⟩ (qX12_in l p1 0 ((F 23 0) - 1) ) (cwS 3 hts (jgS gw591 gw592 gw5 gw593) rfl rfl rfl (by decide +kernel) ⟨Nat.le_of_ble_eq_true rfl, Nat.le_of_ble_eq_true rfl⟩) rfl hl.1 rfl (Nat.le_of_ble_eq_true rfl) (dd_of dX12_mend_0 7 rfl) ⟨Nat.zero_le _, Nat.zero_le _⟩ (fun x1 ex1 => ?_)
  replace hres := bvE ex1 hres
  replace hok := bvO ex1 hok
  obtain ⟨z16, q15⟩ : ∃ z : Int32, (if x1 = 0 then 1 else (if 20 ≤ (G 2 0) then 0 else 2)) = z := ⟨_, rfl⟩
  refine jn_i (ls := ls) (v := z16) 35 [.ref (A 99)] (fun v4 ev4 => ?_) (fun K17 => ?_)
  · replace hres := bvE (ev4.trans q15.symm) hres
    replace hok := bvO (ev4.trans q15.symm) hok
    refine va_put (D := D) (cl := vwCl) (tys := jT yy) (ci := 12) (v := .int v4) (ty := .int) (C := RX12) (T := TX12) (N := 61) hx hb hts hin12 tyX12 tyX12_ok nmX12 hown hK hP hD hS 0 rfl rfl 60 (by decide) (jw hts gw590) (fun _ h9 => h9) rfl (by decide +kernel) rfl rfl (Nat.le_of_ble_eq_true rfl) (dd_of dX12_mend_0 19 rfl) (fun H locs hP hD hS => ?_)
    obtain ⟨F5, e6⟩ : ∃ z : jF, z = u2 F 60 0 v4 := ⟨_, rfl⟩
    have hP : va_P D vwCl (mW yy A F5 G) H := by rw [e6]; exact hP
    have hD : va_D Z (mW yy A F5 G) := by rw [e6]; exact hD
    replace hres := bvE e6 hres
    replace hok := bvO e6 hok
    refine lv_aload_n hx hb (dd_of dX12_mend_0 20 rfl) rfl (lv_at hl 0 rfl) ?_
    refine va_get (D := D) (cl := vwCl) (tys := jT yy) (ci := 12) (v := .int (F5 60 0)) (C := RX12) (T := TX12) (N := 61) hx hb hts hin12 hown hK hP 0 rfl rfl 60 (by decide) (jw hts gw590) (fun _ h9 => h9) rfl (dd_of dX12_mend_0 21 rfl) ?_
    refine lv_if_le (tgt := 47) hx hb (dd_of dX12_mend_0 22 rfl) (by decide) (fun c7 => ?_) (fun c7 => ?_)
    · replace hres := ifE c7 hres
      replace hok := hok.1 c7
      refine lv_aload_n hx hb (dd_of dX12_mend_0 25 rfl) rfl (lv_at hl 0 rfl) ?_
      refine va_get (D := D) (cl := vwCl) (tys := jT yy) (ci := 12) (v := .ref (A 31)) (C := RX12) (T := TX12) (N := 61) hx hb hts hin12 hown hK hP 0 rfl rfl 31 (by decide) (jw hts gw145) (fun _ h9 => h9) rfl (dd_of dX12_mend_0 26 rfl) ?_
      refine lv_iload_n hx hb (dd_of dX12_mend_0 27 rfl) rfl (lv_at hl 1 rfl) ?_
      have h8 := hok.1
      replace hok := hok.2
      refine va_iald hx hb hK hP 21 0 rfl rfl h8 (dd_of dX12_mend_0 28 rfl) ?_
      refine lv_topi (fun x9 ex9 => ?_)
      replace hres := bvE ex9 hres
      replace hok := bvO ex9 hok
      refine lv_istore_n (lv' := [(2, .int x9), (0, .ref (A 99)), (1, .int p1)]) hx hb (dd_of dX12_mend_0 29 rfl) rfl hl (by decide) rfl (fun ls hl => ?_)
      refine lv_aload_n hx hb (dd_of dX12_mend_0 30 rfl) rfl (lv_at hl 1 rfl) ?_
      refine lv_dup hx hb (dd_of dX12_mend_0 31 rfl) rfl ?_
      refine va_get (D := D) (cl := vwCl) (tys := jT yy) (ci := 12) (v := .long (G 2 0)) (C := RX12) (T := TX12) (N := 61) hx hb hts hin12 hown hK hP 0 rfl rfl 2 (by decide) (jw hts gw814) (fun _ h9 => h9) rfl (dd_of dX12_mend_0 32 rfl) ?_
      refine lv_ldc2 (v := 20) hx hb hown (jw hts gw826) (dd_of dX12_mend_0 33 rfl) ?_
      refine lv_lsub hx hb (dd_of dX12_mend_0 34 rfl) ?_
      refine va_put (D := D) (cl := vwCl) (tys := jT yy) (ci := 12) (v := .long ((G 2 0) - 20)) (ty := .long) (C := RX12) (T := TX12) (N := 61) hx hb hts hin12 tyX12 tyX12_ok nmX12 hown hK hP hD hS 0 rfl rfl 2 (by decide) (jw hts gw814) (fun _ h9 => h9) rfl (by decide +kernel) rfl rfl (Nat.le_of_ble_eq_true rfl) (dd_of dX12_mend_0 35 rfl) (fun H locs hP hD hS => ?_)
      obtain ⟨G10, e11⟩ : ∃ z : jG, z = u2 G 2 0 ((G 2 0) - 20) := ⟨_, rfl⟩
      have hP : va_P D vwCl (mW yy A F5 G10) H := by rw [e11]; exact hP
      have hD : va_D Z (mW yy A F5 G10) := by rw [e11]; exact hD
      replace hres := bvE e11 hres
      replace hok := bvO e11 hok
      refine lv_aload_n hx hb (dd_of dX12_mend_0 36 rfl) rfl (lv_at hl 1 rfl) ?_
      refine va_get (D := D) (cl := vwCl) (tys := jT yy) (ci := 12) (v := .ref (A 31)) (C := RX12) (T := TX12) (N := 61) hx hb hts hin12 hown hK hP 0 rfl rfl 31 (by decide) (jw hts gw145) (fun _ h9 => h9) rfl (dd_of dX12_mend_0 37 rfl) ?_
      refine lv_iload_n hx hb (dd_of dX12_mend_0 38 rfl) rfl (lv_at hl 2 rfl) ?_
      refine lv_iconst (v := 0) hx hb (dd_of dX12_mend_0 39 rfl) (by decide) ?_
      have h12 := hok
      refine va_iast hx hb hK hP hD hS 21 0 rfl rfl h12 (dd_of dX12_mend_1 0 rfl) (fun H locs hP hD hS => ?_)
      obtain ⟨F13, e14⟩ : ∃ z : jF, z = u2 F5 31 (Int32.toNatClampNeg p1) 0 := ⟨_, rfl⟩
      have hP : va_P D vwCl (mW yy A F13 G10) H := by rw [e14]; exact hP
      have hD : va_D Z (mW yy A F13 G10) := by rw [e14]; exact hD
      replace hres := bvE e14 hres
      refine lv_iload_n hx hb (dd_of dX12_mend_1 1 rfl) rfl (lv_at hl 0 rfl) ?_
      subst hQ
      exact W.iret (v := x9) hx hb hr (fun t ht hW => ⟨⟨x9, (F13, G10), rfl, hres, by rw [ht]; exact hP, va_K.moved hW.alike hK, hD⟩, hS.F ht⟩) hS.2.2 (dd_of dX12_mend_1 2 rfl) hlk
    · replace hres := ifN c7 hres
      refine lv_iconst (v := 0) hx hb (dd_of dX12_mend_0 23 rfl) (by decide) ?_
      subst hQ
      exact W.iret (v := 0) hx hb hr (fun t ht hW => ⟨⟨0, (F5, G), rfl, hres, by rw [ht]; exact hP, va_K.moved hW.alike hK, hD⟩, hS.F ht⟩) hS.2.2 (dd_of dX12_mend_0 24 rfl) hlk
  · skip
    refine lv_if_ne (tgt := 19) hx hb (dd_of dX12_mend_0 8 rfl) (by decide) (fun c2 => ?_) (fun c2 => ?_)
    · replace q15 := ifN c2 q15
      refine lv_aload_n hx hb (dd_of dX12_mend_0 11 rfl) rfl (lv_at hl 0 rfl) ?_
      refine va_get (D := D) (cl := vwCl) (tys := jT yy) (ci := 12) (v := .long (G 2 0)) (C := RX12) (T := TX12) (N := 61) hx hb hts hin12 hown hK hP 0 rfl rfl 2 (by decide) (jw hts gw814) (fun _ h9 => h9) rfl (dd_of dX12_mend_0 12 rfl) ?_
      refine lv_ldc2 (v := 20) hx hb hown (jw hts gw826) (dd_of dX12_mend_0 13 rfl) ?_
      refine jl_ge (tgt := 34) hx hb (dd_of dX12_mend_0 14 rfl) (dd_of dX12_mend_0 15 rfl) (by decide) (fun c3 => ?_) (fun c3 => ?_)
      · replace q15 := ifE c3 q15
        refine lv_iconst (v := 0) hx hb (dd_of dX12_mend_0 18 rfl) (by decide) ?_
        exact K17 _ q15
      · replace q15 := ifN c3 q15
        refine lv_iconst (v := 2) hx hb (dd_of dX12_mend_0 16 rfl) (by decide) ?_
        refine lv_goto (tgt := 35) hx hb (dd_of dX12_mend_0 17 rfl) (by decide) ?_
        exact K17 _ q15
    · replace q15 := ifE c2 q15
      refine lv_iconst (v := 1) hx hb (dd_of dX12_mend_0 9 rfl) (by decide) ?_
      refine lv_goto (tgt := 35) hx hb (dd_of dX12_mend_0 10 rfl) (by decide) ?_
      exact K17 _ q15
set_option maxHeartbeats 4000000 in
set_option maxRecDepth 100000 in
theorem qX12_send (l : Launch) (D : va_G) (yy : Nat → ClassId) (A : Nat → Nat) (F : jF) (G : jG) (sz : Nat) (p1 : Int32) (p2 : Int32) (p3 : Int32) (hok : okX12_send F G p1 p2 p3) : Met l yX12_send (Cond.code yX12_send cX12_send 4 (some .int) :: wsL_law) rmX12_send (va_Pc [.ref (A 99), .int p1, .int p2, .int p3] (jP D yy (mW yy A F G) sz)) (va_Qi (fun r (u : jS) => (r, u) = gX12_send F G p1 p2 p3) (fun (u : jS) t => jB D yy (va_A (mW yy A F G) sz) (mW yy A u.1 u.2) t) (va_A (mW yy A F G) sz)) 0 0 (va_A (mW yy A F G) sz) := by
  generalize hres : gX12_send F G p1 p2 p3 = RES
  refine jM (own := RX12) (by decide) rfl (Nat.le_of_ble_eq_true rfl) ?_
  intro p e s m args below meth c ls Q hQ hargs S hr hlk hinit hB hl
  obtain ⟨hx, hb, hml, hown, hts⟩ := S
  have hl : lv_has ls 4 [(0, .ref (A 99)), (1, .int p1), (2, .int p2), (3, .int p3)] := hl
  have hin12 : ∀ w ∈ u_ws RX12 TX12 61, w ∈ (Cond.code yX12_send cX12_send 4 (some .int) :: wsL_law) := fun w h => List.mem_cons_of_mem _ (inlX12 w h)
  obtain ⟨hsz, hP, hK, hD0⟩ := hB
  subst hsz
  have hD := hD0.self (sz := s.heap.size)
  generalize hZ : va_A (mW yy A F G) s.heap.size = Z at hD hQ
  have hA : ∀ q : Nat, s.heap.size ≤ q → Z q := fun q h => by rw [← hZ]; exact Or.inr h
  obtain ⟨H, hH⟩ : ∃ z, z = s.heap := ⟨_, rfl⟩
  obtain ⟨locs, hlocs⟩ : ∃ z : List Loc, z = [] := ⟨_, rfl⟩
  have hS : va_S Z s.heap H locs := by rw [hH, hlocs]; exact va_S.rf
  rw [← hH] at hP
  suffices hgo : W p l e rmX12_send s m args below meth c H locs 0 0 Q (F0 m 0 ls []) by rw [hH, hlocs] at hgo; exact hgo
  unfold gX12_send at hres
  unfold okX12_send at hok
  refine lv_aload_n hx hb (dd_of dX12_send_0 0 rfl) rfl (lv_at hl 0 rfl) ?_
  refine lv_iload_n hx hb (dd_of dX12_send_0 1 rfl) rfl (lv_at hl 1 rfl) ?_
  refine lv_iconst (v := 0) hx hb (dd_of dX12_send_0 2 rfl) (by decide) ?_
  refine lv_iconst (v := 2) hx hb (dd_of dX12_send_0 3 rfl) (by decide) ?_
  refine jc_si (As := [.int p1, .int 0, .int 2]) (rest := [.ref (A 99)]) ⟨hx, hb, hml, hown, hts⟩ (qX12_in l p1 0 2 ) (cwS 3 hts (jgS gw591 gw592 gw5 gw593) rfl rfl rfl (by decide +kernel) ⟨Nat.le_of_ble_eq_true rfl, Nat.le_of_ble_eq_true rfl⟩) rfl hl.1 rfl (Nat.le_of_ble_eq_true rfl) (dd_of dX12_send_0 4 rfl) ⟨Nat.zero_le _, Nat.zero_le _⟩ (fun x1 ex1 => ?_)
  replace hres := bvE ex1 hres
  replace hok := bvO ex1 hok
  obtain ⟨z23, q22⟩ : ∃ z : Int32, (if x1 = 0 then 1 else bv (gX12_in p2 (-1) ((F 32 0) - 1)) (fun x3 : Int32 => (if x3 = 0 then 1 else bv (gX12_in p3 0 99) (fun x5 : Int32 => (if x5 = 0 then 2 else (if (Int32.toInt64 p3) ≤ (G 2 0) then 0 else 3)))))) = z := ⟨_, rfl⟩
  refine jn_i (ls := ls) (v := z23) 57 [.ref (A 99)] (fun v8 ev8 => ?_) (fun K24 => ?_)
  · replace hres := bvE (ev8.trans q22.symm) hres
    replace hok := bvO (ev8.trans q22.symm) hok
    refine va_put (D := D) (cl := vwCl) (tys := jT yy) (ci := 12) (v := .int v8) (ty := .int) (C := RX12) (T := TX12) (N := 61) hx hb hts hin12 tyX12 tyX12_ok nmX12 hown hK hP hD hS 0 rfl rfl 60 (by decide) (jw hts gw590) (fun _ h9 => h9) rfl (by decide +kernel) rfl rfl (Nat.le_of_ble_eq_true rfl) (dd_of dX12_send_0 32 rfl) (fun H locs hP hD hS => ?_)
    obtain ⟨F9, e10⟩ : ∃ z : jF, z = u2 F 60 0 v8 := ⟨_, rfl⟩
    have hP : va_P D vwCl (mW yy A F9 G) H := by rw [e10]; exact hP
    have hD : va_D Z (mW yy A F9 G) := by rw [e10]; exact hD
    replace hres := bvE e10 hres
    replace hok := bvO e10 hok
    refine lv_aload_n hx hb (dd_of dX12_send_0 33 rfl) rfl (lv_at hl 0 rfl) ?_
    refine va_get (D := D) (cl := vwCl) (tys := jT yy) (ci := 12) (v := .int (F9 60 0)) (C := RX12) (T := TX12) (N := 61) hx hb hts hin12 hown hK hP 0 rfl rfl 60 (by decide) (jw hts gw590) (fun _ h9 => h9) rfl (dd_of dX12_send_0 34 rfl) ?_
    refine lv_if_le (tgt := 69) hx hb (dd_of dX12_send_0 35 rfl) (by decide) (fun c11 => ?_) (fun c11 => ?_)
    · replace hres := ifE c11 hres
      replace hok := hok.1 c11
      refine lv_aload_n hx hb (dd_of dX12_send_0 38 rfl) rfl (lv_at hl 0 rfl) ?_
      refine lv_dup hx hb (dd_of dX12_send_0 39 rfl) rfl ?_
      refine va_get (D := D) (cl := vwCl) (tys := jT yy) (ci := 12) (v := .long (G 2 0)) (C := RX12) (T := TX12) (N := 61) hx hb hts hin12 hown hK hP 0 rfl rfl 2 (by decide) (jw hts gw814) (fun _ h9 => h9) rfl (dd_of dX12_send_1 0 rfl) ?_
      refine lv_iload_n hx hb (dd_of dX12_send_1 1 rfl) rfl (lv_at hl 3 rfl) ?_
      refine lv_i2l (v := (Int32.toInt64 p3)) hx hb (dd_of dX12_send_1 2 rfl) rfl ?_
      refine lv_lsub hx hb (dd_of dX12_send_1 3 rfl) ?_
      refine va_put (D := D) (cl := vwCl) (tys := jT yy) (ci := 12) (v := .long ((G 2 0) - (Int32.toInt64 p3))) (ty := .long) (C := RX12) (T := TX12) (N := 61) hx hb hts hin12 tyX12 tyX12_ok nmX12 hown hK hP hD hS 0 rfl rfl 2 (by decide) (jw hts gw814) (fun _ h9 => h9) rfl (by decide +kernel) rfl rfl (Nat.le_of_ble_eq_true rfl) (dd_of dX12_send_1 4 rfl) (fun H locs hP hD hS => ?_)
      obtain ⟨G12, e13⟩ : ∃ z : jG, z = u2 G 2 0 ((G 2 0) - (Int32.toInt64 p3)) := ⟨_, rfl⟩
      have hP : va_P D vwCl (mW yy A F9 G12) H := by rw [e13]; exact hP
      have hD : va_D Z (mW yy A F9 G12) := by rw [e13]; exact hD
      replace hres := bvE e13 hres
      replace hok := bvO e13 hok
      refine lv_aload_n hx hb (dd_of dX12_send_1 5 rfl) rfl (lv_at hl 0 rfl) ?_
      refine va_get (D := D) (cl := vwCl) (tys := jT yy) (ci := 12) (v := .ref (A 50)) (C := RX12) (T := TX12) (N := 61) hx hb hts hin12 hown hK hP 0 rfl rfl 50 (by decide) (jw hts gw161) (fun _ h9 => h9) rfl (dd_of dX12_send_1 6 rfl) ?_
      refine lv_iload_n hx hb (dd_of dX12_send_1 7 rfl) rfl (lv_at hl 1 rfl) ?_
      refine lv_dup2_11 hx hb (dd_of dX12_send_1 8 rfl) rfl rfl ?_
      have h14 := hok.1
      replace hok := hok.2
      refine va_iald hx hb hK hP 37 0 rfl rfl h14 (dd_of dX12_send_1 9 rfl) ?_
      refine lv_iload_n hx hb (dd_of dX12_send_1 10 rfl) rfl (lv_at hl 3 rfl) ?_
      refine lv_iadd hx hb (dd_of dX12_send_1 11 rfl) ?_
      have h15 := hok.1
      replace hok := hok.2
      refine va_iast hx hb hK hP hD hS 37 0 rfl rfl h15 (dd_of dX12_send_1 12 rfl) (fun H locs hP hD hS => ?_)
      obtain ⟨F16, e17⟩ : ∃ z : jF, z = u2 F9 50 (Int32.toNatClampNeg p1) ((F9 50 (Int32.toNatClampNeg p1)) + p3) := ⟨_, rfl⟩
      have hP : va_P D vwCl (mW yy A F16 G12) H := by rw [e17]; exact hP
      have hD : va_D Z (mW yy A F16 G12) := by rw [e17]; exact hD
      replace hres := bvE e17 hres
      replace hok := bvO e17 hok
      refine lv_aload_n hx hb (dd_of dX12_send_1 13 rfl) rfl (lv_at hl 0 rfl) ?_
      refine va_get (D := D) (cl := vwCl) (tys := jT yy) (ci := 12) (v := .ref (A 51)) (C := RX12) (T := TX12) (N := 61) hx hb hts hin12 hown hK hP 0 rfl rfl 51 (by decide) (jw hts gw162) (fun _ h9 => h9) rfl (dd_of dX12_send_1 14 rfl) ?_
      refine lv_iload_n hx hb (dd_of dX12_send_1 15 rfl) rfl (lv_at hl 1 rfl) ?_
      refine lv_iload_n hx hb (dd_of dX12_send_1 16 rfl) rfl (lv_at hl 2 rfl) ?_
      refine lv_iconst (v := 1) hx hb (dd_of dX12_send_1 17 rfl) (by decide) ?_
      refine lv_iadd hx hb (dd_of dX12_send_1 18 rfl) ?_
      have h18 := hok.1
      replace hok := hok.2
      refine va_iast hx hb hK hP hD hS 38 0 rfl rfl h18 (dd_of dX12_send_1 19 rfl) (fun H locs hP hD hS => ?_)
      obtain ⟨F19, e20⟩ : ∃ z : jF, z = u2 F16 51 (Int32.toNatClampNeg p1) (p2 + 1) := ⟨_, rfl⟩
      have hP : va_P D vwCl (mW yy A F19 G12) H := by rw [e20]; exact hP
      have hD : va_D Z (mW yy A F19 G12) := by rw [e20]; exact hD
      replace hres := bvE e20 hres
      replace hok := bvO e20 hok
      refine lv_aload_n hx hb (dd_of dX12_send_1 20 rfl) rfl (lv_at hl 0 rfl) ?_
      refine va_get (D := D) (cl := vwCl) (tys := jT yy) (ci := 12) (v := .ref (A 50)) (C := RX12) (T := TX12) (N := 61) hx hb hts hin12 hown hK hP 0 rfl rfl 50 (by decide) (jw hts gw161) (fun _ h9 => h9) rfl (dd_of dX12_send_1 21 rfl) ?_
      refine lv_iload_n hx hb (dd_of dX12_send_1 22 rfl) rfl (lv_at hl 1 rfl) ?_
      have h21 := hok
      refine va_iald hx hb hK hP 37 0 rfl rfl h21 (dd_of dX12_send_1 23 rfl) ?_
      subst hQ
      exact W.iret (v := (F19 50 (Int32.toNatClampNeg p1))) hx hb hr (fun t ht hW => ⟨⟨(F19 50 (Int32.toNatClampNeg p1)), (F19, G12), rfl, hres, by rw [ht]; exact hP, va_K.moved hW.alike hK, hD⟩, hS.F ht⟩) hS.2.2 (dd_of dX12_send_1 24 rfl) hlk
    · replace hres := ifN c11 hres
      refine lv_iconst (v := 0) hx hb (dd_of dX12_send_0 36 rfl) (by decide) ?_
      subst hQ
      exact W.iret (v := 0) hx hb hr (fun t ht hW => ⟨⟨0, (F9, G), rfl, hres, by rw [ht]; exact hP, va_K.moved hW.alike hK, hD⟩, hS.F ht⟩) hS.2.2 (dd_of dX12_send_0 37 rfl) hlk
  · skip
    refine lv_if_eq (tgt := 24) hx hb (dd_of dX12_send_0 5 rfl) (by decide) (fun c2 => ?_) (fun c2 => ?_)
    · replace q22 := ifE c2 q22
      refine lv_iconst (v := 1) hx hb (dd_of dX12_send_0 14 rfl) (by decide) ?_
      refine lv_goto (tgt := 57) hx hb (dd_of dX12_send_0 15 rfl) (by decide) ?_
      exact K24 _ q22
    · replace q22 := ifN c2 q22
      refine lv_iload_n hx hb (dd_of dX12_send_0 6 rfl) rfl (lv_at hl 2 rfl) ?_
      refine lv_iconst (v := (-1)) hx hb (dd_of dX12_send_0 7 rfl) (by decide) ?_
      refine lv_aload_n hx hb (dd_of dX12_send_0 8 rfl) rfl (lv_at hl 0 rfl) ?_
      refine va_get (D := D) (cl := vwCl) (tys := jT yy) (ci := 12) (v := .int (F 32 0)) (C := RX12) (T := TX12) (N := 61) hx hb hts hin12 hown hK hP 0 rfl rfl 32 (by decide) (jw hts gw707) (fun _ h9 => h9) rfl (dd_of dX12_send_0 9 rfl) ?_
      refine lv_iconst (v := 1) hx hb (dd_of dX12_send_0 10 rfl) (by decide) ?_
      refine lv_isub hx hb (dd_of dX12_send_0 11 rfl) ?_
      refine jc_si (As := [.int p2, .int (-1), .int ((F 32 0) - 1)]) (rest := [.ref (A 99)]) ⟨hx, hb, hml, hown, hts⟩ (qX12_in l p2 (-1) ((F 32 0) - 1) ) (cwS 3 hts (jgS gw591 gw592 gw5 gw593) rfl rfl rfl (by decide +kernel) ⟨Nat.le_of_ble_eq_true rfl, Nat.le_of_ble_eq_true rfl⟩) rfl hl.1 rfl (Nat.le_of_ble_eq_true rfl) (dd_of dX12_send_0 12 rfl) ⟨Nat.zero_le _, Nat.zero_le _⟩ (fun x3 ex3 => ?_)
      replace q22 := bvE ex3 q22
      refine lv_if_ne (tgt := 28) hx hb (dd_of dX12_send_0 13 rfl) (by decide) (fun c4 => ?_) (fun c4 => ?_)
      · replace q22 := ifN c4 q22
        refine lv_iload_n hx hb (dd_of dX12_send_0 16 rfl) rfl (lv_at hl 3 rfl) ?_
        refine lv_iconst (v := 0) hx hb (dd_of dX12_send_0 17 rfl) (by decide) ?_
        refine lv_bipush (v := 99) hx hb (dd_of dX12_send_0 18 rfl) (by decide) ?_
        refine jc_si (As := [.int p3, .int 0, .int 99]) (rest := [.ref (A 99)]) ⟨hx, hb, hml, hown, hts⟩ (qX12_in l p3 0 99 ) (cwS 3 hts (jgS gw591 gw592 gw5 gw593) rfl rfl rfl (by decide +kernel) ⟨Nat.le_of_ble_eq_true rfl, Nat.le_of_ble_eq_true rfl⟩) rfl hl.1 rfl (Nat.le_of_ble_eq_true rfl) (dd_of dX12_send_0 19 rfl) ⟨Nat.zero_le _, Nat.zero_le _⟩ (fun x5 ex5 => ?_)
        replace q22 := bvE ex5 q22
        refine lv_if_ne (tgt := 42) hx hb (dd_of dX12_send_0 20 rfl) (by decide) (fun c6 => ?_) (fun c6 => ?_)
        · replace q22 := ifN c6 q22
          refine lv_aload_n hx hb (dd_of dX12_send_0 23 rfl) rfl (lv_at hl 0 rfl) ?_
          refine va_get (D := D) (cl := vwCl) (tys := jT yy) (ci := 12) (v := .long (G 2 0)) (C := RX12) (T := TX12) (N := 61) hx hb hts hin12 hown hK hP 0 rfl rfl 2 (by decide) (jw hts gw814) (fun _ h9 => h9) rfl (dd_of dX12_send_0 24 rfl) ?_
          refine lv_iload_n hx hb (dd_of dX12_send_0 25 rfl) rfl (lv_at hl 3 rfl) ?_
          refine lv_i2l (v := (Int32.toInt64 p3)) hx hb (dd_of dX12_send_0 26 rfl) rfl ?_
          refine jl_ge (tgt := 56) hx hb (dd_of dX12_send_0 27 rfl) (dd_of dX12_send_0 28 rfl) (by decide) (fun c7 => ?_) (fun c7 => ?_)
          · replace q22 := ifE c7 q22
            refine lv_iconst (v := 0) hx hb (dd_of dX12_send_0 31 rfl) (by decide) ?_
            exact K24 _ q22
          · replace q22 := ifN c7 q22
            refine lv_iconst (v := 3) hx hb (dd_of dX12_send_0 29 rfl) (by decide) ?_
            refine lv_goto (tgt := 57) hx hb (dd_of dX12_send_0 30 rfl) (by decide) ?_
            exact K24 _ q22
        · replace q22 := ifE c6 q22
          refine lv_iconst (v := 2) hx hb (dd_of dX12_send_0 21 rfl) (by decide) ?_
          refine lv_goto (tgt := 57) hx hb (dd_of dX12_send_0 22 rfl) (by decide) ?_
          exact K24 _ q22
      · replace q22 := ifE c4 q22
        refine lv_iconst (v := 1) hx hb (dd_of dX12_send_0 14 rfl) (by decide) ?_
        refine lv_goto (tgt := 57) hx hb (dd_of dX12_send_0 15 rfl) (by decide) ?_
        exact K24 _ q22
set_option maxHeartbeats 4000000 in
set_option maxRecDepth 100000 in
theorem qX12_budget (l : Launch) (D : va_G) (yy : Nat → ClassId) (A : Nat → Nat) (F : jF) (G : jG) (sz : Nat) (p1 : Int32) (p2 : Int32) : Met l yX12_budget (Cond.code yX12_budget cX12_budget 3 (some .int) :: wsL_law) rmX12_budget (va_Pc [.ref (A 99), .int p1, .int p2] (jP D yy (mW yy A F G) sz)) (va_Qi (fun r (u : jS) => (r, u) = gX12_budget F G p1 p2) (fun (u : jS) t => jB D yy (va_A (mW yy A F G) sz) (mW yy A u.1 u.2) t) (va_A (mW yy A F G) sz)) 0 0 (va_A (mW yy A F G) sz) := by
  generalize hres : gX12_budget F G p1 p2 = RES
  refine jM (own := RX12) (by decide) rfl (Nat.le_of_ble_eq_true rfl) ?_
  intro p e s m args below meth c ls Q hQ hargs S hr hlk hinit hB hl
  obtain ⟨hx, hb, hml, hown, hts⟩ := S
  have hl : lv_has ls 3 [(0, .ref (A 99)), (1, .int p1), (2, .int p2)] := hl
  have hin12 : ∀ w ∈ u_ws RX12 TX12 61, w ∈ (Cond.code yX12_budget cX12_budget 3 (some .int) :: wsL_law) := fun w h => List.mem_cons_of_mem _ (inlX12 w h)
  obtain ⟨hsz, hP, hK, hD0⟩ := hB
  subst hsz
  have hD := hD0.self (sz := s.heap.size)
  generalize hZ : va_A (mW yy A F G) s.heap.size = Z at hD hQ
  have hA : ∀ q : Nat, s.heap.size ≤ q → Z q := fun q h => by rw [← hZ]; exact Or.inr h
  obtain ⟨H, hH⟩ : ∃ z, z = s.heap := ⟨_, rfl⟩
  obtain ⟨locs, hlocs⟩ : ∃ z : List Loc, z = [] := ⟨_, rfl⟩
  have hS : va_S Z s.heap H locs := by rw [hH, hlocs]; exact va_S.rf
  rw [← hH] at hP
  suffices hgo : W p l e rmX12_budget s m args below meth c H locs 0 0 Q (F0 m 0 ls []) by rw [hH, hlocs] at hgo; exact hgo
  unfold gX12_budget at hres
  refine lv_aload_n hx hb (dd_of dX12_budget_0 0 rfl) rfl (lv_at hl 0 rfl) ?_
  refine lv_iload_n hx hb (dd_of dX12_budget_0 1 rfl) rfl (lv_at hl 1 rfl) ?_
  refine lv_iconst (v := 0) hx hb (dd_of dX12_budget_0 2 rfl) (by decide) ?_
  refine lv_sipush (v := 9999) hx hb (dd_of dX12_budget_0 3 rfl) (by decide) ?_
  refine jc_si (As := [.int p1, .int 0, .int 9999]) (rest := [.ref (A 99)]) ⟨hx, hb, hml, hown, hts⟩ (qX12_in l p1 0 9999 ) (cwS 3 hts (jgS gw591 gw592 gw5 gw593) rfl rfl rfl (by decide +kernel) ⟨Nat.le_of_ble_eq_true rfl, Nat.le_of_ble_eq_true rfl⟩) rfl hl.1 rfl (Nat.le_of_ble_eq_true rfl) (dd_of dX12_budget_0 4 rfl) ⟨Nat.zero_le _, Nat.zero_le _⟩ (fun x1 ex1 => ?_)
  replace hres := bvE ex1 hres
  obtain ⟨z14, q13⟩ : ∃ z : Int32, (if x1 = 0 then 1 else bv (gX12_in p2 0 9999) (fun x3 : Int32 => (if x3 = 0 then 1 else 0))) = z := ⟨_, rfl⟩
  refine jn_i (ls := ls) (v := z14) 28 [.ref (A 99)] (fun v5 ev5 => ?_) (fun K15 => ?_)
  · replace hres := bvE (ev5.trans q13.symm) hres
    refine va_put (D := D) (cl := vwCl) (tys := jT yy) (ci := 12) (v := .int v5) (ty := .int) (C := RX12) (T := TX12) (N := 61) hx hb hts hin12 tyX12 tyX12_ok nmX12 hown hK hP hD hS 0 rfl rfl 60 (by decide) (jw hts gw590) (fun _ h9 => h9) rfl (by decide +kernel) rfl rfl (Nat.le_of_ble_eq_true rfl) (dd_of dX12_budget_0 14 rfl) (fun H locs hP hD hS => ?_)
    obtain ⟨F6, e7⟩ : ∃ z : jF, z = u2 F 60 0 v5 := ⟨_, rfl⟩
    have hP : va_P D vwCl (mW yy A F6 G) H := by rw [e7]; exact hP
    have hD : va_D Z (mW yy A F6 G) := by rw [e7]; exact hD
    replace hres := bvE e7 hres
    refine lv_aload_n hx hb (dd_of dX12_budget_0 15 rfl) rfl (lv_at hl 0 rfl) ?_
    refine va_get (D := D) (cl := vwCl) (tys := jT yy) (ci := 12) (v := .int (F6 60 0)) (C := RX12) (T := TX12) (N := 61) hx hb hts hin12 hown hK hP 0 rfl rfl 60 (by decide) (jw hts gw590) (fun _ h9 => h9) rfl (dd_of dX12_budget_0 16 rfl) ?_
    refine lv_if_le (tgt := 40) hx hb (dd_of dX12_budget_0 17 rfl) (by decide) (fun c8 => ?_) (fun c8 => ?_)
    · replace hres := ifE c8 hres
      refine lv_aload_n hx hb (dd_of dX12_budget_0 20 rfl) rfl (lv_at hl 0 rfl) ?_
      refine lv_iload_n hx hb (dd_of dX12_budget_0 21 rfl) rfl (lv_at hl 1 rfl) ?_
      refine va_put (D := D) (cl := vwCl) (tys := jT yy) (ci := 12) (v := .int p1) (ty := .int) (C := RX12) (T := TX12) (N := 61) hx hb hts hin12 tyX12 tyX12_ok nmX12 hown hK hP hD hS 0 rfl rfl 3 (by decide) (jw hts gw859) (fun _ h9 => h9) rfl (by decide +kernel) rfl rfl (Nat.le_of_ble_eq_true rfl) (dd_of dX12_budget_0 22 rfl) (fun H locs hP hD hS => ?_)
      obtain ⟨F9, e10⟩ : ∃ z : jF, z = u2 F6 3 0 p1 := ⟨_, rfl⟩
      have hP : va_P D vwCl (mW yy A F9 G) H := by rw [e10]; exact hP
      have hD : va_D Z (mW yy A F9 G) := by rw [e10]; exact hD
      replace hres := bvE e10 hres
      refine lv_aload_n hx hb (dd_of dX12_budget_0 23 rfl) rfl (lv_at hl 0 rfl) ?_
      refine lv_dup hx hb (dd_of dX12_budget_0 24 rfl) rfl ?_
      refine va_get (D := D) (cl := vwCl) (tys := jT yy) (ci := 12) (v := .long (G 2 0)) (C := RX12) (T := TX12) (N := 61) hx hb hts hin12 hown hK hP 0 rfl rfl 2 (by decide) (jw hts gw814) (fun _ h9 => h9) rfl (dd_of dX12_budget_0 25 rfl) ?_
      refine lv_iload_n hx hb (dd_of dX12_budget_0 26 rfl) rfl (lv_at hl 2 rfl) ?_
      refine lv_i2l (v := (Int32.toInt64 p2)) hx hb (dd_of dX12_budget_0 27 rfl) rfl ?_
      refine lv_ladd hx hb (dd_of dX12_budget_0 28 rfl) ?_
      refine va_put (D := D) (cl := vwCl) (tys := jT yy) (ci := 12) (v := .long ((G 2 0) + (Int32.toInt64 p2))) (ty := .long) (C := RX12) (T := TX12) (N := 61) hx hb hts hin12 tyX12 tyX12_ok nmX12 hown hK hP hD hS 0 rfl rfl 2 (by decide) (jw hts gw814) (fun _ h9 => h9) rfl (by decide +kernel) rfl rfl (Nat.le_of_ble_eq_true rfl) (dd_of dX12_budget_0 29 rfl) (fun H locs hP hD hS => ?_)
      obtain ⟨G11, e12⟩ : ∃ z : jG, z = u2 G 2 0 ((G 2 0) + (Int32.toInt64 p2)) := ⟨_, rfl⟩
      have hP : va_P D vwCl (mW yy A F9 G11) H := by rw [e12]; exact hP
      have hD : va_D Z (mW yy A F9 G11) := by rw [e12]; exact hD
      replace hres := bvE e12 hres
      refine lv_aload_n hx hb (dd_of dX12_budget_0 30 rfl) rfl (lv_at hl 0 rfl) ?_
      refine va_get (D := D) (cl := vwCl) (tys := jT yy) (ci := 12) (v := .long (G11 2 0)) (C := RX12) (T := TX12) (N := 61) hx hb hts hin12 hown hK hP 0 rfl rfl 2 (by decide) (jw hts gw814) (fun _ h9 => h9) rfl (dd_of dX12_budget_0 31 rfl) ?_
      refine lv_l2i (v := (Int64.toInt32 (G11 2 0))) hx hb (dd_of dX12_budget_0 32 rfl) rfl ?_
      subst hQ
      exact W.iret (v := (Int64.toInt32 (G11 2 0))) hx hb hr (fun t ht hW => ⟨⟨(Int64.toInt32 (G11 2 0)), (F9, G11), rfl, hres, by rw [ht]; exact hP, va_K.moved hW.alike hK, hD⟩, hS.F ht⟩) hS.2.2 (dd_of dX12_budget_0 33 rfl) hlk
    · replace hres := ifN c8 hres
      refine lv_iconst (v := 0) hx hb (dd_of dX12_budget_0 18 rfl) (by decide) ?_
      subst hQ
      exact W.iret (v := 0) hx hb hr (fun t ht hW => ⟨⟨0, (F6, G), rfl, hres, by rw [ht]; exact hP, va_K.moved hW.alike hK, hD⟩, hS.F ht⟩) hS.2.2 (dd_of dX12_budget_0 19 rfl) hlk
  · skip
    refine lv_if_eq (tgt := 27) hx hb (dd_of dX12_budget_0 5 rfl) (by decide) (fun c2 => ?_) (fun c2 => ?_)
    · replace q13 := ifE c2 q13
      refine lv_iconst (v := 1) hx hb (dd_of dX12_budget_0 13 rfl) (by decide) ?_
      exact K15 _ q13
    · replace q13 := ifN c2 q13
      refine lv_iload_n hx hb (dd_of dX12_budget_0 6 rfl) rfl (lv_at hl 2 rfl) ?_
      refine lv_iconst (v := 0) hx hb (dd_of dX12_budget_0 7 rfl) (by decide) ?_
      refine lv_sipush (v := 9999) hx hb (dd_of dX12_budget_0 8 rfl) (by decide) ?_
      refine jc_si (As := [.int p2, .int 0, .int 9999]) (rest := [.ref (A 99)]) ⟨hx, hb, hml, hown, hts⟩ (qX12_in l p2 0 9999 ) (cwS 3 hts (jgS gw591 gw592 gw5 gw593) rfl rfl rfl (by decide +kernel) ⟨Nat.le_of_ble_eq_true rfl, Nat.le_of_ble_eq_true rfl⟩) rfl hl.1 rfl (Nat.le_of_ble_eq_true rfl) (dd_of dX12_budget_0 9 rfl) ⟨Nat.zero_le _, Nat.zero_le _⟩ (fun x3 ex3 => ?_)
      replace q13 := bvE ex3 q13
      refine lv_if_eq (tgt := 27) hx hb (dd_of dX12_budget_0 10 rfl) (by decide) (fun c4 => ?_) (fun c4 => ?_)
      · replace q13 := ifE c4 q13
        refine lv_iconst (v := 1) hx hb (dd_of dX12_budget_0 13 rfl) (by decide) ?_
        exact K15 _ q13
      · replace q13 := ifN c4 q13
        refine lv_iconst (v := 0) hx hb (dd_of dX12_budget_0 11 rfl) (by decide) ?_
        refine lv_goto (tgt := 28) hx hb (dd_of dX12_budget_0 12 rfl) (by decide) ?_
        exact K15 _ q13
set_option maxHeartbeats 4000000 in
set_option maxRecDepth 100000 in
theorem qX12_raise (l : Launch) (D : va_G) (yy : Nat → ClassId) (A : Nat → Nat) (F : jF) (G : jG) (sz : Nat) (p1 : Int32) (p2 : Int32) (p3 : Int32) (hok : okX12_raise F G p1 p2 p3) : Met l yX12_raise (Cond.code yX12_raise cX12_raise 4 (some .int) :: wsL_law) rmX12_raise (va_Pc [.ref (A 99), .int p1, .int p2, .int p3] (jP D yy (mW yy A F G) sz)) (va_Qi (fun r (u : jS) => (r, u) = gX12_raise F G p1 p2 p3) (fun (u : jS) t => jB D yy (va_A (mW yy A F G) sz) (mW yy A u.1 u.2) t) (va_A (mW yy A F G) sz)) 0 0 (va_A (mW yy A F G) sz) := by
  generalize hres : gX12_raise F G p1 p2 p3 = RES
  refine jM (own := RX12) (by decide) rfl (Nat.le_of_ble_eq_true rfl) ?_
  intro p e s m args below meth c ls Q hQ hargs S hr hlk hinit hB hl
  obtain ⟨hx, hb, hml, hown, hts⟩ := S
  have hl : lv_has ls 4 [(0, .ref (A 99)), (1, .int p1), (2, .int p2), (3, .int p3)] := hl
  have hin12 : ∀ w ∈ u_ws RX12 TX12 61, w ∈ (Cond.code yX12_raise cX12_raise 4 (some .int) :: wsL_law) := fun w h => List.mem_cons_of_mem _ (inlX12 w h)
  obtain ⟨hsz, hP, hK, hD0⟩ := hB
  subst hsz
  have hD := hD0.self (sz := s.heap.size)
  generalize hZ : va_A (mW yy A F G) s.heap.size = Z at hD hQ
  have hA : ∀ q : Nat, s.heap.size ≤ q → Z q := fun q h => by rw [← hZ]; exact Or.inr h
  obtain ⟨H, hH⟩ : ∃ z, z = s.heap := ⟨_, rfl⟩
  obtain ⟨locs, hlocs⟩ : ∃ z : List Loc, z = [] := ⟨_, rfl⟩
  have hS : va_S Z s.heap H locs := by rw [hH, hlocs]; exact va_S.rf
  rw [← hH] at hP
  suffices hgo : W p l e rmX12_raise s m args below meth c H locs 0 0 Q (F0 m 0 ls []) by rw [hH, hlocs] at hgo; exact hgo
  unfold gX12_raise at hres
  unfold okX12_raise at hok
  refine lv_aload_n hx hb (dd_of dX12_raise_0 0 rfl) rfl (lv_at hl 0 rfl) ?_
  refine lv_iload_n hx hb (dd_of dX12_raise_0 1 rfl) rfl (lv_at hl 1 rfl) ?_
  refine lv_iconst (v := 0) hx hb (dd_of dX12_raise_0 2 rfl) (by decide) ?_
  refine lv_aload_n hx hb (dd_of dX12_raise_0 3 rfl) rfl (lv_at hl 0 rfl) ?_
  refine va_get (D := D) (cl := vwCl) (tys := jT yy) (ci := 12) (v := .int (F 32 0)) (C := RX12) (T := TX12) (N := 61) hx hb hts hin12 hown hK hP 0 rfl rfl 32 (by decide) (jw hts gw707) (fun _ h9 => h9) rfl (dd_of dX12_raise_0 4 rfl) ?_
  refine lv_iconst (v := 1) hx hb (dd_of dX12_raise_0 5 rfl) (by decide) ?_
  refine lv_isub hx hb (dd_of dX12_raise_0 6 rfl) ?_
  refine jc_si (As := [.int p1, .int 0, .int ((F 32 0) - 1)]) (rest := [.ref (A 99)]) ⟨hx, hb, hml, hown, hts⟩ (qX12_in l p1 0 ((F 32 0) - 1) ) (cwS 3 hts (jgS gw591 gw592 gw5 gw593) rfl rfl rfl (by decide +kernel) ⟨Nat.le_of_ble_eq_true rfl, Nat.le_of_ble_eq_true rfl⟩) rfl hl.1 rfl (Nat.le_of_ble_eq_true rfl) (dd_of dX12_raise_0 7 rfl) ⟨Nat.zero_le _, Nat.zero_le _⟩ (fun x1 ex1 => ?_)
  replace hres := bvE ex1 hres
  replace hok := bvO ex1 hok
  obtain ⟨z27, q26⟩ : ∃ z : Int32, (if x1 = 0 then 1 else bv (gX12_in p2 1 99) (fun x3 : Int32 => (if x3 = 0 then 2 else bv (gX12_in p3 1 9) (fun x5 : Int32 => (if x5 = 0 then 2 else (if (G 2 0) < (10 * (Int32.toInt64 p2)) then 3 else (if (F 52 0) = 6 then 3 else 0))))))) = z := ⟨_, rfl⟩
  refine jn_i (ls := ls) (v := z27) 71 [.ref (A 99)] (fun v9 ev9 => ?_) (fun K28 => ?_)
  · replace hres := bvE (ev9.trans q26.symm) hres
    replace hok := bvO (ev9.trans q26.symm) hok
    refine va_put (D := D) (cl := vwCl) (tys := jT yy) (ci := 12) (v := .int v9) (ty := .int) (C := RX12) (T := TX12) (N := 61) hx hb hts hin12 tyX12 tyX12_ok nmX12 hown hK hP hD hS 0 rfl rfl 60 (by decide) (jw hts gw590) (fun _ h9 => h9) rfl (by decide +kernel) rfl rfl (Nat.le_of_ble_eq_true rfl) (dd_of dX12_raise_0 38 rfl) (fun H locs hP hD hS => ?_)
    obtain ⟨F10, e11⟩ : ∃ z : jF, z = u2 F 60 0 v9 := ⟨_, rfl⟩
    have hP : va_P D vwCl (mW yy A F10 G) H := by rw [e11]; exact hP
    have hD : va_D Z (mW yy A F10 G) := by rw [e11]; exact hD
    replace hres := bvE e11 hres
    replace hok := bvO e11 hok
    refine lv_aload_n hx hb (dd_of dX12_raise_0 39 rfl) rfl (lv_at hl 0 rfl) ?_
    refine va_get (D := D) (cl := vwCl) (tys := jT yy) (ci := 12) (v := .int (F10 60 0)) (C := RX12) (T := TX12) (N := 61) hx hb hts hin12 hown hK hP 0 rfl rfl 60 (by decide) (jw hts gw590) (fun _ h9 => h9) rfl (dd_of dX12_raise_1 0 rfl) ?_
    refine lv_if_le (tgt := 83) hx hb (dd_of dX12_raise_1 1 rfl) (by decide) (fun c12 => ?_) (fun c12 => ?_)
    · replace hres := ifE c12 hres
      replace hok := hok.1 c12
      refine lv_aload_n hx hb (dd_of dX12_raise_1 4 rfl) rfl (lv_at hl 0 rfl) ?_
      refine lv_dup hx hb (dd_of dX12_raise_1 5 rfl) rfl ?_
      refine va_get (D := D) (cl := vwCl) (tys := jT yy) (ci := 12) (v := .long (G 2 0)) (C := RX12) (T := TX12) (N := 61) hx hb hts hin12 hown hK hP 0 rfl rfl 2 (by decide) (jw hts gw814) (fun _ h9 => h9) rfl (dd_of dX12_raise_1 6 rfl) ?_
      refine lv_ldc2 (v := 10) hx hb hown (jw hts gw875) (dd_of dX12_raise_1 7 rfl) ?_
      refine lv_iload_n hx hb (dd_of dX12_raise_1 8 rfl) rfl (lv_at hl 2 rfl) ?_
      refine lv_i2l (v := (Int32.toInt64 p2)) hx hb (dd_of dX12_raise_1 9 rfl) rfl ?_
      refine lv_lmul hx hb (dd_of dX12_raise_1 10 rfl) ?_
      refine lv_lsub hx hb (dd_of dX12_raise_1 11 rfl) ?_
      refine va_put (D := D) (cl := vwCl) (tys := jT yy) (ci := 12) (v := .long ((G 2 0) - (10 * (Int32.toInt64 p2)))) (ty := .long) (C := RX12) (T := TX12) (N := 61) hx hb hts hin12 tyX12 tyX12_ok nmX12 hown hK hP hD hS 0 rfl rfl 2 (by decide) (jw hts gw814) (fun _ h9 => h9) rfl (by decide +kernel) rfl rfl (Nat.le_of_ble_eq_true rfl) (dd_of dX12_raise_1 12 rfl) (fun H locs hP hD hS => ?_)
      obtain ⟨G13, e14⟩ : ∃ z : jG, z = u2 G 2 0 ((G 2 0) - (10 * (Int32.toInt64 p2))) := ⟨_, rfl⟩
      have hP : va_P D vwCl (mW yy A F10 G13) H := by rw [e14]; exact hP
      have hD : va_D Z (mW yy A F10 G13) := by rw [e14]; exact hD
      replace hres := bvE e14 hres
      replace hok := bvO e14 hok
      refine lv_aload_n hx hb (dd_of dX12_raise_1 13 rfl) rfl (lv_at hl 0 rfl) ?_
      refine va_get (D := D) (cl := vwCl) (tys := jT yy) (ci := 12) (v := .ref (A 53)) (C := RX12) (T := TX12) (N := 61) hx hb hts hin12 hown hK hP 0 rfl rfl 53 (by decide) (jw hts gw163) (fun _ h9 => h9) rfl (dd_of dX12_raise_1 14 rfl) ?_
      refine lv_aload_n hx hb (dd_of dX12_raise_1 15 rfl) rfl (lv_at hl 0 rfl) ?_
      refine va_get (D := D) (cl := vwCl) (tys := jT yy) (ci := 12) (v := .int (F10 52 0)) (C := RX12) (T := TX12) (N := 61) hx hb hts hin12 hown hK hP 0 rfl rfl 52 (by decide) (jw hts gw876) (fun _ h9 => h9) rfl (dd_of dX12_raise_1 16 rfl) ?_
      refine lv_iload_n hx hb (dd_of dX12_raise_1 17 rfl) rfl (lv_at hl 1 rfl) ?_
      have h15 := hok.1
      replace hok := hok.2
      refine va_iast hx hb hK hP hD hS 39 0 rfl rfl h15 (dd_of dX12_raise_1 18 rfl) (fun H locs hP hD hS => ?_)
      obtain ⟨F16, e17⟩ : ∃ z : jF, z = u2 F10 53 (Int32.toNatClampNeg (F10 52 0)) p1 := ⟨_, rfl⟩
      have hP : va_P D vwCl (mW yy A F16 G13) H := by rw [e17]; exact hP
      have hD : va_D Z (mW yy A F16 G13) := by rw [e17]; exact hD
      replace hres := bvE e17 hres
      replace hok := bvO e17 hok
      refine lv_aload_n hx hb (dd_of dX12_raise_1 19 rfl) rfl (lv_at hl 0 rfl) ?_
      refine va_get (D := D) (cl := vwCl) (tys := jT yy) (ci := 12) (v := .ref (A 54)) (C := RX12) (T := TX12) (N := 61) hx hb hts hin12 hown hK hP 0 rfl rfl 54 (by decide) (jw hts gw164) (fun _ h9 => h9) rfl (dd_of dX12_raise_1 20 rfl) ?_
      refine lv_aload_n hx hb (dd_of dX12_raise_1 21 rfl) rfl (lv_at hl 0 rfl) ?_
      refine va_get (D := D) (cl := vwCl) (tys := jT yy) (ci := 12) (v := .int (F16 52 0)) (C := RX12) (T := TX12) (N := 61) hx hb hts hin12 hown hK hP 0 rfl rfl 52 (by decide) (jw hts gw876) (fun _ h9 => h9) rfl (dd_of dX12_raise_1 22 rfl) ?_
      refine lv_iload_n hx hb (dd_of dX12_raise_1 23 rfl) rfl (lv_at hl 2 rfl) ?_
      have h18 := hok.1
      replace hok := hok.2
      refine va_iast hx hb hK hP hD hS 40 0 rfl rfl h18 (dd_of dX12_raise_1 24 rfl) (fun H locs hP hD hS => ?_)
      obtain ⟨F19, e20⟩ : ∃ z : jF, z = u2 F16 54 (Int32.toNatClampNeg (F16 52 0)) p2 := ⟨_, rfl⟩
      have hP : va_P D vwCl (mW yy A F19 G13) H := by rw [e20]; exact hP
      have hD : va_D Z (mW yy A F19 G13) := by rw [e20]; exact hD
      replace hres := bvE e20 hres
      replace hok := bvO e20 hok
      refine lv_aload_n hx hb (dd_of dX12_raise_1 25 rfl) rfl (lv_at hl 0 rfl) ?_
      refine va_get (D := D) (cl := vwCl) (tys := jT yy) (ci := 12) (v := .ref (A 55)) (C := RX12) (T := TX12) (N := 61) hx hb hts hin12 hown hK hP 0 rfl rfl 55 (by decide) (jw hts gw165) (fun _ h9 => h9) rfl (dd_of dX12_raise_1 26 rfl) ?_
      refine lv_aload_n hx hb (dd_of dX12_raise_1 27 rfl) rfl (lv_at hl 0 rfl) ?_
      refine va_get (D := D) (cl := vwCl) (tys := jT yy) (ci := 12) (v := .int (F19 52 0)) (C := RX12) (T := TX12) (N := 61) hx hb hts hin12 hown hK hP 0 rfl rfl 52 (by decide) (jw hts gw876) (fun _ h9 => h9) rfl (dd_of dX12_raise_1 28 rfl) ?_
      refine lv_iload_n hx hb (dd_of dX12_raise_1 29 rfl) rfl (lv_at hl 3 rfl) ?_
      have h21 := hok
      refine va_iast hx hb hK hP hD hS 41 0 rfl rfl h21 (dd_of dX12_raise_1 30 rfl) (fun H locs hP hD hS => ?_)
      obtain ⟨F22, e23⟩ : ∃ z : jF, z = u2 F19 55 (Int32.toNatClampNeg (F19 52 0)) p3 := ⟨_, rfl⟩
      have hP : va_P D vwCl (mW yy A F22 G13) H := by rw [e23]; exact hP
      have hD : va_D Z (mW yy A F22 G13) := by rw [e23]; exact hD
      replace hres := bvE e23 hres
      refine lv_aload_n hx hb (dd_of dX12_raise_1 31 rfl) rfl (lv_at hl 0 rfl) ?_
      refine lv_dup hx hb (dd_of dX12_raise_1 32 rfl) rfl ?_
      refine va_get (D := D) (cl := vwCl) (tys := jT yy) (ci := 12) (v := .int (F22 52 0)) (C := RX12) (T := TX12) (N := 61) hx hb hts hin12 hown hK hP 0 rfl rfl 52 (by decide) (jw hts gw876) (fun _ h9 => h9) rfl (dd_of dX12_raise_1 33 rfl) ?_
      refine lv_iconst (v := 1) hx hb (dd_of dX12_raise_1 34 rfl) (by decide) ?_
      refine lv_iadd hx hb (dd_of dX12_raise_1 35 rfl) ?_
      refine va_put (D := D) (cl := vwCl) (tys := jT yy) (ci := 12) (v := .int ((F22 52 0) + 1)) (ty := .int) (C := RX12) (T := TX12) (N := 61) hx hb hts hin12 tyX12 tyX12_ok nmX12 hown hK hP hD hS 0 rfl rfl 52 (by decide) (jw hts gw876) (fun _ h9 => h9) rfl (by decide +kernel) rfl rfl (Nat.le_of_ble_eq_true rfl) (dd_of dX12_raise_1 36 rfl) (fun H locs hP hD hS => ?_)
      obtain ⟨F24, e25⟩ : ∃ z : jF, z = u2 F22 52 0 ((F22 52 0) + 1) := ⟨_, rfl⟩
      have hP : va_P D vwCl (mW yy A F24 G13) H := by rw [e25]; exact hP
      have hD : va_D Z (mW yy A F24 G13) := by rw [e25]; exact hD
      replace hres := bvE e25 hres
      refine lv_aload_n hx hb (dd_of dX12_raise_1 37 rfl) rfl (lv_at hl 0 rfl) ?_
      refine va_get (D := D) (cl := vwCl) (tys := jT yy) (ci := 12) (v := .long (G13 2 0)) (C := RX12) (T := TX12) (N := 61) hx hb hts hin12 hown hK hP 0 rfl rfl 2 (by decide) (jw hts gw814) (fun _ h9 => h9) rfl (dd_of dX12_raise_1 38 rfl) ?_
      refine lv_l2i (v := (Int64.toInt32 (G13 2 0))) hx hb (dd_of dX12_raise_1 39 rfl) rfl ?_
      subst hQ
      exact W.iret (v := (Int64.toInt32 (G13 2 0))) hx hb hr (fun t ht hW => ⟨⟨(Int64.toInt32 (G13 2 0)), (F24, G13), rfl, hres, by rw [ht]; exact hP, va_K.moved hW.alike hK, hD⟩, hS.F ht⟩) hS.2.2 (dd_of dX12_raise_2 0 rfl) hlk
    · replace hres := ifN c12 hres
      refine lv_iconst (v := 0) hx hb (dd_of dX12_raise_1 2 rfl) (by decide) ?_
      subst hQ
      exact W.iret (v := 0) hx hb hr (fun t ht hW => ⟨⟨0, (F10, G), rfl, hres, by rw [ht]; exact hP, va_K.moved hW.alike hK, hD⟩, hS.F ht⟩) hS.2.2 (dd_of dX12_raise_1 3 rfl) hlk
  · skip
    refine lv_if_ne (tgt := 19) hx hb (dd_of dX12_raise_0 8 rfl) (by decide) (fun c2 => ?_) (fun c2 => ?_)
    · replace q26 := ifN c2 q26
      refine lv_iload_n hx hb (dd_of dX12_raise_0 11 rfl) rfl (lv_at hl 2 rfl) ?_
      refine lv_iconst (v := 1) hx hb (dd_of dX12_raise_0 12 rfl) (by decide) ?_
      refine lv_bipush (v := 99) hx hb (dd_of dX12_raise_0 13 rfl) (by decide) ?_
      refine jc_si (As := [.int p2, .int 1, .int 99]) (rest := [.ref (A 99)]) ⟨hx, hb, hml, hown, hts⟩ (qX12_in l p2 1 99 ) (cwS 3 hts (jgS gw591 gw592 gw5 gw593) rfl rfl rfl (by decide +kernel) ⟨Nat.le_of_ble_eq_true rfl, Nat.le_of_ble_eq_true rfl⟩) rfl hl.1 rfl (Nat.le_of_ble_eq_true rfl) (dd_of dX12_raise_0 14 rfl) ⟨Nat.zero_le _, Nat.zero_le _⟩ (fun x3 ex3 => ?_)
      replace q26 := bvE ex3 q26
      refine lv_if_eq (tgt := 39) hx hb (dd_of dX12_raise_0 15 rfl) (by decide) (fun c4 => ?_) (fun c4 => ?_)
      · replace q26 := ifE c4 q26
        refine lv_iconst (v := 2) hx hb (dd_of dX12_raise_0 21 rfl) (by decide) ?_
        refine lv_goto (tgt := 71) hx hb (dd_of dX12_raise_0 22 rfl) (by decide) ?_
        exact K28 _ q26
      · replace q26 := ifN c4 q26
        refine lv_iload_n hx hb (dd_of dX12_raise_0 16 rfl) rfl (lv_at hl 3 rfl) ?_
        refine lv_iconst (v := 1) hx hb (dd_of dX12_raise_0 17 rfl) (by decide) ?_
        refine lv_bipush (v := 9) hx hb (dd_of dX12_raise_0 18 rfl) (by decide) ?_
        refine jc_si (As := [.int p3, .int 1, .int 9]) (rest := [.ref (A 99)]) ⟨hx, hb, hml, hown, hts⟩ (qX12_in l p3 1 9 ) (cwS 3 hts (jgS gw591 gw592 gw5 gw593) rfl rfl rfl (by decide +kernel) ⟨Nat.le_of_ble_eq_true rfl, Nat.le_of_ble_eq_true rfl⟩) rfl hl.1 rfl (Nat.le_of_ble_eq_true rfl) (dd_of dX12_raise_0 19 rfl) ⟨Nat.zero_le _, Nat.zero_le _⟩ (fun x5 ex5 => ?_)
        replace q26 := bvE ex5 q26
        refine lv_if_ne (tgt := 43) hx hb (dd_of dX12_raise_0 20 rfl) (by decide) (fun c6 => ?_) (fun c6 => ?_)
        · replace q26 := ifN c6 q26
          refine lv_aload_n hx hb (dd_of dX12_raise_0 23 rfl) rfl (lv_at hl 0 rfl) ?_
          refine va_get (D := D) (cl := vwCl) (tys := jT yy) (ci := 12) (v := .long (G 2 0)) (C := RX12) (T := TX12) (N := 61) hx hb hts hin12 hown hK hP 0 rfl rfl 2 (by decide) (jw hts gw814) (fun _ h9 => h9) rfl (dd_of dX12_raise_0 24 rfl) ?_
          refine lv_ldc2 (v := 10) hx hb hown (jw hts gw875) (dd_of dX12_raise_0 25 rfl) ?_
          refine lv_iload_n hx hb (dd_of dX12_raise_0 26 rfl) rfl (lv_at hl 2 rfl) ?_
          refine lv_i2l (v := (Int32.toInt64 p2)) hx hb (dd_of dX12_raise_0 27 rfl) rfl ?_
          refine lv_lmul hx hb (dd_of dX12_raise_0 28 rfl) ?_
          refine jl_lt (tgt := 66) hx hb (dd_of dX12_raise_0 29 rfl) (dd_of dX12_raise_0 30 rfl) (by decide) (fun c7 => ?_) (fun c7 => ?_)
          · replace q26 := ifE c7 q26
            refine lv_iconst (v := 3) hx hb (dd_of dX12_raise_0 35 rfl) (by decide) ?_
            refine lv_goto (tgt := 71) hx hb (dd_of dX12_raise_0 36 rfl) (by decide) ?_
            exact K28 _ q26
          · replace q26 := ifN c7 q26
            refine lv_aload_n hx hb (dd_of dX12_raise_0 31 rfl) rfl (lv_at hl 0 rfl) ?_
            refine va_get (D := D) (cl := vwCl) (tys := jT yy) (ci := 12) (v := .int (F 52 0)) (C := RX12) (T := TX12) (N := 61) hx hb hts hin12 hown hK hP 0 rfl rfl 52 (by decide) (jw hts gw876) (fun _ h9 => h9) rfl (dd_of dX12_raise_0 32 rfl) ?_
            refine lv_bipush (v := 6) hx hb (dd_of dX12_raise_0 33 rfl) (by decide) ?_
            refine lv_icmp_ne (tgt := 70) hx hb (dd_of dX12_raise_0 34 rfl) (by decide) (fun c8 => ?_) (fun c8 => ?_)
            · replace q26 := ifN c8 q26
              refine lv_iconst (v := 0) hx hb (dd_of dX12_raise_0 37 rfl) (by decide) ?_
              exact K28 _ q26
            · replace q26 := ifE c8 q26
              refine lv_iconst (v := 3) hx hb (dd_of dX12_raise_0 35 rfl) (by decide) ?_
              refine lv_goto (tgt := 71) hx hb (dd_of dX12_raise_0 36 rfl) (by decide) ?_
              exact K28 _ q26
        · replace q26 := ifE c6 q26
          refine lv_iconst (v := 2) hx hb (dd_of dX12_raise_0 21 rfl) (by decide) ?_
          refine lv_goto (tgt := 71) hx hb (dd_of dX12_raise_0 22 rfl) (by decide) ?_
          exact K28 _ q26
    · replace q26 := ifE c2 q26
      refine lv_iconst (v := 1) hx hb (dd_of dX12_raise_0 9 rfl) (by decide) ?_
      refine lv_goto (tgt := 71) hx hb (dd_of dX12_raise_0 10 rfl) (by decide) ?_
      exact K28 _ q26
set_option maxHeartbeats 4000000 in
set_option maxRecDepth 100000 in
theorem qX12_rains (l : Launch) (D : va_G) (yy : Nat → ClassId) (A : Nat → Nat) (F : jF) (G : jG) (sz : Nat)  (hok : okX12_rains F G ) : Met l yX12_rains (Cond.code yX12_rains cX12_rains 2 none :: wsL_law) rmX12_rains (va_Pc [.ref (A 99)] (jP D yy (mW yy A F G) sz)) (va_Qv (fun u : jS => u = gX12_rains F G ) (fun (u : jS) t => jB D yy (va_A (mW yy A F G) sz) (mW yy A u.1 u.2) t) (va_A (mW yy A F G) sz)) 0 0 (va_A (mW yy A F G) sz) := by
  generalize hres : gX12_rains F G  = RES
  refine jM (own := RX12) (by decide) rfl (Nat.le_of_ble_eq_true rfl) ?_
  intro p e s m args below meth c ls Q hQ hargs S hr hlk hinit hB hl
  obtain ⟨hx, hb, hml, hown, hts⟩ := S
  have hl : lv_has ls 2 [(0, .ref (A 99))] := hl
  have hin12 : ∀ w ∈ u_ws RX12 TX12 61, w ∈ (Cond.code yX12_rains cX12_rains 2 none :: wsL_law) := fun w h => List.mem_cons_of_mem _ (inlX12 w h)
  obtain ⟨hsz, hP, hK, hD0⟩ := hB
  subst hsz
  have hD := hD0.self (sz := s.heap.size)
  generalize hZ : va_A (mW yy A F G) s.heap.size = Z at hD hQ
  have hA : ∀ q : Nat, s.heap.size ≤ q → Z q := fun q h => by rw [← hZ]; exact Or.inr h
  obtain ⟨H, hH⟩ : ∃ z, z = s.heap := ⟨_, rfl⟩
  obtain ⟨locs, hlocs⟩ : ∃ z : List Loc, z = [] := ⟨_, rfl⟩
  have hS : va_S Z s.heap H locs := by rw [hH, hlocs]; exact va_S.rf
  rw [← hH] at hP
  suffices hgo : W p l e rmX12_rains s m args below meth c H locs 0 0 Q (F0 m 0 ls []) by rw [hH, hlocs] at hgo; exact hgo
  unfold gX12_rains at hres
  unfold okX12_rains at hok
  refine lv_iconst (v := 0) hx hb (dd_of dX12_rains_0 0 rfl) (by decide) ?_
  refine lv_istore_n (lv' := [(1, .int 0), (0, .ref (A 99))]) hx hb (dd_of dX12_rains_0 1 rfl) rfl hl (by decide) rfl (fun ls hl => ?_)
  have LP2 : ∀ (K : Int32 → jF → jG → jS) (okK : Int32 → jF → jG → Prop) (n : Nat), ∀ (v1 : Int32) (F : jF) (G : jG), ∀ (H : Heap) (locs : List Loc) (ls : Array Slot), va_P D vwCl (mW yy A F G) H → va_D Z (mW yy A F G) → va_S Z s.heap H locs → lv_has ls 2 [(1, .int v1), (0, .ref (A 99))] → okX12_rains_L2  okK n v1 F G → gX12_rains_L2  K n v1 F G = RES → (∀ (v1 : Int32) (F : jF) (G : jG), ∀ (H : Heap) (locs : List Loc) (ls : Array Slot), va_P D vwCl (mW yy A F G) H → va_D Z (mW yy A F G) → va_S Z s.heap H locs → lv_has ls 2 [(1, .int v1), (0, .ref (A 99))] → okK v1 F G → K v1 F G = RES → W p l e rmX12_rains s m args below meth c H locs 0 0 Q (F0 m 79 ls [])) → W p l e rmX12_rains s m args below meth c H locs 0 0 Q (F0 m 2 ls []) := by
    intro  K okK n
    induction n with
    | zero =>
      intro v1 F G H locs ls hP hD hS hl hok _ _
      exact absurd hok (by unfold okX12_rains_L2; exact id)
    | succ n9 ih =>
      intro v1 F G H locs ls hP hD hS hl hok hres hexit
      unfold gX12_rains_L2 at hres
      unfold okX12_rains_L2 at hok
      refine lv_iload_n hx hb (dd_of dX12_rains_0 2 rfl) rfl (lv_at hl 0 rfl) ?_
      refine lv_aload_n hx hb (dd_of dX12_rains_0 3 rfl) rfl (lv_at hl 1 rfl) ?_
      refine va_get (D := D) (cl := vwCl) (tys := jT yy) (ci := 12) (v := .int (F 44 0)) (C := RX12) (T := TX12) (N := 61) hx hb hts hin12 hown hK hP 0 rfl rfl 44 (by decide) (jw hts gw749) (fun _ h9 => h9) rfl (dd_of dX12_rains_0 4 rfl) ?_
      refine lv_icmp_ge (tgt := 79) hx hb (dd_of dX12_rains_0 5 rfl) (by decide) (fun c1 => ?_) (fun c1 => ?_)
      · replace hres := ifE c1 hres
        replace hok := hok.1 c1
        exact hexit v1 F G H locs ls hP hD hS (lv_sub hl [0, 1] rfl) hok hres
      · replace hres := ifN c1 hres
        replace hok := hok.2 c1
        refine lv_aload_n hx hb (dd_of dX12_rains_0 6 rfl) rfl (lv_at hl 1 rfl) ?_
        refine va_get (D := D) (cl := vwCl) (tys := jT yy) (ci := 12) (v := .int (F 0 0)) (C := RX12) (T := TX12) (N := 61) hx hb hts hin12 hown hK hP 0 rfl rfl 0 (by decide) (jw hts gw785) (fun _ h9 => h9) rfl (dd_of dX12_rains_0 7 rfl) ?_
        refine lv_aload_n hx hb (dd_of dX12_rains_0 8 rfl) rfl (lv_at hl 1 rfl) ?_
        refine va_get (D := D) (cl := vwCl) (tys := jT yy) (ci := 12) (v := .ref (A 46)) (C := RX12) (T := TX12) (N := 61) hx hb hts hin12 hown hK hP 0 rfl rfl 46 (by decide) (jw hts gw157) (fun _ h9 => h9) rfl (dd_of dX12_rains_0 9 rfl) ?_
        refine lv_iload_n hx hb (dd_of dX12_rains_0 10 rfl) rfl (lv_at hl 0 rfl) ?_
        have h2 := hok.1
        replace hok := hok.2
        refine va_iald hx hb hK hP 33 0 rfl rfl h2 (dd_of dX12_rains_0 11 rfl) ?_
        refine lv_isub hx hb (dd_of dX12_rains_0 12 rfl) ?_
        refine lv_iconst (v := 0) hx hb (dd_of dX12_rains_0 13 rfl) (by decide) ?_
        refine lv_aload_n hx hb (dd_of dX12_rains_0 14 rfl) rfl (lv_at hl 1 rfl) ?_
        refine va_get (D := D) (cl := vwCl) (tys := jT yy) (ci := 12) (v := .ref (A 47)) (C := RX12) (T := TX12) (N := 61) hx hb hts hin12 hown hK hP 0 rfl rfl 47 (by decide) (jw hts gw158) (fun _ h9 => h9) rfl (dd_of dX12_rains_0 15 rfl) ?_
        refine lv_iload_n hx hb (dd_of dX12_rains_0 16 rfl) rfl (lv_at hl 0 rfl) ?_
        have h3 := hok.1
        replace hok := hok.2
        refine va_iald hx hb hK hP 34 0 rfl rfl h3 (dd_of dX12_rains_0 17 rfl) ?_
        refine lv_iconst (v := 1) hx hb (dd_of dX12_rains_0 18 rfl) (by decide) ?_
        refine lv_isub hx hb (dd_of dX12_rains_0 19 rfl) ?_
        refine jc_si (As := [.int ((F 0 0) - (F 46 (Int32.toNatClampNeg v1))), .int 0, .int ((F 47 (Int32.toNatClampNeg v1)) - 1)]) (rest := []) ⟨hx, hb, hml, hown, hts⟩ (qX12_in l ((F 0 0) - (F 46 (Int32.toNatClampNeg v1))) 0 ((F 47 (Int32.toNatClampNeg v1)) - 1) ) (cwS 3 hts (jgS gw591 gw592 gw5 gw593) rfl rfl rfl (by decide +kernel) ⟨Nat.le_of_ble_eq_true rfl, Nat.le_of_ble_eq_true rfl⟩) rfl hl.1 rfl (Nat.le_of_ble_eq_true rfl) (dd_of dX12_rains_0 20 rfl) ⟨Nat.zero_le _, Nat.zero_le _⟩ (fun x4 ex4 => ?_)
        replace hres := bvE ex4 hres
        replace hok := bvO ex4 hok
        refine lv_if_eq (tgt := 73) hx hb (dd_of dX12_rains_0 21 rfl) (by decide) (fun c5 => ?_) (fun c5 => ?_)
        · replace hres := ifE c5 hres
          replace hok := hok.1 c5
          refine lv_iinc (v := (v1 + 1)) (lv' := [(1, .int (v1 + 1)), (0, .ref (A 99))]) hx hb (dd_of dX12_rains_1 9 rfl) hl (k := 0) rfl rfl (by decide) rfl (fun ls hl => ?_)
          refine lv_goto (tgt := 2) hx hb (dd_of dX12_rains_1 10 rfl) (by decide) ?_
          exact ih (v1 + 1) F G H locs ls hP hD hS (lv_sub hl [0, 1] rfl) hok hres hexit
        · replace hres := ifN c5 hres
          replace hok := hok.2 c5
          refine lv_aload_n hx hb (dd_of dX12_rains_0 22 rfl) rfl (lv_at hl 1 rfl) ?_
          refine va_get (D := D) (cl := vwCl) (tys := jT yy) (ci := 12) (v := .ref (A 14)) (C := RX12) (T := TX12) (N := 61) hx hb hts hin12 hown hK hP 0 rfl rfl 14 (by decide) (jw hts gw130) (fun _ h9 => h9) rfl (dd_of dX12_rains_0 23 rfl) ?_
          refine lv_aload_n hx hb (dd_of dX12_rains_0 24 rfl) rfl (lv_at hl 1 rfl) ?_
          refine va_get (D := D) (cl := vwCl) (tys := jT yy) (ci := 12) (v := .ref (A 45)) (C := RX12) (T := TX12) (N := 61) hx hb hts hin12 hown hK hP 0 rfl rfl 45 (by decide) (jw hts gw156) (fun _ h9 => h9) rfl (dd_of dX12_rains_0 25 rfl) ?_
          refine lv_iload_n hx hb (dd_of dX12_rains_0 26 rfl) rfl (lv_at hl 0 rfl) ?_
          have h6 := hok.1
          replace hok := hok.2
          refine va_iald hx hb hK hP 32 0 rfl rfl h6 (dd_of dX12_rains_0 27 rfl) ?_
          refine lv_dup2_11 hx hb (dd_of dX12_rains_0 28 rfl) rfl rfl ?_
          have h7 := hok.1
          replace hok := hok.2
          refine va_lald hx hb hK hP 6 1 rfl rfl h7 (dd_of dX12_rains_0 29 rfl) ?_
          refine lv_aload_n hx hb (dd_of dX12_rains_0 30 rfl) rfl (lv_at hl 1 rfl) ?_
          refine va_get (D := D) (cl := vwCl) (tys := jT yy) (ci := 12) (v := .ref (A 48)) (C := RX12) (T := TX12) (N := 61) hx hb hts hin12 hown hK hP 0 rfl rfl 48 (by decide) (jw hts gw159) (fun _ h9 => h9) rfl (dd_of dX12_rains_0 31 rfl) ?_
          refine lv_iload_n hx hb (dd_of dX12_rains_0 32 rfl) rfl (lv_at hl 0 rfl) ?_
          have h8 := hok.1
          replace hok := hok.2
          refine va_iald hx hb hK hP 35 0 rfl rfl h8 (dd_of dX12_rains_0 33 rfl) ?_
          refine lv_i2l (v := (Int32.toInt64 (F 48 (Int32.toNatClampNeg v1)))) hx hb (dd_of dX12_rains_0 34 rfl) rfl ?_
          refine lv_ladd hx hb (dd_of dX12_rains_0 35 rfl) ?_
          have h9 := hok.1
          replace hok := hok.2
          refine va_last hx hb hK hP hD hS 6 1 rfl rfl h9 (dd_of dX12_rains_0 36 rfl) (fun H locs hP hD hS => ?_)
          obtain ⟨G10, e11⟩ : ∃ z : jG, z = u2 G 14 (Int32.toNatClampNeg (F 45 (Int32.toNatClampNeg v1))) ((G 14 (Int32.toNatClampNeg (F 45 (Int32.toNatClampNeg v1)))) + (Int32.toInt64 (F 48 (Int32.toNatClampNeg v1)))) := ⟨_, rfl⟩
          have hP : va_P D vwCl (mW yy A F G10) H := by rw [e11]; exact hP
          have hD : va_D Z (mW yy A F G10) := by rw [e11]; exact hD
          replace hres := bvE e11 hres
          replace hok := bvO e11 hok
          refine lv_aload_n hx hb (dd_of dX12_rains_0 37 rfl) rfl (lv_at hl 1 rfl) ?_
          refine va_get (D := D) (cl := vwCl) (tys := jT yy) (ci := 12) (v := .ref (A 56)) (C := RX12) (T := TX12) (N := 61) hx hb hts hin12 hown hK hP 0 rfl rfl 56 (by decide) (jw hts gw166) (fun _ h9 => h9) rfl (dd_of dX12_rains_0 38 rfl) ?_
          refine lv_iconst (v := 1) hx hb (dd_of dX12_rains_0 39 rfl) (by decide) ?_
          refine lv_dup2_11 hx hb (dd_of dX12_rains_1 0 rfl) rfl rfl ?_
          refine va_lald hx hb hK hP 42 1 rfl rfl (vin_lit (by decide)) (dd_of dX12_rains_1 1 rfl) ?_
          refine lv_aload_n hx hb (dd_of dX12_rains_1 2 rfl) rfl (lv_at hl 1 rfl) ?_
          refine va_get (D := D) (cl := vwCl) (tys := jT yy) (ci := 12) (v := .ref (A 48)) (C := RX12) (T := TX12) (N := 61) hx hb hts hin12 hown hK hP 0 rfl rfl 48 (by decide) (jw hts gw159) (fun _ h9 => h9) rfl (dd_of dX12_rains_1 3 rfl) ?_
          refine lv_iload_n hx hb (dd_of dX12_rains_1 4 rfl) rfl (lv_at hl 0 rfl) ?_
          have h12 := hok.1
          replace hok := hok.2
          refine va_iald hx hb hK hP 35 0 rfl rfl h12 (dd_of dX12_rains_1 5 rfl) ?_
          refine lv_i2l (v := (Int32.toInt64 (F 48 (Int32.toNatClampNeg v1)))) hx hb (dd_of dX12_rains_1 6 rfl) rfl ?_
          refine lv_ladd hx hb (dd_of dX12_rains_1 7 rfl) ?_
          refine va_last hx hb hK hP hD hS 42 1 rfl rfl (vin_lit (by decide)) (dd_of dX12_rains_1 8 rfl) (fun H locs hP hD hS => ?_)
          obtain ⟨G13, e14⟩ : ∃ z : jG, z = u2 G10 56 (Int32.toNatClampNeg 1) ((G10 56 (Int32.toNatClampNeg 1)) + (Int32.toInt64 (F 48 (Int32.toNatClampNeg v1)))) := ⟨_, rfl⟩
          have hP : va_P D vwCl (mW yy A F G13) H := by rw [e14]; exact hP
          have hD : va_D Z (mW yy A F G13) := by rw [e14]; exact hD
          replace hres := bvE e14 hres
          replace hok := bvO e14 hok
          refine lv_iinc (v := (v1 + 1)) (lv' := [(1, .int (v1 + 1)), (0, .ref (A 99))]) hx hb (dd_of dX12_rains_1 9 rfl) hl (k := 0) rfl rfl (by decide) rfl (fun ls hl => ?_)
          refine lv_goto (tgt := 2) hx hb (dd_of dX12_rains_1 10 rfl) (by decide) ?_
          exact ih (v1 + 1) F G13 H locs ls hP hD hS (lv_sub hl [0, 1] rfl) hok hres hexit
  refine LP2  _ _ 80 0 F G H locs ls hP hD hS (lv_sub hl [0, 1] rfl) hok hres (fun y15 F16 G17 H locs ls hP hD hS hl hok hres => ?_)
  subst hQ
  exact W.vret hx hb hr (fun t ht hW => ⟨⟨(F16, G17), rfl, hres, by rw [ht]; exact hP, va_K.moved hW.alike hK, hD⟩, hS.F ht⟩) hS.2.2 (dd_of dX12_rains_1 11 rfl) hlk
set_option maxHeartbeats 4000000 in
set_option maxRecDepth 100000 in
theorem qX12_pumps (l : Launch) (D : va_G) (yy : Nat → ClassId) (A : Nat → Nat) (F : jF) (G : jG) (sz : Nat) (p1 : Int32) (hok : okX12_pumps F G p1) : Met l yX12_pumps (Cond.code yX12_pumps cX12_pumps 5 none :: wsL_law) rmX12_pumps (va_Pc [.ref (A 99), .int p1] (jP D yy (mW yy A F G) sz)) (va_Qv (fun u : jS => u = gX12_pumps F G p1) (fun (u : jS) t => jB D yy (va_A (mW yy A F G) sz) (mW yy A u.1 u.2) t) (va_A (mW yy A F G) sz)) 0 0 (va_A (mW yy A F G) sz) := by
  generalize hres : gX12_pumps F G p1 = RES
  refine jM (own := RX12) (by decide) rfl (Nat.le_of_ble_eq_true rfl) ?_
  intro p e s m args below meth c ls Q hQ hargs S hr hlk hinit hB hl
  obtain ⟨hx, hb, hml, hown, hts⟩ := S
  have hl : lv_has ls 5 [(0, .ref (A 99)), (1, .int p1)] := hl
  have hin12 : ∀ w ∈ u_ws RX12 TX12 61, w ∈ (Cond.code yX12_pumps cX12_pumps 5 none :: wsL_law) := fun w h => List.mem_cons_of_mem _ (inlX12 w h)
  obtain ⟨hsz, hP, hK, hD0⟩ := hB
  subst hsz
  have hD := hD0.self (sz := s.heap.size)
  generalize hZ : va_A (mW yy A F G) s.heap.size = Z at hD hQ
  have hA : ∀ q : Nat, s.heap.size ≤ q → Z q := fun q h => by rw [← hZ]; exact Or.inr h
  obtain ⟨H, hH⟩ : ∃ z, z = s.heap := ⟨_, rfl⟩
  obtain ⟨locs, hlocs⟩ : ∃ z : List Loc, z = [] := ⟨_, rfl⟩
  have hS : va_S Z s.heap H locs := by rw [hH, hlocs]; exact va_S.rf
  rw [← hH] at hP
  suffices hgo : W p l e rmX12_pumps s m args below meth c H locs 0 0 Q (F0 m 0 ls []) by rw [hH, hlocs] at hgo; exact hgo
  unfold gX12_pumps at hres
  unfold okX12_pumps at hok
  refine lv_aload_n hx hb (dd_of dX12_pumps_0 0 rfl) rfl (lv_at hl 0 rfl) ?_
  refine va_get (D := D) (cl := vwCl) (tys := jT yy) (ci := 12) (v := .ref (A 29)) (C := RX12) (T := TX12) (N := 61) hx hb hts hin12 hown hK hP 0 rfl rfl 29 (by decide) (jw hts gw143) (fun _ h9 => h9) rfl (dd_of dX12_pumps_0 1 rfl) ?_
  refine lv_iload_n hx hb (dd_of dX12_pumps_0 2 rfl) rfl (lv_at hl 1 rfl) ?_
  have h1 := hok.1
  replace hok := hok.2
  refine va_iald hx hb hK hP 19 0 rfl rfl h1 (dd_of dX12_pumps_0 3 rfl) ?_
  refine lv_iconst (v := 1) hx hb (dd_of dX12_pumps_0 4 rfl) (by decide) ?_
  obtain ⟨z44, q43⟩ : ∃ z : Int32, (if (F 29 (Int32.toNatClampNeg p1)) = 1 then (if (F 30 (Int32.toNatClampNeg p1)) ≤ 0 then 0 else (if (F 28 (Int32.toNatClampNeg p1)) ≤ (F 31 (Int32.toNatClampNeg p1)) then 0 else 1)) else 0) = z := ⟨_, rfl⟩
  have o46 := hok.1
  replace hok := hok.2
  refine jn_i (ls := ls) (v := z44) 39 [] (fun v8 ev8 => ?_) (fun K45 => ?_)
  · replace hres := bvE (ev8.trans q43.symm) hres
    replace hok := bvO (ev8.trans q43.symm) hok
    refine lv_istore_n (lv' := [(2, .int v8), (0, .ref (A 99)), (1, .int p1)]) hx hb (dd_of dX12_pumps_0 23 rfl) rfl hl (by decide) rfl (fun ls hl => ?_)
    refine lv_aload_n hx hb (dd_of dX12_pumps_0 24 rfl) rfl (lv_at hl 1 rfl) ?_
    refine va_get (D := D) (cl := vwCl) (tys := jT yy) (ci := 12) (v := .ref (A 24)) (C := RX12) (T := TX12) (N := 61) hx hb hts hin12 hown hK hP 0 rfl rfl 24 (by decide) (jw hts gw138) (fun _ h9 => h9) rfl (dd_of dX12_pumps_0 25 rfl) ?_
    refine lv_iload_n hx hb (dd_of dX12_pumps_0 26 rfl) rfl (lv_at hl 2 rfl) ?_
    have h9 := hok.1
    replace hok := hok.2
    refine va_iald hx hb hK hP 14 0 rfl rfl h9 (dd_of dX12_pumps_0 27 rfl) ?_
    refine lv_bipush (v := 20) hx hb (dd_of dX12_pumps_0 28 rfl) (by decide) ?_
    obtain ⟨z48, q47⟩ : ∃ z : Int64, (if 20 ≤ (F 24 (Int32.toNatClampNeg p1)) then (Int32.toInt64 (F 26 (Int32.toNatClampNeg p1))) else (G 14 (Int32.toNatClampNeg (F 24 (Int32.toNatClampNeg p1))))) = z := ⟨_, rfl⟩
    have o50 := hok.1
    replace hok := hok.2
    refine jn_l (ls := ls) (v := z48) 72 [] (fun v14 ev14 => ?_) (fun K49 => ?_)
    · replace hres := bvE (ev14.trans q47.symm) hres
      replace hok := bvO (ev14.trans q47.symm) hok
      refine lv_lstore_n (lv' := [(3, .long v14), (2, .int v8), (0, .ref (A 99)), (1, .int p1)]) hx hb (dd_of dX12_pumps_1 3 rfl) rfl hl (by decide) rfl (fun ls hl => ?_)
      refine lv_iload_n hx hb (dd_of dX12_pumps_1 4 rfl) rfl (lv_at hl 1 rfl) ?_
      refine lv_if_eq (tgt := 178) hx hb (dd_of dX12_pumps_1 5 rfl) (by decide) (fun c15 => ?_) (fun c15 => ?_)
      · replace hres := ifE c15 hres
        subst hQ
        exact W.vret hx hb hr (fun t ht hW => ⟨⟨(F, G), rfl, hres, by rw [ht]; exact hP, va_K.moved hW.alike hK, hD⟩, hS.F ht⟩) hS.2.2 (dd_of dX12_pumps_2 33 rfl) hlk
      · replace hres := ifN c15 hres
        replace hok := hok.2 c15
        refine lv_lload_n hx hb (dd_of dX12_pumps_1 6 rfl) rfl (lv_at hl 0 rfl) ?_
        refine lv_lconst (v := 0) hx hb (dd_of dX12_pumps_1 7 rfl) (by decide) ?_
        refine jl_le (tgt := 178) hx hb (dd_of dX12_pumps_1 8 rfl) (dd_of dX12_pumps_1 9 rfl) (by decide) (fun c16 => ?_) (fun c16 => ?_)
        · replace hres := ifE c16 hres
          subst hQ
          exact W.vret hx hb hr (fun t ht hW => ⟨⟨(F, G), rfl, hres, by rw [ht]; exact hP, va_K.moved hW.alike hK, hD⟩, hS.F ht⟩) hS.2.2 (dd_of dX12_pumps_2 33 rfl) hlk
        · replace hres := ifN c16 hres
          replace hok := hok.2 c16
          refine lv_aload_n hx hb (dd_of dX12_pumps_1 10 rfl) rfl (lv_at hl 2 rfl) ?_
          refine lv_aload_n hx hb (dd_of dX12_pumps_1 11 rfl) rfl (lv_at hl 2 rfl) ?_
          refine va_get (D := D) (cl := vwCl) (tys := jT yy) (ci := 12) (v := .ref (A 25)) (C := RX12) (T := TX12) (N := 61) hx hb hts hin12 hown hK hP 0 rfl rfl 25 (by decide) (jw hts gw139) (fun _ h9 => h9) rfl (dd_of dX12_pumps_1 12 rfl) ?_
          refine lv_iload_n hx hb (dd_of dX12_pumps_1 13 rfl) rfl (lv_at hl 3 rfl) ?_
          have h17 := hok.1
          replace hok := hok.2
          refine va_iald hx hb hK hP 15 0 rfl rfl h17 (dd_of dX12_pumps_1 14 rfl) ?_
          have h18 := hok.1
          replace hok := hok.2
          refine jc_l (As := [.int (F 25 (Int32.toNatClampNeg p1))]) (rest := []) (w := (mW yy A F G)) (D := D) (yy := yy) ⟨hx, hb, hml, hown, hts⟩ (qX12_levelOf l D yy A F G (F 25 (Int32.toNatClampNeg p1)) h18) (cwV 1 hts (jgV gw781 gw782 gw783 gw5 gw784) rfl rfl rfl (by decide +kernel) ⟨Nat.le_of_ble_eq_true rfl, Nat.le_of_ble_eq_true rfl⟩) hP hK (va_recv hK hP (ci := 12) (q0 := 0) rfl rfl) rfl hl.1 rfl (Nat.le_of_ble_eq_true rfl) (dd_of dX12_pumps_1 15 rfl) ⟨Nat.zero_le _, Nat.zero_le _⟩ (fun x19 ex19 => ?_)
          replace hres := bvE ex19 hres
          replace hok := bvO ex19 hok
          refine lv_aload_n hx hb (dd_of dX12_pumps_1 16 rfl) rfl (lv_at hl 2 rfl) ?_
          refine lv_aload_n hx hb (dd_of dX12_pumps_1 17 rfl) rfl (lv_at hl 2 rfl) ?_
          refine va_get (D := D) (cl := vwCl) (tys := jT yy) (ci := 12) (v := .ref (A 24)) (C := RX12) (T := TX12) (N := 61) hx hb hts hin12 hown hK hP 0 rfl rfl 24 (by decide) (jw hts gw138) (fun _ h9 => h9) rfl (dd_of dX12_pumps_1 18 rfl) ?_
          refine lv_iload_n hx hb (dd_of dX12_pumps_1 19 rfl) rfl (lv_at hl 3 rfl) ?_
          have h20 := hok.1
          replace hok := hok.2
          refine va_iald hx hb hK hP 14 0 rfl rfl h20 (dd_of dX12_pumps_1 20 rfl) ?_
          have h21 := hok.1
          replace hok := hok.2
          refine jc_l (As := [.int (F 24 (Int32.toNatClampNeg p1))]) (rest := [.long x19]) (w := (mW yy A F G)) (D := D) (yy := yy) ⟨hx, hb, hml, hown, hts⟩ (qX12_levelOf l D yy A F G (F 24 (Int32.toNatClampNeg p1)) h21) (cwV 1 hts (jgV gw781 gw782 gw783 gw5 gw784) rfl rfl rfl (by decide +kernel) ⟨Nat.le_of_ble_eq_true rfl, Nat.le_of_ble_eq_true rfl⟩) hP hK (va_recv hK hP (ci := 12) (q0 := 0) rfl rfl) rfl hl.1 rfl (Nat.le_of_ble_eq_true rfl) (dd_of dX12_pumps_1 21 rfl) ⟨Nat.zero_le _, Nat.zero_le _⟩ (fun x22 ex22 => ?_)
          replace hres := bvE ex22 hres
          replace hok := bvO ex22 hok
          refine lv_lsub hx hb (dd_of dX12_pumps_1 22 rfl) ?_
          refine lv_ldc2 (v := 100) hx hb hown (jw hts gw786) (dd_of dX12_pumps_1 23 rfl) ?_
          refine lv_aload_n hx hb (dd_of dX12_pumps_1 24 rfl) rfl (lv_at hl 2 rfl) ?_
          refine va_get (D := D) (cl := vwCl) (tys := jT yy) (ci := 12) (v := .ref (A 27)) (C := RX12) (T := TX12) (N := 61) hx hb hts hin12 hown hK hP 0 rfl rfl 27 (by decide) (jw hts gw141) (fun _ h9 => h9) rfl (dd_of dX12_pumps_1 25 rfl) ?_
          refine lv_iload_n hx hb (dd_of dX12_pumps_1 26 rfl) rfl (lv_at hl 3 rfl) ?_
          have h23 := hok.1
          replace hok := hok.2
          refine va_iald hx hb hK hP 17 0 rfl rfl h23 (dd_of dX12_pumps_1 27 rfl) ?_
          refine lv_i2l (v := (Int32.toInt64 (F 27 (Int32.toNatClampNeg p1)))) hx hb (dd_of dX12_pumps_1 28 rfl) rfl ?_
          refine lv_lmul hx hb (dd_of dX12_pumps_1 29 rfl) ?_
          refine jl_gt (tgt := 178) hx hb (dd_of dX12_pumps_1 30 rfl) (dd_of dX12_pumps_1 31 rfl) (by decide) (fun c24 => ?_) (fun c24 => ?_)
          · replace hres := ifE c24 hres
            subst hQ
            exact W.vret hx hb hr (fun t ht hW => ⟨⟨(F, G), rfl, hres, by rw [ht]; exact hP, va_K.moved hW.alike hK, hD⟩, hS.F ht⟩) hS.2.2 (dd_of dX12_pumps_2 33 rfl) hlk
          · replace hres := ifN c24 hres
            replace hok := hok.2 c24
            refine lv_aload_n hx hb (dd_of dX12_pumps_1 32 rfl) rfl (lv_at hl 2 rfl) ?_
            refine lv_aload_n hx hb (dd_of dX12_pumps_1 33 rfl) rfl (lv_at hl 2 rfl) ?_
            refine va_get (D := D) (cl := vwCl) (tys := jT yy) (ci := 12) (v := .ref (A 24)) (C := RX12) (T := TX12) (N := 61) hx hb hts hin12 hown hK hP 0 rfl rfl 24 (by decide) (jw hts gw138) (fun _ h9 => h9) rfl (dd_of dX12_pumps_1 34 rfl) ?_
            refine lv_iload_n hx hb (dd_of dX12_pumps_1 35 rfl) rfl (lv_at hl 3 rfl) ?_
            have h25 := hok.1
            replace hok := hok.2
            refine va_iald hx hb hK hP 14 0 rfl rfl h25 (dd_of dX12_pumps_1 36 rfl) ?_
            refine lv_aload_n hx hb (dd_of dX12_pumps_1 37 rfl) rfl (lv_at hl 2 rfl) ?_
            refine va_get (D := D) (cl := vwCl) (tys := jT yy) (ci := 12) (v := .ref (A 25)) (C := RX12) (T := TX12) (N := 61) hx hb hts hin12 hown hK hP 0 rfl rfl 25 (by decide) (jw hts gw139) (fun _ h9 => h9) rfl (dd_of dX12_pumps_1 38 rfl) ?_
            refine lv_iload_n hx hb (dd_of dX12_pumps_1 39 rfl) rfl (lv_at hl 3 rfl) ?_
            have h26 := hok.1
            replace hok := hok.2
            refine va_iald hx hb hK hP 15 0 rfl rfl h26 (dd_of dX12_pumps_2 0 rfl) ?_
            refine lv_lload_n hx hb (dd_of dX12_pumps_2 1 rfl) rfl (lv_at hl 0 rfl) ?_
            refine lv_aload_n hx hb (dd_of dX12_pumps_2 2 rfl) rfl (lv_at hl 2 rfl) ?_
            refine va_get (D := D) (cl := vwCl) (tys := jT yy) (ci := 12) (v := .ref (A 26)) (C := RX12) (T := TX12) (N := 61) hx hb hts hin12 hown hK hP 0 rfl rfl 26 (by decide) (jw hts gw140) (fun _ h9 => h9) rfl (dd_of dX12_pumps_2 3 rfl) ?_
            refine lv_iload_n hx hb (dd_of dX12_pumps_2 4 rfl) rfl (lv_at hl 3 rfl) ?_
            have h27 := hok.1
            replace hok := hok.2
            refine va_iald hx hb hK hP 16 0 rfl rfl h27 (dd_of dX12_pumps_2 5 rfl) ?_
            refine lv_i2l (v := (Int32.toInt64 (F 26 (Int32.toNatClampNeg p1)))) hx hb (dd_of dX12_pumps_2 6 rfl) rfl ?_
            obtain ⟨z52, q51⟩ : ∃ z : Int64, (if (Int32.toInt64 (F 26 (Int32.toNatClampNeg p1))) ≤ v14 then (Int32.toInt64 (F 26 (Int32.toNatClampNeg p1))) else v14) = z := ⟨_, rfl⟩
            have o54 := hok.1
            replace hok := hok.2
            refine jn_l (ls := ls) (v := z52) 155 [.int (F 25 (Int32.toNatClampNeg p1)), .int (F 24 (Int32.toNatClampNeg p1)), .ref (A 99)] (fun v30 ev30 => ?_) (fun K53 => ?_)
            · replace hres := bvE (ev30.trans q51.symm) hres
              replace hok := bvO (ev30.trans q51.symm) hok
              have h31 := hok.1
              replace hok := hok.2
              refine jm_v (As := [.int (F 24 (Int32.toNatClampNeg p1)), .int (F 25 (Int32.toNatClampNeg p1)), .long v30]) (rest := []) (w := (mW yy A F G)) (w1 := fun u : jS => (mW yy A u.1 u.2)) (D := D) (yy := yy) ⟨hx, hb, hml, hown, hts⟩ (qX12_goes l D yy A F G H.size (F 24 (Int32.toNatClampNeg p1)) (F 25 (Int32.toNatClampNeg p1)) v30 h31) (cwV 3 hts (jgV gw909 gw910 gw911 gw5 gw912) rfl rfl rfl (by decide +kernel) ⟨Nat.le_of_ble_eq_true rfl, Nat.le_of_ble_eq_true rfl⟩) hP hK hD hS hA (va_recv hK hP (ci := 12) (q0 := 0) rfl rfl) rfl hl.1 rfl (Nat.le_of_ble_eq_true rfl) (dd_of dX12_pumps_2 16 rfl) ⟨Nat.zero_le _, Nat.zero_le _⟩ (fun u9 H locs w34 hP hD hS => ?_)
              obtain ⟨F32, G33⟩ := u9
              have hP : va_P D vwCl (mW yy A F32 G33) H := hP
              have hD : va_D Z (mW yy A F32 G33) := hD
              replace hres := bsE w34 hres
              replace hok := bsO w34 hok
              refine lv_aload_n hx hb (dd_of dX12_pumps_2 17 rfl) rfl (lv_at hl 2 rfl) ?_
              refine va_get (D := D) (cl := vwCl) (tys := jT yy) (ci := 12) (v := .ref (A 30)) (C := RX12) (T := TX12) (N := 61) hx hb hts hin12 hown hK hP 0 rfl rfl 30 (by decide) (jw hts gw144) (fun _ h9 => h9) rfl (dd_of dX12_pumps_2 18 rfl) ?_
              refine lv_iload_n hx hb (dd_of dX12_pumps_2 19 rfl) rfl (lv_at hl 3 rfl) ?_
              refine lv_dup2_11 hx hb (dd_of dX12_pumps_2 20 rfl) rfl rfl ?_
              have h35 := hok.1
              replace hok := hok.2
              refine va_iald hx hb hK hP 20 0 rfl rfl h35 (dd_of dX12_pumps_2 21 rfl) ?_
              refine lv_iconst (v := 1) hx hb (dd_of dX12_pumps_2 22 rfl) (by decide) ?_
              refine lv_isub hx hb (dd_of dX12_pumps_2 23 rfl) ?_
              have h36 := hok.1
              replace hok := hok.2
              refine va_iast hx hb hK hP hD hS 20 0 rfl rfl h36 (dd_of dX12_pumps_2 24 rfl) (fun H locs hP hD hS => ?_)
              obtain ⟨F37, e38⟩ : ∃ z : jF, z = u2 F32 30 (Int32.toNatClampNeg p1) ((F32 30 (Int32.toNatClampNeg p1)) - 1) := ⟨_, rfl⟩
              have hP : va_P D vwCl (mW yy A F37 G33) H := by rw [e38]; exact hP
              have hD : va_D Z (mW yy A F37 G33) := by rw [e38]; exact hD
              replace hres := bvE e38 hres
              replace hok := bvO e38 hok
              refine lv_aload_n hx hb (dd_of dX12_pumps_2 25 rfl) rfl (lv_at hl 2 rfl) ?_
              refine va_get (D := D) (cl := vwCl) (tys := jT yy) (ci := 12) (v := .ref (A 31)) (C := RX12) (T := TX12) (N := 61) hx hb hts hin12 hown hK hP 0 rfl rfl 31 (by decide) (jw hts gw145) (fun _ h9 => h9) rfl (dd_of dX12_pumps_2 26 rfl) ?_
              refine lv_iload_n hx hb (dd_of dX12_pumps_2 27 rfl) rfl (lv_at hl 3 rfl) ?_
              refine lv_dup2_11 hx hb (dd_of dX12_pumps_2 28 rfl) rfl rfl ?_
              have h39 := hok.1
              replace hok := hok.2
              refine va_iald hx hb hK hP 21 0 rfl rfl h39 (dd_of dX12_pumps_2 29 rfl) ?_
              refine lv_iconst (v := 1) hx hb (dd_of dX12_pumps_2 30 rfl) (by decide) ?_
              refine lv_iadd hx hb (dd_of dX12_pumps_2 31 rfl) ?_
              have h40 := hok
              refine va_iast hx hb hK hP hD hS 21 0 rfl rfl h40 (dd_of dX12_pumps_2 32 rfl) (fun H locs hP hD hS => ?_)
              obtain ⟨F41, e42⟩ : ∃ z : jF, z = u2 F37 31 (Int32.toNatClampNeg p1) ((F37 31 (Int32.toNatClampNeg p1)) + 1) := ⟨_, rfl⟩
              have hP : va_P D vwCl (mW yy A F41 G33) H := by rw [e42]; exact hP
              have hD : va_D Z (mW yy A F41 G33) := by rw [e42]; exact hD
              replace hres := bvE e42 hres
              subst hQ
              exact W.vret hx hb hr (fun t ht hW => ⟨⟨(F41, G33), rfl, hres, by rw [ht]; exact hP, va_K.moved hW.alike hK, hD⟩, hS.F ht⟩) hS.2.2 (dd_of dX12_pumps_2 33 rfl) hlk
            · skip
              refine jl_ge (tgt := 148) hx hb (dd_of dX12_pumps_2 7 rfl) (dd_of dX12_pumps_2 8 rfl) (by decide) (fun c28 => ?_) (fun c28 => ?_)
              · replace q51 := ifE c28 q51
                replace o54 := o54.1 c28
                refine lv_aload_n hx hb (dd_of dX12_pumps_2 11 rfl) rfl (lv_at hl 2 rfl) ?_
                refine va_get (D := D) (cl := vwCl) (tys := jT yy) (ci := 12) (v := .ref (A 26)) (C := RX12) (T := TX12) (N := 61) hx hb hts hin12 hown hK hP 0 rfl rfl 26 (by decide) (jw hts gw140) (fun _ h9 => h9) rfl (dd_of dX12_pumps_2 12 rfl) ?_
                refine lv_iload_n hx hb (dd_of dX12_pumps_2 13 rfl) rfl (lv_at hl 3 rfl) ?_
                have h29 := o54
                refine va_iald hx hb hK hP 16 0 rfl rfl h29 (dd_of dX12_pumps_2 14 rfl) ?_
                refine lv_i2l (v := (Int32.toInt64 (F 26 (Int32.toNatClampNeg p1)))) hx hb (dd_of dX12_pumps_2 15 rfl) rfl ?_
                exact K53 _ q51
              · replace q51 := ifN c28 q51
                refine lv_lload_n hx hb (dd_of dX12_pumps_2 9 rfl) rfl (lv_at hl 0 rfl) ?_
                refine lv_goto (tgt := 155) hx hb (dd_of dX12_pumps_2 10 rfl) (by decide) ?_
                exact K53 _ q51
    · skip
      refine lv_icmp_ge (tgt := 65) hx hb (dd_of dX12_pumps_0 29 rfl) (by decide) (fun c10 => ?_) (fun c10 => ?_)
      · replace q47 := ifE c10 q47
        replace o50 := o50.1 c10
        refine lv_aload_n hx hb (dd_of dX12_pumps_0 38 rfl) rfl (lv_at hl 1 rfl) ?_
        refine va_get (D := D) (cl := vwCl) (tys := jT yy) (ci := 12) (v := .ref (A 26)) (C := RX12) (T := TX12) (N := 61) hx hb hts hin12 hown hK hP 0 rfl rfl 26 (by decide) (jw hts gw140) (fun _ h9 => h9) rfl (dd_of dX12_pumps_0 39 rfl) ?_
        refine lv_iload_n hx hb (dd_of dX12_pumps_1 0 rfl) rfl (lv_at hl 2 rfl) ?_
        have h11 := o50
        refine va_iald hx hb hK hP 16 0 rfl rfl h11 (dd_of dX12_pumps_1 1 rfl) ?_
        refine lv_i2l (v := (Int32.toInt64 (F 26 (Int32.toNatClampNeg p1)))) hx hb (dd_of dX12_pumps_1 2 rfl) rfl ?_
        exact K49 _ q47
      · replace q47 := ifN c10 q47
        replace o50 := o50.2 c10
        refine lv_aload_n hx hb (dd_of dX12_pumps_0 30 rfl) rfl (lv_at hl 1 rfl) ?_
        refine va_get (D := D) (cl := vwCl) (tys := jT yy) (ci := 12) (v := .ref (A 14)) (C := RX12) (T := TX12) (N := 61) hx hb hts hin12 hown hK hP 0 rfl rfl 14 (by decide) (jw hts gw130) (fun _ h9 => h9) rfl (dd_of dX12_pumps_0 31 rfl) ?_
        refine lv_aload_n hx hb (dd_of dX12_pumps_0 32 rfl) rfl (lv_at hl 1 rfl) ?_
        refine va_get (D := D) (cl := vwCl) (tys := jT yy) (ci := 12) (v := .ref (A 24)) (C := RX12) (T := TX12) (N := 61) hx hb hts hin12 hown hK hP 0 rfl rfl 24 (by decide) (jw hts gw138) (fun _ h9 => h9) rfl (dd_of dX12_pumps_0 33 rfl) ?_
        refine lv_iload_n hx hb (dd_of dX12_pumps_0 34 rfl) rfl (lv_at hl 2 rfl) ?_
        have h12 := o50.1
        replace o50 := o50.2
        refine va_iald hx hb hK hP 14 0 rfl rfl h12 (dd_of dX12_pumps_0 35 rfl) ?_
        have h13 := o50
        refine va_lald hx hb hK hP 6 1 rfl rfl h13 (dd_of dX12_pumps_0 36 rfl) ?_
        refine lv_goto (tgt := 72) hx hb (dd_of dX12_pumps_0 37 rfl) (by decide) ?_
        exact K49 _ q47
  · skip
    refine lv_icmp_ne (tgt := 38) hx hb (dd_of dX12_pumps_0 5 rfl) (by decide) (fun c2 => ?_) (fun c2 => ?_)
    · replace q43 := ifN c2 q43
      refine lv_iconst (v := 0) hx hb (dd_of dX12_pumps_0 22 rfl) (by decide) ?_
      exact K45 _ q43
    · replace q43 := ifE c2 q43
      replace o46 := o46.1 c2
      refine lv_aload_n hx hb (dd_of dX12_pumps_0 6 rfl) rfl (lv_at hl 0 rfl) ?_
      refine va_get (D := D) (cl := vwCl) (tys := jT yy) (ci := 12) (v := .ref (A 30)) (C := RX12) (T := TX12) (N := 61) hx hb hts hin12 hown hK hP 0 rfl rfl 30 (by decide) (jw hts gw144) (fun _ h9 => h9) rfl (dd_of dX12_pumps_0 7 rfl) ?_
      refine lv_iload_n hx hb (dd_of dX12_pumps_0 8 rfl) rfl (lv_at hl 1 rfl) ?_
      have h3 := o46.1
      replace o46 := o46.2
      refine va_iald hx hb hK hP 20 0 rfl rfl h3 (dd_of dX12_pumps_0 9 rfl) ?_
      refine lv_if_le (tgt := 38) hx hb (dd_of dX12_pumps_0 10 rfl) (by decide) (fun c4 => ?_) (fun c4 => ?_)
      · replace q43 := ifE c4 q43
        refine lv_iconst (v := 0) hx hb (dd_of dX12_pumps_0 22 rfl) (by decide) ?_
        exact K45 _ q43
      · replace q43 := ifN c4 q43
        replace o46 := o46.2 c4
        refine lv_aload_n hx hb (dd_of dX12_pumps_0 11 rfl) rfl (lv_at hl 0 rfl) ?_
        refine va_get (D := D) (cl := vwCl) (tys := jT yy) (ci := 12) (v := .ref (A 31)) (C := RX12) (T := TX12) (N := 61) hx hb hts hin12 hown hK hP 0 rfl rfl 31 (by decide) (jw hts gw145) (fun _ h9 => h9) rfl (dd_of dX12_pumps_0 12 rfl) ?_
        refine lv_iload_n hx hb (dd_of dX12_pumps_0 13 rfl) rfl (lv_at hl 1 rfl) ?_
        have h5 := o46.1
        replace o46 := o46.2
        refine va_iald hx hb hK hP 21 0 rfl rfl h5 (dd_of dX12_pumps_0 14 rfl) ?_
        refine lv_aload_n hx hb (dd_of dX12_pumps_0 15 rfl) rfl (lv_at hl 0 rfl) ?_
        refine va_get (D := D) (cl := vwCl) (tys := jT yy) (ci := 12) (v := .ref (A 28)) (C := RX12) (T := TX12) (N := 61) hx hb hts hin12 hown hK hP 0 rfl rfl 28 (by decide) (jw hts gw142) (fun _ h9 => h9) rfl (dd_of dX12_pumps_0 16 rfl) ?_
        refine lv_iload_n hx hb (dd_of dX12_pumps_0 17 rfl) rfl (lv_at hl 1 rfl) ?_
        have h6 := o46
        refine va_iald hx hb hK hP 18 0 rfl rfl h6 (dd_of dX12_pumps_0 18 rfl) ?_
        refine lv_icmp_ge (tgt := 38) hx hb (dd_of dX12_pumps_0 19 rfl) (by decide) (fun c7 => ?_) (fun c7 => ?_)
        · replace q43 := ifE c7 q43
          refine lv_iconst (v := 0) hx hb (dd_of dX12_pumps_0 22 rfl) (by decide) ?_
          exact K45 _ q43
        · replace q43 := ifN c7 q43
          refine lv_iconst (v := 1) hx hb (dd_of dX12_pumps_0 20 rfl) (by decide) ?_
          refine lv_goto (tgt := 39) hx hb (dd_of dX12_pumps_0 21 rfl) (by decide) ?_
          exact K45 _ q43
set_option maxHeartbeats 4000000 in
set_option maxRecDepth 100000 in
theorem qX12_flowsOver (l : Launch) (D : va_G) (yy : Nat → ClassId) (A : Nat → Nat) (F : jF) (G : jG) (sz : Nat) (p1 : Int32) (hok : okX12_flowsOver F G p1) : Met l yX12_flowsOver (Cond.code yX12_flowsOver cX12_flowsOver 9 (some .long) :: wsL_law) rmX12_flowsOver (va_Pc [.ref (A 99), .int p1] (jP D yy (mW yy A F G) sz)) (va_Ql (fun r (u : jS) => (r, u) = gX12_flowsOver F G p1) (fun (u : jS) t => jB D yy (va_A (mW yy A F G) sz) (mW yy A u.1 u.2) t) (va_A (mW yy A F G) sz)) 0 0 (va_A (mW yy A F G) sz) := by
  generalize hres : gX12_flowsOver F G p1 = RES
  refine jM (own := RX12) (by decide) rfl (Nat.le_of_ble_eq_true rfl) ?_
  intro p e s m args below meth c ls Q hQ hargs S hr hlk hinit hB hl
  obtain ⟨hx, hb, hml, hown, hts⟩ := S
  have hl : lv_has ls 9 [(0, .ref (A 99)), (1, .int p1)] := hl
  have hin12 : ∀ w ∈ u_ws RX12 TX12 61, w ∈ (Cond.code yX12_flowsOver cX12_flowsOver 9 (some .long) :: wsL_law) := fun w h => List.mem_cons_of_mem _ (inlX12 w h)
  obtain ⟨hsz, hP, hK, hD0⟩ := hB
  subst hsz
  have hD := hD0.self (sz := s.heap.size)
  generalize hZ : va_A (mW yy A F G) s.heap.size = Z at hD hQ
  have hA : ∀ q : Nat, s.heap.size ≤ q → Z q := fun q h => by rw [← hZ]; exact Or.inr h
  obtain ⟨H, hH⟩ : ∃ z, z = s.heap := ⟨_, rfl⟩
  obtain ⟨locs, hlocs⟩ : ∃ z : List Loc, z = [] := ⟨_, rfl⟩
  have hS : va_S Z s.heap H locs := by rw [hH, hlocs]; exact va_S.rf
  rw [← hH] at hP
  suffices hgo : W p l e rmX12_flowsOver s m args below meth c H locs 0 0 Q (F0 m 0 ls []) by rw [hH, hlocs] at hgo; exact hgo
  unfold gX12_flowsOver at hres
  unfold okX12_flowsOver at hok
  refine lv_aload_n hx hb (dd_of dX12_flowsOver_0 0 rfl) rfl (lv_at hl 0 rfl) ?_
  refine va_get (D := D) (cl := vwCl) (tys := jT yy) (ci := 12) (v := .ref (A 33)) (C := RX12) (T := TX12) (N := 61) hx hb hts hin12 hown hK hP 0 rfl rfl 33 (by decide) (jw hts gw146) (fun _ h9 => h9) rfl (dd_of dX12_flowsOver_0 1 rfl) ?_
  refine lv_iload_n hx hb (dd_of dX12_flowsOver_0 2 rfl) rfl (lv_at hl 1 rfl) ?_
  have h1 := hok.1
  replace hok := hok.2
  refine va_iald hx hb hK hP 22 0 rfl rfl h1 (dd_of dX12_flowsOver_0 3 rfl) ?_
  refine lv_topi (fun x2 ex2 => ?_)
  replace hres := bvE ex2 hres
  replace hok := bvO ex2 hok
  refine lv_istore_n (lv' := [(2, .int x2), (0, .ref (A 99)), (1, .int p1)]) hx hb (dd_of dX12_flowsOver_0 4 rfl) rfl hl (by decide) rfl (fun ls hl => ?_)
  refine lv_aload_n hx hb (dd_of dX12_flowsOver_0 5 rfl) rfl (lv_at hl 1 rfl) ?_
  refine va_get (D := D) (cl := vwCl) (tys := jT yy) (ci := 12) (v := .ref (A 34)) (C := RX12) (T := TX12) (N := 61) hx hb hts hin12 hown hK hP 0 rfl rfl 34 (by decide) (jw hts gw147) (fun _ h9 => h9) rfl (dd_of dX12_flowsOver_0 6 rfl) ?_
  refine lv_iload_n hx hb (dd_of dX12_flowsOver_0 7 rfl) rfl (lv_at hl 2 rfl) ?_
  have h3 := hok.1
  replace hok := hok.2
  refine va_iald hx hb hK hP 23 0 rfl rfl h3 (dd_of dX12_flowsOver_0 8 rfl) ?_
  refine lv_topi (fun x4 ex4 => ?_)
  replace hres := bvE ex4 hres
  replace hok := bvO ex4 hok
  refine lv_istore_n (lv' := [(3, .int x4), (2, .int x2), (0, .ref (A 99)), (1, .int p1)]) hx hb (dd_of dX12_flowsOver_0 9 rfl) rfl hl (by decide) rfl (fun ls hl => ?_)
  refine lv_aload_n hx hb (dd_of dX12_flowsOver_0 10 rfl) rfl (lv_at hl 2 rfl) ?_
  refine lv_iload_n hx hb (dd_of dX12_flowsOver_0 11 rfl) rfl (lv_at hl 1 rfl) ?_
  have h5 := hok.1
  replace hok := hok.2
  refine jc_l (As := [.int x2]) (rest := []) (w := (mW yy A F G)) (D := D) (yy := yy) ⟨hx, hb, hml, hown, hts⟩ (qX12_levelOf l D yy A F G x2 h5) (cwV 1 hts (jgV gw781 gw782 gw783 gw5 gw784) rfl rfl rfl (by decide +kernel) ⟨Nat.le_of_ble_eq_true rfl, Nat.le_of_ble_eq_true rfl⟩) hP hK (va_recv hK hP (ci := 12) (q0 := 0) rfl rfl) rfl hl.1 rfl (Nat.le_of_ble_eq_true rfl) (dd_of dX12_flowsOver_0 12 rfl) ⟨Nat.zero_le _, Nat.zero_le _⟩ (fun x6 ex6 => ?_)
  replace hres := bvE ex6 hres
  replace hok := bvO ex6 hok
  refine lv_aload_n hx hb (dd_of dX12_flowsOver_0 13 rfl) rfl (lv_at hl 2 rfl) ?_
  refine lv_iload_n hx hb (dd_of dX12_flowsOver_0 14 rfl) rfl (lv_at hl 0 rfl) ?_
  have h7 := hok.1
  replace hok := hok.2
  refine jc_l (As := [.int x4]) (rest := [.long x6]) (w := (mW yy A F G)) (D := D) (yy := yy) ⟨hx, hb, hml, hown, hts⟩ (qX12_levelOf l D yy A F G x4 h7) (cwV 1 hts (jgV gw781 gw782 gw783 gw5 gw784) rfl rfl rfl (by decide +kernel) ⟨Nat.le_of_ble_eq_true rfl, Nat.le_of_ble_eq_true rfl⟩) hP hK (va_recv hK hP (ci := 12) (q0 := 0) rfl rfl) rfl hl.1 rfl (Nat.le_of_ble_eq_true rfl) (dd_of dX12_flowsOver_0 15 rfl) ⟨Nat.zero_le _, Nat.zero_le _⟩ (fun x8 ex8 => ?_)
  replace hres := bvE ex8 hres
  replace hok := bvO ex8 hok
  obtain ⟨z27, q26⟩ : ∃ z : Int32, (if x6 < x8 then x4 else x2) = z := ⟨_, rfl⟩
  refine jn_i (ls := ls) (v := z27) 33 [] (fun v10 ev10 => ?_) (fun K28 => ?_)
  · replace hres := bvE (ev10.trans q26.symm) hres
    replace hok := bvO (ev10.trans q26.symm) hok
    refine lv_istore (lv' := [(4, .int v10), (3, .int x4), (2, .int x2), (0, .ref (A 99)), (1, .int p1)]) hx hb (dd_of dX12_flowsOver_0 21 rfl) hl (by decide) rfl (fun ls hl => ?_)
    refine lv_aload_n hx hb (dd_of dX12_flowsOver_0 22 rfl) rfl (lv_at hl 3 rfl) ?_
    refine lv_iload hx hb (dd_of dX12_flowsOver_0 23 rfl) (lv_at hl 0 rfl) ?_
    have h11 := hok.1
    replace hok := hok.2
    refine jc_l (As := [.int v10]) (rest := []) (w := (mW yy A F G)) (D := D) (yy := yy) ⟨hx, hb, hml, hown, hts⟩ (qX12_levelOf l D yy A F G v10 h11) (cwV 1 hts (jgV gw781 gw782 gw783 gw5 gw784) rfl rfl rfl (by decide +kernel) ⟨Nat.le_of_ble_eq_true rfl, Nat.le_of_ble_eq_true rfl⟩) hP hK (va_recv hK hP (ci := 12) (q0 := 0) rfl rfl) rfl hl.1 rfl (Nat.le_of_ble_eq_true rfl) (dd_of dX12_flowsOver_0 24 rfl) ⟨Nat.zero_le _, Nat.zero_le _⟩ (fun x12 ex12 => ?_)
    replace hres := bvE ex12 hres
    replace hok := bvO ex12 hok
    refine lv_ldc2 (v := 100) hx hb hown (jw hts gw786) (dd_of dX12_flowsOver_0 25 rfl) ?_
    refine lv_aload_n hx hb (dd_of dX12_flowsOver_0 26 rfl) rfl (lv_at hl 3 rfl) ?_
    refine va_get (D := D) (cl := vwCl) (tys := jT yy) (ci := 12) (v := .ref (A 35)) (C := RX12) (T := TX12) (N := 61) hx hb hts hin12 hown hK hP 0 rfl rfl 35 (by decide) (jw hts gw148) (fun _ h9 => h9) rfl (dd_of dX12_flowsOver_0 27 rfl) ?_
    refine lv_iload_n hx hb (dd_of dX12_flowsOver_0 28 rfl) rfl (lv_at hl 4 rfl) ?_
    have h13 := hok.1
    replace hok := hok.2
    refine va_iald hx hb hK hP 24 0 rfl rfl h13 (dd_of dX12_flowsOver_0 29 rfl) ?_
    refine lv_i2l (v := (Int32.toInt64 (F 35 (Int32.toNatClampNeg p1)))) hx hb (dd_of dX12_flowsOver_0 30 rfl) rfl ?_
    refine lv_lmul hx hb (dd_of dX12_flowsOver_0 31 rfl) ?_
    refine lv_lsub hx hb (dd_of dX12_flowsOver_0 32 rfl) ?_
    refine lv_topl (fun x14 ex14 => ?_)
    replace hres := bvE ex14 hres
    replace hok := bvO ex14 hok
    refine lv_lstore (lv' := [(5, .long x14), (4, .int v10), (3, .int x4), (2, .int x2), (0, .ref (A 99)), (1, .int p1)]) hx hb (dd_of dX12_flowsOver_0 33 rfl) hl (by decide) rfl (fun ls hl => ?_)
    refine lv_lload hx hb (dd_of dX12_flowsOver_0 34 rfl) (lv_at hl 0 rfl) ?_
    refine lv_lconst (v := 0) hx hb (dd_of dX12_flowsOver_0 35 rfl) (by decide) ?_
    refine jl_gt (tgt := 64) hx hb (dd_of dX12_flowsOver_0 36 rfl) (dd_of dX12_flowsOver_0 37 rfl) (by decide) (fun c15 => ?_) (fun c15 => ?_)
    · replace hres := ifE c15 hres
      replace hok := hok.1 c15
      refine lv_iload hx hb (dd_of dX12_flowsOver_1 0 rfl) (lv_at hl 1 rfl) ?_
      refine lv_bipush (v := 20) hx hb (dd_of dX12_flowsOver_1 1 rfl) (by decide) ?_
      obtain ⟨z30, q29⟩ : ∃ z : Int64, (if 20 ≤ v10 then 500 else ((x14 * (Int32.toInt64 (F 9 (Int32.toNatClampNeg v10)))) / 100)) = z := ⟨_, rfl⟩
      have o32 := hok.1
      replace hok := hok.2
      refine jn_l (ls := ls) (v := z30) 92 [] (fun v18 ev18 => ?_) (fun K31 => ?_)
      · replace hres := bvE (ev18.trans q29.symm) hres
        replace hok := bvO (ev18.trans q29.symm) hok
        refine lv_lstore (lv' := [(7, .long v18), (5, .long x14), (4, .int v10), (3, .int x4), (2, .int x2), (0, .ref (A 99)), (1, .int p1)]) hx hb (dd_of dX12_flowsOver_1 14 rfl) hl (by decide) rfl (fun ls hl => ?_)
        refine lv_aload_n hx hb (dd_of dX12_flowsOver_1 15 rfl) rfl (lv_at hl 5 rfl) ?_
        refine lv_iload_n hx hb (dd_of dX12_flowsOver_1 16 rfl) rfl (lv_at hl 4 rfl) ?_
        refine lv_iload_n hx hb (dd_of dX12_flowsOver_1 17 rfl) rfl (lv_at hl 3 rfl) ?_
        refine lv_lload hx hb (dd_of dX12_flowsOver_1 18 rfl) (lv_at hl 0 rfl) ?_
        refine lv_ldc2 (v := 500) hx hb hown (jw hts gw930) (dd_of dX12_flowsOver_1 19 rfl) ?_
        obtain ⟨z34, q33⟩ : ∃ z : Int64, (if 500 ≤ v18 then 500 else v18) = z := ⟨_, rfl⟩
        refine jn_l (ls := ls) (v := z34) 114 [.int x4, .int x2, .ref (A 99)] (fun v20 ev20 => ?_) (fun K35 => ?_)
        · replace hres := bvE (ev20.trans q33.symm) hres
          replace hok := bvO (ev20.trans q33.symm) hok
          have h21 := hok
          refine jm_l (As := [.int x2, .int x4, .long v20]) (rest := []) (w := (mW yy A F G)) (w1 := fun u : jS => (mW yy A u.1 u.2)) (D := D) (yy := yy) ⟨hx, hb, hml, hown, hts⟩ (qX12_flows l D yy A F G H.size x2 x4 v20 h21) (cwV 3 hts (jgV gw901 gw902 gw903 gw5 gw904) rfl rfl rfl (by decide +kernel) ⟨Nat.le_of_ble_eq_true rfl, Nat.le_of_ble_eq_true rfl⟩) hP hK hD hS hA (va_recv hK hP (ci := 12) (q0 := 0) rfl rfl) rfl hl.1 rfl (Nat.le_of_ble_eq_true rfl) (dd_of dX12_flowsOver_1 25 rfl) ⟨Nat.zero_le _, Nat.zero_le _⟩ (fun x25 u9 H locs w24 hP hD hS => ?_)
          obtain ⟨F22, G23⟩ := u9
          have hP : va_P D vwCl (mW yy A F22 G23) H := hP
          have hD : va_D Z (mW yy A F22 G23) := hD
          replace hres := brE w24 hres
          subst hQ
          exact W.lret (v := x25) hx hb hr (fun t ht hW => ⟨⟨x25, (F22, G23), rfl, hres, by rw [ht]; exact hP, va_K.moved hW.alike hK, hD⟩, hS.F ht⟩) hS.2.2 (dd_of dX12_flowsOver_1 26 rfl) hlk
        · skip
          refine jl_ge (tgt := 111) hx hb (dd_of dX12_flowsOver_1 20 rfl) (dd_of dX12_flowsOver_1 21 rfl) (by decide) (fun c19 => ?_) (fun c19 => ?_)
          · replace q33 := ifE c19 q33
            refine lv_ldc2 (v := 500) hx hb hown (jw hts gw930) (dd_of dX12_flowsOver_1 24 rfl) ?_
            exact K35 _ q33
          · replace q33 := ifN c19 q33
            refine lv_lload hx hb (dd_of dX12_flowsOver_1 22 rfl) (lv_at hl 0 rfl) ?_
            refine lv_goto (tgt := 114) hx hb (dd_of dX12_flowsOver_1 23 rfl) (by decide) ?_
            exact K35 _ q33
      · skip
        refine lv_icmp_ge (tgt := 89) hx hb (dd_of dX12_flowsOver_1 2 rfl) (by decide) (fun c16 => ?_) (fun c16 => ?_)
        · replace q29 := ifE c16 q29
          refine lv_ldc2 (v := 500) hx hb hown (jw hts gw930) (dd_of dX12_flowsOver_1 13 rfl) ?_
          exact K31 _ q29
        · replace q29 := ifN c16 q29
          replace o32 := o32.2 c16
          refine lv_lload hx hb (dd_of dX12_flowsOver_1 3 rfl) (lv_at hl 0 rfl) ?_
          refine lv_aload_n hx hb (dd_of dX12_flowsOver_1 4 rfl) rfl (lv_at hl 4 rfl) ?_
          refine va_get (D := D) (cl := vwCl) (tys := jT yy) (ci := 12) (v := .ref (A 9)) (C := RX12) (T := TX12) (N := 61) hx hb hts hin12 hown hK hP 0 rfl rfl 9 (by decide) (jw hts gw125) (fun _ h9 => h9) rfl (dd_of dX12_flowsOver_1 5 rfl) ?_
          refine lv_iload hx hb (dd_of dX12_flowsOver_1 6 rfl) (lv_at hl 1 rfl) ?_
          have h17 := o32
          refine va_iald hx hb hK hP 1 0 rfl rfl h17 (dd_of dX12_flowsOver_1 7 rfl) ?_
          refine lv_i2l (v := (Int32.toInt64 (F 9 (Int32.toNatClampNeg v10)))) hx hb (dd_of dX12_flowsOver_1 8 rfl) rfl ?_
          refine lv_lmul hx hb (dd_of dX12_flowsOver_1 9 rfl) ?_
          refine lv_ldc2 (v := 100) hx hb hown (jw hts gw786) (dd_of dX12_flowsOver_1 10 rfl) ?_
          refine lv_ldiv hx hb (dd_of dX12_flowsOver_1 11 rfl) (by decide) ?_
          refine lv_goto (tgt := 92) hx hb (dd_of dX12_flowsOver_1 12 rfl) (by decide) ?_
          exact K31 _ q29
    · replace hres := ifN c15 hres
      refine lv_lconst (v := 0) hx hb (dd_of dX12_flowsOver_0 38 rfl) (by decide) ?_
      subst hQ
      exact W.lret (v := 0) hx hb hr (fun t ht hW => ⟨⟨0, (F, G), rfl, hres, by rw [ht]; exact hP, va_K.moved hW.alike hK, hD⟩, hS.F ht⟩) hS.2.2 (dd_of dX12_flowsOver_0 39 rfl) hlk
  · skip
    refine jl_lt (tgt := 32) hx hb (dd_of dX12_flowsOver_0 16 rfl) (dd_of dX12_flowsOver_0 17 rfl) (by decide) (fun c9 => ?_) (fun c9 => ?_)
    · replace q26 := ifE c9 q26
      refine lv_iload_n hx hb (dd_of dX12_flowsOver_0 20 rfl) rfl (lv_at hl 0 rfl) ?_
      exact K28 _ q26
    · replace q26 := ifN c9 q26
      refine lv_iload_n hx hb (dd_of dX12_flowsOver_0 18 rfl) rfl (lv_at hl 1 rfl) ?_
      refine lv_goto (tgt := 33) hx hb (dd_of dX12_flowsOver_0 19 rfl) (by decide) ?_
      exact K28 _ q26
set_option maxHeartbeats 4000000 in
set_option maxRecDepth 100000 in
theorem qX12_holds (l : Launch) (D : va_G) (yy : Nat → ClassId) (A : Nat → Nat) (F : jF) (G : jG) (sz : Nat) (p1 : Int32) (hok : okX12_holds F G p1) : Met l yX12_holds (Cond.code yX12_holds cX12_holds 8 none :: wsL_law) rmX12_holds (va_Pc [.ref (A 99), .int p1] (jP D yy (mW yy A F G) sz)) (va_Qv (fun u : jS => u = gX12_holds F G p1) (fun (u : jS) t => jB D yy (va_A (mW yy A F G) sz) (mW yy A u.1 u.2) t) (va_A (mW yy A F G) sz)) 0 0 (va_A (mW yy A F G) sz) := by
  generalize hres : gX12_holds F G p1 = RES
  refine jM (own := RX12) (by decide) rfl (Nat.le_of_ble_eq_true rfl) ?_
  intro p e s m args below meth c ls Q hQ hargs S hr hlk hinit hB hl
  obtain ⟨hx, hb, hml, hown, hts⟩ := S
  have hl : lv_has ls 8 [(0, .ref (A 99)), (1, .int p1)] := hl
  have hin12 : ∀ w ∈ u_ws RX12 TX12 61, w ∈ (Cond.code yX12_holds cX12_holds 8 none :: wsL_law) := fun w h => List.mem_cons_of_mem _ (inlX12 w h)
  obtain ⟨hsz, hP, hK, hD0⟩ := hB
  subst hsz
  have hD := hD0.self (sz := s.heap.size)
  generalize hZ : va_A (mW yy A F G) s.heap.size = Z at hD hQ
  have hA : ∀ q : Nat, s.heap.size ≤ q → Z q := fun q h => by rw [← hZ]; exact Or.inr h
  obtain ⟨H, hH⟩ : ∃ z, z = s.heap := ⟨_, rfl⟩
  obtain ⟨locs, hlocs⟩ : ∃ z : List Loc, z = [] := ⟨_, rfl⟩
  have hS : va_S Z s.heap H locs := by rw [hH, hlocs]; exact va_S.rf
  rw [← hH] at hP
  suffices hgo : W p l e rmX12_holds s m args below meth c H locs 0 0 Q (F0 m 0 ls []) by rw [hH, hlocs] at hgo; exact hgo
  unfold gX12_holds at hres
  unfold okX12_holds at hok
  refine lv_aload_n hx hb (dd_of dX12_holds_0 0 rfl) rfl (lv_at hl 0 rfl) ?_
  refine va_get (D := D) (cl := vwCl) (tys := jT yy) (ci := 12) (v := .ref (A 39)) (C := RX12) (T := TX12) (N := 61) hx hb hts hin12 hown hK hP 0 rfl rfl 39 (by decide) (jw hts gw152) (fun _ h9 => h9) rfl (dd_of dX12_holds_0 1 rfl) ?_
  refine lv_iload_n hx hb (dd_of dX12_holds_0 2 rfl) rfl (lv_at hl 1 rfl) ?_
  have h1 := hok.1
  replace hok := hok.2
  refine va_iald hx hb hK hP 28 0 rfl rfl h1 (dd_of dX12_holds_0 3 rfl) ?_
  refine lv_if_le (tgt := 63) hx hb (dd_of dX12_holds_0 4 rfl) (by decide) (fun c2 => ?_) (fun c2 => ?_)
  · replace hres := ifE c2 hres
    replace hok := hok.1 c2
    refine lv_aload_n hx hb (dd_of dX12_holds_1 0 rfl) rfl (lv_at hl 0 rfl) ?_
    refine lv_aload_n hx hb (dd_of dX12_holds_1 1 rfl) rfl (lv_at hl 0 rfl) ?_
    refine va_get (D := D) (cl := vwCl) (tys := jT yy) (ci := 12) (v := .ref (A 33)) (C := RX12) (T := TX12) (N := 61) hx hb hts hin12 hown hK hP 0 rfl rfl 33 (by decide) (jw hts gw146) (fun _ h9 => h9) rfl (dd_of dX12_holds_1 2 rfl) ?_
    refine lv_iload_n hx hb (dd_of dX12_holds_1 3 rfl) rfl (lv_at hl 1 rfl) ?_
    have h3 := hok.1
    replace hok := hok.2
    refine va_iald hx hb hK hP 22 0 rfl rfl h3 (dd_of dX12_holds_1 4 rfl) ?_
    have h4 := hok.1
    replace hok := hok.2
    refine jc_l (As := [.int (F 33 (Int32.toNatClampNeg p1))]) (rest := []) (w := (mW yy A F G)) (D := D) (yy := yy) ⟨hx, hb, hml, hown, hts⟩ (qX12_levelOf l D yy A F G (F 33 (Int32.toNatClampNeg p1)) h4) (cwV 1 hts (jgV gw781 gw782 gw783 gw5 gw784) rfl rfl rfl (by decide +kernel) ⟨Nat.le_of_ble_eq_true rfl, Nat.le_of_ble_eq_true rfl⟩) hP hK (va_recv hK hP (ci := 12) (q0 := 0) rfl rfl) rfl hl.1 rfl (Nat.le_of_ble_eq_true rfl) (dd_of dX12_holds_1 5 rfl) ⟨Nat.zero_le _, Nat.zero_le _⟩ (fun x5 ex5 => ?_)
    replace hres := bvE ex5 hres
    replace hok := bvO ex5 hok
    refine lv_aload_n hx hb (dd_of dX12_holds_1 6 rfl) rfl (lv_at hl 0 rfl) ?_
    refine lv_aload_n hx hb (dd_of dX12_holds_1 7 rfl) rfl (lv_at hl 0 rfl) ?_
    refine va_get (D := D) (cl := vwCl) (tys := jT yy) (ci := 12) (v := .ref (A 34)) (C := RX12) (T := TX12) (N := 61) hx hb hts hin12 hown hK hP 0 rfl rfl 34 (by decide) (jw hts gw147) (fun _ h9 => h9) rfl (dd_of dX12_holds_1 8 rfl) ?_
    refine lv_iload_n hx hb (dd_of dX12_holds_1 9 rfl) rfl (lv_at hl 1 rfl) ?_
    have h6 := hok.1
    replace hok := hok.2
    refine va_iald hx hb hK hP 23 0 rfl rfl h6 (dd_of dX12_holds_1 10 rfl) ?_
    have h7 := hok.1
    replace hok := hok.2
    refine jc_l (As := [.int (F 34 (Int32.toNatClampNeg p1))]) (rest := [.long x5]) (w := (mW yy A F G)) (D := D) (yy := yy) ⟨hx, hb, hml, hown, hts⟩ (qX12_levelOf l D yy A F G (F 34 (Int32.toNatClampNeg p1)) h7) (cwV 1 hts (jgV gw781 gw782 gw783 gw5 gw784) rfl rfl rfl (by decide +kernel) ⟨Nat.le_of_ble_eq_true rfl, Nat.le_of_ble_eq_true rfl⟩) hP hK (va_recv hK hP (ci := 12) (q0 := 0) rfl rfl) rfl hl.1 rfl (Nat.le_of_ble_eq_true rfl) (dd_of dX12_holds_1 11 rfl) ⟨Nat.zero_le _, Nat.zero_le _⟩ (fun x8 ex8 => ?_)
    replace hres := bvE ex8 hres
    replace hok := bvO ex8 hok
    refine lv_lsub hx hb (dd_of dX12_holds_1 12 rfl) ?_
    refine lv_topl (fun x9 ex9 => ?_)
    replace hres := bvE ex9 hres
    replace hok := bvO ex9 hok
    refine lv_lstore_n (lv' := [(2, .long x9), (0, .ref (A 99)), (1, .int p1)]) hx hb (dd_of dX12_holds_1 13 rfl) rfl hl (by decide) rfl (fun ls hl => ?_)
    refine lv_lload_n hx hb (dd_of dX12_holds_1 14 rfl) rfl (lv_at hl 0 rfl) ?_
    refine lv_lconst (v := 0) hx hb (dd_of dX12_holds_1 15 rfl) (by decide) ?_
    obtain ⟨z59, q58⟩ : ∃ z : Int64, (if 0 ≤ x9 then x9 else (-x9)) = z := ⟨_, rfl⟩
    refine jn_l (ls := ls) (v := z59) 97 [] (fun v11 ev11 => ?_) (fun K60 => ?_)
    · replace hres := bvE (ev11.trans q58.symm) hres
      replace hok := bvO (ev11.trans q58.symm) hok
      refine lv_lstore_n (lv' := [(2, .long v11), (0, .ref (A 99)), (1, .int p1)]) hx hb (dd_of dX12_holds_1 22 rfl) rfl hl (by decide) rfl (fun ls hl => ?_)
      refine lv_aload_n hx hb (dd_of dX12_holds_1 23 rfl) rfl (lv_at hl 1 rfl) ?_
      refine lv_aload_n hx hb (dd_of dX12_holds_1 24 rfl) rfl (lv_at hl 1 rfl) ?_
      refine va_get (D := D) (cl := vwCl) (tys := jT yy) (ci := 12) (v := .ref (A 33)) (C := RX12) (T := TX12) (N := 61) hx hb hts hin12 hown hK hP 0 rfl rfl 33 (by decide) (jw hts gw146) (fun _ h9 => h9) rfl (dd_of dX12_holds_1 25 rfl) ?_
      refine lv_iload_n hx hb (dd_of dX12_holds_1 26 rfl) rfl (lv_at hl 2 rfl) ?_
      have h12 := hok.1
      replace hok := hok.2
      refine va_iald hx hb hK hP 22 0 rfl rfl h12 (dd_of dX12_holds_1 27 rfl) ?_
      refine lv_aload_n hx hb (dd_of dX12_holds_1 28 rfl) rfl (lv_at hl 1 rfl) ?_
      refine va_get (D := D) (cl := vwCl) (tys := jT yy) (ci := 12) (v := .ref (A 34)) (C := RX12) (T := TX12) (N := 61) hx hb hts hin12 hown hK hP 0 rfl rfl 34 (by decide) (jw hts gw147) (fun _ h9 => h9) rfl (dd_of dX12_holds_1 29 rfl) ?_
      refine lv_iload_n hx hb (dd_of dX12_holds_1 30 rfl) rfl (lv_at hl 2 rfl) ?_
      have h13 := hok.1
      replace hok := hok.2
      refine va_iald hx hb hK hP 23 0 rfl rfl h13 (dd_of dX12_holds_1 31 rfl) ?_
      refine lv_lload_n hx hb (dd_of dX12_holds_1 32 rfl) rfl (lv_at hl 0 rfl) ?_
      refine lv_aload_n hx hb (dd_of dX12_holds_1 33 rfl) rfl (lv_at hl 1 rfl) ?_
      refine va_get (D := D) (cl := vwCl) (tys := jT yy) (ci := 12) (v := .ref (A 37)) (C := RX12) (T := TX12) (N := 61) hx hb hts hin12 hown hK hP 0 rfl rfl 37 (by decide) (jw hts gw150) (fun _ h9 => h9) rfl (dd_of dX12_holds_1 34 rfl) ?_
      refine lv_iload_n hx hb (dd_of dX12_holds_1 35 rfl) rfl (lv_at hl 2 rfl) ?_
      have h14 := hok.1
      replace hok := hok.2
      refine va_iald hx hb hK hP 26 0 rfl rfl h14 (dd_of dX12_holds_1 36 rfl) ?_
      refine lv_i2l (v := (Int32.toInt64 (F 37 (Int32.toNatClampNeg p1)))) hx hb (dd_of dX12_holds_1 37 rfl) rfl ?_
      refine lv_lmul hx hb (dd_of dX12_holds_1 38 rfl) ?_
      refine lv_ldc2 (v := 1000) hx hb hown (jw hts gw922) (dd_of dX12_holds_1 39 rfl) ?_
      refine lv_ldiv hx hb (dd_of dX12_holds_2 0 rfl) (by decide) ?_
      have h15 := hok.1
      replace hok := hok.2
      refine jm_l (As := [.int (F 33 (Int32.toNatClampNeg p1)), .int (F 34 (Int32.toNatClampNeg p1)), .long ((v11 * (Int32.toInt64 (F 37 (Int32.toNatClampNeg p1)))) / 1000)]) (rest := []) (w := (mW yy A F G)) (w1 := fun u : jS => (mW yy A u.1 u.2)) (D := D) (yy := yy) ⟨hx, hb, hml, hown, hts⟩ (qX12_flows l D yy A F G H.size (F 33 (Int32.toNatClampNeg p1)) (F 34 (Int32.toNatClampNeg p1)) ((v11 * (Int32.toInt64 (F 37 (Int32.toNatClampNeg p1)))) / 1000) h15) (cwV 3 hts (jgV gw901 gw902 gw903 gw5 gw904) rfl rfl rfl (by decide +kernel) ⟨Nat.le_of_ble_eq_true rfl, Nat.le_of_ble_eq_true rfl⟩) hP hK hD hS hA (va_recv hK hP (ci := 12) (q0 := 0) rfl rfl) rfl hl.1 rfl (Nat.le_of_ble_eq_true rfl) (dd_of dX12_holds_2 1 rfl) ⟨Nat.zero_le _, Nat.zero_le _⟩ (fun x19 u9 H locs w18 hP hD hS => ?_)
      obtain ⟨F16, G17⟩ := u9
      have hP : va_P D vwCl (mW yy A F16 G17) H := hP
      have hD : va_D Z (mW yy A F16 G17) := hD
      replace hres := brE w18 hres
      replace hok := brO w18 hok
      refine lv_pop2_2 hx hb (dd_of dX12_holds_2 2 rfl) rfl ?_
      refine lv_aload_n hx hb (dd_of dX12_holds_2 3 rfl) rfl (lv_at hl 1 rfl) ?_
      refine lv_iload_n hx hb (dd_of dX12_holds_2 4 rfl) rfl (lv_at hl 2 rfl) ?_
      have h20 := hok.1
      replace hok := hok.2
      refine jm_l (As := [.int p1]) (rest := []) (w := (mW yy A F16 G17)) (w1 := fun u : jS => (mW yy A u.1 u.2)) (D := D) (yy := yy) ⟨hx, hb, hml, hown, hts⟩ (qX12_flowsOver l D yy A F16 G17 H.size p1 h20) (cwV 1 hts (jgV gw926 gw927 gw928 gw5 gw929) rfl rfl rfl (by decide +kernel) ⟨Nat.le_of_ble_eq_true rfl, Nat.le_of_ble_eq_true rfl⟩) hP hK hD hS hA (va_recv hK hP (ci := 12) (q0 := 0) rfl rfl) rfl hl.1 rfl (Nat.le_of_ble_eq_true rfl) (dd_of dX12_holds_2 5 rfl) ⟨Nat.zero_le _, Nat.zero_le _⟩ (fun x24 u9 H locs w23 hP hD hS => ?_)
      obtain ⟨F21, G22⟩ := u9
      have hP : va_P D vwCl (mW yy A F21 G22) H := hP
      have hD : va_D Z (mW yy A F21 G22) := hD
      replace hres := brE w23 hres
      replace hok := brO w23 hok
      refine lv_lstore (lv' := [(4, .long x24), (2, .long v11), (0, .ref (A 99)), (1, .int p1)]) hx hb (dd_of dX12_holds_2 6 rfl) hl (by decide) rfl (fun ls hl => ?_)
      refine lv_aload_n hx hb (dd_of dX12_holds_2 7 rfl) rfl (lv_at hl 2 rfl) ?_
      refine va_get (D := D) (cl := vwCl) (tys := jT yy) (ci := 12) (v := .ref (A 38)) (C := RX12) (T := TX12) (N := 61) hx hb hts hin12 hown hK hP 0 rfl rfl 38 (by decide) (jw hts gw151) (fun _ h9 => h9) rfl (dd_of dX12_holds_2 8 rfl) ?_
      refine lv_iload_n hx hb (dd_of dX12_holds_2 9 rfl) rfl (lv_at hl 3 rfl) ?_
      have h25 := hok.1
      replace hok := hok.2
      refine va_iald hx hb hK hP 27 0 rfl rfl h25 (dd_of dX12_holds_2 10 rfl) ?_
      refine lv_i2l (v := (Int32.toInt64 (F21 38 (Int32.toNatClampNeg p1)))) hx hb (dd_of dX12_holds_2 11 rfl) rfl ?_
      refine lv_lload_n hx hb (dd_of dX12_holds_2 12 rfl) rfl (lv_at hl 1 rfl) ?_
      refine lv_ldc2 (v := 200) hx hb hown (jw hts gw923) (dd_of dX12_holds_2 13 rfl) ?_
      obtain ⟨z62, q61⟩ : ∃ z : Int64, (if v11 < 200 then 0 else (v11 / 100)) = z := ⟨_, rfl⟩
      refine jn_l (ls := ls) (v := z62) 159 [.long (Int32.toInt64 (F21 38 (Int32.toNatClampNeg p1)))] (fun v27 ev27 => ?_) (fun K63 => ?_)
      · replace hres := bvE (ev27.trans q61.symm) hres
        replace hok := bvO (ev27.trans q61.symm) hok
        refine lv_ladd hx hb (dd_of dX12_holds_2 21 rfl) ?_
        refine lv_lload hx hb (dd_of dX12_holds_2 22 rfl) (lv_at hl 0 rfl) ?_
        refine lv_lconst (v := 0) hx hb (dd_of dX12_holds_2 23 rfl) (by decide) ?_
        obtain ⟨z65, q64⟩ : ∃ z : Int64, (if x24 ≤ 0 then 0 else 20) = z := ⟨_, rfl⟩
        refine jn_l (ls := ls) (v := z65) 174 [.long ((Int32.toInt64 (F21 38 (Int32.toNatClampNeg p1))) + v27)] (fun v29 ev29 => ?_) (fun K66 => ?_)
        · replace hres := bvE (ev29.trans q64.symm) hres
          replace hok := bvO (ev29.trans q64.symm) hok
          refine lv_ladd hx hb (dd_of dX12_holds_2 29 rfl) ?_
          refine lv_topl (fun x30 ex30 => ?_)
          replace hres := bvE ex30 hres
          replace hok := bvO ex30 hok
          refine lv_lstore (lv' := [(6, .long x30), (4, .long x24), (2, .long v11), (0, .ref (A 99)), (1, .int p1)]) hx hb (dd_of dX12_holds_2 30 rfl) hl (by decide) rfl (fun ls hl => ?_)
          refine lv_aload_n hx hb (dd_of dX12_holds_2 31 rfl) rfl (lv_at hl 3 rfl) ?_
          refine va_get (D := D) (cl := vwCl) (tys := jT yy) (ci := 12) (v := .ref (A 38)) (C := RX12) (T := TX12) (N := 61) hx hb hts hin12 hown hK hP 0 rfl rfl 38 (by decide) (jw hts gw151) (fun _ h9 => h9) rfl (dd_of dX12_holds_2 32 rfl) ?_
          refine lv_iload_n hx hb (dd_of dX12_holds_2 33 rfl) rfl (lv_at hl 4 rfl) ?_
          refine lv_lload hx hb (dd_of dX12_holds_2 34 rfl) (lv_at hl 0 rfl) ?_
          refine lv_ldc2 (v := 2000000000) hx hb hown (jw hts gw924) (dd_of dX12_holds_2 35 rfl) ?_
          obtain ⟨z68, q67⟩ : ∃ z : Int32, (if x30 ≤ 2000000000 then (Int64.toInt32 x30) else 2000000000) = z := ⟨_, rfl⟩
          refine jn_i (ls := ls) (v := z68) 199 [.int p1, .ref (A 38)] (fun v32 ev32 => ?_) (fun K69 => ?_)
          · replace hres := bvE (ev32.trans q67.symm) hres
            replace hok := bvO (ev32.trans q67.symm) hok
            have h33 := hok.1
            replace hok := hok.2
            refine va_iast hx hb hK hP hD hS 27 0 rfl rfl h33 (dd_of dX12_holds_3 2 rfl) (fun H locs hP hD hS => ?_)
            obtain ⟨F34, e35⟩ : ∃ z : jF, z = u2 F21 38 (Int32.toNatClampNeg p1) v32 := ⟨_, rfl⟩
            have hP : va_P D vwCl (mW yy A F34 G22) H := by rw [e35]; exact hP
            have hD : va_D Z (mW yy A F34 G22) := by rw [e35]; exact hD
            replace hres := bvE e35 hres
            replace hok := bvO e35 hok
            refine lv_aload_n hx hb (dd_of dX12_holds_3 3 rfl) rfl (lv_at hl 3 rfl) ?_
            refine va_get (D := D) (cl := vwCl) (tys := jT yy) (ci := 12) (v := .ref (A 39)) (C := RX12) (T := TX12) (N := 61) hx hb hts hin12 hown hK hP 0 rfl rfl 39 (by decide) (jw hts gw152) (fun _ h9 => h9) rfl (dd_of dX12_holds_3 4 rfl) ?_
            refine lv_iload_n hx hb (dd_of dX12_holds_3 5 rfl) rfl (lv_at hl 4 rfl) ?_
            refine lv_aload_n hx hb (dd_of dX12_holds_3 6 rfl) rfl (lv_at hl 3 rfl) ?_
            refine va_get (D := D) (cl := vwCl) (tys := jT yy) (ci := 12) (v := .ref (A 38)) (C := RX12) (T := TX12) (N := 61) hx hb hts hin12 hown hK hP 0 rfl rfl 38 (by decide) (jw hts gw151) (fun _ h9 => h9) rfl (dd_of dX12_holds_3 7 rfl) ?_
            refine lv_iload_n hx hb (dd_of dX12_holds_3 8 rfl) rfl (lv_at hl 4 rfl) ?_
            have h36 := hok.1
            replace hok := hok.2
            refine va_iald hx hb hK hP 27 0 rfl rfl h36 (dd_of dX12_holds_3 9 rfl) ?_
            refine lv_aload_n hx hb (dd_of dX12_holds_3 10 rfl) rfl (lv_at hl 3 rfl) ?_
            refine va_get (D := D) (cl := vwCl) (tys := jT yy) (ci := 12) (v := .ref (A 36)) (C := RX12) (T := TX12) (N := 61) hx hb hts hin12 hown hK hP 0 rfl rfl 36 (by decide) (jw hts gw149) (fun _ h9 => h9) rfl (dd_of dX12_holds_3 11 rfl) ?_
            refine lv_iload_n hx hb (dd_of dX12_holds_3 12 rfl) rfl (lv_at hl 4 rfl) ?_
            have h37 := hok.1
            replace hok := hok.2
            refine va_iald hx hb hK hP 25 0 rfl rfl h37 (dd_of dX12_holds_3 13 rfl) ?_
            obtain ⟨z71, q70⟩ : ∃ z : Int32, (if (F34 38 (Int32.toNatClampNeg p1)) < (F34 36 (Int32.toNatClampNeg p1)) then 0 else 1) = z := ⟨_, rfl⟩
            refine jn_i (ls := ls) (v := z71) 225 [.int p1, .ref (A 39)] (fun v39 ev39 => ?_) (fun K72 => ?_)
            · replace hres := bvE (ev39.trans q70.symm) hres
              replace hok := bvO (ev39.trans q70.symm) hok
              have h40 := hok
              refine va_iast hx hb hK hP hD hS 28 0 rfl rfl h40 (dd_of dX12_holds_3 18 rfl) (fun H locs hP hD hS => ?_)
              obtain ⟨F41, e42⟩ : ∃ z : jF, z = u2 F34 39 (Int32.toNatClampNeg p1) v39 := ⟨_, rfl⟩
              have hP : va_P D vwCl (mW yy A F41 G22) H := by rw [e42]; exact hP
              have hD : va_D Z (mW yy A F41 G22) := by rw [e42]; exact hD
              replace hres := bvE e42 hres
              subst hQ
              exact W.vret hx hb hr (fun t ht hW => ⟨⟨(F41, G22), rfl, hres, by rw [ht]; exact hP, va_K.moved hW.alike hK, hD⟩, hS.F ht⟩) hS.2.2 (dd_of dX12_holds_3 19 rfl) hlk
            · skip
              refine lv_icmp_lt (tgt := 224) hx hb (dd_of dX12_holds_3 14 rfl) (by decide) (fun c38 => ?_) (fun c38 => ?_)
              · replace q70 := ifE c38 q70
                refine lv_iconst (v := 0) hx hb (dd_of dX12_holds_3 17 rfl) (by decide) ?_
                exact K72 _ q70
              · replace q70 := ifN c38 q70
                refine lv_iconst (v := 1) hx hb (dd_of dX12_holds_3 15 rfl) (by decide) ?_
                refine lv_goto (tgt := 225) hx hb (dd_of dX12_holds_3 16 rfl) (by decide) ?_
                exact K72 _ q70
          · skip
            refine jl_le (tgt := 196) hx hb (dd_of dX12_holds_2 36 rfl) (dd_of dX12_holds_2 37 rfl) (by decide) (fun c31 => ?_) (fun c31 => ?_)
            · replace q67 := ifE c31 q67
              refine lv_lload hx hb (dd_of dX12_holds_3 0 rfl) (lv_at hl 0 rfl) ?_
              refine lv_l2i (v := (Int64.toInt32 x30)) hx hb (dd_of dX12_holds_3 1 rfl) rfl ?_
              exact K69 _ q67
            · replace q67 := ifN c31 q67
              refine lv_ldc (v := 2000000000) hx hb hown (jw hts gw925) (dd_of dX12_holds_2 38 rfl) ?_
              refine lv_goto (tgt := 199) hx hb (dd_of dX12_holds_2 39 rfl) (by decide) ?_
              exact K69 _ q67
        · skip
          refine jl_le (tgt := 173) hx hb (dd_of dX12_holds_2 24 rfl) (dd_of dX12_holds_2 25 rfl) (by decide) (fun c28 => ?_) (fun c28 => ?_)
          · replace q64 := ifE c28 q64
            refine lv_lconst (v := 0) hx hb (dd_of dX12_holds_2 28 rfl) (by decide) ?_
            exact K66 _ q64
          · replace q64 := ifN c28 q64
            refine lv_ldc2 (v := 20) hx hb hown (jw hts gw826) (dd_of dX12_holds_2 26 rfl) ?_
            refine lv_goto (tgt := 174) hx hb (dd_of dX12_holds_2 27 rfl) (by decide) ?_
            exact K66 _ q64
      · skip
        refine jl_lt (tgt := 158) hx hb (dd_of dX12_holds_2 14 rfl) (dd_of dX12_holds_2 15 rfl) (by decide) (fun c26 => ?_) (fun c26 => ?_)
        · replace q61 := ifE c26 q61
          refine lv_lconst (v := 0) hx hb (dd_of dX12_holds_2 20 rfl) (by decide) ?_
          exact K63 _ q61
        · replace q61 := ifN c26 q61
          refine lv_lload_n hx hb (dd_of dX12_holds_2 16 rfl) rfl (lv_at hl 1 rfl) ?_
          refine lv_ldc2 (v := 100) hx hb hown (jw hts gw786) (dd_of dX12_holds_2 17 rfl) ?_
          refine lv_ldiv hx hb (dd_of dX12_holds_2 18 rfl) (by decide) ?_
          refine lv_goto (tgt := 159) hx hb (dd_of dX12_holds_2 19 rfl) (by decide) ?_
          exact K63 _ q61
    · skip
      refine jl_ge (tgt := 96) hx hb (dd_of dX12_holds_1 16 rfl) (dd_of dX12_holds_1 17 rfl) (by decide) (fun c10 => ?_) (fun c10 => ?_)
      · replace q58 := ifE c10 q58
        refine lv_lload_n hx hb (dd_of dX12_holds_1 21 rfl) rfl (lv_at hl 0 rfl) ?_
        exact K60 _ q58
      · replace q58 := ifN c10 q58
        refine lv_lload_n hx hb (dd_of dX12_holds_1 18 rfl) rfl (lv_at hl 0 rfl) ?_
        refine lv_lneg hx hb (dd_of dX12_holds_1 19 rfl) ?_
        refine lv_goto (tgt := 97) hx hb (dd_of dX12_holds_1 20 rfl) (by decide) ?_
        exact K60 _ q58
  · replace hres := ifN c2 hres
    replace hok := hok.2 c2
    refine lv_aload_n hx hb (dd_of dX12_holds_0 5 rfl) rfl (lv_at hl 0 rfl) ?_
    refine lv_aload_n hx hb (dd_of dX12_holds_0 6 rfl) rfl (lv_at hl 0 rfl) ?_
    refine va_get (D := D) (cl := vwCl) (tys := jT yy) (ci := 12) (v := .ref (A 33)) (C := RX12) (T := TX12) (N := 61) hx hb hts hin12 hown hK hP 0 rfl rfl 33 (by decide) (jw hts gw146) (fun _ h9 => h9) rfl (dd_of dX12_holds_0 7 rfl) ?_
    refine lv_iload_n hx hb (dd_of dX12_holds_0 8 rfl) rfl (lv_at hl 1 rfl) ?_
    have h43 := hok.1
    replace hok := hok.2
    refine va_iald hx hb hK hP 22 0 rfl rfl h43 (dd_of dX12_holds_0 9 rfl) ?_
    refine lv_aload_n hx hb (dd_of dX12_holds_0 10 rfl) rfl (lv_at hl 0 rfl) ?_
    refine va_get (D := D) (cl := vwCl) (tys := jT yy) (ci := 12) (v := .ref (A 34)) (C := RX12) (T := TX12) (N := 61) hx hb hts hin12 hown hK hP 0 rfl rfl 34 (by decide) (jw hts gw147) (fun _ h9 => h9) rfl (dd_of dX12_holds_0 11 rfl) ?_
    refine lv_iload_n hx hb (dd_of dX12_holds_0 12 rfl) rfl (lv_at hl 1 rfl) ?_
    have h44 := hok.1
    replace hok := hok.2
    refine va_iald hx hb hK hP 23 0 rfl rfl h44 (dd_of dX12_holds_0 13 rfl) ?_
    refine lv_ldc2 (v := 50) hx hb hown (jw hts gw921) (dd_of dX12_holds_0 14 rfl) ?_
    refine lv_aload_n hx hb (dd_of dX12_holds_0 15 rfl) rfl (lv_at hl 0 rfl) ?_
    refine va_get (D := D) (cl := vwCl) (tys := jT yy) (ci := 12) (v := .ref (A 39)) (C := RX12) (T := TX12) (N := 61) hx hb hts hin12 hown hK hP 0 rfl rfl 39 (by decide) (jw hts gw152) (fun _ h9 => h9) rfl (dd_of dX12_holds_0 16 rfl) ?_
    refine lv_iload_n hx hb (dd_of dX12_holds_0 17 rfl) rfl (lv_at hl 1 rfl) ?_
    have h45 := hok.1
    replace hok := hok.2
    refine va_iald hx hb hK hP 28 0 rfl rfl h45 (dd_of dX12_holds_0 18 rfl) ?_
    refine lv_i2l (v := (Int32.toInt64 (F 39 (Int32.toNatClampNeg p1)))) hx hb (dd_of dX12_holds_0 19 rfl) rfl ?_
    refine lv_lmul hx hb (dd_of dX12_holds_0 20 rfl) ?_
    have h46 := hok.1
    replace hok := hok.2
    refine jm_l (As := [.int (F 33 (Int32.toNatClampNeg p1)), .int (F 34 (Int32.toNatClampNeg p1)), .long (50 * (Int32.toInt64 (F 39 (Int32.toNatClampNeg p1))))]) (rest := []) (w := (mW yy A F G)) (w1 := fun u : jS => (mW yy A u.1 u.2)) (D := D) (yy := yy) ⟨hx, hb, hml, hown, hts⟩ (qX12_flows l D yy A F G H.size (F 33 (Int32.toNatClampNeg p1)) (F 34 (Int32.toNatClampNeg p1)) (50 * (Int32.toInt64 (F 39 (Int32.toNatClampNeg p1)))) h46) (cwV 3 hts (jgV gw901 gw902 gw903 gw5 gw904) rfl rfl rfl (by decide +kernel) ⟨Nat.le_of_ble_eq_true rfl, Nat.le_of_ble_eq_true rfl⟩) hP hK hD hS hA (va_recv hK hP (ci := 12) (q0 := 0) rfl rfl) rfl hl.1 rfl (Nat.le_of_ble_eq_true rfl) (dd_of dX12_holds_0 21 rfl) ⟨Nat.zero_le _, Nat.zero_le _⟩ (fun x50 u9 H locs w49 hP hD hS => ?_)
    obtain ⟨F47, G48⟩ := u9
    have hP : va_P D vwCl (mW yy A F47 G48) H := hP
    have hD : va_D Z (mW yy A F47 G48) := hD
    replace hres := brE w49 hres
    replace hok := brO w49 hok
    refine lv_pop2_2 hx hb (dd_of dX12_holds_0 22 rfl) rfl ?_
    refine lv_aload_n hx hb (dd_of dX12_holds_0 23 rfl) rfl (lv_at hl 0 rfl) ?_
    refine va_get (D := D) (cl := vwCl) (tys := jT yy) (ci := 12) (v := .ref (A 39)) (C := RX12) (T := TX12) (N := 61) hx hb hts hin12 hown hK hP 0 rfl rfl 39 (by decide) (jw hts gw152) (fun _ h9 => h9) rfl (dd_of dX12_holds_0 24 rfl) ?_
    refine lv_iload_n hx hb (dd_of dX12_holds_0 25 rfl) rfl (lv_at hl 1 rfl) ?_
    refine lv_dup2_11 hx hb (dd_of dX12_holds_0 26 rfl) rfl rfl ?_
    have h51 := hok.1
    replace hok := hok.2
    refine va_iald hx hb hK hP 28 0 rfl rfl h51 (dd_of dX12_holds_0 27 rfl) ?_
    refine lv_aload_n hx hb (dd_of dX12_holds_0 28 rfl) rfl (lv_at hl 0 rfl) ?_
    refine va_get (D := D) (cl := vwCl) (tys := jT yy) (ci := 12) (v := .ref (A 39)) (C := RX12) (T := TX12) (N := 61) hx hb hts hin12 hown hK hP 0 rfl rfl 39 (by decide) (jw hts gw152) (fun _ h9 => h9) rfl (dd_of dX12_holds_0 29 rfl) ?_
    refine lv_iload_n hx hb (dd_of dX12_holds_0 30 rfl) rfl (lv_at hl 1 rfl) ?_
    have h52 := hok.1
    replace hok := hok.2
    refine va_iald hx hb hK hP 28 0 rfl rfl h52 (dd_of dX12_holds_0 31 rfl) ?_
    refine lv_bipush (v := 10) hx hb (dd_of dX12_holds_0 32 rfl) (by decide) ?_
    obtain ⟨z74, q73⟩ : ∃ z : Int32, (if 10 ≤ (F47 39 (Int32.toNatClampNeg p1)) then 0 else 1) = z := ⟨_, rfl⟩
    refine jn_i (ls := ls) (v := z74) 60 [.int (F47 39 (Int32.toNatClampNeg p1)), .int p1, .ref (A 39)] (fun v54 ev54 => ?_) (fun K75 => ?_)
    · replace hres := bvE (ev54.trans q73.symm) hres
      replace hok := bvO (ev54.trans q73.symm) hok
      refine lv_iadd hx hb (dd_of dX12_holds_0 37 rfl) ?_
      have h55 := hok
      refine va_iast hx hb hK hP hD hS 28 0 rfl rfl h55 (dd_of dX12_holds_0 38 rfl) (fun H locs hP hD hS => ?_)
      obtain ⟨F56, e57⟩ : ∃ z : jF, z = u2 F47 39 (Int32.toNatClampNeg p1) ((F47 39 (Int32.toNatClampNeg p1)) + v54) := ⟨_, rfl⟩
      have hP : va_P D vwCl (mW yy A F56 G48) H := by rw [e57]; exact hP
      have hD : va_D Z (mW yy A F56 G48) := by rw [e57]; exact hD
      replace hres := bvE e57 hres
      subst hQ
      exact W.vret hx hb hr (fun t ht hW => ⟨⟨(F56, G48), rfl, hres, by rw [ht]; exact hP, va_K.moved hW.alike hK, hD⟩, hS.F ht⟩) hS.2.2 (dd_of dX12_holds_0 39 rfl) hlk
    · skip
      refine lv_icmp_ge (tgt := 59) hx hb (dd_of dX12_holds_0 33 rfl) (by decide) (fun c53 => ?_) (fun c53 => ?_)
      · replace q73 := ifE c53 q73
        refine lv_iconst (v := 0) hx hb (dd_of dX12_holds_0 36 rfl) (by decide) ?_
        exact K75 _ q73
      · replace q73 := ifN c53 q73
        refine lv_iconst (v := 1) hx hb (dd_of dX12_holds_0 34 rfl) (by decide) ?_
        refine lv_goto (tgt := 60) hx hb (dd_of dX12_holds_0 35 rfl) (by decide) ?_
        exact K75 _ q73
set_option maxHeartbeats 4000000 in
set_option maxRecDepth 100000 in
theorem qX12_floorOf (l : Launch) (D : va_G) (yy : Nat → ClassId) (A : Nat → Nat) (F : jF) (G : jG) (p1 : Int32) (hok : okX12_floorOf F G p1) : Met l yX12_floorOf (Cond.code yX12_floorOf cX12_floorOf 2 (some .long) :: wsL_law) rmX12_floorOf (va_Pc [.ref (A 99), .int p1] (jR D yy (mW yy A F G))) (vp_Sl (fun r => r = gX12_floorOf F G p1)) 0 0 (fun _ => False) := by
  generalize hres : gX12_floorOf F G p1 = RES
  refine jM (own := RX12) (by decide) rfl (Nat.le_of_ble_eq_true rfl) ?_
  intro p e s m args below meth c ls Q hQ hargs S hr hlk hinit hB hl
  obtain ⟨hx, hb, hml, hown, hts⟩ := S
  have hl : lv_has ls 2 [(0, .ref (A 99)), (1, .int p1)] := hl
  have hin12 : ∀ w ∈ u_ws RX12 TX12 61, w ∈ (Cond.code yX12_floorOf cX12_floorOf 2 (some .long) :: wsL_law) := fun w h => List.mem_cons_of_mem _ (inlX12 w h)
  obtain ⟨hP, hK⟩ := hB
  unfold gX12_floorOf at hres
  unfold okX12_floorOf at hok
  refine lv_ldc2 (v := 100) hx hb hown (jw hts gw786) (dd_of dX12_floorOf_0 0 rfl) ?_
  refine lv_aload_n hx hb (dd_of dX12_floorOf_0 1 rfl) rfl (lv_at hl 0 rfl) ?_
  refine va_get (D := D) (cl := vwCl) (tys := jT yy) (ci := 12) (v := .ref (A 10)) (C := RX12) (T := TX12) (N := 61) hx hb hts hin12 hown hK hP 0 rfl rfl 10 (by decide) (jw hts gw126) (fun _ h9 => h9) rfl (dd_of dX12_floorOf_0 2 rfl) ?_
  refine lv_iload_n hx hb (dd_of dX12_floorOf_0 3 rfl) rfl (lv_at hl 1 rfl) ?_
  have h1 := hok.1
  replace hok := hok.2
  refine va_iald hx hb hK hP 2 0 rfl rfl h1 (dd_of dX12_floorOf_0 4 rfl) ?_
  refine lv_i2l (v := (Int32.toInt64 (F 10 (Int32.toNatClampNeg p1)))) hx hb (dd_of dX12_floorOf_0 5 rfl) rfl ?_
  refine lv_lmul hx hb (dd_of dX12_floorOf_0 6 rfl) ?_
  refine lv_aload_n hx hb (dd_of dX12_floorOf_0 7 rfl) rfl (lv_at hl 0 rfl) ?_
  refine va_get (D := D) (cl := vwCl) (tys := jT yy) (ci := 12) (v := .ref (A 12)) (C := RX12) (T := TX12) (N := 61) hx hb hts hin12 hown hK hP 0 rfl rfl 12 (by decide) (jw hts gw128) (fun _ h9 => h9) rfl (dd_of dX12_floorOf_0 8 rfl) ?_
  refine lv_iload_n hx hb (dd_of dX12_floorOf_0 9 rfl) rfl (lv_at hl 1 rfl) ?_
  have h2 := hok
  refine va_iald hx hb hK hP 4 0 rfl rfl h2 (dd_of dX12_floorOf_0 10 rfl) ?_
  refine lv_i2l (v := (Int32.toInt64 (F 12 (Int32.toNatClampNeg p1)))) hx hb (dd_of dX12_floorOf_0 11 rfl) rfl ?_
  refine lv_ladd hx hb (dd_of dX12_floorOf_0 12 rfl) ?_
  subst hQ
  exact W.lret (v := ((100 * (Int32.toInt64 (F 10 (Int32.toNatClampNeg p1)))) + (Int32.toInt64 (F 12 (Int32.toNatClampNeg p1))))) hx hb hr (fun t ht _ => ⟨_, rfl, hres, ht⟩) (fun _ h => absurd h List.not_mem_nil) (dd_of dX12_floorOf_0 13 rfl) hlk
set_option maxHeartbeats 4000000 in
set_option maxRecDepth 100000 in
theorem qX12_harms (l : Launch) (D : va_G) (yy : Nat → ClassId) (A : Nat → Nat) (F : jF) (G : jG) (sz : Nat)  (hok : okX12_harms F G ) : Met l yX12_harms (Cond.code yX12_harms cX12_harms 4 none :: wsL_law) rmX12_harms (va_Pc [.ref (A 99)] (jP D yy (mW yy A F G) sz)) (va_Qv (fun u : jS => u = gX12_harms F G ) (fun (u : jS) t => jB D yy (va_A (mW yy A F G) sz) (mW yy A u.1 u.2) t) (va_A (mW yy A F G) sz)) 0 0 (va_A (mW yy A F G) sz) := by
  generalize hres : gX12_harms F G  = RES
  refine jM (own := RX12) (by decide) rfl (Nat.le_of_ble_eq_true rfl) ?_
  intro p e s m args below meth c ls Q hQ hargs S hr hlk hinit hB hl
  obtain ⟨hx, hb, hml, hown, hts⟩ := S
  have hl : lv_has ls 4 [(0, .ref (A 99))] := hl
  have hin12 : ∀ w ∈ u_ws RX12 TX12 61, w ∈ (Cond.code yX12_harms cX12_harms 4 none :: wsL_law) := fun w h => List.mem_cons_of_mem _ (inlX12 w h)
  obtain ⟨hsz, hP, hK, hD0⟩ := hB
  subst hsz
  have hD := hD0.self (sz := s.heap.size)
  generalize hZ : va_A (mW yy A F G) s.heap.size = Z at hD hQ
  have hA : ∀ q : Nat, s.heap.size ≤ q → Z q := fun q h => by rw [← hZ]; exact Or.inr h
  obtain ⟨H, hH⟩ : ∃ z, z = s.heap := ⟨_, rfl⟩
  obtain ⟨locs, hlocs⟩ : ∃ z : List Loc, z = [] := ⟨_, rfl⟩
  have hS : va_S Z s.heap H locs := by rw [hH, hlocs]; exact va_S.rf
  rw [← hH] at hP
  suffices hgo : W p l e rmX12_harms s m args below meth c H locs 0 0 Q (F0 m 0 ls []) by rw [hH, hlocs] at hgo; exact hgo
  unfold gX12_harms at hres
  unfold okX12_harms at hok
  refine lv_iconst (v := 0) hx hb (dd_of dX12_harms_0 0 rfl) (by decide) ?_
  refine lv_istore_n (lv' := [(1, .int 0), (0, .ref (A 99))]) hx hb (dd_of dX12_harms_0 1 rfl) rfl hl (by decide) rfl (fun ls hl => ?_)
  have LP2 : ∀ (K : Int32 → jF → jG → jS) (okK : Int32 → jF → jG → Prop) (n : Nat), ∀ (v1 : Int32) (F : jF) (G : jG), ∀ (H : Heap) (locs : List Loc) (ls : Array Slot), va_P D vwCl (mW yy A F G) H → va_D Z (mW yy A F G) → va_S Z s.heap H locs → lv_has ls 4 [(1, .int v1), (0, .ref (A 99))] → okX12_harms_L2  okK n v1 F G → gX12_harms_L2  K n v1 F G = RES → (∀ (v1 : Int32) (F : jF) (G : jG), ∀ (H : Heap) (locs : List Loc) (ls : Array Slot), va_P D vwCl (mW yy A F G) H → va_D Z (mW yy A F G) → va_S Z s.heap H locs → lv_has ls 4 [(1, .int v1), (0, .ref (A 99))] → okK v1 F G → K v1 F G = RES → W p l e rmX12_harms s m args below meth c H locs 0 0 Q (F0 m 85 ls [])) → W p l e rmX12_harms s m args below meth c H locs 0 0 Q (F0 m 2 ls []) := by
    intro  K okK n
    induction n with
    | zero =>
      intro v1 F G H locs ls hP hD hS hl hok _ _
      exact absurd hok (by unfold okX12_harms_L2; exact id)
    | succ n9 ih =>
      intro v1 F G H locs ls hP hD hS hl hok hres hexit
      unfold gX12_harms_L2 at hres
      unfold okX12_harms_L2 at hok
      refine lv_iload_n hx hb (dd_of dX12_harms_0 2 rfl) rfl (lv_at hl 0 rfl) ?_
      refine lv_aload_n hx hb (dd_of dX12_harms_0 3 rfl) rfl (lv_at hl 1 rfl) ?_
      refine va_get (D := D) (cl := vwCl) (tys := jT yy) (ci := 12) (v := .int (F 8 0)) (C := RX12) (T := TX12) (N := 61) hx hb hts hin12 hown hK hP 0 rfl rfl 8 (by decide) (jw hts gw589) (fun _ h9 => h9) rfl (dd_of dX12_harms_0 4 rfl) ?_
      refine lv_icmp_ge (tgt := 85) hx hb (dd_of dX12_harms_0 5 rfl) (by decide) (fun c1 => ?_) (fun c1 => ?_)
      · replace hres := ifE c1 hres
        replace hok := hok.1 c1
        exact hexit v1 F G H locs ls hP hD hS (lv_sub hl [0, 1] rfl) hok hres
      · replace hres := ifN c1 hres
        replace hok := hok.2 c1
        refine lv_aload_n hx hb (dd_of dX12_harms_0 6 rfl) rfl (lv_at hl 1 rfl) ?_
        refine lv_iload_n hx hb (dd_of dX12_harms_0 7 rfl) rfl (lv_at hl 0 rfl) ?_
        have h2 := hok.1
        replace hok := hok.2
        refine jc_l (As := [.int v1]) (rest := []) (w := (mW yy A F G)) (D := D) (yy := yy) ⟨hx, hb, hml, hown, hts⟩ (qX12_levelOf l D yy A F G v1 h2) (cwV 1 hts (jgV gw781 gw782 gw783 gw5 gw784) rfl rfl rfl (by decide +kernel) ⟨Nat.le_of_ble_eq_true rfl, Nat.le_of_ble_eq_true rfl⟩) hP hK (va_recv hK hP (ci := 12) (q0 := 0) rfl rfl) rfl hl.1 rfl (Nat.le_of_ble_eq_true rfl) (dd_of dX12_harms_0 8 rfl) ⟨Nat.zero_le _, Nat.zero_le _⟩ (fun x3 ex3 => ?_)
        replace hres := bvE ex3 hres
        replace hok := bvO ex3 hok
        refine lv_aload_n hx hb (dd_of dX12_harms_0 9 rfl) rfl (lv_at hl 1 rfl) ?_
        refine lv_iload_n hx hb (dd_of dX12_harms_0 10 rfl) rfl (lv_at hl 0 rfl) ?_
        have h4 := hok.1
        replace hok := hok.2
        refine jc_l (As := [.int v1]) (rest := [.long x3]) (w := (mW yy A F G)) (D := D) (yy := yy) ⟨hx, hb, hml, hown, hts⟩ (qX12_floorOf l D yy A F G v1 h4) (cwV 1 hts (jgV gw936 gw937 gw938 gw5 gw939) rfl rfl rfl (by decide +kernel) ⟨Nat.le_of_ble_eq_true rfl, Nat.le_of_ble_eq_true rfl⟩) hP hK (va_recv hK hP (ci := 12) (q0 := 0) rfl rfl) rfl hl.1 rfl (Nat.le_of_ble_eq_true rfl) (dd_of dX12_harms_0 11 rfl) ⟨Nat.zero_le _, Nat.zero_le _⟩ (fun x5 ex5 => ?_)
        replace hres := bvE ex5 hres
        replace hok := bvO ex5 hok
        refine lv_lsub hx hb (dd_of dX12_harms_0 12 rfl) ?_
        refine lv_topl (fun x6 ex6 => ?_)
        replace hres := bvE ex6 hres
        replace hok := bvO ex6 hok
        refine lv_lstore_n (lv' := [(2, .long x6), (1, .int v1), (0, .ref (A 99))]) hx hb (dd_of dX12_harms_0 13 rfl) rfl hl (by decide) rfl (fun ls hl => ?_)
        refine lv_aload_n hx hb (dd_of dX12_harms_0 14 rfl) rfl (lv_at hl 2 rfl) ?_
        refine va_get (D := D) (cl := vwCl) (tys := jT yy) (ci := 12) (v := .ref (A 13)) (C := RX12) (T := TX12) (N := 61) hx hb hts hin12 hown hK hP 0 rfl rfl 13 (by decide) (jw hts gw129) (fun _ h9 => h9) rfl (dd_of dX12_harms_0 15 rfl) ?_
        refine lv_iload_n hx hb (dd_of dX12_harms_0 16 rfl) rfl (lv_at hl 1 rfl) ?_
        have h7 := hok.1
        replace hok := hok.2
        refine va_iald hx hb hK hP 5 0 rfl rfl h7 (dd_of dX12_harms_0 17 rfl) ?_
        refine lv_if_le (tgt := 79) hx hb (dd_of dX12_harms_0 18 rfl) (by decide) (fun c8 => ?_) (fun c8 => ?_)
        · replace hres := ifE c8 hres
          replace hok := hok.1 c8
          refine lv_iinc (v := (v1 + 1)) (lv' := [(1, .int (v1 + 1)), (2, .long x6), (0, .ref (A 99))]) hx hb (dd_of dX12_harms_1 9 rfl) hl (k := 1) rfl rfl (by decide) rfl (fun ls hl => ?_)
          refine lv_goto (tgt := 2) hx hb (dd_of dX12_harms_1 10 rfl) (by decide) ?_
          exact ih (v1 + 1) F G H locs ls hP hD hS (lv_sub hl [0, 2] rfl) hok hres hexit
        · replace hres := ifN c8 hres
          replace hok := hok.2 c8
          refine lv_lload_n hx hb (dd_of dX12_harms_0 19 rfl) rfl (lv_at hl 0 rfl) ?_
          refine lv_lconst (v := 0) hx hb (dd_of dX12_harms_0 20 rfl) (by decide) ?_
          refine jl_le (tgt := 79) hx hb (dd_of dX12_harms_0 21 rfl) (dd_of dX12_harms_0 22 rfl) (by decide) (fun c9 => ?_) (fun c9 => ?_)
          · replace hres := ifE c9 hres
            replace hok := hok.1 c9
            refine lv_iinc (v := (v1 + 1)) (lv' := [(1, .int (v1 + 1)), (2, .long x6), (0, .ref (A 99))]) hx hb (dd_of dX12_harms_1 9 rfl) hl (k := 1) rfl rfl (by decide) rfl (fun ls hl => ?_)
            refine lv_goto (tgt := 2) hx hb (dd_of dX12_harms_1 10 rfl) (by decide) ?_
            exact ih (v1 + 1) F G H locs ls hP hD hS (lv_sub hl [0, 2] rfl) hok hres hexit
          · replace hres := ifN c9 hres
            replace hok := hok.2 c9
            refine lv_aload_n hx hb (dd_of dX12_harms_0 23 rfl) rfl (lv_at hl 2 rfl) ?_
            refine va_get (D := D) (cl := vwCl) (tys := jT yy) (ci := 12) (v := .ref (A 15)) (C := RX12) (T := TX12) (N := 61) hx hb hts hin12 hown hK hP 0 rfl rfl 15 (by decide) (jw hts gw131) (fun _ h9 => h9) rfl (dd_of dX12_harms_0 24 rfl) ?_
            refine lv_iload_n hx hb (dd_of dX12_harms_0 25 rfl) rfl (lv_at hl 1 rfl) ?_
            refine lv_dup2_11 hx hb (dd_of dX12_harms_0 26 rfl) rfl rfl ?_
            have h10 := hok.1
            replace hok := hok.2
            refine va_lald hx hb hK hP 7 1 rfl rfl h10 (dd_of dX12_harms_0 27 rfl) ?_
            refine lv_aload_n hx hb (dd_of dX12_harms_0 28 rfl) rfl (lv_at hl 2 rfl) ?_
            refine va_get (D := D) (cl := vwCl) (tys := jT yy) (ci := 12) (v := .ref (A 13)) (C := RX12) (T := TX12) (N := 61) hx hb hts hin12 hown hK hP 0 rfl rfl 13 (by decide) (jw hts gw129) (fun _ h9 => h9) rfl (dd_of dX12_harms_0 29 rfl) ?_
            refine lv_iload_n hx hb (dd_of dX12_harms_0 30 rfl) rfl (lv_at hl 1 rfl) ?_
            have h11 := hok.1
            replace hok := hok.2
            refine va_iald hx hb hK hP 5 0 rfl rfl h11 (dd_of dX12_harms_0 31 rfl) ?_
            refine lv_i2l (v := (Int32.toInt64 (F 13 (Int32.toNatClampNeg v1)))) hx hb (dd_of dX12_harms_0 32 rfl) rfl ?_
            refine lv_lload_n hx hb (dd_of dX12_harms_0 33 rfl) rfl (lv_at hl 0 rfl) ?_
            refine lv_ldc2 (v := 50) hx hb hown (jw hts gw921) (dd_of dX12_harms_0 34 rfl) ?_
            refine lv_ldiv hx hb (dd_of dX12_harms_0 35 rfl) (by decide) ?_
            refine lv_ldc2 (v := 9) hx hb hown (jw hts gw935) (dd_of dX12_harms_0 36 rfl) ?_
            obtain ⟨z21, q20⟩ : ∃ z : Int64, (if 9 ≤ (x6 / 50) then 9 else (x6 / 50)) = z := ⟨_, rfl⟩
            refine jn_l (ls := ls) (v := z21) 74 [.long (Int32.toInt64 (F 13 (Int32.toNatClampNeg v1))), .long (G 15 (Int32.toNatClampNeg v1)), .int v1, .ref (A 15)] (fun v13 ev13 => ?_) (fun K22 => ?_)
            · replace hres := bvE (ev13.trans q20.symm) hres
              replace hok := bvO (ev13.trans q20.symm) hok
              refine lv_lconst (v := 1) hx hb (dd_of dX12_harms_1 4 rfl) (by decide) ?_
              refine lv_ladd hx hb (dd_of dX12_harms_1 5 rfl) ?_
              refine lv_lmul hx hb (dd_of dX12_harms_1 6 rfl) ?_
              refine lv_ladd hx hb (dd_of dX12_harms_1 7 rfl) ?_
              have h14 := hok.1
              replace hok := hok.2
              refine va_last hx hb hK hP hD hS 7 1 rfl rfl h14 (dd_of dX12_harms_1 8 rfl) (fun H locs hP hD hS => ?_)
              obtain ⟨G15, e16⟩ : ∃ z : jG, z = u2 G 15 (Int32.toNatClampNeg v1) ((G 15 (Int32.toNatClampNeg v1)) + ((Int32.toInt64 (F 13 (Int32.toNatClampNeg v1))) * (v13 + 1))) := ⟨_, rfl⟩
              have hP : va_P D vwCl (mW yy A F G15) H := by rw [e16]; exact hP
              have hD : va_D Z (mW yy A F G15) := by rw [e16]; exact hD
              replace hres := bvE e16 hres
              replace hok := bvO e16 hok
              refine lv_iinc (v := (v1 + 1)) (lv' := [(1, .int (v1 + 1)), (2, .long x6), (0, .ref (A 99))]) hx hb (dd_of dX12_harms_1 9 rfl) hl (k := 1) rfl rfl (by decide) rfl (fun ls hl => ?_)
              refine lv_goto (tgt := 2) hx hb (dd_of dX12_harms_1 10 rfl) (by decide) ?_
              exact ih (v1 + 1) F G15 H locs ls hP hD hS (lv_sub hl [0, 2] rfl) hok hres hexit
            · skip
              refine jl_ge (tgt := 71) hx hb (dd_of dX12_harms_0 37 rfl) (dd_of dX12_harms_0 38 rfl) (by decide) (fun c12 => ?_) (fun c12 => ?_)
              · replace q20 := ifE c12 q20
                refine lv_ldc2 (v := 9) hx hb hown (jw hts gw935) (dd_of dX12_harms_1 3 rfl) ?_
                exact K22 _ q20
              · replace q20 := ifN c12 q20
                refine lv_lload_n hx hb (dd_of dX12_harms_0 39 rfl) rfl (lv_at hl 0 rfl) ?_
                refine lv_ldc2 (v := 50) hx hb hown (jw hts gw921) (dd_of dX12_harms_1 0 rfl) ?_
                refine lv_ldiv hx hb (dd_of dX12_harms_1 1 rfl) (by decide) ?_
                refine lv_goto (tgt := 74) hx hb (dd_of dX12_harms_1 2 rfl) (by decide) ?_
                exact K22 _ q20
  refine LP2  _ _ 80 0 F G H locs ls hP hD hS (lv_sub hl [0, 1] rfl) hok hres (fun y17 F18 G19 H locs ls hP hD hS hl hok hres => ?_)
  subst hQ
  exact W.vret hx hb hr (fun t ht hW => ⟨⟨(F18, G19), rfl, hres, by rw [ht]; exact hP, va_K.moved hW.alike hK, hD⟩, hS.F ht⟩) hS.2.2 (dd_of dX12_harms_1 11 rfl) hlk
set_option maxHeartbeats 4000000 in
set_option maxRecDepth 100000 in
theorem qX12_isCut (l : Launch) (D : va_G) (yy : Nat → ClassId) (A : Nat → Nat) (F : jF) (G : jG) (p1 : Int32) (hok : okX12_isCut F G p1) : Met l yX12_isCut (Cond.code yX12_isCut cX12_isCut 2 (some .boolean) :: wsL_law) rmX12_isCut (va_Pc [.ref (A 99), .int p1] (jR D yy (mW yy A F G))) (vp_Si (fun r => r = gX12_isCut F G p1)) 0 0 (fun _ => False) := by
  generalize hres : gX12_isCut F G p1 = RES
  refine jM (own := RX12) (by decide) rfl (Nat.le_of_ble_eq_true rfl) ?_
  intro p e s m args below meth c ls Q hQ hargs S hr hlk hinit hB hl
  obtain ⟨hx, hb, hml, hown, hts⟩ := S
  have hl : lv_has ls 2 [(0, .ref (A 99)), (1, .int p1)] := hl
  have hin12 : ∀ w ∈ u_ws RX12 TX12 61, w ∈ (Cond.code yX12_isCut cX12_isCut 2 (some .boolean) :: wsL_law) := fun w h => List.mem_cons_of_mem _ (inlX12 w h)
  obtain ⟨hP, hK⟩ := hB
  unfold gX12_isCut at hres
  unfold okX12_isCut at hok
  refine lv_aload_n hx hb (dd_of dX12_isCut_0 0 rfl) rfl (lv_at hl 0 rfl) ?_
  refine lv_iload_n hx hb (dd_of dX12_isCut_0 1 rfl) rfl (lv_at hl 1 rfl) ?_
  have h1 := hok.1
  replace hok := hok.2
  refine jc_l (As := [.int p1]) (rest := []) (w := (mW yy A F G)) (D := D) (yy := yy) ⟨hx, hb, hml, hown, hts⟩ (qX12_levelOf l D yy A F G p1 h1) (cwV 1 hts (jgV gw781 gw782 gw783 gw5 gw784) rfl rfl rfl (by decide +kernel) ⟨Nat.le_of_ble_eq_true rfl, Nat.le_of_ble_eq_true rfl⟩) hP hK (va_recv hK hP (ci := 12) (q0 := 0) rfl rfl) rfl hl.1 rfl (Nat.le_of_ble_eq_true rfl) (dd_of dX12_isCut_0 2 rfl) ⟨Nat.zero_le _, Nat.zero_le _⟩ (fun x2 ex2 => ?_)
  replace hres := bvE ex2 hres
  replace hok := bvO ex2 hok
  refine lv_aload_n hx hb (dd_of dX12_isCut_0 3 rfl) rfl (lv_at hl 0 rfl) ?_
  refine lv_iload_n hx hb (dd_of dX12_isCut_0 4 rfl) rfl (lv_at hl 1 rfl) ?_
  have h3 := hok
  refine jc_l (As := [.int p1]) (rest := [.long x2]) (w := (mW yy A F G)) (D := D) (yy := yy) ⟨hx, hb, hml, hown, hts⟩ (qX12_floorOf l D yy A F G p1 h3) (cwV 1 hts (jgV gw936 gw937 gw938 gw5 gw939) rfl rfl rfl (by decide +kernel) ⟨Nat.le_of_ble_eq_true rfl, Nat.le_of_ble_eq_true rfl⟩) hP hK (va_recv hK hP (ci := 12) (q0 := 0) rfl rfl) rfl hl.1 rfl (Nat.le_of_ble_eq_true rfl) (dd_of dX12_isCut_0 5 rfl) ⟨Nat.zero_le _, Nat.zero_le _⟩ (fun x4 ex4 => ?_)
  replace hres := bvE ex4 hres
  refine lv_lsub hx hb (dd_of dX12_isCut_0 6 rfl) ?_
  refine lv_ldc2 (v := 100) hx hb hown (jw hts gw786) (dd_of dX12_isCut_0 7 rfl) ?_
  refine jl_lt (tgt := 22) hx hb (dd_of dX12_isCut_0 8 rfl) (dd_of dX12_isCut_0 9 rfl) (by decide) (fun c5 => ?_) (fun c5 => ?_)
  · replace hres := ifE c5 hres
    refine lv_iconst (v := 0) hx hb (dd_of dX12_isCut_0 12 rfl) (by decide) ?_
    subst hQ
    exact W.zret (ty := .boolean) (v := 0) hx hb hr (jb_nz (Or.inl rfl)) (fun t ht _ => ⟨_, rfl, hres, ht⟩) (fun _ h => absurd h List.not_mem_nil) (dd_of dX12_isCut_0 13 rfl) hlk
  · replace hres := ifN c5 hres
    refine lv_iconst (v := 1) hx hb (dd_of dX12_isCut_0 10 rfl) (by decide) ?_
    refine lv_goto (tgt := 23) hx hb (dd_of dX12_isCut_0 11 rfl) (by decide) ?_
    subst hQ
    exact W.zret (ty := .boolean) (v := 1) hx hb hr (jb_nz (Or.inr rfl)) (fun t ht _ => ⟨_, rfl, hres, ht⟩) (fun _ h => absurd h List.not_mem_nil) (dd_of dX12_isCut_0 13 rfl) hlk
set_option maxHeartbeats 4000000 in
set_option maxRecDepth 100000 in
theorem qX12_measures (l : Launch) (D : va_G) (yy : Nat → ClassId) (A : Nat → Nat) (F : jF) (G : jG) (sz : Nat) (p1 : Int32) (hok : okX12_measures F G p1) : Met l yX12_measures (Cond.code yX12_measures cX12_measures 6 none :: wsL_law) rmX12_measures (va_Pc [.ref (A 99), .int p1] (jP D yy (mW yy A F G) sz)) (va_Qv (fun u : jS => u = gX12_measures F G p1) (fun (u : jS) t => jB D yy (va_A (mW yy A F G) sz) (mW yy A u.1 u.2) t) (va_A (mW yy A F G) sz)) 0 0 (va_A (mW yy A F G) sz) := by
  generalize hres : gX12_measures F G p1 = RES
  refine jM (own := RX12) (by decide) rfl (Nat.le_of_ble_eq_true rfl) ?_
  intro p e s m args below meth c ls Q hQ hargs S hr hlk hinit hB hl
  obtain ⟨hx, hb, hml, hown, hts⟩ := S
  have hl : lv_has ls 6 [(0, .ref (A 99)), (1, .int p1)] := hl
  have hin12 : ∀ w ∈ u_ws RX12 TX12 61, w ∈ (Cond.code yX12_measures cX12_measures 6 none :: wsL_law) := fun w h => List.mem_cons_of_mem _ (inlX12 w h)
  obtain ⟨hsz, hP, hK, hD0⟩ := hB
  subst hsz
  have hD := hD0.self (sz := s.heap.size)
  generalize hZ : va_A (mW yy A F G) s.heap.size = Z at hD hQ
  have hA : ∀ q : Nat, s.heap.size ≤ q → Z q := fun q h => by rw [← hZ]; exact Or.inr h
  obtain ⟨H, hH⟩ : ∃ z, z = s.heap := ⟨_, rfl⟩
  obtain ⟨locs, hlocs⟩ : ∃ z : List Loc, z = [] := ⟨_, rfl⟩
  have hS : va_S Z s.heap H locs := by rw [hH, hlocs]; exact va_S.rf
  rw [← hH] at hP
  suffices hgo : W p l e rmX12_measures s m args below meth c H locs 0 0 Q (F0 m 0 ls []) by rw [hH, hlocs] at hgo; exact hgo
  unfold gX12_measures at hres
  unfold okX12_measures at hok
  refine lv_iconst (v := 0) hx hb (dd_of dX12_measures_0 0 rfl) (by decide) ?_
  refine lv_istore_n (lv' := [(2, .int 0), (0, .ref (A 99)), (1, .int p1)]) hx hb (dd_of dX12_measures_0 1 rfl) rfl hl (by decide) rfl (fun ls hl => ?_)
  have LP2 : ∀ (f1 : Int32), ∀ (K : Int32 → jF → jG → jS) (okK : Int32 → jF → jG → Prop) (n : Nat), ∀ (v2 : Int32) (F : jF) (G : jG), ∀ (H : Heap) (locs : List Loc) (ls : Array Slot), va_P D vwCl (mW yy A F G) H → va_D Z (mW yy A F G) → va_S Z s.heap H locs → lv_has ls 6 [(2, .int v2), (0, .ref (A 99)), (1, .int f1)] → okX12_measures_L2 f1 okK n v2 F G → gX12_measures_L2 f1 K n v2 F G = RES → (∀ (v2 : Int32) (F : jF) (G : jG), ∀ (H : Heap) (locs : List Loc) (ls : Array Slot), va_P D vwCl (mW yy A F G) H → va_D Z (mW yy A F G) → va_S Z s.heap H locs → lv_has ls 6 [(2, .int v2), (0, .ref (A 99)), (1, .int f1)] → okK v2 F G → K v2 F G = RES → W p l e rmX12_measures s m args below meth c H locs 0 0 Q (F0 m 31 ls [])) → W p l e rmX12_measures s m args below meth c H locs 0 0 Q (F0 m 2 ls []) := by
    intro f1 K okK n
    induction n with
    | zero =>
      intro v2 F G H locs ls hP hD hS hl hok _ _
      exact absurd hok (by unfold okX12_measures_L2; exact id)
    | succ n9 ih =>
      intro v2 F G H locs ls hP hD hS hl hok hres hexit
      unfold gX12_measures_L2 at hres
      unfold okX12_measures_L2 at hok
      refine lv_iload_n hx hb (dd_of dX12_measures_0 2 rfl) rfl (lv_at hl 0 rfl) ?_
      refine lv_bipush (v := 8) hx hb (dd_of dX12_measures_0 3 rfl) (by decide) ?_
      refine lv_icmp_ge (tgt := 31) hx hb (dd_of dX12_measures_0 4 rfl) (by decide) (fun c1 => ?_) (fun c1 => ?_)
      · replace hres := ifE c1 hres
        replace hok := hok.1 c1
        exact hexit v2 F G H locs ls hP hD hS (lv_sub hl [0, 1, 2] rfl) hok hres
      · replace hres := ifN c1 hres
        replace hok := hok.2 c1
        refine lv_aload_n hx hb (dd_of dX12_measures_0 5 rfl) rfl (lv_at hl 1 rfl) ?_
        refine va_get (D := D) (cl := vwCl) (tys := jT yy) (ci := 12) (v := .ref (A 59)) (C := RX12) (T := TX12) (N := 61) hx hb hts hin12 hown hK hP 0 rfl rfl 59 (by decide) (jw hts gw170) (fun _ h9 => h9) rfl (dd_of dX12_measures_0 6 rfl) ?_
        refine lv_iload_n hx hb (dd_of dX12_measures_0 7 rfl) rfl (lv_at hl 0 rfl) ?_
        refine lv_iload_n hx hb (dd_of dX12_measures_0 8 rfl) rfl (lv_at hl 0 rfl) ?_
        refine lv_iload_n hx hb (dd_of dX12_measures_0 9 rfl) rfl (lv_at hl 2 rfl) ?_
        obtain ⟨z43, q42⟩ : ∃ z : Int32, (if v2 = f1 then 0 else 100) = z := ⟨_, rfl⟩
        refine jn_i (ls := ls) (v := z43) 24 [.int v2, .ref (A 59)] (fun v3 ev3 => ?_) (fun K44 => ?_)
        · replace hres := bvE (ev3.trans q42.symm) hres
          replace hok := bvO (ev3.trans q42.symm) hok
          have h4 := hok.1
          replace hok := hok.2
          refine va_iast hx hb hK hP hD hS 44 0 rfl rfl h4 (dd_of dX12_measures_0 14 rfl) (fun H locs hP hD hS => ?_)
          obtain ⟨F5, e6⟩ : ∃ z : jF, z = u2 F 59 (Int32.toNatClampNeg v2) v3 := ⟨_, rfl⟩
          have hP : va_P D vwCl (mW yy A F5 G) H := by rw [e6]; exact hP
          have hD : va_D Z (mW yy A F5 G) := by rw [e6]; exact hD
          replace hres := bvE e6 hres
          replace hok := bvO e6 hok
          refine lv_iinc (v := (v2 + 1)) (lv' := [(2, .int (v2 + 1)), (0, .ref (A 99)), (1, .int f1)]) hx hb (dd_of dX12_measures_0 15 rfl) hl (k := 0) rfl rfl (by decide) rfl (fun ls hl => ?_)
          refine lv_goto (tgt := 2) hx hb (dd_of dX12_measures_0 16 rfl) (by decide) ?_
          exact ih (v2 + 1) F5 G H locs ls hP hD hS (lv_sub hl [0, 1, 2] rfl) hok hres hexit
        · skip
          refine lv_icmp_ne (tgt := 22) hx hb (dd_of dX12_measures_0 10 rfl) (by decide) (fun c2 => ?_) (fun c2 => ?_)
          · replace q42 := ifN c2 q42
            refine lv_bipush (v := 100) hx hb (dd_of dX12_measures_0 13 rfl) (by decide) ?_
            exact K44 _ q42
          · replace q42 := ifE c2 q42
            refine lv_iconst (v := 0) hx hb (dd_of dX12_measures_0 11 rfl) (by decide) ?_
            refine lv_goto (tgt := 24) hx hb (dd_of dX12_measures_0 12 rfl) (by decide) ?_
            exact K44 _ q42
  refine LP2 p1 _ _ 80 0 F G H locs ls hP hD hS (lv_sub hl [0, 1, 2] rfl) hok hres (fun y7 F8 G9 H locs ls hP hD hS hl hok hres => ?_)
  refine lv_iconst (v := 0) hx hb (dd_of dX12_measures_0 17 rfl) (by decide) ?_
  refine lv_istore_n (lv' := [(2, .int 0), (0, .ref (A 99)), (1, .int p1)]) hx hb (dd_of dX12_measures_0 18 rfl) rfl hl (by decide) rfl (fun ls hl => ?_)
  have LP33 : ∀ (K : Int32 → jF → jG → jS) (okK : Int32 → jF → jG → Prop) (n : Nat), ∀ (v2 : Int32) (F : jF) (G : jG), ∀ (H : Heap) (locs : List Loc) (ls : Array Slot), va_P D vwCl (mW yy A F G) H → va_D Z (mW yy A F G) → va_S Z s.heap H locs → lv_has ls 6 [(2, .int v2), (0, .ref (A 99))] → okX12_measures_L33  okK n v2 F G → gX12_measures_L33  K n v2 F G = RES → (∀ (v2 : Int32) (F : jF) (G : jG), ∀ (H : Heap) (locs : List Loc) (ls : Array Slot), va_P D vwCl (mW yy A F G) H → va_D Z (mW yy A F G) → va_S Z s.heap H locs → lv_has ls 6 [(2, .int v2), (0, .ref (A 99))] → okK v2 F G → K v2 F G = RES → W p l e rmX12_measures s m args below meth c H locs 0 0 Q (F0 m 166 ls [])) → W p l e rmX12_measures s m args below meth c H locs 0 0 Q (F0 m 33 ls []) := by
    intro  K okK n
    induction n with
    | zero =>
      intro v2 F G H locs ls hP hD hS hl hok _ _
      exact absurd hok (by unfold okX12_measures_L33; exact id)
    | succ n9 ih =>
      intro v2 F G H locs ls hP hD hS hl hok hres hexit
      unfold gX12_measures_L33 at hres
      unfold okX12_measures_L33 at hok
      refine lv_iload_n hx hb (dd_of dX12_measures_0 19 rfl) rfl (lv_at hl 0 rfl) ?_
      refine lv_bipush (v := 8) hx hb (dd_of dX12_measures_0 20 rfl) (by decide) ?_
      refine lv_icmp_ge (tgt := 166) hx hb (dd_of dX12_measures_0 21 rfl) (by decide) (fun c10 => ?_) (fun c10 => ?_)
      · replace hres := ifE c10 hres
        replace hok := hok.1 c10
        exact hexit v2 F G H locs ls hP hD hS (lv_sub hl [0, 1] rfl) hok hres
      · replace hres := ifN c10 hres
        replace hok := hok.2 c10
        refine lv_iconst (v := 0) hx hb (dd_of dX12_measures_0 22 rfl) (by decide) ?_
        refine lv_istore_n (lv' := [(3, .int 0), (2, .int v2), (0, .ref (A 99))]) hx hb (dd_of dX12_measures_0 23 rfl) rfl hl (by decide) rfl (fun ls hl => ?_)
        have LP41 : ∀ (f2 : Int32), ∀ (K : Int32 → jF → jG → jS) (okK : Int32 → jF → jG → Prop) (n : Nat), ∀ (v3 : Int32) (F : jF) (G : jG), ∀ (H : Heap) (locs : List Loc) (ls : Array Slot), va_P D vwCl (mW yy A F G) H → va_D Z (mW yy A F G) → va_S Z s.heap H locs → lv_has ls 6 [(3, .int v3), (2, .int f2), (0, .ref (A 99))] → okX12_measures_L41 f2 okK n v3 F G → gX12_measures_L41 f2 K n v3 F G = RES → (∀ (v3 : Int32) (F : jF) (G : jG), ∀ (H : Heap) (locs : List Loc) (ls : Array Slot), va_P D vwCl (mW yy A F G) H → va_D Z (mW yy A F G) → va_S Z s.heap H locs → lv_has ls 6 [(3, .int v3), (2, .int f2), (0, .ref (A 99))] → okK v3 F G → K v3 F G = RES → W p l e rmX12_measures s m args below meth c H locs 0 0 Q (F0 m 160 ls [])) → W p l e rmX12_measures s m args below meth c H locs 0 0 Q (F0 m 41 ls []) := by
          intro f2 K okK n
          induction n with
          | zero =>
            intro v3 F G H locs ls hP hD hS hl hok _ _
            exact absurd hok (by unfold okX12_measures_L41; exact id)
          | succ n9 ih =>
            intro v3 F G H locs ls hP hD hS hl hok hres hexit
            unfold gX12_measures_L41 at hres
            unfold okX12_measures_L41 at hok
            refine lv_iload_n hx hb (dd_of dX12_measures_0 24 rfl) rfl (lv_at hl 0 rfl) ?_
            refine lv_aload_n hx hb (dd_of dX12_measures_0 25 rfl) rfl (lv_at hl 2 rfl) ?_
            refine va_get (D := D) (cl := vwCl) (tys := jT yy) (ci := 12) (v := .int (F 8 0)) (C := RX12) (T := TX12) (N := 61) hx hb hts hin12 hown hK hP 0 rfl rfl 8 (by decide) (jw hts gw589) (fun _ h9 => h9) rfl (dd_of dX12_measures_0 26 rfl) ?_
            refine lv_icmp_ge (tgt := 160) hx hb (dd_of dX12_measures_0 27 rfl) (by decide) (fun c11 => ?_) (fun c11 => ?_)
            · replace hres := ifE c11 hres
              replace hok := hok.1 c11
              exact hexit v3 F G H locs ls hP hD hS (lv_sub hl [0, 1, 2] rfl) hok hres
            · replace hres := ifN c11 hres
              replace hok := hok.2 c11
              refine lv_iconst (v := 0) hx hb (dd_of dX12_measures_0 28 rfl) (by decide) ?_
              refine lv_istore (lv' := [(4, .int 0), (3, .int v3), (2, .int f2), (0, .ref (A 99))]) hx hb (dd_of dX12_measures_0 29 rfl) hl (by decide) rfl (fun ls hl => ?_)
              have LP52 : ∀ (f3 : Int32) (f2 : Int32), ∀ (K : Int32 → jF → jG → jS) (okK : Int32 → jF → jG → Prop) (n : Nat), ∀ (v4 : Int32) (F : jF) (G : jG), ∀ (H : Heap) (locs : List Loc) (ls : Array Slot), va_P D vwCl (mW yy A F G) H → va_D Z (mW yy A F G) → va_S Z s.heap H locs → lv_has ls 6 [(4, .int v4), (3, .int f3), (2, .int f2), (0, .ref (A 99))] → okX12_measures_L52 f3 f2 okK n v4 F G → gX12_measures_L52 f3 f2 K n v4 F G = RES → (∀ (v4 : Int32) (F : jF) (G : jG), ∀ (H : Heap) (locs : List Loc) (ls : Array Slot), va_P D vwCl (mW yy A F G) H → va_D Z (mW yy A F G) → va_S Z s.heap H locs → lv_has ls 6 [(4, .int v4), (3, .int f3), (2, .int f2), (0, .ref (A 99))] → okK v4 F G → K v4 F G = RES → W p l e rmX12_measures s m args below meth c H locs 0 0 Q (F0 m 154 ls [])) → W p l e rmX12_measures s m args below meth c H locs 0 0 Q (F0 m 52 ls []) := by
                intro f3 f2 K okK n
                induction n with
                | zero =>
                  intro v4 F G H locs ls hP hD hS hl hok _ _
                  exact absurd hok (by unfold okX12_measures_L52; exact id)
                | succ n9 ih =>
                  intro v4 F G H locs ls hP hD hS hl hok hres hexit
                  unfold gX12_measures_L52 at hres
                  unfold okX12_measures_L52 at hok
                  refine lv_iload hx hb (dd_of dX12_measures_0 30 rfl) (lv_at hl 0 rfl) ?_
                  refine lv_aload_n hx hb (dd_of dX12_measures_0 31 rfl) rfl (lv_at hl 3 rfl) ?_
                  refine va_get (D := D) (cl := vwCl) (tys := jT yy) (ci := 12) (v := .int (F 8 0)) (C := RX12) (T := TX12) (N := 61) hx hb hts hin12 hown hK hP 0 rfl rfl 8 (by decide) (jw hts gw589) (fun _ h9 => h9) rfl (dd_of dX12_measures_0 32 rfl) ?_
                  refine lv_icmp_ge (tgt := 154) hx hb (dd_of dX12_measures_0 33 rfl) (by decide) (fun c12 => ?_) (fun c12 => ?_)
                  · replace hres := ifE c12 hres
                    replace hok := hok.1 c12
                    exact hexit v4 F G H locs ls hP hD hS (lv_sub hl [0, 1, 2, 3] rfl) hok hres
                  · replace hres := ifN c12 hres
                    replace hok := hok.2 c12
                    refine lv_aload_n hx hb (dd_of dX12_measures_0 34 rfl) rfl (lv_at hl 3 rfl) ?_
                    refine va_get (D := D) (cl := vwCl) (tys := jT yy) (ci := 12) (v := .ref (A 16)) (C := RX12) (T := TX12) (N := 61) hx hb hts hin12 hown hK hP 0 rfl rfl 16 (by decide) (jw hts gw132) (fun _ h9 => h9) rfl (dd_of dX12_measures_0 35 rfl) ?_
                    refine lv_bipush (v := 8) hx hb (dd_of dX12_measures_0 36 rfl) (by decide) ?_
                    refine lv_iload_n hx hb (dd_of dX12_measures_0 37 rfl) rfl (lv_at hl 1 rfl) ?_
                    refine lv_imul hx hb (dd_of dX12_measures_0 38 rfl) ?_
                    refine lv_iload hx hb (dd_of dX12_measures_0 39 rfl) (lv_at hl 0 rfl) ?_
                    refine lv_iadd hx hb (dd_of dX12_measures_1 0 rfl) ?_
                    have h13 := hok.1
                    replace hok := hok.2
                    refine va_iald hx hb hK hP 8 0 rfl rfl h13 (dd_of dX12_measures_1 1 rfl) ?_
                    refine lv_iconst (v := 1) hx hb (dd_of dX12_measures_1 2 rfl) (by decide) ?_
                    obtain ⟨z46, q45⟩ : ∃ z : Int32, (if (F 16 (Int32.toNatClampNeg ((8 * f3) + v4))) = 1 then bv (gX12_isCut F G f3) (fun x16 : Int32 => (if x16 = 0 then bv (gX12_isCut F G v4) (fun x19 : Int32 => (if x19 = 0 then 1 else 0)) else 0)) else 0) = z := ⟨_, rfl⟩
                    have o48 := hok.1
                    replace hok := hok.2
                    refine jn_i (ls := ls) (v := z46) 99 [] (fun v21 ev21 => ?_) (fun K47 => ?_)
                    · replace hres := bvE (ev21.trans q45.symm) hres
                      replace hok := bvO (ev21.trans q45.symm) hok
                      refine lv_istore (lv' := [(5, .int v21), (4, .int v4), (3, .int f3), (2, .int f2), (0, .ref (A 99))]) hx hb (dd_of dX12_measures_1 15 rfl) hl (by decide) rfl (fun ls hl => ?_)
                      refine lv_aload_n hx hb (dd_of dX12_measures_1 16 rfl) rfl (lv_at hl 4 rfl) ?_
                      refine va_get (D := D) (cl := vwCl) (tys := jT yy) (ci := 12) (v := .ref (A 59)) (C := RX12) (T := TX12) (N := 61) hx hb hts hin12 hown hK hP 0 rfl rfl 59 (by decide) (jw hts gw170) (fun _ h9 => h9) rfl (dd_of dX12_measures_1 17 rfl) ?_
                      refine lv_iload_n hx hb (dd_of dX12_measures_1 18 rfl) rfl (lv_at hl 2 rfl) ?_
                      refine lv_iload hx hb (dd_of dX12_measures_1 19 rfl) (lv_at hl 0 rfl) ?_
                      obtain ⟨z50, q49⟩ : ∃ z : Int32, (if v21 = 0 then (F 59 (Int32.toNatClampNeg f3)) else (if (F 59 (Int32.toNatClampNeg f3)) ≤ ((F 59 (Int32.toNatClampNeg v4)) + 1) then (F 59 (Int32.toNatClampNeg f3)) else ((F 59 (Int32.toNatClampNeg v4)) + 1))) = z := ⟨_, rfl⟩
                      have o52 := hok.1
                      replace hok := hok.2
                      refine jn_i (ls := ls) (v := z50) 147 [.int f3, .ref (A 59)] (fun v29 ev29 => ?_) (fun K51 => ?_)
                      · replace hres := bvE (ev29.trans q49.symm) hres
                        replace hok := bvO (ev29.trans q49.symm) hok
                        have h30 := hok.1
                        replace hok := hok.2
                        refine va_iast hx hb hK hP hD hS 44 0 rfl rfl h30 (dd_of dX12_measures_2 3 rfl) (fun H locs hP hD hS => ?_)
                        obtain ⟨F31, e32⟩ : ∃ z : jF, z = u2 F 59 (Int32.toNatClampNeg f3) v29 := ⟨_, rfl⟩
                        have hP : va_P D vwCl (mW yy A F31 G) H := by rw [e32]; exact hP
                        have hD : va_D Z (mW yy A F31 G) := by rw [e32]; exact hD
                        replace hres := bvE e32 hres
                        replace hok := bvO e32 hok
                        refine lv_iinc (v := (v4 + 1)) (lv' := [(4, .int (v4 + 1)), (5, .int v21), (3, .int f3), (2, .int f2), (0, .ref (A 99))]) hx hb (dd_of dX12_measures_2 4 rfl) hl (k := 1) rfl rfl (by decide) rfl (fun ls hl => ?_)
                        refine lv_goto (tgt := 52) hx hb (dd_of dX12_measures_2 5 rfl) (by decide) ?_
                        exact ih (v4 + 1) F31 G H locs ls hP hD hS (lv_sub hl [0, 2, 3, 4] rfl) hok hres hexit
                      · skip
                        refine lv_if_eq (tgt := 141) hx hb (dd_of dX12_measures_1 20 rfl) (by decide) (fun c22 => ?_) (fun c22 => ?_)
                        · replace q49 := ifE c22 q49
                          replace o52 := o52.1 c22
                          refine lv_aload_n hx hb (dd_of dX12_measures_1 39 rfl) rfl (lv_at hl 4 rfl) ?_
                          refine va_get (D := D) (cl := vwCl) (tys := jT yy) (ci := 12) (v := .ref (A 59)) (C := RX12) (T := TX12) (N := 61) hx hb hts hin12 hown hK hP 0 rfl rfl 59 (by decide) (jw hts gw170) (fun _ h9 => h9) rfl (dd_of dX12_measures_2 0 rfl) ?_
                          refine lv_iload_n hx hb (dd_of dX12_measures_2 1 rfl) rfl (lv_at hl 2 rfl) ?_
                          have h23 := o52
                          refine va_iald hx hb hK hP 44 0 rfl rfl h23 (dd_of dX12_measures_2 2 rfl) ?_
                          exact K51 _ q49
                        · replace q49 := ifN c22 q49
                          replace o52 := o52.2 c22
                          refine lv_aload_n hx hb (dd_of dX12_measures_1 21 rfl) rfl (lv_at hl 4 rfl) ?_
                          refine va_get (D := D) (cl := vwCl) (tys := jT yy) (ci := 12) (v := .ref (A 59)) (C := RX12) (T := TX12) (N := 61) hx hb hts hin12 hown hK hP 0 rfl rfl 59 (by decide) (jw hts gw170) (fun _ h9 => h9) rfl (dd_of dX12_measures_1 22 rfl) ?_
                          refine lv_iload hx hb (dd_of dX12_measures_1 23 rfl) (lv_at hl 1 rfl) ?_
                          have h24 := o52.1
                          replace o52 := o52.2
                          refine va_iald hx hb hK hP 44 0 rfl rfl h24 (dd_of dX12_measures_1 24 rfl) ?_
                          refine lv_iconst (v := 1) hx hb (dd_of dX12_measures_1 25 rfl) (by decide) ?_
                          refine lv_iadd hx hb (dd_of dX12_measures_1 26 rfl) ?_
                          refine lv_aload_n hx hb (dd_of dX12_measures_1 27 rfl) rfl (lv_at hl 4 rfl) ?_
                          refine va_get (D := D) (cl := vwCl) (tys := jT yy) (ci := 12) (v := .ref (A 59)) (C := RX12) (T := TX12) (N := 61) hx hb hts hin12 hown hK hP 0 rfl rfl 59 (by decide) (jw hts gw170) (fun _ h9 => h9) rfl (dd_of dX12_measures_1 28 rfl) ?_
                          refine lv_iload_n hx hb (dd_of dX12_measures_1 29 rfl) rfl (lv_at hl 2 rfl) ?_
                          have h25 := o52.1
                          replace o52 := o52.2
                          refine va_iald hx hb hK hP 44 0 rfl rfl h25 (dd_of dX12_measures_1 30 rfl) ?_
                          refine lv_icmp_ge (tgt := 141) hx hb (dd_of dX12_measures_1 31 rfl) (by decide) (fun c26 => ?_) (fun c26 => ?_)
                          · replace q49 := ifE c26 q49
                            replace o52 := o52.1 c26
                            refine lv_aload_n hx hb (dd_of dX12_measures_1 39 rfl) rfl (lv_at hl 4 rfl) ?_
                            refine va_get (D := D) (cl := vwCl) (tys := jT yy) (ci := 12) (v := .ref (A 59)) (C := RX12) (T := TX12) (N := 61) hx hb hts hin12 hown hK hP 0 rfl rfl 59 (by decide) (jw hts gw170) (fun _ h9 => h9) rfl (dd_of dX12_measures_2 0 rfl) ?_
                            refine lv_iload_n hx hb (dd_of dX12_measures_2 1 rfl) rfl (lv_at hl 2 rfl) ?_
                            have h27 := o52
                            refine va_iald hx hb hK hP 44 0 rfl rfl h27 (dd_of dX12_measures_2 2 rfl) ?_
                            exact K51 _ q49
                          · replace q49 := ifN c26 q49
                            replace o52 := o52.2 c26
                            refine lv_aload_n hx hb (dd_of dX12_measures_1 32 rfl) rfl (lv_at hl 4 rfl) ?_
                            refine va_get (D := D) (cl := vwCl) (tys := jT yy) (ci := 12) (v := .ref (A 59)) (C := RX12) (T := TX12) (N := 61) hx hb hts hin12 hown hK hP 0 rfl rfl 59 (by decide) (jw hts gw170) (fun _ h9 => h9) rfl (dd_of dX12_measures_1 33 rfl) ?_
                            refine lv_iload hx hb (dd_of dX12_measures_1 34 rfl) (lv_at hl 1 rfl) ?_
                            have h28 := o52
                            refine va_iald hx hb hK hP 44 0 rfl rfl h28 (dd_of dX12_measures_1 35 rfl) ?_
                            refine lv_iconst (v := 1) hx hb (dd_of dX12_measures_1 36 rfl) (by decide) ?_
                            refine lv_iadd hx hb (dd_of dX12_measures_1 37 rfl) ?_
                            refine lv_goto (tgt := 147) hx hb (dd_of dX12_measures_1 38 rfl) (by decide) ?_
                            exact K51 _ q49
                    · skip
                      refine lv_icmp_ne (tgt := 98) hx hb (dd_of dX12_measures_1 3 rfl) (by decide) (fun c14 => ?_) (fun c14 => ?_)
                      · replace q45 := ifN c14 q45
                        refine lv_iconst (v := 0) hx hb (dd_of dX12_measures_1 14 rfl) (by decide) ?_
                        exact K47 _ q45
                      · replace q45 := ifE c14 q45
                        replace o48 := o48.1 c14
                        refine lv_aload_n hx hb (dd_of dX12_measures_1 4 rfl) rfl (lv_at hl 3 rfl) ?_
                        refine lv_iload_n hx hb (dd_of dX12_measures_1 5 rfl) rfl (lv_at hl 1 rfl) ?_
                        have h15 := o48.1
                        replace o48 := o48.2
                        refine jc_i (As := [.int f3]) (rest := []) (w := (mW yy A F G)) (D := D) (yy := yy) ⟨hx, hb, hml, hown, hts⟩ (qX12_isCut l D yy A F G f3 h15) (cwV 1 hts (jgV gw952 gw953 gw954 gw5 gw955) rfl rfl rfl (by decide +kernel) ⟨Nat.le_of_ble_eq_true rfl, Nat.le_of_ble_eq_true rfl⟩) hP hK (va_recv hK hP (ci := 12) (q0 := 0) rfl rfl) rfl hl.1 rfl (Nat.le_of_ble_eq_true rfl) (dd_of dX12_measures_1 6 rfl) ⟨Nat.zero_le _, Nat.zero_le _⟩ (fun x16 ex16 => ?_)
                        replace q45 := bvE ex16 q45
                        replace o48 := bvO ex16 o48
                        refine lv_if_ne (tgt := 98) hx hb (dd_of dX12_measures_1 7 rfl) (by decide) (fun c17 => ?_) (fun c17 => ?_)
                        · replace q45 := ifN c17 q45
                          refine lv_iconst (v := 0) hx hb (dd_of dX12_measures_1 14 rfl) (by decide) ?_
                          exact K47 _ q45
                        · replace q45 := ifE c17 q45
                          replace o48 := o48.1 c17
                          refine lv_aload_n hx hb (dd_of dX12_measures_1 8 rfl) rfl (lv_at hl 3 rfl) ?_
                          refine lv_iload hx hb (dd_of dX12_measures_1 9 rfl) (lv_at hl 0 rfl) ?_
                          have h18 := o48
                          refine jc_i (As := [.int v4]) (rest := []) (w := (mW yy A F G)) (D := D) (yy := yy) ⟨hx, hb, hml, hown, hts⟩ (qX12_isCut l D yy A F G v4 h18) (cwV 1 hts (jgV gw952 gw953 gw954 gw5 gw955) rfl rfl rfl (by decide +kernel) ⟨Nat.le_of_ble_eq_true rfl, Nat.le_of_ble_eq_true rfl⟩) hP hK (va_recv hK hP (ci := 12) (q0 := 0) rfl rfl) rfl hl.1 rfl (Nat.le_of_ble_eq_true rfl) (dd_of dX12_measures_1 10 rfl) ⟨Nat.zero_le _, Nat.zero_le _⟩ (fun x19 ex19 => ?_)
                          replace q45 := bvE ex19 q45
                          refine lv_if_ne (tgt := 98) hx hb (dd_of dX12_measures_1 11 rfl) (by decide) (fun c20 => ?_) (fun c20 => ?_)
                          · replace q45 := ifN c20 q45
                            refine lv_iconst (v := 0) hx hb (dd_of dX12_measures_1 14 rfl) (by decide) ?_
                            exact K47 _ q45
                          · replace q45 := ifE c20 q45
                            refine lv_iconst (v := 1) hx hb (dd_of dX12_measures_1 12 rfl) (by decide) ?_
                            refine lv_goto (tgt := 99) hx hb (dd_of dX12_measures_1 13 rfl) (by decide) ?_
                            exact K47 _ q45
              refine LP52 v3 f2 _ _ 80 0 F G H locs ls hP hD hS (lv_sub hl [0, 1, 2, 3] rfl) hok hres (fun y33 F34 G35 H locs ls hP hD hS hl hok hres => ?_)
              refine lv_iinc (v := (v3 + 1)) (lv' := [(3, .int (v3 + 1)), (4, .int y33), (2, .int f2), (0, .ref (A 99))]) hx hb (dd_of dX12_measures_2 6 rfl) hl (k := 1) rfl rfl (by decide) rfl (fun ls hl => ?_)
              refine lv_goto (tgt := 41) hx hb (dd_of dX12_measures_2 7 rfl) (by decide) ?_
              exact ih (v3 + 1) F34 G35 H locs ls hP hD hS (lv_sub hl [0, 2, 3] rfl) hok hres hexit
        refine LP41 v2 _ _ 80 0 F G H locs ls hP hD hS (lv_sub hl [0, 1, 2] rfl) hok hres (fun y36 F37 G38 H locs ls hP hD hS hl hok hres => ?_)
        refine lv_iinc (v := (v2 + 1)) (lv' := [(2, .int (v2 + 1)), (3, .int y36), (0, .ref (A 99))]) hx hb (dd_of dX12_measures_2 8 rfl) hl (k := 1) rfl rfl (by decide) rfl (fun ls hl => ?_)
        refine lv_goto (tgt := 33) hx hb (dd_of dX12_measures_2 9 rfl) (by decide) ?_
        exact ih (v2 + 1) F37 G38 H locs ls hP hD hS (lv_sub hl [0, 2] rfl) hok hres hexit
  refine LP33  _ _ 80 0 F8 G9 H locs ls hP hD hS (lv_sub hl [0, 1] rfl) hok hres (fun y39 F40 G41 H locs ls hP hD hS hl hok hres => ?_)
  subst hQ
  exact W.vret hx hb hr (fun t ht hW => ⟨⟨(F40, G41), rfl, hres, by rw [ht]; exact hP, va_K.moved hW.alike hK, hD⟩, hS.F ht⟩) hS.2.2 (dd_of dX12_measures_2 10 rfl) hlk
set_option maxHeartbeats 4000000 in
set_option maxRecDepth 100000 in
theorem qX12_works (l : Launch) (D : va_G) (yy : Nat → ClassId) (A : Nat → Nat) (F : jF) (G : jG) (sz : Nat) (p1 : Int32) (p2 : Int32) (hok : okX12_works F G p1 p2) : Met l yX12_works (Cond.code yX12_works cX12_works 3 none :: wsL_law) rmX12_works (va_Pc [.ref (A 99), .int p1, .int p2] (jP D yy (mW yy A F G) sz)) (va_Qv (fun u : jS => u = gX12_works F G p1 p2) (fun (u : jS) t => jB D yy (va_A (mW yy A F G) sz) (mW yy A u.1 u.2) t) (va_A (mW yy A F G) sz)) 0 0 (va_A (mW yy A F G) sz) := by
  generalize hres : gX12_works F G p1 p2 = RES
  refine jM (own := RX12) (by decide) rfl (Nat.le_of_ble_eq_true rfl) ?_
  intro p e s m args below meth c ls Q hQ hargs S hr hlk hinit hB hl
  obtain ⟨hx, hb, hml, hown, hts⟩ := S
  have hl : lv_has ls 3 [(0, .ref (A 99)), (1, .int p1), (2, .int p2)] := hl
  have hin12 : ∀ w ∈ u_ws RX12 TX12 61, w ∈ (Cond.code yX12_works cX12_works 3 none :: wsL_law) := fun w h => List.mem_cons_of_mem _ (inlX12 w h)
  obtain ⟨hsz, hP, hK, hD0⟩ := hB
  subst hsz
  have hD := hD0.self (sz := s.heap.size)
  generalize hZ : va_A (mW yy A F G) s.heap.size = Z at hD hQ
  have hA : ∀ q : Nat, s.heap.size ≤ q → Z q := fun q h => by rw [← hZ]; exact Or.inr h
  obtain ⟨H, hH⟩ : ∃ z, z = s.heap := ⟨_, rfl⟩
  obtain ⟨locs, hlocs⟩ : ∃ z : List Loc, z = [] := ⟨_, rfl⟩
  have hS : va_S Z s.heap H locs := by rw [hH, hlocs]; exact va_S.rf
  rw [← hH] at hP
  suffices hgo : W p l e rmX12_works s m args below meth c H locs 0 0 Q (F0 m 0 ls []) by rw [hH, hlocs] at hgo; exact hgo
  unfold gX12_works at hres
  unfold okX12_works at hok
  refine lv_aload_n hx hb (dd_of dX12_works_0 0 rfl) rfl (lv_at hl 0 rfl) ?_
  refine va_get (D := D) (cl := vwCl) (tys := jT yy) (ci := 12) (v := .ref (A 50)) (C := RX12) (T := TX12) (N := 61) hx hb hts hin12 hown hK hP 0 rfl rfl 50 (by decide) (jw hts gw161) (fun _ h9 => h9) rfl (dd_of dX12_works_0 1 rfl) ?_
  refine lv_iload_n hx hb (dd_of dX12_works_0 2 rfl) rfl (lv_at hl 1 rfl) ?_
  have h1 := hok.1
  replace hok := hok.2
  refine va_iald hx hb hK hP 37 0 rfl rfl h1 (dd_of dX12_works_0 3 rfl) ?_
  refine lv_if_eq (tgt := 27) hx hb (dd_of dX12_works_0 4 rfl) (by decide) (fun c2 => ?_) (fun c2 => ?_)
  · replace hres := ifE c2 hres
    subst hQ
    exact W.vret hx hb hr (fun t ht hW => ⟨⟨(F, G), rfl, hres, by rw [ht]; exact hP, va_K.moved hW.alike hK, hD⟩, hS.F ht⟩) hS.2.2 (dd_of dX12_works_0 15 rfl) hlk
  · replace hres := ifN c2 hres
    replace hok := hok.2 c2
    refine lv_aload_n hx hb (dd_of dX12_works_0 5 rfl) rfl (lv_at hl 0 rfl) ?_
    refine va_get (D := D) (cl := vwCl) (tys := jT yy) (ci := 12) (v := .ref (A 39)) (C := RX12) (T := TX12) (N := 61) hx hb hts hin12 hown hK hP 0 rfl rfl 39 (by decide) (jw hts gw152) (fun _ h9 => h9) rfl (dd_of dX12_works_0 6 rfl) ?_
    refine lv_iload_n hx hb (dd_of dX12_works_0 7 rfl) rfl (lv_at hl 2 rfl) ?_
    have h3 := hok.1
    replace hok := hok.2
    refine va_iald hx hb hK hP 28 0 rfl rfl h3 (dd_of dX12_works_0 8 rfl) ?_
    refine lv_if_ne (tgt := 28) hx hb (dd_of dX12_works_0 9 rfl) (by decide) (fun c4 => ?_) (fun c4 => ?_)
    · replace hres := ifN c4 hres
      replace hok := hok.2 c4
      refine lv_aload_n hx hb (dd_of dX12_works_0 16 rfl) rfl (lv_at hl 0 rfl) ?_
      refine va_get (D := D) (cl := vwCl) (tys := jT yy) (ci := 12) (v := .ref (A 50)) (C := RX12) (T := TX12) (N := 61) hx hb hts hin12 hown hK hP 0 rfl rfl 50 (by decide) (jw hts gw161) (fun _ h9 => h9) rfl (dd_of dX12_works_0 17 rfl) ?_
      refine lv_iload_n hx hb (dd_of dX12_works_0 18 rfl) rfl (lv_at hl 1 rfl) ?_
      refine lv_dup2_11 hx hb (dd_of dX12_works_0 19 rfl) rfl rfl ?_
      have h5 := hok.1
      replace hok := hok.2
      refine va_iald hx hb hK hP 37 0 rfl rfl h5 (dd_of dX12_works_0 20 rfl) ?_
      refine lv_iconst (v := 1) hx hb (dd_of dX12_works_0 21 rfl) (by decide) ?_
      refine lv_isub hx hb (dd_of dX12_works_0 22 rfl) ?_
      have h6 := hok.1
      replace hok := hok.2
      refine va_iast hx hb hK hP hD hS 37 0 rfl rfl h6 (dd_of dX12_works_0 23 rfl) (fun H locs hP hD hS => ?_)
      obtain ⟨F7, e8⟩ : ∃ z : jF, z = u2 F 50 (Int32.toNatClampNeg p1) ((F 50 (Int32.toNatClampNeg p1)) - 1) := ⟨_, rfl⟩
      have hP : va_P D vwCl (mW yy A F7 G) H := by rw [e8]; exact hP
      have hD : va_D Z (mW yy A F7 G) := by rw [e8]; exact hD
      replace hres := bvE e8 hres
      replace hok := bvO e8 hok
      refine lv_aload_n hx hb (dd_of dX12_works_0 24 rfl) rfl (lv_at hl 0 rfl) ?_
      refine va_get (D := D) (cl := vwCl) (tys := jT yy) (ci := 12) (v := .ref (A 39)) (C := RX12) (T := TX12) (N := 61) hx hb hts hin12 hown hK hP 0 rfl rfl 39 (by decide) (jw hts gw152) (fun _ h9 => h9) rfl (dd_of dX12_works_0 25 rfl) ?_
      refine lv_iload_n hx hb (dd_of dX12_works_0 26 rfl) rfl (lv_at hl 2 rfl) ?_
      have h9 := hok.1
      replace hok := hok.2
      refine va_iald hx hb hK hP 28 0 rfl rfl h9 (dd_of dX12_works_0 27 rfl) ?_
      refine lv_if_le (tgt := 103) hx hb (dd_of dX12_works_0 28 rfl) (by decide) (fun c10 => ?_) (fun c10 => ?_)
      · replace hres := ifE c10 hres
        replace hok := hok.1 c10
        refine lv_aload_n hx hb (dd_of dX12_works_1 23 rfl) rfl (lv_at hl 0 rfl) ?_
        refine va_get (D := D) (cl := vwCl) (tys := jT yy) (ci := 12) (v := .ref (A 38)) (C := RX12) (T := TX12) (N := 61) hx hb hts hin12 hown hK hP 0 rfl rfl 38 (by decide) (jw hts gw151) (fun _ h9 => h9) rfl (dd_of dX12_works_1 24 rfl) ?_
        refine lv_iload_n hx hb (dd_of dX12_works_1 25 rfl) rfl (lv_at hl 2 rfl) ?_
        refine lv_aload_n hx hb (dd_of dX12_works_1 26 rfl) rfl (lv_at hl 0 rfl) ?_
        refine va_get (D := D) (cl := vwCl) (tys := jT yy) (ci := 12) (v := .ref (A 38)) (C := RX12) (T := TX12) (N := 61) hx hb hts hin12 hown hK hP 0 rfl rfl 38 (by decide) (jw hts gw151) (fun _ h9 => h9) rfl (dd_of dX12_works_1 27 rfl) ?_
        refine lv_iload_n hx hb (dd_of dX12_works_1 28 rfl) rfl (lv_at hl 2 rfl) ?_
        have h11 := hok.1
        replace hok := hok.2
        refine va_iald hx hb hK hP 27 0 rfl rfl h11 (dd_of dX12_works_1 29 rfl) ?_
        refine lv_bipush (v := 15) hx hb (dd_of dX12_works_1 30 rfl) (by decide) ?_
        obtain ⟨z62, q61⟩ : ∃ z : Int32, (if (F7 38 (Int32.toNatClampNeg p2)) ≤ 15 then 0 else ((F7 38 (Int32.toNatClampNeg p2)) - 15)) = z := ⟨_, rfl⟩
        have o64 := hok.1
        replace hok := hok.2
        refine jn_i (ls := ls) (v := z62) 132 [.int p2, .ref (A 38)] (fun v14 ev14 => ?_) (fun K63 => ?_)
        · replace hres := bvE (ev14.trans q61.symm) hres
          replace hok := bvO (ev14.trans q61.symm) hok
          have h15 := hok
          refine va_iast hx hb hK hP hD hS 27 0 rfl rfl h15 (dd_of dX12_works_2 0 rfl) (fun H locs hP hD hS => ?_)
          obtain ⟨F16, e17⟩ : ∃ z : jF, z = u2 F7 38 (Int32.toNatClampNeg p2) v14 := ⟨_, rfl⟩
          have hP : va_P D vwCl (mW yy A F16 G) H := by rw [e17]; exact hP
          have hD : va_D Z (mW yy A F16 G) := by rw [e17]; exact hD
          replace hres := bvE e17 hres
          subst hQ
          exact W.vret hx hb hr (fun t ht hW => ⟨⟨(F16, G), rfl, hres, by rw [ht]; exact hP, va_K.moved hW.alike hK, hD⟩, hS.F ht⟩) hS.2.2 (dd_of dX12_works_2 1 rfl) hlk
        · skip
          refine lv_icmp_le (tgt := 131) hx hb (dd_of dX12_works_1 31 rfl) (by decide) (fun c12 => ?_) (fun c12 => ?_)
          · replace q61 := ifE c12 q61
            refine lv_iconst (v := 0) hx hb (dd_of dX12_works_1 39 rfl) (by decide) ?_
            exact K63 _ q61
          · replace q61 := ifN c12 q61
            replace o64 := o64.2 c12
            refine lv_aload_n hx hb (dd_of dX12_works_1 32 rfl) rfl (lv_at hl 0 rfl) ?_
            refine va_get (D := D) (cl := vwCl) (tys := jT yy) (ci := 12) (v := .ref (A 38)) (C := RX12) (T := TX12) (N := 61) hx hb hts hin12 hown hK hP 0 rfl rfl 38 (by decide) (jw hts gw151) (fun _ h9 => h9) rfl (dd_of dX12_works_1 33 rfl) ?_
            refine lv_iload_n hx hb (dd_of dX12_works_1 34 rfl) rfl (lv_at hl 2 rfl) ?_
            have h13 := o64
            refine va_iald hx hb hK hP 27 0 rfl rfl h13 (dd_of dX12_works_1 35 rfl) ?_
            refine lv_bipush (v := 15) hx hb (dd_of dX12_works_1 36 rfl) (by decide) ?_
            refine lv_isub hx hb (dd_of dX12_works_1 37 rfl) ?_
            refine lv_goto (tgt := 132) hx hb (dd_of dX12_works_1 38 rfl) (by decide) ?_
            exact K63 _ q61
      · replace hres := ifN c10 hres
        replace hok := hok.2 c10
        refine lv_aload_n hx hb (dd_of dX12_works_0 29 rfl) rfl (lv_at hl 0 rfl) ?_
        refine va_get (D := D) (cl := vwCl) (tys := jT yy) (ci := 12) (v := .ref (A 39)) (C := RX12) (T := TX12) (N := 61) hx hb hts hin12 hown hK hP 0 rfl rfl 39 (by decide) (jw hts gw152) (fun _ h9 => h9) rfl (dd_of dX12_works_0 30 rfl) ?_
        refine lv_iload_n hx hb (dd_of dX12_works_0 31 rfl) rfl (lv_at hl 2 rfl) ?_
        refine lv_aload_n hx hb (dd_of dX12_works_0 32 rfl) rfl (lv_at hl 0 rfl) ?_
        refine va_get (D := D) (cl := vwCl) (tys := jT yy) (ci := 12) (v := .ref (A 39)) (C := RX12) (T := TX12) (N := 61) hx hb hts hin12 hown hK hP 0 rfl rfl 39 (by decide) (jw hts gw152) (fun _ h9 => h9) rfl (dd_of dX12_works_0 33 rfl) ?_
        refine lv_iload_n hx hb (dd_of dX12_works_0 34 rfl) rfl (lv_at hl 2 rfl) ?_
        have h18 := hok.1
        replace hok := hok.2
        refine va_iald hx hb hK hP 28 0 rfl rfl h18 (dd_of dX12_works_0 35 rfl) ?_
        refine lv_iconst (v := 3) hx hb (dd_of dX12_works_0 36 rfl) (by decide) ?_
        obtain ⟨z66, q65⟩ : ∃ z : Int32, (if (F7 39 (Int32.toNatClampNeg p2)) ≤ 3 then 0 else ((F7 39 (Int32.toNatClampNeg p2)) - 3)) = z := ⟨_, rfl⟩
        have o68 := hok.1
        replace hok := hok.2
        refine jn_i (ls := ls) (v := z66) 74 [.int p2, .ref (A 39)] (fun v21 ev21 => ?_) (fun K67 => ?_)
        · replace hres := bvE (ev21.trans q65.symm) hres
          replace hok := bvO (ev21.trans q65.symm) hok
          have h22 := hok.1
          replace hok := hok.2
          refine va_iast hx hb hK hP hD hS 28 0 rfl rfl h22 (dd_of dX12_works_1 6 rfl) (fun H locs hP hD hS => ?_)
          obtain ⟨F23, e24⟩ : ∃ z : jF, z = u2 F7 39 (Int32.toNatClampNeg p2) v21 := ⟨_, rfl⟩
          have hP : va_P D vwCl (mW yy A F23 G) H := by rw [e24]; exact hP
          have hD : va_D Z (mW yy A F23 G) := by rw [e24]; exact hD
          replace hres := bvE e24 hres
          replace hok := bvO e24 hok
          refine lv_aload_n hx hb (dd_of dX12_works_1 7 rfl) rfl (lv_at hl 0 rfl) ?_
          refine va_get (D := D) (cl := vwCl) (tys := jT yy) (ci := 12) (v := .ref (A 38)) (C := RX12) (T := TX12) (N := 61) hx hb hts hin12 hown hK hP 0 rfl rfl 38 (by decide) (jw hts gw151) (fun _ h9 => h9) rfl (dd_of dX12_works_1 8 rfl) ?_
          refine lv_iload_n hx hb (dd_of dX12_works_1 9 rfl) rfl (lv_at hl 2 rfl) ?_
          refine lv_aload_n hx hb (dd_of dX12_works_1 10 rfl) rfl (lv_at hl 0 rfl) ?_
          refine va_get (D := D) (cl := vwCl) (tys := jT yy) (ci := 12) (v := .ref (A 39)) (C := RX12) (T := TX12) (N := 61) hx hb hts hin12 hown hK hP 0 rfl rfl 39 (by decide) (jw hts gw152) (fun _ h9 => h9) rfl (dd_of dX12_works_1 11 rfl) ?_
          refine lv_iload_n hx hb (dd_of dX12_works_1 12 rfl) rfl (lv_at hl 2 rfl) ?_
          have h25 := hok.1
          replace hok := hok.2
          refine va_iald hx hb hK hP 28 0 rfl rfl h25 (dd_of dX12_works_1 13 rfl) ?_
          obtain ⟨z70, q69⟩ : ∃ z : Int32, (if (F23 39 (Int32.toNatClampNeg p2)) = 0 then 0 else (F23 38 (Int32.toNatClampNeg p2))) = z := ⟨_, rfl⟩
          have o72 := hok.1
          replace hok := hok.2
          refine jn_i (ls := ls) (v := z70) 99 [.int p2, .ref (A 38)] (fun v28 ev28 => ?_) (fun K71 => ?_)
          · replace hres := bvE (ev28.trans q69.symm) hres
            replace hok := bvO (ev28.trans q69.symm) hok
            have h29 := hok
            refine va_iast hx hb hK hP hD hS 27 0 rfl rfl h29 (dd_of dX12_works_1 21 rfl) (fun H locs hP hD hS => ?_)
            obtain ⟨F30, e31⟩ : ∃ z : jF, z = u2 F23 38 (Int32.toNatClampNeg p2) v28 := ⟨_, rfl⟩
            have hP : va_P D vwCl (mW yy A F30 G) H := by rw [e31]; exact hP
            have hD : va_D Z (mW yy A F30 G) := by rw [e31]; exact hD
            replace hres := bvE e31 hres
            refine lv_goto (tgt := 133) hx hb (dd_of dX12_works_1 22 rfl) (by decide) ?_
            subst hQ
            exact W.vret hx hb hr (fun t ht hW => ⟨⟨(F30, G), rfl, hres, by rw [ht]; exact hP, va_K.moved hW.alike hK, hD⟩, hS.F ht⟩) hS.2.2 (dd_of dX12_works_2 1 rfl) hlk
          · skip
            refine lv_if_ne (tgt := 93) hx hb (dd_of dX12_works_1 14 rfl) (by decide) (fun c26 => ?_) (fun c26 => ?_)
            · replace q69 := ifN c26 q69
              replace o72 := o72.2 c26
              refine lv_aload_n hx hb (dd_of dX12_works_1 17 rfl) rfl (lv_at hl 0 rfl) ?_
              refine va_get (D := D) (cl := vwCl) (tys := jT yy) (ci := 12) (v := .ref (A 38)) (C := RX12) (T := TX12) (N := 61) hx hb hts hin12 hown hK hP 0 rfl rfl 38 (by decide) (jw hts gw151) (fun _ h9 => h9) rfl (dd_of dX12_works_1 18 rfl) ?_
              refine lv_iload_n hx hb (dd_of dX12_works_1 19 rfl) rfl (lv_at hl 2 rfl) ?_
              have h27 := o72
              refine va_iald hx hb hK hP 27 0 rfl rfl h27 (dd_of dX12_works_1 20 rfl) ?_
              exact K71 _ q69
            · replace q69 := ifE c26 q69
              refine lv_iconst (v := 0) hx hb (dd_of dX12_works_1 15 rfl) (by decide) ?_
              refine lv_goto (tgt := 99) hx hb (dd_of dX12_works_1 16 rfl) (by decide) ?_
              exact K71 _ q69
        · skip
          refine lv_icmp_le (tgt := 73) hx hb (dd_of dX12_works_0 37 rfl) (by decide) (fun c19 => ?_) (fun c19 => ?_)
          · replace q65 := ifE c19 q65
            refine lv_iconst (v := 0) hx hb (dd_of dX12_works_1 5 rfl) (by decide) ?_
            exact K67 _ q65
          · replace q65 := ifN c19 q65
            replace o68 := o68.2 c19
            refine lv_aload_n hx hb (dd_of dX12_works_0 38 rfl) rfl (lv_at hl 0 rfl) ?_
            refine va_get (D := D) (cl := vwCl) (tys := jT yy) (ci := 12) (v := .ref (A 39)) (C := RX12) (T := TX12) (N := 61) hx hb hts hin12 hown hK hP 0 rfl rfl 39 (by decide) (jw hts gw152) (fun _ h9 => h9) rfl (dd_of dX12_works_0 39 rfl) ?_
            refine lv_iload_n hx hb (dd_of dX12_works_1 0 rfl) rfl (lv_at hl 2 rfl) ?_
            have h20 := o68
            refine va_iald hx hb hK hP 28 0 rfl rfl h20 (dd_of dX12_works_1 1 rfl) ?_
            refine lv_iconst (v := 3) hx hb (dd_of dX12_works_1 2 rfl) (by decide) ?_
            refine lv_isub hx hb (dd_of dX12_works_1 3 rfl) ?_
            refine lv_goto (tgt := 74) hx hb (dd_of dX12_works_1 4 rfl) (by decide) ?_
            exact K67 _ q65
    · replace hres := ifE c4 hres
      replace hok := hok.1 c4
      refine lv_aload_n hx hb (dd_of dX12_works_0 10 rfl) rfl (lv_at hl 0 rfl) ?_
      refine va_get (D := D) (cl := vwCl) (tys := jT yy) (ci := 12) (v := .ref (A 38)) (C := RX12) (T := TX12) (N := 61) hx hb hts hin12 hown hK hP 0 rfl rfl 38 (by decide) (jw hts gw151) (fun _ h9 => h9) rfl (dd_of dX12_works_0 11 rfl) ?_
      refine lv_iload_n hx hb (dd_of dX12_works_0 12 rfl) rfl (lv_at hl 2 rfl) ?_
      have h32 := hok.1
      replace hok := hok.2
      refine va_iald hx hb hK hP 27 0 rfl rfl h32 (dd_of dX12_works_0 13 rfl) ?_
      refine lv_if_ne (tgt := 28) hx hb (dd_of dX12_works_0 14 rfl) (by decide) (fun c33 => ?_) (fun c33 => ?_)
      · replace hres := ifN c33 hres
        replace hok := hok.2 c33
        refine lv_aload_n hx hb (dd_of dX12_works_0 16 rfl) rfl (lv_at hl 0 rfl) ?_
        refine va_get (D := D) (cl := vwCl) (tys := jT yy) (ci := 12) (v := .ref (A 50)) (C := RX12) (T := TX12) (N := 61) hx hb hts hin12 hown hK hP 0 rfl rfl 50 (by decide) (jw hts gw161) (fun _ h9 => h9) rfl (dd_of dX12_works_0 17 rfl) ?_
        refine lv_iload_n hx hb (dd_of dX12_works_0 18 rfl) rfl (lv_at hl 1 rfl) ?_
        refine lv_dup2_11 hx hb (dd_of dX12_works_0 19 rfl) rfl rfl ?_
        have h34 := hok.1
        replace hok := hok.2
        refine va_iald hx hb hK hP 37 0 rfl rfl h34 (dd_of dX12_works_0 20 rfl) ?_
        refine lv_iconst (v := 1) hx hb (dd_of dX12_works_0 21 rfl) (by decide) ?_
        refine lv_isub hx hb (dd_of dX12_works_0 22 rfl) ?_
        have h35 := hok.1
        replace hok := hok.2
        refine va_iast hx hb hK hP hD hS 37 0 rfl rfl h35 (dd_of dX12_works_0 23 rfl) (fun H locs hP hD hS => ?_)
        obtain ⟨F36, e37⟩ : ∃ z : jF, z = u2 F 50 (Int32.toNatClampNeg p1) ((F 50 (Int32.toNatClampNeg p1)) - 1) := ⟨_, rfl⟩
        have hP : va_P D vwCl (mW yy A F36 G) H := by rw [e37]; exact hP
        have hD : va_D Z (mW yy A F36 G) := by rw [e37]; exact hD
        replace hres := bvE e37 hres
        replace hok := bvO e37 hok
        refine lv_aload_n hx hb (dd_of dX12_works_0 24 rfl) rfl (lv_at hl 0 rfl) ?_
        refine va_get (D := D) (cl := vwCl) (tys := jT yy) (ci := 12) (v := .ref (A 39)) (C := RX12) (T := TX12) (N := 61) hx hb hts hin12 hown hK hP 0 rfl rfl 39 (by decide) (jw hts gw152) (fun _ h9 => h9) rfl (dd_of dX12_works_0 25 rfl) ?_
        refine lv_iload_n hx hb (dd_of dX12_works_0 26 rfl) rfl (lv_at hl 2 rfl) ?_
        have h38 := hok.1
        replace hok := hok.2
        refine va_iald hx hb hK hP 28 0 rfl rfl h38 (dd_of dX12_works_0 27 rfl) ?_
        refine lv_if_le (tgt := 103) hx hb (dd_of dX12_works_0 28 rfl) (by decide) (fun c39 => ?_) (fun c39 => ?_)
        · replace hres := ifE c39 hres
          replace hok := hok.1 c39
          refine lv_aload_n hx hb (dd_of dX12_works_1 23 rfl) rfl (lv_at hl 0 rfl) ?_
          refine va_get (D := D) (cl := vwCl) (tys := jT yy) (ci := 12) (v := .ref (A 38)) (C := RX12) (T := TX12) (N := 61) hx hb hts hin12 hown hK hP 0 rfl rfl 38 (by decide) (jw hts gw151) (fun _ h9 => h9) rfl (dd_of dX12_works_1 24 rfl) ?_
          refine lv_iload_n hx hb (dd_of dX12_works_1 25 rfl) rfl (lv_at hl 2 rfl) ?_
          refine lv_aload_n hx hb (dd_of dX12_works_1 26 rfl) rfl (lv_at hl 0 rfl) ?_
          refine va_get (D := D) (cl := vwCl) (tys := jT yy) (ci := 12) (v := .ref (A 38)) (C := RX12) (T := TX12) (N := 61) hx hb hts hin12 hown hK hP 0 rfl rfl 38 (by decide) (jw hts gw151) (fun _ h9 => h9) rfl (dd_of dX12_works_1 27 rfl) ?_
          refine lv_iload_n hx hb (dd_of dX12_works_1 28 rfl) rfl (lv_at hl 2 rfl) ?_
          have h40 := hok.1
          replace hok := hok.2
          refine va_iald hx hb hK hP 27 0 rfl rfl h40 (dd_of dX12_works_1 29 rfl) ?_
          refine lv_bipush (v := 15) hx hb (dd_of dX12_works_1 30 rfl) (by decide) ?_
          obtain ⟨z74, q73⟩ : ∃ z : Int32, (if (F36 38 (Int32.toNatClampNeg p2)) ≤ 15 then 0 else ((F36 38 (Int32.toNatClampNeg p2)) - 15)) = z := ⟨_, rfl⟩
          have o76 := hok.1
          replace hok := hok.2
          refine jn_i (ls := ls) (v := z74) 132 [.int p2, .ref (A 38)] (fun v43 ev43 => ?_) (fun K75 => ?_)
          · replace hres := bvE (ev43.trans q73.symm) hres
            replace hok := bvO (ev43.trans q73.symm) hok
            have h44 := hok
            refine va_iast hx hb hK hP hD hS 27 0 rfl rfl h44 (dd_of dX12_works_2 0 rfl) (fun H locs hP hD hS => ?_)
            obtain ⟨F45, e46⟩ : ∃ z : jF, z = u2 F36 38 (Int32.toNatClampNeg p2) v43 := ⟨_, rfl⟩
            have hP : va_P D vwCl (mW yy A F45 G) H := by rw [e46]; exact hP
            have hD : va_D Z (mW yy A F45 G) := by rw [e46]; exact hD
            replace hres := bvE e46 hres
            subst hQ
            exact W.vret hx hb hr (fun t ht hW => ⟨⟨(F45, G), rfl, hres, by rw [ht]; exact hP, va_K.moved hW.alike hK, hD⟩, hS.F ht⟩) hS.2.2 (dd_of dX12_works_2 1 rfl) hlk
          · skip
            refine lv_icmp_le (tgt := 131) hx hb (dd_of dX12_works_1 31 rfl) (by decide) (fun c41 => ?_) (fun c41 => ?_)
            · replace q73 := ifE c41 q73
              refine lv_iconst (v := 0) hx hb (dd_of dX12_works_1 39 rfl) (by decide) ?_
              exact K75 _ q73
            · replace q73 := ifN c41 q73
              replace o76 := o76.2 c41
              refine lv_aload_n hx hb (dd_of dX12_works_1 32 rfl) rfl (lv_at hl 0 rfl) ?_
              refine va_get (D := D) (cl := vwCl) (tys := jT yy) (ci := 12) (v := .ref (A 38)) (C := RX12) (T := TX12) (N := 61) hx hb hts hin12 hown hK hP 0 rfl rfl 38 (by decide) (jw hts gw151) (fun _ h9 => h9) rfl (dd_of dX12_works_1 33 rfl) ?_
              refine lv_iload_n hx hb (dd_of dX12_works_1 34 rfl) rfl (lv_at hl 2 rfl) ?_
              have h42 := o76
              refine va_iald hx hb hK hP 27 0 rfl rfl h42 (dd_of dX12_works_1 35 rfl) ?_
              refine lv_bipush (v := 15) hx hb (dd_of dX12_works_1 36 rfl) (by decide) ?_
              refine lv_isub hx hb (dd_of dX12_works_1 37 rfl) ?_
              refine lv_goto (tgt := 132) hx hb (dd_of dX12_works_1 38 rfl) (by decide) ?_
              exact K75 _ q73
        · replace hres := ifN c39 hres
          replace hok := hok.2 c39
          refine lv_aload_n hx hb (dd_of dX12_works_0 29 rfl) rfl (lv_at hl 0 rfl) ?_
          refine va_get (D := D) (cl := vwCl) (tys := jT yy) (ci := 12) (v := .ref (A 39)) (C := RX12) (T := TX12) (N := 61) hx hb hts hin12 hown hK hP 0 rfl rfl 39 (by decide) (jw hts gw152) (fun _ h9 => h9) rfl (dd_of dX12_works_0 30 rfl) ?_
          refine lv_iload_n hx hb (dd_of dX12_works_0 31 rfl) rfl (lv_at hl 2 rfl) ?_
          refine lv_aload_n hx hb (dd_of dX12_works_0 32 rfl) rfl (lv_at hl 0 rfl) ?_
          refine va_get (D := D) (cl := vwCl) (tys := jT yy) (ci := 12) (v := .ref (A 39)) (C := RX12) (T := TX12) (N := 61) hx hb hts hin12 hown hK hP 0 rfl rfl 39 (by decide) (jw hts gw152) (fun _ h9 => h9) rfl (dd_of dX12_works_0 33 rfl) ?_
          refine lv_iload_n hx hb (dd_of dX12_works_0 34 rfl) rfl (lv_at hl 2 rfl) ?_
          have h47 := hok.1
          replace hok := hok.2
          refine va_iald hx hb hK hP 28 0 rfl rfl h47 (dd_of dX12_works_0 35 rfl) ?_
          refine lv_iconst (v := 3) hx hb (dd_of dX12_works_0 36 rfl) (by decide) ?_
          obtain ⟨z78, q77⟩ : ∃ z : Int32, (if (F36 39 (Int32.toNatClampNeg p2)) ≤ 3 then 0 else ((F36 39 (Int32.toNatClampNeg p2)) - 3)) = z := ⟨_, rfl⟩
          have o80 := hok.1
          replace hok := hok.2
          refine jn_i (ls := ls) (v := z78) 74 [.int p2, .ref (A 39)] (fun v50 ev50 => ?_) (fun K79 => ?_)
          · replace hres := bvE (ev50.trans q77.symm) hres
            replace hok := bvO (ev50.trans q77.symm) hok
            have h51 := hok.1
            replace hok := hok.2
            refine va_iast hx hb hK hP hD hS 28 0 rfl rfl h51 (dd_of dX12_works_1 6 rfl) (fun H locs hP hD hS => ?_)
            obtain ⟨F52, e53⟩ : ∃ z : jF, z = u2 F36 39 (Int32.toNatClampNeg p2) v50 := ⟨_, rfl⟩
            have hP : va_P D vwCl (mW yy A F52 G) H := by rw [e53]; exact hP
            have hD : va_D Z (mW yy A F52 G) := by rw [e53]; exact hD
            replace hres := bvE e53 hres
            replace hok := bvO e53 hok
            refine lv_aload_n hx hb (dd_of dX12_works_1 7 rfl) rfl (lv_at hl 0 rfl) ?_
            refine va_get (D := D) (cl := vwCl) (tys := jT yy) (ci := 12) (v := .ref (A 38)) (C := RX12) (T := TX12) (N := 61) hx hb hts hin12 hown hK hP 0 rfl rfl 38 (by decide) (jw hts gw151) (fun _ h9 => h9) rfl (dd_of dX12_works_1 8 rfl) ?_
            refine lv_iload_n hx hb (dd_of dX12_works_1 9 rfl) rfl (lv_at hl 2 rfl) ?_
            refine lv_aload_n hx hb (dd_of dX12_works_1 10 rfl) rfl (lv_at hl 0 rfl) ?_
            refine va_get (D := D) (cl := vwCl) (tys := jT yy) (ci := 12) (v := .ref (A 39)) (C := RX12) (T := TX12) (N := 61) hx hb hts hin12 hown hK hP 0 rfl rfl 39 (by decide) (jw hts gw152) (fun _ h9 => h9) rfl (dd_of dX12_works_1 11 rfl) ?_
            refine lv_iload_n hx hb (dd_of dX12_works_1 12 rfl) rfl (lv_at hl 2 rfl) ?_
            have h54 := hok.1
            replace hok := hok.2
            refine va_iald hx hb hK hP 28 0 rfl rfl h54 (dd_of dX12_works_1 13 rfl) ?_
            obtain ⟨z82, q81⟩ : ∃ z : Int32, (if (F52 39 (Int32.toNatClampNeg p2)) = 0 then 0 else (F52 38 (Int32.toNatClampNeg p2))) = z := ⟨_, rfl⟩
            have o84 := hok.1
            replace hok := hok.2
            refine jn_i (ls := ls) (v := z82) 99 [.int p2, .ref (A 38)] (fun v57 ev57 => ?_) (fun K83 => ?_)
            · replace hres := bvE (ev57.trans q81.symm) hres
              replace hok := bvO (ev57.trans q81.symm) hok
              have h58 := hok
              refine va_iast hx hb hK hP hD hS 27 0 rfl rfl h58 (dd_of dX12_works_1 21 rfl) (fun H locs hP hD hS => ?_)
              obtain ⟨F59, e60⟩ : ∃ z : jF, z = u2 F52 38 (Int32.toNatClampNeg p2) v57 := ⟨_, rfl⟩
              have hP : va_P D vwCl (mW yy A F59 G) H := by rw [e60]; exact hP
              have hD : va_D Z (mW yy A F59 G) := by rw [e60]; exact hD
              replace hres := bvE e60 hres
              refine lv_goto (tgt := 133) hx hb (dd_of dX12_works_1 22 rfl) (by decide) ?_
              subst hQ
              exact W.vret hx hb hr (fun t ht hW => ⟨⟨(F59, G), rfl, hres, by rw [ht]; exact hP, va_K.moved hW.alike hK, hD⟩, hS.F ht⟩) hS.2.2 (dd_of dX12_works_2 1 rfl) hlk
            · skip
              refine lv_if_ne (tgt := 93) hx hb (dd_of dX12_works_1 14 rfl) (by decide) (fun c55 => ?_) (fun c55 => ?_)
              · replace q81 := ifN c55 q81
                replace o84 := o84.2 c55
                refine lv_aload_n hx hb (dd_of dX12_works_1 17 rfl) rfl (lv_at hl 0 rfl) ?_
                refine va_get (D := D) (cl := vwCl) (tys := jT yy) (ci := 12) (v := .ref (A 38)) (C := RX12) (T := TX12) (N := 61) hx hb hts hin12 hown hK hP 0 rfl rfl 38 (by decide) (jw hts gw151) (fun _ h9 => h9) rfl (dd_of dX12_works_1 18 rfl) ?_
                refine lv_iload_n hx hb (dd_of dX12_works_1 19 rfl) rfl (lv_at hl 2 rfl) ?_
                have h56 := o84
                refine va_iald hx hb hK hP 27 0 rfl rfl h56 (dd_of dX12_works_1 20 rfl) ?_
                exact K83 _ q81
              · replace q81 := ifE c55 q81
                refine lv_iconst (v := 0) hx hb (dd_of dX12_works_1 15 rfl) (by decide) ?_
                refine lv_goto (tgt := 99) hx hb (dd_of dX12_works_1 16 rfl) (by decide) ?_
                exact K83 _ q81
          · skip
            refine lv_icmp_le (tgt := 73) hx hb (dd_of dX12_works_0 37 rfl) (by decide) (fun c48 => ?_) (fun c48 => ?_)
            · replace q77 := ifE c48 q77
              refine lv_iconst (v := 0) hx hb (dd_of dX12_works_1 5 rfl) (by decide) ?_
              exact K79 _ q77
            · replace q77 := ifN c48 q77
              replace o80 := o80.2 c48
              refine lv_aload_n hx hb (dd_of dX12_works_0 38 rfl) rfl (lv_at hl 0 rfl) ?_
              refine va_get (D := D) (cl := vwCl) (tys := jT yy) (ci := 12) (v := .ref (A 39)) (C := RX12) (T := TX12) (N := 61) hx hb hts hin12 hown hK hP 0 rfl rfl 39 (by decide) (jw hts gw152) (fun _ h9 => h9) rfl (dd_of dX12_works_0 39 rfl) ?_
              refine lv_iload_n hx hb (dd_of dX12_works_1 0 rfl) rfl (lv_at hl 2 rfl) ?_
              have h49 := o80
              refine va_iald hx hb hK hP 28 0 rfl rfl h49 (dd_of dX12_works_1 1 rfl) ?_
              refine lv_iconst (v := 3) hx hb (dd_of dX12_works_1 2 rfl) (by decide) ?_
              refine lv_isub hx hb (dd_of dX12_works_1 3 rfl) ?_
              refine lv_goto (tgt := 74) hx hb (dd_of dX12_works_1 4 rfl) (by decide) ?_
              exact K79 _ q77
      · replace hres := ifE c33 hres
        subst hQ
        exact W.vret hx hb hr (fun t ht hW => ⟨⟨(F, G), rfl, hres, by rw [ht]; exact hP, va_K.moved hW.alike hK, hD⟩, hS.F ht⟩) hS.2.2 (dd_of dX12_works_0 15 rfl) hlk
set_option maxHeartbeats 4000000 in
set_option maxRecDepth 100000 in
theorem qX12_crews (l : Launch) (D : va_G) (yy : Nat → ClassId) (A : Nat → Nat) (F : jF) (G : jG) (sz : Nat) (p1 : Int32) (hok : okX12_crews F G p1) : Met l yX12_crews (Cond.code yX12_crews cX12_crews 7 none :: wsL_law) rmX12_crews (va_Pc [.ref (A 99), .int p1] (jP D yy (mW yy A F G) sz)) (va_Qv (fun u : jS => u = gX12_crews F G p1) (fun (u : jS) t => jB D yy (va_A (mW yy A F G) sz) (mW yy A u.1 u.2) t) (va_A (mW yy A F G) sz)) 0 0 (va_A (mW yy A F G) sz) := by
  generalize hres : gX12_crews F G p1 = RES
  refine jM (own := RX12) (by decide) rfl (Nat.le_of_ble_eq_true rfl) ?_
  intro p e s m args below meth c ls Q hQ hargs S hr hlk hinit hB hl
  obtain ⟨hx, hb, hml, hown, hts⟩ := S
  have hl : lv_has ls 7 [(0, .ref (A 99)), (1, .int p1)] := hl
  have hin12 : ∀ w ∈ u_ws RX12 TX12 61, w ∈ (Cond.code yX12_crews cX12_crews 7 none :: wsL_law) := fun w h => List.mem_cons_of_mem _ (inlX12 w h)
  obtain ⟨hsz, hP, hK, hD0⟩ := hB
  subst hsz
  have hD := hD0.self (sz := s.heap.size)
  generalize hZ : va_A (mW yy A F G) s.heap.size = Z at hD hQ
  have hA : ∀ q : Nat, s.heap.size ≤ q → Z q := fun q h => by rw [← hZ]; exact Or.inr h
  obtain ⟨H, hH⟩ : ∃ z, z = s.heap := ⟨_, rfl⟩
  obtain ⟨locs, hlocs⟩ : ∃ z : List Loc, z = [] := ⟨_, rfl⟩
  have hS : va_S Z s.heap H locs := by rw [hH, hlocs]; exact va_S.rf
  rw [← hH] at hP
  suffices hgo : W p l e rmX12_crews s m args below meth c H locs 0 0 Q (F0 m 0 ls []) by rw [hH, hlocs] at hgo; exact hgo
  unfold gX12_crews at hres
  unfold okX12_crews at hok
  refine lv_aload_n hx hb (dd_of dX12_crews_0 0 rfl) rfl (lv_at hl 0 rfl) ?_
  refine va_get (D := D) (cl := vwCl) (tys := jT yy) (ci := 12) (v := .ref (A 51)) (C := RX12) (T := TX12) (N := 61) hx hb hts hin12 hown hK hP 0 rfl rfl 51 (by decide) (jw hts gw162) (fun _ h9 => h9) rfl (dd_of dX12_crews_0 1 rfl) ?_
  refine lv_iload_n hx hb (dd_of dX12_crews_0 2 rfl) rfl (lv_at hl 1 rfl) ?_
  have h1 := hok.1
  replace hok := hok.2
  refine va_iald hx hb hK hP 38 0 rfl rfl h1 (dd_of dX12_crews_0 3 rfl) ?_
  refine lv_iconst (v := 1) hx hb (dd_of dX12_crews_0 4 rfl) (by decide) ?_
  refine lv_isub hx hb (dd_of dX12_crews_0 5 rfl) ?_
  refine lv_topi (fun x2 ex2 => ?_)
  replace hres := bvE ex2 hres
  replace hok := bvO ex2 hok
  refine lv_istore_n (lv' := [(2, .int x2), (0, .ref (A 99)), (1, .int p1)]) hx hb (dd_of dX12_crews_0 6 rfl) rfl hl (by decide) rfl (fun ls hl => ?_)
  refine lv_iload_n hx hb (dd_of dX12_crews_0 7 rfl) rfl (lv_at hl 0 rfl) ?_
  refine lv_iconst (v := (-1)) hx hb (dd_of dX12_crews_0 8 rfl) (by decide) ?_
  refine lv_icmp_ne (tgt := 15) hx hb (dd_of dX12_crews_0 9 rfl) (by decide) (fun c3 => ?_) (fun c3 => ?_)
  · replace hres := ifN c3 hres
    replace hok := hok.2 c3
    refine lv_aload_n hx hb (dd_of dX12_crews_0 11 rfl) rfl (lv_at hl 1 rfl) ?_
    refine va_get (D := D) (cl := vwCl) (tys := jT yy) (ci := 12) (v := .ref (A 33)) (C := RX12) (T := TX12) (N := 61) hx hb hts hin12 hown hK hP 0 rfl rfl 33 (by decide) (jw hts gw146) (fun _ h9 => h9) rfl (dd_of dX12_crews_0 12 rfl) ?_
    refine lv_iload_n hx hb (dd_of dX12_crews_0 13 rfl) rfl (lv_at hl 0 rfl) ?_
    have h4 := hok.1
    replace hok := hok.2
    refine va_iald hx hb hK hP 22 0 rfl rfl h4 (dd_of dX12_crews_0 14 rfl) ?_
    refine lv_bipush (v := 20) hx hb (dd_of dX12_crews_0 15 rfl) (by decide) ?_
    obtain ⟨z47, q46⟩ : ∃ z : Int32, (if 20 ≤ (F 33 (Int32.toNatClampNeg x2)) then (F 34 (Int32.toNatClampNeg x2)) else (F 33 (Int32.toNatClampNeg x2))) = z := ⟨_, rfl⟩
    have o49 := hok.1
    replace hok := hok.2
    refine jn_i (ls := ls) (v := z47) 41 [] (fun v8 ev8 => ?_) (fun K48 => ?_)
    · replace hres := bvE (ev8.trans q46.symm) hres
      replace hok := bvO (ev8.trans q46.symm) hok
      refine lv_istore_n (lv' := [(3, .int v8), (2, .int x2), (0, .ref (A 99)), (1, .int p1)]) hx hb (dd_of dX12_crews_0 26 rfl) rfl hl (by decide) rfl (fun ls hl => ?_)
      refine lv_aload_n hx hb (dd_of dX12_crews_0 27 rfl) rfl (lv_at hl 2 rfl) ?_
      refine va_get (D := D) (cl := vwCl) (tys := jT yy) (ci := 12) (v := .ref (A 49)) (C := RX12) (T := TX12) (N := 61) hx hb hts hin12 hown hK hP 0 rfl rfl 49 (by decide) (jw hts gw160) (fun _ h9 => h9) rfl (dd_of dX12_crews_0 28 rfl) ?_
      refine lv_iload_n hx hb (dd_of dX12_crews_0 29 rfl) rfl (lv_at hl 3 rfl) ?_
      have h9 := hok.1
      replace hok := hok.2
      refine va_iald hx hb hK hP 36 0 rfl rfl h9 (dd_of dX12_crews_0 30 rfl) ?_
      refine lv_iload_n hx hb (dd_of dX12_crews_0 31 rfl) rfl (lv_at hl 0 rfl) ?_
      refine lv_icmp_ne (tgt := 59) hx hb (dd_of dX12_crews_0 32 rfl) (by decide) (fun c10 => ?_) (fun c10 => ?_)
      · replace hres := ifN c10 hres
        replace hok := hok.2 c10
        refine lv_aload_n hx hb (dd_of dX12_crews_0 38 rfl) rfl (lv_at hl 2 rfl) ?_
        refine lv_iload_n hx hb (dd_of dX12_crews_0 39 rfl) rfl (lv_at hl 0 rfl) ?_
        have h11 := hok.1
        replace hok := hok.2
        refine jm_v (As := [.int v8]) (rest := []) (w := (mW yy A F G)) (w1 := fun u : jS => (mW yy A u.1 u.2)) (D := D) (yy := yy) ⟨hx, hb, hml, hown, hts⟩ (qX12_measures l D yy A F G H.size v8 h11) (cwV 1 hts (jgV gw948 gw949 gw950 gw5 gw951) rfl rfl rfl (by decide +kernel) ⟨Nat.le_of_ble_eq_true rfl, Nat.le_of_ble_eq_true rfl⟩) hP hK hD hS hA (va_recv hK hP (ci := 12) (q0 := 0) rfl rfl) rfl hl.1 rfl (Nat.le_of_ble_eq_true rfl) (dd_of dX12_crews_1 0 rfl) ⟨Nat.zero_le _, Nat.zero_le _⟩ (fun u9 H locs w14 hP hD hS => ?_)
        obtain ⟨F12, G13⟩ := u9
        have hP : va_P D vwCl (mW yy A F12 G13) H := hP
        have hD : va_D Z (mW yy A F12 G13) := hD
        replace hres := bsE w14 hres
        replace hok := bsO w14 hok
        refine lv_aload_n hx hb (dd_of dX12_crews_1 1 rfl) rfl (lv_at hl 2 rfl) ?_
        refine va_get (D := D) (cl := vwCl) (tys := jT yy) (ci := 12) (v := .ref (A 49)) (C := RX12) (T := TX12) (N := 61) hx hb hts hin12 hown hK hP 0 rfl rfl 49 (by decide) (jw hts gw160) (fun _ h9 => h9) rfl (dd_of dX12_crews_1 2 rfl) ?_
        refine lv_iload_n hx hb (dd_of dX12_crews_1 3 rfl) rfl (lv_at hl 3 rfl) ?_
        have h15 := hok.1
        replace hok := hok.2
        refine va_iald hx hb hK hP 36 0 rfl rfl h15 (dd_of dX12_crews_1 4 rfl) ?_
        refine lv_topi (fun x16 ex16 => ?_)
        replace hres := bvE ex16 hres
        replace hok := bvO ex16 hok
        refine lv_istore (lv' := [(4, .int x16), (3, .int v8), (2, .int x2), (0, .ref (A 99)), (1, .int p1)]) hx hb (dd_of dX12_crews_1 5 rfl) hl (by decide) rfl (fun ls hl => ?_)
        refine lv_aload_n hx hb (dd_of dX12_crews_1 6 rfl) rfl (lv_at hl 3 rfl) ?_
        refine va_get (D := D) (cl := vwCl) (tys := jT yy) (ci := 12) (v := .int (F12 8 0)) (C := RX12) (T := TX12) (N := 61) hx hb hts hin12 hown hK hP 0 rfl rfl 8 (by decide) (jw hts gw589) (fun _ h9 => h9) rfl (dd_of dX12_crews_1 7 rfl) ?_
        refine lv_iconst (v := 1) hx hb (dd_of dX12_crews_1 8 rfl) (by decide) ?_
        refine lv_isub hx hb (dd_of dX12_crews_1 9 rfl) ?_
        refine lv_topi (fun x17 ex17 => ?_)
        replace hres := bvE ex17 hres
        replace hok := bvO ex17 hok
        refine lv_istore (lv' := [(5, .int x17), (4, .int x16), (3, .int v8), (2, .int x2), (0, .ref (A 99)), (1, .int p1)]) hx hb (dd_of dX12_crews_1 10 rfl) hl (by decide) rfl (fun ls hl => ?_)
        have LP80 : ∀ (f4 : Int32) (f1 : Int32), ∀ (K : Int32 → jF → jG → jS) (okK : Int32 → jF → jG → Prop) (n : Nat), ∀ (v5 : Int32) (F : jF) (G : jG), ∀ (H : Heap) (locs : List Loc) (ls : Array Slot), va_P D vwCl (mW yy A F G) H → va_D Z (mW yy A F G) → va_S Z s.heap H locs → lv_has ls 7 [(5, .int v5), (4, .int f4), (0, .ref (A 99)), (1, .int f1)] → okX12_crews_L80 f4 f1 okK n v5 F G → gX12_crews_L80 f4 f1 K n v5 F G = RES → (∀ (v5 : Int32) (F : jF) (G : jG), ∀ (H : Heap) (locs : List Loc) (ls : Array Slot), va_P D vwCl (mW yy A F G) H → va_D Z (mW yy A F G) → va_S Z s.heap H locs → lv_has ls 7 [(5, .int v5), (4, .int f4), (0, .ref (A 99)), (1, .int f1)] → okK v5 F G → K v5 F G = RES → W p l e rmX12_crews s m args below meth c H locs 0 0 Q (F0 m 186 ls [])) → W p l e rmX12_crews s m args below meth c H locs 0 0 Q (F0 m 80 ls []) := by
          intro f4 f1 K okK n
          induction n with
          | zero =>
            intro v5 F G H locs ls hP hD hS hl hok _ _
            exact absurd hok (by unfold okX12_crews_L80; exact id)
          | succ n9 ih =>
            intro v5 F G H locs ls hP hD hS hl hok hres hexit
            unfold gX12_crews_L80 at hres
            unfold okX12_crews_L80 at hok
            refine lv_iload hx hb (dd_of dX12_crews_1 11 rfl) (lv_at hl 0 rfl) ?_
            refine lv_if_lt (tgt := 186) hx hb (dd_of dX12_crews_1 12 rfl) (by decide) (fun c18 => ?_) (fun c18 => ?_)
            · replace hres := ifE c18 hres
              replace hok := hok.1 c18
              exact hexit v5 F G H locs ls hP hD hS (lv_sub hl [0, 1, 2, 3] rfl) hok hres
            · replace hres := ifN c18 hres
              replace hok := hok.2 c18
              refine lv_aload_n hx hb (dd_of dX12_crews_1 13 rfl) rfl (lv_at hl 2 rfl) ?_
              refine va_get (D := D) (cl := vwCl) (tys := jT yy) (ci := 12) (v := .ref (A 59)) (C := RX12) (T := TX12) (N := 61) hx hb hts hin12 hown hK hP 0 rfl rfl 59 (by decide) (jw hts gw170) (fun _ h9 => h9) rfl (dd_of dX12_crews_1 14 rfl) ?_
              refine lv_iload hx hb (dd_of dX12_crews_1 15 rfl) (lv_at hl 1 rfl) ?_
              have h19 := hok.1
              replace hok := hok.2
              refine va_iald hx hb hK hP 44 0 rfl rfl h19 (dd_of dX12_crews_1 16 rfl) ?_
              refine lv_bipush (v := 100) hx hb (dd_of dX12_crews_1 17 rfl) (by decide) ?_
              refine lv_icmp_ge (tgt := 186) hx hb (dd_of dX12_crews_1 18 rfl) (by decide) (fun c20 => ?_) (fun c20 => ?_)
              · replace hres := ifE c20 hres
                replace hok := hok.1 c20
                exact hexit v5 F G H locs ls hP hD hS (lv_sub hl [0, 1, 2, 3] rfl) hok hres
              · replace hres := ifN c20 hres
                replace hok := hok.2 c20
                refine lv_aload_n hx hb (dd_of dX12_crews_1 19 rfl) rfl (lv_at hl 2 rfl) ?_
                refine va_get (D := D) (cl := vwCl) (tys := jT yy) (ci := 12) (v := .ref (A 16)) (C := RX12) (T := TX12) (N := 61) hx hb hts hin12 hown hK hP 0 rfl rfl 16 (by decide) (jw hts gw132) (fun _ h9 => h9) rfl (dd_of dX12_crews_1 20 rfl) ?_
                refine lv_bipush (v := 8) hx hb (dd_of dX12_crews_1 21 rfl) (by decide) ?_
                refine lv_iload hx hb (dd_of dX12_crews_1 22 rfl) (lv_at hl 1 rfl) ?_
                refine lv_imul hx hb (dd_of dX12_crews_1 23 rfl) ?_
                refine lv_iload hx hb (dd_of dX12_crews_1 24 rfl) (lv_at hl 0 rfl) ?_
                refine lv_iadd hx hb (dd_of dX12_crews_1 25 rfl) ?_
                have h21 := hok.1
                replace hok := hok.2
                refine va_iald hx hb hK hP 8 0 rfl rfl h21 (dd_of dX12_crews_1 26 rfl) ?_
                refine lv_iconst (v := 1) hx hb (dd_of dX12_crews_1 27 rfl) (by decide) ?_
                obtain ⟨z51, q50⟩ : ∃ z : Int32, (if (F 16 (Int32.toNatClampNeg ((8 * f4) + v5))) = 1 then bv (gX12_isCut F G v5) (fun x24 : Int32 => (if x24 = 0 then bv (gX12_isCut F G f4) (fun x27 : Int32 => (if x27 = 0 then (if (F 59 (Int32.toNatClampNeg v5)) = ((F 59 (Int32.toNatClampNeg f4)) - 1) then 1 else 0) else 0)) else 0)) else 0) = z := ⟨_, rfl⟩
                have o53 := hok.1
                replace hok := hok.2
                refine jn_i (ls := ls) (v := z51) 156 [] (fun v32 ev32 => ?_) (fun K52 => ?_)
                · replace hres := bvE (ev32.trans q50.symm) hres
                  replace hok := bvO (ev32.trans q50.symm) hok
                  refine lv_istore (lv' := [(6, .int v32), (5, .int v5), (4, .int f4), (0, .ref (A 99)), (1, .int f1)]) hx hb (dd_of dX12_crews_2 11 rfl) hl (by decide) rfl (fun ls hl => ?_)
                  refine lv_aload_n hx hb (dd_of dX12_crews_2 12 rfl) rfl (lv_at hl 3 rfl) ?_
                  refine va_get (D := D) (cl := vwCl) (tys := jT yy) (ci := 12) (v := .ref (A 49)) (C := RX12) (T := TX12) (N := 61) hx hb hts hin12 hown hK hP 0 rfl rfl 49 (by decide) (jw hts gw160) (fun _ h9 => h9) rfl (dd_of dX12_crews_2 13 rfl) ?_
                  refine lv_iload_n hx hb (dd_of dX12_crews_2 14 rfl) rfl (lv_at hl 4 rfl) ?_
                  refine lv_iload hx hb (dd_of dX12_crews_2 15 rfl) (lv_at hl 0 rfl) ?_
                  obtain ⟨z55, q54⟩ : ∃ z : Int32, (if v32 = 0 then (F 49 (Int32.toNatClampNeg f1)) else v5) = z := ⟨_, rfl⟩
                  have o57 := hok.1
                  replace hok := hok.2
                  refine jn_i (ls := ls) (v := z55) 179 [.int f1, .ref (A 49)] (fun v35 ev35 => ?_) (fun K56 => ?_)
                  · replace hres := bvE (ev35.trans q54.symm) hres
                    replace hok := bvO (ev35.trans q54.symm) hok
                    have h36 := hok.1
                    replace hok := hok.2
                    refine va_iast hx hb hK hP hD hS 36 0 rfl rfl h36 (dd_of dX12_crews_2 23 rfl) (fun H locs hP hD hS => ?_)
                    obtain ⟨F37, e38⟩ : ∃ z : jF, z = u2 F 49 (Int32.toNatClampNeg f1) v35 := ⟨_, rfl⟩
                    have hP : va_P D vwCl (mW yy A F37 G) H := by rw [e38]; exact hP
                    have hD : va_D Z (mW yy A F37 G) := by rw [e38]; exact hD
                    replace hres := bvE e38 hres
                    replace hok := bvO e38 hok
                    refine lv_iinc (v := (v5 + (-1))) (lv' := [(5, .int (v5 + (-1))), (6, .int v32), (4, .int f4), (0, .ref (A 99)), (1, .int f1)]) hx hb (dd_of dX12_crews_2 24 rfl) hl (k := 1) rfl rfl (by decide) rfl (fun ls hl => ?_)
                    refine lv_goto (tgt := 80) hx hb (dd_of dX12_crews_2 25 rfl) (by decide) ?_
                    exact ih (v5 + (-1)) F37 G H locs ls hP hD hS (lv_sub hl [0, 2, 3, 4] rfl) hok hres hexit
                  · skip
                    refine lv_if_eq (tgt := 173) hx hb (dd_of dX12_crews_2 16 rfl) (by decide) (fun c33 => ?_) (fun c33 => ?_)
                    · replace q54 := ifE c33 q54
                      replace o57 := o57.1 c33
                      refine lv_aload_n hx hb (dd_of dX12_crews_2 19 rfl) rfl (lv_at hl 3 rfl) ?_
                      refine va_get (D := D) (cl := vwCl) (tys := jT yy) (ci := 12) (v := .ref (A 49)) (C := RX12) (T := TX12) (N := 61) hx hb hts hin12 hown hK hP 0 rfl rfl 49 (by decide) (jw hts gw160) (fun _ h9 => h9) rfl (dd_of dX12_crews_2 20 rfl) ?_
                      refine lv_iload_n hx hb (dd_of dX12_crews_2 21 rfl) rfl (lv_at hl 4 rfl) ?_
                      have h34 := o57
                      refine va_iald hx hb hK hP 36 0 rfl rfl h34 (dd_of dX12_crews_2 22 rfl) ?_
                      exact K56 _ q54
                    · replace q54 := ifN c33 q54
                      refine lv_iload hx hb (dd_of dX12_crews_2 17 rfl) (lv_at hl 1 rfl) ?_
                      refine lv_goto (tgt := 179) hx hb (dd_of dX12_crews_2 18 rfl) (by decide) ?_
                      exact K56 _ q54
                · skip
                  refine lv_icmp_ne (tgt := 155) hx hb (dd_of dX12_crews_1 28 rfl) (by decide) (fun c22 => ?_) (fun c22 => ?_)
                  · replace q50 := ifN c22 q50
                    refine lv_iconst (v := 0) hx hb (dd_of dX12_crews_2 10 rfl) (by decide) ?_
                    exact K52 _ q50
                  · replace q50 := ifE c22 q50
                    replace o53 := o53.1 c22
                    refine lv_aload_n hx hb (dd_of dX12_crews_1 29 rfl) rfl (lv_at hl 2 rfl) ?_
                    refine lv_iload hx hb (dd_of dX12_crews_1 30 rfl) (lv_at hl 0 rfl) ?_
                    have h23 := o53.1
                    replace o53 := o53.2
                    refine jc_i (As := [.int v5]) (rest := []) (w := (mW yy A F G)) (D := D) (yy := yy) ⟨hx, hb, hml, hown, hts⟩ (qX12_isCut l D yy A F G v5 h23) (cwV 1 hts (jgV gw952 gw953 gw954 gw5 gw955) rfl rfl rfl (by decide +kernel) ⟨Nat.le_of_ble_eq_true rfl, Nat.le_of_ble_eq_true rfl⟩) hP hK (va_recv hK hP (ci := 12) (q0 := 0) rfl rfl) rfl hl.1 rfl (Nat.le_of_ble_eq_true rfl) (dd_of dX12_crews_1 31 rfl) ⟨Nat.zero_le _, Nat.zero_le _⟩ (fun x24 ex24 => ?_)
                    replace q50 := bvE ex24 q50
                    replace o53 := bvO ex24 o53
                    refine lv_if_ne (tgt := 155) hx hb (dd_of dX12_crews_1 32 rfl) (by decide) (fun c25 => ?_) (fun c25 => ?_)
                    · replace q50 := ifN c25 q50
                      refine lv_iconst (v := 0) hx hb (dd_of dX12_crews_2 10 rfl) (by decide) ?_
                      exact K52 _ q50
                    · replace q50 := ifE c25 q50
                      replace o53 := o53.1 c25
                      refine lv_aload_n hx hb (dd_of dX12_crews_1 33 rfl) rfl (lv_at hl 2 rfl) ?_
                      refine lv_iload hx hb (dd_of dX12_crews_1 34 rfl) (lv_at hl 1 rfl) ?_
                      have h26 := o53.1
                      replace o53 := o53.2
                      refine jc_i (As := [.int f4]) (rest := []) (w := (mW yy A F G)) (D := D) (yy := yy) ⟨hx, hb, hml, hown, hts⟩ (qX12_isCut l D yy A F G f4 h26) (cwV 1 hts (jgV gw952 gw953 gw954 gw5 gw955) rfl rfl rfl (by decide +kernel) ⟨Nat.le_of_ble_eq_true rfl, Nat.le_of_ble_eq_true rfl⟩) hP hK (va_recv hK hP (ci := 12) (q0 := 0) rfl rfl) rfl hl.1 rfl (Nat.le_of_ble_eq_true rfl) (dd_of dX12_crews_1 35 rfl) ⟨Nat.zero_le _, Nat.zero_le _⟩ (fun x27 ex27 => ?_)
                      replace q50 := bvE ex27 q50
                      replace o53 := bvO ex27 o53
                      refine lv_if_ne (tgt := 155) hx hb (dd_of dX12_crews_1 36 rfl) (by decide) (fun c28 => ?_) (fun c28 => ?_)
                      · replace q50 := ifN c28 q50
                        refine lv_iconst (v := 0) hx hb (dd_of dX12_crews_2 10 rfl) (by decide) ?_
                        exact K52 _ q50
                      · replace q50 := ifE c28 q50
                        replace o53 := o53.1 c28
                        refine lv_aload_n hx hb (dd_of dX12_crews_1 37 rfl) rfl (lv_at hl 2 rfl) ?_
                        refine va_get (D := D) (cl := vwCl) (tys := jT yy) (ci := 12) (v := .ref (A 59)) (C := RX12) (T := TX12) (N := 61) hx hb hts hin12 hown hK hP 0 rfl rfl 59 (by decide) (jw hts gw170) (fun _ h9 => h9) rfl (dd_of dX12_crews_1 38 rfl) ?_
                        refine lv_iload hx hb (dd_of dX12_crews_1 39 rfl) (lv_at hl 0 rfl) ?_
                        have h29 := o53.1
                        replace o53 := o53.2
                        refine va_iald hx hb hK hP 44 0 rfl rfl h29 (dd_of dX12_crews_2 0 rfl) ?_
                        refine lv_aload_n hx hb (dd_of dX12_crews_2 1 rfl) rfl (lv_at hl 2 rfl) ?_
                        refine va_get (D := D) (cl := vwCl) (tys := jT yy) (ci := 12) (v := .ref (A 59)) (C := RX12) (T := TX12) (N := 61) hx hb hts hin12 hown hK hP 0 rfl rfl 59 (by decide) (jw hts gw170) (fun _ h9 => h9) rfl (dd_of dX12_crews_2 2 rfl) ?_
                        refine lv_iload hx hb (dd_of dX12_crews_2 3 rfl) (lv_at hl 1 rfl) ?_
                        have h30 := o53
                        refine va_iald hx hb hK hP 44 0 rfl rfl h30 (dd_of dX12_crews_2 4 rfl) ?_
                        refine lv_iconst (v := 1) hx hb (dd_of dX12_crews_2 5 rfl) (by decide) ?_
                        refine lv_isub hx hb (dd_of dX12_crews_2 6 rfl) ?_
                        refine lv_icmp_ne (tgt := 155) hx hb (dd_of dX12_crews_2 7 rfl) (by decide) (fun c31 => ?_) (fun c31 => ?_)
                        · replace q50 := ifN c31 q50
                          refine lv_iconst (v := 0) hx hb (dd_of dX12_crews_2 10 rfl) (by decide) ?_
                          exact K52 _ q50
                        · replace q50 := ifE c31 q50
                          refine lv_iconst (v := 1) hx hb (dd_of dX12_crews_2 8 rfl) (by decide) ?_
                          refine lv_goto (tgt := 156) hx hb (dd_of dX12_crews_2 9 rfl) (by decide) ?_
                          exact K52 _ q50
        refine LP80 x16 p1 _ _ 80 x17 F12 G13 H locs ls hP hD hS (lv_sub hl [0, 1, 4, 5] rfl) hok hres (fun y39 F40 G41 H locs ls hP hD hS hl hok hres => ?_)
        subst hQ
        exact W.vret hx hb hr (fun t ht hW => ⟨⟨(F40, G41), rfl, hres, by rw [ht]; exact hP, va_K.moved hW.alike hK, hD⟩, hS.F ht⟩) hS.2.2 (dd_of dX12_crews_2 26 rfl) hlk
      · replace hres := ifE c10 hres
        replace hok := hok.1 c10
        refine lv_aload_n hx hb (dd_of dX12_crews_0 33 rfl) rfl (lv_at hl 2 rfl) ?_
        refine lv_iload_n hx hb (dd_of dX12_crews_0 34 rfl) rfl (lv_at hl 3 rfl) ?_
        refine lv_iload_n hx hb (dd_of dX12_crews_0 35 rfl) rfl (lv_at hl 1 rfl) ?_
        have h42 := hok
        refine jm_v (As := [.int p1, .int x2]) (rest := []) (w := (mW yy A F G)) (w1 := fun u : jS => (mW yy A u.1 u.2)) (D := D) (yy := yy) ⟨hx, hb, hml, hown, hts⟩ (qX12_works l D yy A F G H.size p1 x2 h42) (cwV 2 hts (jgV gw944 gw945 gw946 gw5 gw947) rfl rfl rfl (by decide +kernel) ⟨Nat.le_of_ble_eq_true rfl, Nat.le_of_ble_eq_true rfl⟩) hP hK hD hS hA (va_recv hK hP (ci := 12) (q0 := 0) rfl rfl) rfl hl.1 rfl (Nat.le_of_ble_eq_true rfl) (dd_of dX12_crews_0 36 rfl) ⟨Nat.zero_le _, Nat.zero_le _⟩ (fun u9 H locs w45 hP hD hS => ?_)
        obtain ⟨F43, G44⟩ := u9
        have hP : va_P D vwCl (mW yy A F43 G44) H := hP
        have hD : va_D Z (mW yy A F43 G44) := hD
        replace hres := bsE w45 hres
        subst hQ
        exact W.vret hx hb hr (fun t ht hW => ⟨⟨(F43, G44), rfl, hres, by rw [ht]; exact hP, va_K.moved hW.alike hK, hD⟩, hS.F ht⟩) hS.2.2 (dd_of dX12_crews_0 37 rfl) hlk
    · skip
      refine lv_icmp_ge (tgt := 35) hx hb (dd_of dX12_crews_0 16 rfl) (by decide) (fun c5 => ?_) (fun c5 => ?_)
      · replace q46 := ifE c5 q46
        replace o49 := o49.1 c5
        refine lv_aload_n hx hb (dd_of dX12_crews_0 22 rfl) rfl (lv_at hl 1 rfl) ?_
        refine va_get (D := D) (cl := vwCl) (tys := jT yy) (ci := 12) (v := .ref (A 34)) (C := RX12) (T := TX12) (N := 61) hx hb hts hin12 hown hK hP 0 rfl rfl 34 (by decide) (jw hts gw147) (fun _ h9 => h9) rfl (dd_of dX12_crews_0 23 rfl) ?_
        refine lv_iload_n hx hb (dd_of dX12_crews_0 24 rfl) rfl (lv_at hl 0 rfl) ?_
        have h6 := o49
        refine va_iald hx hb hK hP 23 0 rfl rfl h6 (dd_of dX12_crews_0 25 rfl) ?_
        exact K48 _ q46
      · replace q46 := ifN c5 q46
        replace o49 := o49.2 c5
        refine lv_aload_n hx hb (dd_of dX12_crews_0 17 rfl) rfl (lv_at hl 1 rfl) ?_
        refine va_get (D := D) (cl := vwCl) (tys := jT yy) (ci := 12) (v := .ref (A 33)) (C := RX12) (T := TX12) (N := 61) hx hb hts hin12 hown hK hP 0 rfl rfl 33 (by decide) (jw hts gw146) (fun _ h9 => h9) rfl (dd_of dX12_crews_0 18 rfl) ?_
        refine lv_iload_n hx hb (dd_of dX12_crews_0 19 rfl) rfl (lv_at hl 0 rfl) ?_
        have h7 := o49
        refine va_iald hx hb hK hP 22 0 rfl rfl h7 (dd_of dX12_crews_0 20 rfl) ?_
        refine lv_goto (tgt := 41) hx hb (dd_of dX12_crews_0 21 rfl) (by decide) ?_
        exact K48 _ q46
  · replace hres := ifE c3 hres
    subst hQ
    exact W.vret hx hb hr (fun t ht hW => ⟨⟨(F, G), rfl, hres, by rw [ht]; exact hP, va_K.moved hW.alike hK, hD⟩, hS.F ht⟩) hS.2.2 (dd_of dX12_crews_0 10 rfl) hlk
set_option maxHeartbeats 4000000 in
set_option maxRecDepth 100000 in
theorem qX12_goesOn (l : Launch) (D : va_G) (yy : Nat → ClassId) (A : Nat → Nat) (F : jF) (G : jG) (sz : Nat)  (hok : okX12_goesOn F G ) : Met l yX12_goesOn (Cond.code yX12_goesOn cX12_goesOn 2 none :: wsL_law) rmX12_goesOn (va_Pc [.ref (A 99)] (jP D yy (mW yy A F G) sz)) (va_Qv (fun u : jS => u = gX12_goesOn F G ) (fun (u : jS) t => jB D yy (va_A (mW yy A F G) sz) (mW yy A u.1 u.2) t) (va_A (mW yy A F G) sz)) 0 0 (va_A (mW yy A F G) sz) := by
  generalize hres : gX12_goesOn F G  = RES
  refine jM (own := RX12) (by decide) rfl (Nat.le_of_ble_eq_true rfl) ?_
  intro p e s m args below meth c ls Q hQ hargs S hr hlk hinit hB hl
  obtain ⟨hx, hb, hml, hown, hts⟩ := S
  have hl : lv_has ls 2 [(0, .ref (A 99))] := hl
  have hin12 : ∀ w ∈ u_ws RX12 TX12 61, w ∈ (Cond.code yX12_goesOn cX12_goesOn 2 none :: wsL_law) := fun w h => List.mem_cons_of_mem _ (inlX12 w h)
  obtain ⟨hsz, hP, hK, hD0⟩ := hB
  subst hsz
  have hD := hD0.self (sz := s.heap.size)
  generalize hZ : va_A (mW yy A F G) s.heap.size = Z at hD hQ
  have hA : ∀ q : Nat, s.heap.size ≤ q → Z q := fun q h => by rw [← hZ]; exact Or.inr h
  obtain ⟨H, hH⟩ : ∃ z, z = s.heap := ⟨_, rfl⟩
  obtain ⟨locs, hlocs⟩ : ∃ z : List Loc, z = [] := ⟨_, rfl⟩
  have hS : va_S Z s.heap H locs := by rw [hH, hlocs]; exact va_S.rf
  rw [← hH] at hP
  suffices hgo : W p l e rmX12_goesOn s m args below meth c H locs 0 0 Q (F0 m 0 ls []) by rw [hH, hlocs] at hgo; exact hgo
  unfold gX12_goesOn at hres
  unfold okX12_goesOn at hok
  refine lv_aload_n hx hb (dd_of dX12_goesOn_0 0 rfl) rfl (lv_at hl 0 rfl) ?_
  have h1 := hok.1
  replace hok := hok.2
  refine jm_v (As := []) (rest := []) (w := (mW yy A F G)) (w1 := fun u : jS => (mW yy A u.1 u.2)) (D := D) (yy := yy) ⟨hx, hb, hml, hown, hts⟩ (qX12_rains l D yy A F G H.size  h1) (cwV 0 hts (jgV gw897 gw898 gw899 gw5 gw900) rfl rfl rfl (by decide +kernel) ⟨Nat.le_of_ble_eq_true rfl, Nat.le_of_ble_eq_true rfl⟩) hP hK hD hS hA (va_recv hK hP (ci := 12) (q0 := 0) rfl rfl) rfl hl.1 rfl (Nat.le_of_ble_eq_true rfl) (dd_of dX12_goesOn_0 1 rfl) ⟨Nat.zero_le _, Nat.zero_le _⟩ (fun u9 H locs w4 hP hD hS => ?_)
  obtain ⟨F2, G3⟩ := u9
  have hP : va_P D vwCl (mW yy A F2 G3) H := hP
  have hD : va_D Z (mW yy A F2 G3) := hD
  replace hres := bsE w4 hres
  replace hok := bsO w4 hok
  refine lv_iconst (v := 0) hx hb (dd_of dX12_goesOn_0 2 rfl) (by decide) ?_
  refine lv_istore_n (lv' := [(1, .int 0), (0, .ref (A 99))]) hx hb (dd_of dX12_goesOn_0 3 rfl) rfl hl (by decide) rfl (fun ls hl => ?_)
  have LP6 : ∀ (K : Int32 → jF → jG → jS) (okK : Int32 → jF → jG → Prop) (n : Nat), ∀ (v1 : Int32) (F : jF) (G : jG), ∀ (H : Heap) (locs : List Loc) (ls : Array Slot), va_P D vwCl (mW yy A F G) H → va_D Z (mW yy A F G) → va_S Z s.heap H locs → lv_has ls 2 [(1, .int v1), (0, .ref (A 99))] → okX12_goesOn_L6  okK n v1 F G → gX12_goesOn_L6  K n v1 F G = RES → (∀ (v1 : Int32) (F : jF) (G : jG), ∀ (H : Heap) (locs : List Loc) (ls : Array Slot), va_P D vwCl (mW yy A F G) H → va_D Z (mW yy A F G) → va_S Z s.heap H locs → lv_has ls 2 [(1, .int v1), (0, .ref (A 99))] → okK v1 F G → K v1 F G = RES → W p l e rmX12_goesOn s m args below meth c H locs 0 0 Q (F0 m 78 ls [])) → W p l e rmX12_goesOn s m args below meth c H locs 0 0 Q (F0 m 6 ls []) := by
    intro  K okK n
    induction n with
    | zero =>
      intro v1 F G H locs ls hP hD hS hl hok _ _
      exact absurd hok (by unfold okX12_goesOn_L6; exact id)
    | succ n9 ih =>
      intro v1 F G H locs ls hP hD hS hl hok hres hexit
      unfold gX12_goesOn_L6 at hres
      unfold okX12_goesOn_L6 at hok
      refine lv_iload_n hx hb (dd_of dX12_goesOn_0 4 rfl) rfl (lv_at hl 0 rfl) ?_
      refine lv_aload_n hx hb (dd_of dX12_goesOn_0 5 rfl) rfl (lv_at hl 1 rfl) ?_
      refine va_get (D := D) (cl := vwCl) (tys := jT yy) (ci := 12) (v := .int (F 17 0)) (C := RX12) (T := TX12) (N := 61) hx hb hts hin12 hown hK hP 0 rfl rfl 17 (by decide) (jw hts gw673) (fun _ h9 => h9) rfl (dd_of dX12_goesOn_0 6 rfl) ?_
      refine lv_icmp_ge (tgt := 78) hx hb (dd_of dX12_goesOn_0 7 rfl) (by decide) (fun c5 => ?_) (fun c5 => ?_)
      · replace hres := ifE c5 hres
        replace hok := hok.1 c5
        exact hexit v1 F G H locs ls hP hD hS (lv_sub hl [0, 1] rfl) hok hres
      · replace hres := ifN c5 hres
        replace hok := hok.2 c5
        refine lv_aload_n hx hb (dd_of dX12_goesOn_0 8 rfl) rfl (lv_at hl 1 rfl) ?_
        refine va_get (D := D) (cl := vwCl) (tys := jT yy) (ci := 12) (v := .ref (A 22)) (C := RX12) (T := TX12) (N := 61) hx hb hts hin12 hown hK hP 0 rfl rfl 22 (by decide) (jw hts gw137) (fun _ h9 => h9) rfl (dd_of dX12_goesOn_0 9 rfl) ?_
        refine lv_iload_n hx hb (dd_of dX12_goesOn_0 10 rfl) rfl (lv_at hl 0 rfl) ?_
        refine lv_aload_n hx hb (dd_of dX12_goesOn_0 11 rfl) rfl (lv_at hl 1 rfl) ?_
        refine lv_iload_n hx hb (dd_of dX12_goesOn_0 12 rfl) rfl (lv_at hl 0 rfl) ?_
        have h6 := hok.1
        replace hok := hok.2
        refine jc_i (As := [.int v1]) (rest := [.int v1, .ref (A 22)]) (w := (mW yy A F G)) (D := D) (yy := yy) ⟨hx, hb, hml, hown, hts⟩ (qX12_isSeaHigher l D yy A F G v1 h6) (cwV 1 hts (jgV gw777 gw778 gw779 gw5 gw780) rfl rfl rfl (by decide +kernel) ⟨Nat.le_of_ble_eq_true rfl, Nat.le_of_ble_eq_true rfl⟩) hP hK (va_recv hK hP (ci := 12) (q0 := 0) rfl rfl) rfl hl.1 rfl (Nat.le_of_ble_eq_true rfl) (dd_of dX12_goesOn_0 13 rfl) ⟨Nat.zero_le _, Nat.zero_le _⟩ (fun x7 ex7 => ?_)
        replace hres := bvE ex7 hres
        replace hok := bvO ex7 hok
        obtain ⟨z66, q65⟩ : ∃ z : Int32, (if x7 = 0 then (F 22 (Int32.toNatClampNeg v1)) else 0) = z := ⟨_, rfl⟩
        have o68 := hok.1
        replace hok := hok.2
        refine jn_i (ls := ls) (v := z66) 37 [.int v1, .ref (A 22)] (fun v10 ev10 => ?_) (fun K67 => ?_)
        · replace hres := bvE (ev10.trans q65.symm) hres
          replace hok := bvO (ev10.trans q65.symm) hok
          have h11 := hok.1
          replace hok := hok.2
          refine va_iast hx hb hK hP hD hS 13 0 rfl rfl h11 (dd_of dX12_goesOn_0 21 rfl) (fun H locs hP hD hS => ?_)
          obtain ⟨F12, e13⟩ : ∃ z : jF, z = u2 F 22 (Int32.toNatClampNeg v1) v10 := ⟨_, rfl⟩
          have hP : va_P D vwCl (mW yy A F12 G) H := by rw [e13]; exact hP
          have hD : va_D Z (mW yy A F12 G) := by rw [e13]; exact hD
          replace hres := bvE e13 hres
          replace hok := bvO e13 hok
          refine lv_aload_n hx hb (dd_of dX12_goesOn_0 22 rfl) rfl (lv_at hl 1 rfl) ?_
          refine va_get (D := D) (cl := vwCl) (tys := jT yy) (ci := 12) (v := .ref (A 22)) (C := RX12) (T := TX12) (N := 61) hx hb hts hin12 hown hK hP 0 rfl rfl 22 (by decide) (jw hts gw137) (fun _ h9 => h9) rfl (dd_of dX12_goesOn_0 23 rfl) ?_
          refine lv_iload_n hx hb (dd_of dX12_goesOn_0 24 rfl) rfl (lv_at hl 0 rfl) ?_
          have h14 := hok.1
          replace hok := hok.2
          refine va_iald hx hb hK hP 13 0 rfl rfl h14 (dd_of dX12_goesOn_0 25 rfl) ?_
          refine lv_iconst (v := 1) hx hb (dd_of dX12_goesOn_0 26 rfl) (by decide) ?_
          refine lv_icmp_ne (tgt := 72) hx hb (dd_of dX12_goesOn_0 27 rfl) (by decide) (fun c15 => ?_) (fun c15 => ?_)
          · replace hres := ifN c15 hres
            replace hok := hok.2 c15
            refine lv_iinc (v := (v1 + 1)) (lv' := [(1, .int (v1 + 1)), (0, .ref (A 99))]) hx hb (dd_of dX12_goesOn_1 4 rfl) hl (k := 0) rfl rfl (by decide) rfl (fun ls hl => ?_)
            refine lv_goto (tgt := 6) hx hb (dd_of dX12_goesOn_1 5 rfl) (by decide) ?_
            exact ih (v1 + 1) F12 G H locs ls hP hD hS (lv_sub hl [0, 1] rfl) hok hres hexit
          · replace hres := ifE c15 hres
            replace hok := hok.1 c15
            refine lv_aload_n hx hb (dd_of dX12_goesOn_0 28 rfl) rfl (lv_at hl 1 rfl) ?_
            refine lv_aload_n hx hb (dd_of dX12_goesOn_0 29 rfl) rfl (lv_at hl 1 rfl) ?_
            refine va_get (D := D) (cl := vwCl) (tys := jT yy) (ci := 12) (v := .ref (A 18)) (C := RX12) (T := TX12) (N := 61) hx hb hts hin12 hown hK hP 0 rfl rfl 18 (by decide) (jw hts gw133) (fun _ h9 => h9) rfl (dd_of dX12_goesOn_0 30 rfl) ?_
            refine lv_iload_n hx hb (dd_of dX12_goesOn_0 31 rfl) rfl (lv_at hl 0 rfl) ?_
            have h16 := hok.1
            replace hok := hok.2
            refine va_iald hx hb hK hP 9 0 rfl rfl h16 (dd_of dX12_goesOn_0 32 rfl) ?_
            refine lv_aload_n hx hb (dd_of dX12_goesOn_0 33 rfl) rfl (lv_at hl 1 rfl) ?_
            refine va_get (D := D) (cl := vwCl) (tys := jT yy) (ci := 12) (v := .ref (A 19)) (C := RX12) (T := TX12) (N := 61) hx hb hts hin12 hown hK hP 0 rfl rfl 19 (by decide) (jw hts gw134) (fun _ h9 => h9) rfl (dd_of dX12_goesOn_0 34 rfl) ?_
            refine lv_iload_n hx hb (dd_of dX12_goesOn_0 35 rfl) rfl (lv_at hl 0 rfl) ?_
            have h17 := hok.1
            replace hok := hok.2
            refine va_iald hx hb hK hP 10 0 rfl rfl h17 (dd_of dX12_goesOn_0 36 rfl) ?_
            refine lv_aload_n hx hb (dd_of dX12_goesOn_0 37 rfl) rfl (lv_at hl 1 rfl) ?_
            refine va_get (D := D) (cl := vwCl) (tys := jT yy) (ci := 12) (v := .ref (A 20)) (C := RX12) (T := TX12) (N := 61) hx hb hts hin12 hown hK hP 0 rfl rfl 20 (by decide) (jw hts gw135) (fun _ h9 => h9) rfl (dd_of dX12_goesOn_0 38 rfl) ?_
            refine lv_iload_n hx hb (dd_of dX12_goesOn_0 39 rfl) rfl (lv_at hl 0 rfl) ?_
            have h18 := hok.1
            replace hok := hok.2
            refine va_iald hx hb hK hP 11 0 rfl rfl h18 (dd_of dX12_goesOn_1 0 rfl) ?_
            refine lv_i2l (v := (Int32.toInt64 (F12 20 (Int32.toNatClampNeg v1)))) hx hb (dd_of dX12_goesOn_1 1 rfl) rfl ?_
            have h19 := hok.1
            replace hok := hok.2
            refine jm_l (As := [.int (F12 18 (Int32.toNatClampNeg v1)), .int (F12 19 (Int32.toNatClampNeg v1)), .long (Int32.toInt64 (F12 20 (Int32.toNatClampNeg v1)))]) (rest := []) (w := (mW yy A F12 G)) (w1 := fun u : jS => (mW yy A u.1 u.2)) (D := D) (yy := yy) ⟨hx, hb, hml, hown, hts⟩ (qX12_flows l D yy A F12 G H.size (F12 18 (Int32.toNatClampNeg v1)) (F12 19 (Int32.toNatClampNeg v1)) (Int32.toInt64 (F12 20 (Int32.toNatClampNeg v1))) h19) (cwV 3 hts (jgV gw901 gw902 gw903 gw5 gw904) rfl rfl rfl (by decide +kernel) ⟨Nat.le_of_ble_eq_true rfl, Nat.le_of_ble_eq_true rfl⟩) hP hK hD hS hA (va_recv hK hP (ci := 12) (q0 := 0) rfl rfl) rfl hl.1 rfl (Nat.le_of_ble_eq_true rfl) (dd_of dX12_goesOn_1 2 rfl) ⟨Nat.zero_le _, Nat.zero_le _⟩ (fun x23 u9 H locs w22 hP hD hS => ?_)
            obtain ⟨F20, G21⟩ := u9
            have hP : va_P D vwCl (mW yy A F20 G21) H := hP
            have hD : va_D Z (mW yy A F20 G21) := hD
            replace hres := brE w22 hres
            replace hok := brO w22 hok
            refine lv_pop2_2 hx hb (dd_of dX12_goesOn_1 3 rfl) rfl ?_
            refine lv_iinc (v := (v1 + 1)) (lv' := [(1, .int (v1 + 1)), (0, .ref (A 99))]) hx hb (dd_of dX12_goesOn_1 4 rfl) hl (k := 0) rfl rfl (by decide) rfl (fun ls hl => ?_)
            refine lv_goto (tgt := 6) hx hb (dd_of dX12_goesOn_1 5 rfl) (by decide) ?_
            exact ih (v1 + 1) F20 G21 H locs ls hP hD hS (lv_sub hl [0, 1] rfl) hok hres hexit
        · skip
          refine lv_if_eq (tgt := 31) hx hb (dd_of dX12_goesOn_0 14 rfl) (by decide) (fun c8 => ?_) (fun c8 => ?_)
          · replace q65 := ifE c8 q65
            replace o68 := o68.1 c8
            refine lv_aload_n hx hb (dd_of dX12_goesOn_0 17 rfl) rfl (lv_at hl 1 rfl) ?_
            refine va_get (D := D) (cl := vwCl) (tys := jT yy) (ci := 12) (v := .ref (A 22)) (C := RX12) (T := TX12) (N := 61) hx hb hts hin12 hown hK hP 0 rfl rfl 22 (by decide) (jw hts gw137) (fun _ h9 => h9) rfl (dd_of dX12_goesOn_0 18 rfl) ?_
            refine lv_iload_n hx hb (dd_of dX12_goesOn_0 19 rfl) rfl (lv_at hl 0 rfl) ?_
            have h9 := o68
            refine va_iald hx hb hK hP 13 0 rfl rfl h9 (dd_of dX12_goesOn_0 20 rfl) ?_
            exact K67 _ q65
          · replace q65 := ifN c8 q65
            refine lv_iconst (v := 0) hx hb (dd_of dX12_goesOn_0 15 rfl) (by decide) ?_
            refine lv_goto (tgt := 37) hx hb (dd_of dX12_goesOn_0 16 rfl) (by decide) ?_
            exact K67 _ q65
  refine LP6  _ _ 80 0 F2 G3 H locs ls hP hD hS (lv_sub hl [0, 1] rfl) hok hres (fun y24 F25 G26 H locs ls hP hD hS hl hok hres => ?_)
  refine lv_iconst (v := 0) hx hb (dd_of dX12_goesOn_1 6 rfl) (by decide) ?_
  refine lv_istore_n (lv' := [(1, .int 0), (0, .ref (A 99))]) hx hb (dd_of dX12_goesOn_1 7 rfl) rfl hl (by decide) rfl (fun ls hl => ?_)
  have LP80 : ∀ (K : Int32 → jF → jG → jS) (okK : Int32 → jF → jG → Prop) (n : Nat), ∀ (v1 : Int32) (F : jF) (G : jG), ∀ (H : Heap) (locs : List Loc) (ls : Array Slot), va_P D vwCl (mW yy A F G) H → va_D Z (mW yy A F G) → va_S Z s.heap H locs → lv_has ls 2 [(1, .int v1), (0, .ref (A 99))] → okX12_goesOn_L80  okK n v1 F G → gX12_goesOn_L80  K n v1 F G = RES → (∀ (v1 : Int32) (F : jF) (G : jG), ∀ (H : Heap) (locs : List Loc) (ls : Array Slot), va_P D vwCl (mW yy A F G) H → va_D Z (mW yy A F G) → va_S Z s.heap H locs → lv_has ls 2 [(1, .int v1), (0, .ref (A 99))] → okK v1 F G → K v1 F G = RES → W p l e rmX12_goesOn s m args below meth c H locs 0 0 Q (F0 m 99 ls [])) → W p l e rmX12_goesOn s m args below meth c H locs 0 0 Q (F0 m 80 ls []) := by
    intro  K okK n
    induction n with
    | zero =>
      intro v1 F G H locs ls hP hD hS hl hok _ _
      exact absurd hok (by unfold okX12_goesOn_L80; exact id)
    | succ n9 ih =>
      intro v1 F G H locs ls hP hD hS hl hok hres hexit
      unfold gX12_goesOn_L80 at hres
      unfold okX12_goesOn_L80 at hok
      refine lv_iload_n hx hb (dd_of dX12_goesOn_1 8 rfl) rfl (lv_at hl 0 rfl) ?_
      refine lv_aload_n hx hb (dd_of dX12_goesOn_1 9 rfl) rfl (lv_at hl 1 rfl) ?_
      refine va_get (D := D) (cl := vwCl) (tys := jT yy) (ci := 12) (v := .int (F 23 0)) (C := RX12) (T := TX12) (N := 61) hx hb hts hin12 hown hK hP 0 rfl rfl 23 (by decide) (jw hts gw694) (fun _ h9 => h9) rfl (dd_of dX12_goesOn_1 10 rfl) ?_
      refine lv_icmp_ge (tgt := 99) hx hb (dd_of dX12_goesOn_1 11 rfl) (by decide) (fun c27 => ?_) (fun c27 => ?_)
      · replace hres := ifE c27 hres
        replace hok := hok.1 c27
        exact hexit v1 F G H locs ls hP hD hS (lv_sub hl [0, 1] rfl) hok hres
      · replace hres := ifN c27 hres
        replace hok := hok.2 c27
        refine lv_aload_n hx hb (dd_of dX12_goesOn_1 12 rfl) rfl (lv_at hl 1 rfl) ?_
        refine lv_iload_n hx hb (dd_of dX12_goesOn_1 13 rfl) rfl (lv_at hl 0 rfl) ?_
        have h28 := hok.1
        replace hok := hok.2
        refine jm_v (As := [.int v1]) (rest := []) (w := (mW yy A F G)) (w1 := fun u : jS => (mW yy A u.1 u.2)) (D := D) (yy := yy) ⟨hx, hb, hml, hown, hts⟩ (qX12_pumps l D yy A F G H.size v1 h28) (cwV 1 hts (jgV gw913 gw914 gw915 gw5 gw916) rfl rfl rfl (by decide +kernel) ⟨Nat.le_of_ble_eq_true rfl, Nat.le_of_ble_eq_true rfl⟩) hP hK hD hS hA (va_recv hK hP (ci := 12) (q0 := 0) rfl rfl) rfl hl.1 rfl (Nat.le_of_ble_eq_true rfl) (dd_of dX12_goesOn_1 14 rfl) ⟨Nat.zero_le _, Nat.zero_le _⟩ (fun u9 H locs w31 hP hD hS => ?_)
        obtain ⟨F29, G30⟩ := u9
        have hP : va_P D vwCl (mW yy A F29 G30) H := hP
        have hD : va_D Z (mW yy A F29 G30) := hD
        replace hres := bsE w31 hres
        replace hok := bsO w31 hok
        refine lv_iinc (v := (v1 + 1)) (lv' := [(1, .int (v1 + 1)), (0, .ref (A 99))]) hx hb (dd_of dX12_goesOn_1 15 rfl) hl (k := 0) rfl rfl (by decide) rfl (fun ls hl => ?_)
        refine lv_goto (tgt := 80) hx hb (dd_of dX12_goesOn_1 16 rfl) (by decide) ?_
        exact ih (v1 + 1) F29 G30 H locs ls hP hD hS (lv_sub hl [0, 1] rfl) hok hres hexit
  refine LP80  _ _ 80 0 F25 G26 H locs ls hP hD hS (lv_sub hl [0, 1] rfl) hok hres (fun y32 F33 G34 H locs ls hP hD hS hl hok hres => ?_)
  refine lv_iconst (v := 0) hx hb (dd_of dX12_goesOn_1 17 rfl) (by decide) ?_
  refine lv_istore_n (lv' := [(1, .int 0), (0, .ref (A 99))]) hx hb (dd_of dX12_goesOn_1 18 rfl) rfl hl (by decide) rfl (fun ls hl => ?_)
  have LP101 : ∀ (K : Int32 → jF → jG → jS) (okK : Int32 → jF → jG → Prop) (n : Nat), ∀ (v1 : Int32) (F : jF) (G : jG), ∀ (H : Heap) (locs : List Loc) (ls : Array Slot), va_P D vwCl (mW yy A F G) H → va_D Z (mW yy A F G) → va_S Z s.heap H locs → lv_has ls 2 [(1, .int v1), (0, .ref (A 99))] → okX12_goesOn_L101  okK n v1 F G → gX12_goesOn_L101  K n v1 F G = RES → (∀ (v1 : Int32) (F : jF) (G : jG), ∀ (H : Heap) (locs : List Loc) (ls : Array Slot), va_P D vwCl (mW yy A F G) H → va_D Z (mW yy A F G) → va_S Z s.heap H locs → lv_has ls 2 [(1, .int v1), (0, .ref (A 99))] → okK v1 F G → K v1 F G = RES → W p l e rmX12_goesOn s m args below meth c H locs 0 0 Q (F0 m 120 ls [])) → W p l e rmX12_goesOn s m args below meth c H locs 0 0 Q (F0 m 101 ls []) := by
    intro  K okK n
    induction n with
    | zero =>
      intro v1 F G H locs ls hP hD hS hl hok _ _
      exact absurd hok (by unfold okX12_goesOn_L101; exact id)
    | succ n9 ih =>
      intro v1 F G H locs ls hP hD hS hl hok hres hexit
      unfold gX12_goesOn_L101 at hres
      unfold okX12_goesOn_L101 at hok
      refine lv_iload_n hx hb (dd_of dX12_goesOn_1 19 rfl) rfl (lv_at hl 0 rfl) ?_
      refine lv_aload_n hx hb (dd_of dX12_goesOn_1 20 rfl) rfl (lv_at hl 1 rfl) ?_
      refine va_get (D := D) (cl := vwCl) (tys := jT yy) (ci := 12) (v := .int (F 32 0)) (C := RX12) (T := TX12) (N := 61) hx hb hts hin12 hown hK hP 0 rfl rfl 32 (by decide) (jw hts gw707) (fun _ h9 => h9) rfl (dd_of dX12_goesOn_1 21 rfl) ?_
      refine lv_icmp_ge (tgt := 120) hx hb (dd_of dX12_goesOn_1 22 rfl) (by decide) (fun c35 => ?_) (fun c35 => ?_)
      · replace hres := ifE c35 hres
        replace hok := hok.1 c35
        exact hexit v1 F G H locs ls hP hD hS (lv_sub hl [0, 1] rfl) hok hres
      · replace hres := ifN c35 hres
        replace hok := hok.2 c35
        refine lv_aload_n hx hb (dd_of dX12_goesOn_1 23 rfl) rfl (lv_at hl 1 rfl) ?_
        refine lv_iload_n hx hb (dd_of dX12_goesOn_1 24 rfl) rfl (lv_at hl 0 rfl) ?_
        have h36 := hok.1
        replace hok := hok.2
        refine jm_v (As := [.int v1]) (rest := []) (w := (mW yy A F G)) (w1 := fun u : jS => (mW yy A u.1 u.2)) (D := D) (yy := yy) ⟨hx, hb, hml, hown, hts⟩ (qX12_holds l D yy A F G H.size v1 h36) (cwV 1 hts (jgV gw917 gw918 gw919 gw5 gw920) rfl rfl rfl (by decide +kernel) ⟨Nat.le_of_ble_eq_true rfl, Nat.le_of_ble_eq_true rfl⟩) hP hK hD hS hA (va_recv hK hP (ci := 12) (q0 := 0) rfl rfl) rfl hl.1 rfl (Nat.le_of_ble_eq_true rfl) (dd_of dX12_goesOn_1 25 rfl) ⟨Nat.zero_le _, Nat.zero_le _⟩ (fun u9 H locs w39 hP hD hS => ?_)
        obtain ⟨F37, G38⟩ := u9
        have hP : va_P D vwCl (mW yy A F37 G38) H := hP
        have hD : va_D Z (mW yy A F37 G38) := hD
        replace hres := bsE w39 hres
        replace hok := bsO w39 hok
        refine lv_iinc (v := (v1 + 1)) (lv' := [(1, .int (v1 + 1)), (0, .ref (A 99))]) hx hb (dd_of dX12_goesOn_1 26 rfl) hl (k := 0) rfl rfl (by decide) rfl (fun ls hl => ?_)
        refine lv_goto (tgt := 101) hx hb (dd_of dX12_goesOn_1 27 rfl) (by decide) ?_
        exact ih (v1 + 1) F37 G38 H locs ls hP hD hS (lv_sub hl [0, 1] rfl) hok hres hexit
  refine LP101  _ _ 80 0 F33 G34 H locs ls hP hD hS (lv_sub hl [0, 1] rfl) hok hres (fun y40 F41 G42 H locs ls hP hD hS hl hok hres => ?_)
  refine lv_aload_n hx hb (dd_of dX12_goesOn_1 28 rfl) rfl (lv_at hl 1 rfl) ?_
  have h43 := hok.1
  replace hok := hok.2
  refine jm_v (As := []) (rest := []) (w := (mW yy A F41 G42)) (w1 := fun u : jS => (mW yy A u.1 u.2)) (D := D) (yy := yy) ⟨hx, hb, hml, hown, hts⟩ (qX12_harms l D yy A F41 G42 H.size  h43) (cwV 0 hts (jgV gw931 gw932 gw933 gw5 gw934) rfl rfl rfl (by decide +kernel) ⟨Nat.le_of_ble_eq_true rfl, Nat.le_of_ble_eq_true rfl⟩) hP hK hD hS hA (va_recv hK hP (ci := 12) (q0 := 0) rfl rfl) rfl hl.1 rfl (Nat.le_of_ble_eq_true rfl) (dd_of dX12_goesOn_1 29 rfl) ⟨Nat.zero_le _, Nat.zero_le _⟩ (fun u9 H locs w46 hP hD hS => ?_)
  obtain ⟨F44, G45⟩ := u9
  have hP : va_P D vwCl (mW yy A F44 G45) H := hP
  have hD : va_D Z (mW yy A F44 G45) := hD
  replace hres := bsE w46 hres
  replace hok := bsO w46 hok
  refine lv_iconst (v := 0) hx hb (dd_of dX12_goesOn_1 30 rfl) (by decide) ?_
  refine lv_istore_n (lv' := [(1, .int 0), (0, .ref (A 99))]) hx hb (dd_of dX12_goesOn_1 31 rfl) rfl hl (by decide) rfl (fun ls hl => ?_)
  have LP126 : ∀ (K : Int32 → jF → jG → jS) (okK : Int32 → jF → jG → Prop) (n : Nat), ∀ (v1 : Int32) (F : jF) (G : jG), ∀ (H : Heap) (locs : List Loc) (ls : Array Slot), va_P D vwCl (mW yy A F G) H → va_D Z (mW yy A F G) → va_S Z s.heap H locs → lv_has ls 2 [(1, .int v1), (0, .ref (A 99))] → okX12_goesOn_L126  okK n v1 F G → gX12_goesOn_L126  K n v1 F G = RES → (∀ (v1 : Int32) (F : jF) (G : jG), ∀ (H : Heap) (locs : List Loc) (ls : Array Slot), va_P D vwCl (mW yy A F G) H → va_D Z (mW yy A F G) → va_S Z s.heap H locs → lv_has ls 2 [(1, .int v1), (0, .ref (A 99))] → okK v1 F G → K v1 F G = RES → W p l e rmX12_goesOn s m args below meth c H locs 0 0 Q (F0 m 142 ls [])) → W p l e rmX12_goesOn s m args below meth c H locs 0 0 Q (F0 m 126 ls []) := by
    intro  K okK n
    induction n with
    | zero =>
      intro v1 F G H locs ls hP hD hS hl hok _ _
      exact absurd hok (by unfold okX12_goesOn_L126; exact id)
    | succ n9 ih =>
      intro v1 F G H locs ls hP hD hS hl hok hres hexit
      unfold gX12_goesOn_L126 at hres
      unfold okX12_goesOn_L126 at hok
      refine lv_iload_n hx hb (dd_of dX12_goesOn_1 32 rfl) rfl (lv_at hl 0 rfl) ?_
      refine lv_iconst (v := 3) hx hb (dd_of dX12_goesOn_1 33 rfl) (by decide) ?_
      refine lv_icmp_ge (tgt := 142) hx hb (dd_of dX12_goesOn_1 34 rfl) (by decide) (fun c47 => ?_) (fun c47 => ?_)
      · replace hres := ifE c47 hres
        replace hok := hok.1 c47
        exact hexit v1 F G H locs ls hP hD hS (lv_sub hl [0, 1] rfl) hok hres
      · replace hres := ifN c47 hres
        replace hok := hok.2 c47
        refine lv_aload_n hx hb (dd_of dX12_goesOn_1 35 rfl) rfl (lv_at hl 1 rfl) ?_
        refine lv_iload_n hx hb (dd_of dX12_goesOn_1 36 rfl) rfl (lv_at hl 0 rfl) ?_
        have h48 := hok.1
        replace hok := hok.2
        refine jm_v (As := [.int v1]) (rest := []) (w := (mW yy A F G)) (w1 := fun u : jS => (mW yy A u.1 u.2)) (D := D) (yy := yy) ⟨hx, hb, hml, hown, hts⟩ (qX12_crews l D yy A F G H.size v1 h48) (cwV 1 hts (jgV gw940 gw941 gw942 gw5 gw943) rfl rfl rfl (by decide +kernel) ⟨Nat.le_of_ble_eq_true rfl, Nat.le_of_ble_eq_true rfl⟩) hP hK hD hS hA (va_recv hK hP (ci := 12) (q0 := 0) rfl rfl) rfl hl.1 rfl (Nat.le_of_ble_eq_true rfl) (dd_of dX12_goesOn_1 37 rfl) ⟨Nat.zero_le _, Nat.zero_le _⟩ (fun u9 H locs w51 hP hD hS => ?_)
        obtain ⟨F49, G50⟩ := u9
        have hP : va_P D vwCl (mW yy A F49 G50) H := hP
        have hD : va_D Z (mW yy A F49 G50) := hD
        replace hres := bsE w51 hres
        replace hok := bsO w51 hok
        refine lv_iinc (v := (v1 + 1)) (lv' := [(1, .int (v1 + 1)), (0, .ref (A 99))]) hx hb (dd_of dX12_goesOn_1 38 rfl) hl (k := 0) rfl rfl (by decide) rfl (fun ls hl => ?_)
        refine lv_goto (tgt := 126) hx hb (dd_of dX12_goesOn_1 39 rfl) (by decide) ?_
        exact ih (v1 + 1) F49 G50 H locs ls hP hD hS (lv_sub hl [0, 1] rfl) hok hres hexit
  refine LP126  _ _ 80 0 F44 G45 H locs ls hP hD hS (lv_sub hl [0, 1] rfl) hok hres (fun y52 F53 G54 H locs ls hP hD hS hl hok hres => ?_)
  refine lv_aload_n hx hb (dd_of dX12_goesOn_2 0 rfl) rfl (lv_at hl 1 rfl) ?_
  refine lv_aload_n hx hb (dd_of dX12_goesOn_2 1 rfl) rfl (lv_at hl 1 rfl) ?_
  refine lv_aload_n hx hb (dd_of dX12_goesOn_2 2 rfl) rfl (lv_at hl 1 rfl) ?_
  refine va_get (D := D) (cl := vwCl) (tys := jT yy) (ci := 12) (v := .int (F53 0 0)) (C := RX12) (T := TX12) (N := 61) hx hb hts hin12 hown hK hP 0 rfl rfl 0 (by decide) (jw hts gw785) (fun _ h9 => h9) rfl (dd_of dX12_goesOn_2 3 rfl) ?_
  have h55 := hok.1
  replace hok := hok.2
  refine jc_l (As := [.int (F53 0 0)]) (rest := [.ref (A 99)]) (w := (mW yy A F53 G54)) (D := D) (yy := yy) ⟨hx, hb, hml, hown, hts⟩ (qX12_seaAt l D yy A F53 G54 (F53 0 0) h55) (cwV 1 hts (jgV gw787 gw788 gw789 gw5 gw790) rfl rfl rfl (by decide +kernel) ⟨Nat.le_of_ble_eq_true rfl, Nat.le_of_ble_eq_true rfl⟩) hP hK (va_recv hK hP (ci := 12) (q0 := 0) rfl rfl) rfl hl.1 rfl (Nat.le_of_ble_eq_true rfl) (dd_of dX12_goesOn_2 4 rfl) ⟨Nat.zero_le _, Nat.zero_le _⟩ (fun x56 ex56 => ?_)
  replace hres := bvE ex56 hres
  replace hok := bvO ex56 hok
  refine lv_aload_n hx hb (dd_of dX12_goesOn_2 5 rfl) rfl (lv_at hl 1 rfl) ?_
  refine va_get (D := D) (cl := vwCl) (tys := jT yy) (ci := 12) (v := .long (G54 58 0)) (C := RX12) (T := TX12) (N := 61) hx hb hts hin12 hown hK hP 0 rfl rfl 58 (by decide) (jw hts gw169) (fun _ h9 => h9) rfl (dd_of dX12_goesOn_2 6 rfl) ?_
  obtain ⟨z70, q69⟩ : ∃ z : Int64, (if x56 ≤ (G54 58 0) then (G54 58 0) else bv (gX12_seaAt F53 G54 (F53 0 0)) (fun x59 : Int64 => x59)) = z := ⟨_, rfl⟩
  have o72 := hok
  refine jn_l (ls := ls) (v := z70) 174 [.ref (A 99)] (fun v60 ev60 => ?_) (fun K71 => ?_)
  · replace hres := bvE (ev60.trans q69.symm) hres
    refine va_put (D := D) (cl := vwCl) (tys := jT yy) (ci := 12) (v := .long v60) (ty := .long) (C := RX12) (T := TX12) (N := 61) hx hb hts hin12 tyX12 tyX12_ok nmX12 hown hK hP hD hS 0 rfl rfl 58 (by decide) (jw hts gw169) (fun _ h9 => h9) rfl (by decide +kernel) rfl rfl (Nat.le_of_ble_eq_true rfl) (dd_of dX12_goesOn_2 16 rfl) (fun H locs hP hD hS => ?_)
    obtain ⟨G61, e62⟩ : ∃ z : jG, z = u2 G54 58 0 v60 := ⟨_, rfl⟩
    have hP : va_P D vwCl (mW yy A F53 G61) H := by rw [e62]; exact hP
    have hD : va_D Z (mW yy A F53 G61) := by rw [e62]; exact hD
    replace hres := bvE e62 hres
    refine lv_aload_n hx hb (dd_of dX12_goesOn_2 17 rfl) rfl (lv_at hl 1 rfl) ?_
    refine lv_dup hx hb (dd_of dX12_goesOn_2 18 rfl) rfl ?_
    refine va_get (D := D) (cl := vwCl) (tys := jT yy) (ci := 12) (v := .int (F53 0 0)) (C := RX12) (T := TX12) (N := 61) hx hb hts hin12 hown hK hP 0 rfl rfl 0 (by decide) (jw hts gw785) (fun _ h9 => h9) rfl (dd_of dX12_goesOn_2 19 rfl) ?_
    refine lv_iconst (v := 1) hx hb (dd_of dX12_goesOn_2 20 rfl) (by decide) ?_
    refine lv_iadd hx hb (dd_of dX12_goesOn_2 21 rfl) ?_
    refine va_put (D := D) (cl := vwCl) (tys := jT yy) (ci := 12) (v := .int ((F53 0 0) + 1)) (ty := .int) (C := RX12) (T := TX12) (N := 61) hx hb hts hin12 tyX12 tyX12_ok nmX12 hown hK hP hD hS 0 rfl rfl 0 (by decide) (jw hts gw785) (fun _ h9 => h9) rfl (by decide +kernel) rfl rfl (Nat.le_of_ble_eq_true rfl) (dd_of dX12_goesOn_2 22 rfl) (fun H locs hP hD hS => ?_)
    obtain ⟨F63, e64⟩ : ∃ z : jF, z = u2 F53 0 0 ((F53 0 0) + 1) := ⟨_, rfl⟩
    have hP : va_P D vwCl (mW yy A F63 G61) H := by rw [e64]; exact hP
    have hD : va_D Z (mW yy A F63 G61) := by rw [e64]; exact hD
    replace hres := bvE e64 hres
    subst hQ
    exact W.vret hx hb hr (fun t ht hW => ⟨⟨(F63, G61), rfl, hres, by rw [ht]; exact hP, va_K.moved hW.alike hK, hD⟩, hS.F ht⟩) hS.2.2 (dd_of dX12_goesOn_2 23 rfl) hlk
  · skip
    refine jl_le (tgt := 170) hx hb (dd_of dX12_goesOn_2 7 rfl) (dd_of dX12_goesOn_2 8 rfl) (by decide) (fun c57 => ?_) (fun c57 => ?_)
    · replace q69 := ifE c57 q69
      refine lv_aload_n hx hb (dd_of dX12_goesOn_2 14 rfl) rfl (lv_at hl 1 rfl) ?_
      refine va_get (D := D) (cl := vwCl) (tys := jT yy) (ci := 12) (v := .long (G54 58 0)) (C := RX12) (T := TX12) (N := 61) hx hb hts hin12 hown hK hP 0 rfl rfl 58 (by decide) (jw hts gw169) (fun _ h9 => h9) rfl (dd_of dX12_goesOn_2 15 rfl) ?_
      exact K71 _ q69
    · replace q69 := ifN c57 q69
      replace o72 := o72.2 c57
      refine lv_aload_n hx hb (dd_of dX12_goesOn_2 9 rfl) rfl (lv_at hl 1 rfl) ?_
      refine lv_aload_n hx hb (dd_of dX12_goesOn_2 10 rfl) rfl (lv_at hl 1 rfl) ?_
      refine va_get (D := D) (cl := vwCl) (tys := jT yy) (ci := 12) (v := .int (F53 0 0)) (C := RX12) (T := TX12) (N := 61) hx hb hts hin12 hown hK hP 0 rfl rfl 0 (by decide) (jw hts gw785) (fun _ h9 => h9) rfl (dd_of dX12_goesOn_2 11 rfl) ?_
      have h58 := o72
      refine jc_l (As := [.int (F53 0 0)]) (rest := [.ref (A 99)]) (w := (mW yy A F53 G54)) (D := D) (yy := yy) ⟨hx, hb, hml, hown, hts⟩ (qX12_seaAt l D yy A F53 G54 (F53 0 0) h58) (cwV 1 hts (jgV gw787 gw788 gw789 gw5 gw790) rfl rfl rfl (by decide +kernel) ⟨Nat.le_of_ble_eq_true rfl, Nat.le_of_ble_eq_true rfl⟩) hP hK (va_recv hK hP (ci := 12) (q0 := 0) rfl rfl) rfl hl.1 rfl (Nat.le_of_ble_eq_true rfl) (dd_of dX12_goesOn_2 12 rfl) ⟨Nat.zero_le _, Nat.zero_le _⟩ (fun x59 ex59 => ?_)
      replace q69 := bvE ex59 q69
      refine lv_goto (tgt := 174) hx hb (dd_of dX12_goesOn_2 13 rfl) (by decide) ?_
      exact K71 _ q69
set_option maxHeartbeats 4000000 in
set_option maxRecDepth 100000 in
theorem qX12_run (l : Launch) (D : va_G) (yy : Nat → ClassId) (A : Nat → Nat) (F : jF) (G : jG) (sz : Nat) (p1 : Int32) (hok : okX12_run F G p1) : Met l yX12_run (Cond.code yX12_run cX12_run 3 (some .int) :: wsL_law) rmX12_run (va_Pc [.ref (A 99), .int p1] (jP D yy (mW yy A F G) sz)) (va_Qi (fun r (u : jS) => (r, u) = gX12_run F G p1) (fun (u : jS) t => jB D yy (va_A (mW yy A F G) sz) (mW yy A u.1 u.2) t) (va_A (mW yy A F G) sz)) 0 0 (va_A (mW yy A F G) sz) := by
  generalize hres : gX12_run F G p1 = RES
  refine jM (own := RX12) (by decide) rfl (Nat.le_of_ble_eq_true rfl) ?_
  intro p e s m args below meth c ls Q hQ hargs S hr hlk hinit hB hl
  obtain ⟨hx, hb, hml, hown, hts⟩ := S
  have hl : lv_has ls 3 [(0, .ref (A 99)), (1, .int p1)] := hl
  have hin12 : ∀ w ∈ u_ws RX12 TX12 61, w ∈ (Cond.code yX12_run cX12_run 3 (some .int) :: wsL_law) := fun w h => List.mem_cons_of_mem _ (inlX12 w h)
  obtain ⟨hsz, hP, hK, hD0⟩ := hB
  subst hsz
  have hD := hD0.self (sz := s.heap.size)
  generalize hZ : va_A (mW yy A F G) s.heap.size = Z at hD hQ
  have hA : ∀ q : Nat, s.heap.size ≤ q → Z q := fun q h => by rw [← hZ]; exact Or.inr h
  obtain ⟨H, hH⟩ : ∃ z, z = s.heap := ⟨_, rfl⟩
  obtain ⟨locs, hlocs⟩ : ∃ z : List Loc, z = [] := ⟨_, rfl⟩
  have hS : va_S Z s.heap H locs := by rw [hH, hlocs]; exact va_S.rf
  rw [← hH] at hP
  suffices hgo : W p l e rmX12_run s m args below meth c H locs 0 0 Q (F0 m 0 ls []) by rw [hH, hlocs] at hgo; exact hgo
  unfold gX12_run at hres
  unfold okX12_run at hok
  refine lv_aload_n hx hb (dd_of dX12_run_0 0 rfl) rfl (lv_at hl 0 rfl) ?_
  refine lv_iload_n hx hb (dd_of dX12_run_0 1 rfl) rfl (lv_at hl 1 rfl) ?_
  refine lv_iconst (v := 1) hx hb (dd_of dX12_run_0 2 rfl) (by decide) ?_
  refine lv_bipush (v := 50) hx hb (dd_of dX12_run_0 3 rfl) (by decide) ?_
  refine jc_si (As := [.int p1, .int 1, .int 50]) (rest := [.ref (A 99)]) ⟨hx, hb, hml, hown, hts⟩ (qX12_in l p1 1 50 ) (cwS 3 hts (jgS gw591 gw592 gw5 gw593) rfl rfl rfl (by decide +kernel) ⟨Nat.le_of_ble_eq_true rfl, Nat.le_of_ble_eq_true rfl⟩) rfl hl.1 rfl (Nat.le_of_ble_eq_true rfl) (dd_of dX12_run_0 4 rfl) ⟨Nat.zero_le _, Nat.zero_le _⟩ (fun x1 ex1 => ?_)
  replace hres := bvE ex1 hres
  replace hok := bvO ex1 hok
  obtain ⟨z19, q18⟩ : ∃ z : Int32, (if x1 = 0 then 1 else (if ((F 0 0) + p1) ≤ 9999 then 0 else 2)) = z := ⟨_, rfl⟩
  refine jn_i (ls := ls) (v := z19) 32 [.ref (A 99)] (fun v4 ev4 => ?_) (fun K20 => ?_)
  · replace hres := bvE (ev4.trans q18.symm) hres
    replace hok := bvO (ev4.trans q18.symm) hok
    refine va_put (D := D) (cl := vwCl) (tys := jT yy) (ci := 12) (v := .int v4) (ty := .int) (C := RX12) (T := TX12) (N := 61) hx hb hts hin12 tyX12 tyX12_ok nmX12 hown hK hP hD hS 0 rfl rfl 60 (by decide) (jw hts gw590) (fun _ h9 => h9) rfl (by decide +kernel) rfl rfl (Nat.le_of_ble_eq_true rfl) (dd_of dX12_run_0 17 rfl) (fun H locs hP hD hS => ?_)
    obtain ⟨F5, e6⟩ : ∃ z : jF, z = u2 F 60 0 v4 := ⟨_, rfl⟩
    have hP : va_P D vwCl (mW yy A F5 G) H := by rw [e6]; exact hP
    have hD : va_D Z (mW yy A F5 G) := by rw [e6]; exact hD
    replace hres := bvE e6 hres
    replace hok := bvO e6 hok
    refine lv_iconst (v := 0) hx hb (dd_of dX12_run_0 18 rfl) (by decide) ?_
    refine lv_istore_n (lv' := [(2, .int 0), (0, .ref (A 99)), (1, .int p1)]) hx hb (dd_of dX12_run_0 19 rfl) rfl hl (by decide) rfl (fun ls hl => ?_)
    have LP37 : ∀ (f1 : Int32), ∀ (K : Int32 → jF → jG → (Int32 × jS)) (okK : Int32 → jF → jG → Prop) (n : Nat), ∀ (v2 : Int32) (F : jF) (G : jG), ∀ (H : Heap) (locs : List Loc) (ls : Array Slot), va_P D vwCl (mW yy A F G) H → va_D Z (mW yy A F G) → va_S Z s.heap H locs → lv_has ls 3 [(2, .int v2), (0, .ref (A 99)), (1, .int f1)] → okX12_run_L37 f1 okK n v2 F G → gX12_run_L37 f1 K n v2 F G = RES → (∀ (v2 : Int32) (F : jF) (G : jG), ∀ (H : Heap) (locs : List Loc) (ls : Array Slot), va_P D vwCl (mW yy A F G) H → va_D Z (mW yy A F G) → va_S Z s.heap H locs → lv_has ls 3 [(2, .int v2), (0, .ref (A 99)), (1, .int f1)] → okK v2 F G → K v2 F G = RES → W p l e rmX12_run s m args below meth c H locs 0 0 Q (F0 m 59 ls [])) → W p l e rmX12_run s m args below meth c H locs 0 0 Q (F0 m 37 ls []) := by
      intro f1 K okK n
      induction n with
      | zero =>
        intro v2 F G H locs ls hP hD hS hl hok _ _
        exact absurd hok (by unfold okX12_run_L37; exact id)
      | succ n9 ih =>
        intro v2 F G H locs ls hP hD hS hl hok hres hexit
        unfold gX12_run_L37 at hres
        unfold okX12_run_L37 at hok
        refine lv_iload_n hx hb (dd_of dX12_run_0 20 rfl) rfl (lv_at hl 0 rfl) ?_
        refine lv_iload_n hx hb (dd_of dX12_run_0 21 rfl) rfl (lv_at hl 2 rfl) ?_
        refine lv_icmp_ge (tgt := 59) hx hb (dd_of dX12_run_0 22 rfl) (by decide) (fun c7 => ?_) (fun c7 => ?_)
        · replace hres := ifE c7 hres
          replace hok := hok.1 c7
          exact hexit v2 F G H locs ls hP hD hS (lv_sub hl [0, 1, 2] rfl) hok hres
        · replace hres := ifN c7 hres
          replace hok := hok.2 c7
          refine lv_aload_n hx hb (dd_of dX12_run_0 23 rfl) rfl (lv_at hl 1 rfl) ?_
          refine va_get (D := D) (cl := vwCl) (tys := jT yy) (ci := 12) (v := .int (F 60 0)) (C := RX12) (T := TX12) (N := 61) hx hb hts hin12 hown hK hP 0 rfl rfl 60 (by decide) (jw hts gw590) (fun _ h9 => h9) rfl (dd_of dX12_run_0 24 rfl) ?_
          refine lv_if_ne (tgt := 59) hx hb (dd_of dX12_run_0 25 rfl) (by decide) (fun c8 => ?_) (fun c8 => ?_)
          · replace hres := ifN c8 hres
            replace hok := hok.2 c8
            exact hexit v2 F G H locs ls hP hD hS (lv_sub hl [0, 1, 2] rfl) hok hres
          · replace hres := ifE c8 hres
            replace hok := hok.1 c8
            refine lv_aload_n hx hb (dd_of dX12_run_0 26 rfl) rfl (lv_at hl 1 rfl) ?_
            have h9 := hok.1
            replace hok := hok.2
            refine jm_v (As := []) (rest := []) (w := (mW yy A F G)) (w1 := fun u : jS => (mW yy A u.1 u.2)) (D := D) (yy := yy) ⟨hx, hb, hml, hown, hts⟩ (qX12_goesOn l D yy A F G H.size  h9) (cwV 0 hts (jgV gw893 gw894 gw895 gw5 gw896) rfl rfl rfl (by decide +kernel) ⟨Nat.le_of_ble_eq_true rfl, Nat.le_of_ble_eq_true rfl⟩) hP hK hD hS hA (va_recv hK hP (ci := 12) (q0 := 0) rfl rfl) rfl hl.1 rfl (Nat.le_of_ble_eq_true rfl) (dd_of dX12_run_0 27 rfl) ⟨Nat.zero_le _, Nat.zero_le _⟩ (fun u9 H locs w12 hP hD hS => ?_)
            obtain ⟨F10, G11⟩ := u9
            have hP : va_P D vwCl (mW yy A F10 G11) H := hP
            have hD : va_D Z (mW yy A F10 G11) := hD
            replace hres := bsE w12 hres
            replace hok := bsO w12 hok
            refine lv_iinc (v := (v2 + 1)) (lv' := [(2, .int (v2 + 1)), (0, .ref (A 99)), (1, .int f1)]) hx hb (dd_of dX12_run_0 28 rfl) hl (k := 0) rfl rfl (by decide) rfl (fun ls hl => ?_)
            refine lv_goto (tgt := 37) hx hb (dd_of dX12_run_0 29 rfl) (by decide) ?_
            exact ih (v2 + 1) F10 G11 H locs ls hP hD hS (lv_sub hl [0, 1, 2] rfl) hok hres hexit
    refine LP37 p1 _ _ 80 0 F5 G H locs ls hP hD hS (lv_sub hl [0, 1, 2] rfl) hok hres (fun y13 F14 G15 H locs ls hP hD hS hl hok hres => ?_)
    refine lv_aload_n hx hb (dd_of dX12_run_0 30 rfl) rfl (lv_at hl 1 rfl) ?_
    refine va_get (D := D) (cl := vwCl) (tys := jT yy) (ci := 12) (v := .int (F14 60 0)) (C := RX12) (T := TX12) (N := 61) hx hb hts hin12 hown hK hP 0 rfl rfl 60 (by decide) (jw hts gw590) (fun _ h9 => h9) rfl (dd_of dX12_run_0 31 rfl) ?_
    obtain ⟨z22, q21⟩ : ∃ z : Int32, (if (F14 60 0) = 0 then (F14 0 0) else 0) = z := ⟨_, rfl⟩
    refine jn_i (ls := ls) (v := z22) 74 [] (fun v17 ev17 => ?_) (fun K23 => ?_)
    · replace hres := bvE (ev17.trans q21.symm) hres
      subst hQ
      exact W.iret (v := v17) hx hb hr (fun t ht hW => ⟨⟨v17, (F14, G15), rfl, hres, by rw [ht]; exact hP, va_K.moved hW.alike hK, hD⟩, hS.F ht⟩) hS.2.2 (dd_of dX12_run_0 37 rfl) hlk
    · skip
      refine lv_if_ne (tgt := 73) hx hb (dd_of dX12_run_0 32 rfl) (by decide) (fun c16 => ?_) (fun c16 => ?_)
      · replace q21 := ifN c16 q21
        refine lv_iconst (v := 0) hx hb (dd_of dX12_run_0 36 rfl) (by decide) ?_
        exact K23 _ q21
      · replace q21 := ifE c16 q21
        refine lv_aload_n hx hb (dd_of dX12_run_0 33 rfl) rfl (lv_at hl 1 rfl) ?_
        refine va_get (D := D) (cl := vwCl) (tys := jT yy) (ci := 12) (v := .int (F14 0 0)) (C := RX12) (T := TX12) (N := 61) hx hb hts hin12 hown hK hP 0 rfl rfl 0 (by decide) (jw hts gw785) (fun _ h9 => h9) rfl (dd_of dX12_run_0 34 rfl) ?_
        refine lv_goto (tgt := 74) hx hb (dd_of dX12_run_0 35 rfl) (by decide) ?_
        exact K23 _ q21
  · skip
    refine lv_if_ne (tgt := 15) hx hb (dd_of dX12_run_0 5 rfl) (by decide) (fun c2 => ?_) (fun c2 => ?_)
    · replace q18 := ifN c2 q18
      refine lv_aload_n hx hb (dd_of dX12_run_0 8 rfl) rfl (lv_at hl 0 rfl) ?_
      refine va_get (D := D) (cl := vwCl) (tys := jT yy) (ci := 12) (v := .int (F 0 0)) (C := RX12) (T := TX12) (N := 61) hx hb hts hin12 hown hK hP 0 rfl rfl 0 (by decide) (jw hts gw785) (fun _ h9 => h9) rfl (dd_of dX12_run_0 9 rfl) ?_
      refine lv_iload_n hx hb (dd_of dX12_run_0 10 rfl) rfl (lv_at hl 1 rfl) ?_
      refine lv_iadd hx hb (dd_of dX12_run_0 11 rfl) ?_
      refine lv_sipush (v := 9999) hx hb (dd_of dX12_run_0 12 rfl) (by decide) ?_
      refine lv_icmp_le (tgt := 31) hx hb (dd_of dX12_run_0 13 rfl) (by decide) (fun c3 => ?_) (fun c3 => ?_)
      · replace q18 := ifE c3 q18
        refine lv_iconst (v := 0) hx hb (dd_of dX12_run_0 16 rfl) (by decide) ?_
        exact K20 _ q18
      · replace q18 := ifN c3 q18
        refine lv_iconst (v := 2) hx hb (dd_of dX12_run_0 14 rfl) (by decide) ?_
        refine lv_goto (tgt := 32) hx hb (dd_of dX12_run_0 15 rfl) (by decide) ?_
        exact K20 _ q18
    · replace q18 := ifE c2 q18
      refine lv_iconst (v := 1) hx hb (dd_of dX12_run_0 6 rfl) (by decide) ?_
      refine lv_goto (tgt := 32) hx hb (dd_of dX12_run_0 7 rfl) (by decide) ?_
      exact K20 _ q18
set_option maxHeartbeats 4000000 in
set_option maxRecDepth 100000 in
theorem qX12_endYear (l : Launch) (D : va_G) (yy : Nat → ClassId) (A : Nat → Nat) (F : jF) (G : jG) (sz : Nat)  (hok : okX12_endYear F G ) : Met l yX12_endYear (Cond.code yX12_endYear cX12_endYear 3 (some .int) :: wsL_law) rmX12_endYear (va_Pc [.ref (A 99)] (jP D yy (mW yy A F G) sz)) (va_Qi (fun r (u : jS) => (r, u) = gX12_endYear F G ) (fun (u : jS) t => jB D yy (va_A (mW yy A F G) sz) (mW yy A u.1 u.2) t) (va_A (mW yy A F G) sz)) 0 0 (va_A (mW yy A F G) sz) := by
  generalize hres : gX12_endYear F G  = RES
  refine jM (own := RX12) (by decide) rfl (Nat.le_of_ble_eq_true rfl) ?_
  intro p e s m args below meth c ls Q hQ hargs S hr hlk hinit hB hl
  obtain ⟨hx, hb, hml, hown, hts⟩ := S
  have hl : lv_has ls 3 [(0, .ref (A 99))] := hl
  have hin12 : ∀ w ∈ u_ws RX12 TX12 61, w ∈ (Cond.code yX12_endYear cX12_endYear 3 (some .int) :: wsL_law) := fun w h => List.mem_cons_of_mem _ (inlX12 w h)
  obtain ⟨hsz, hP, hK, hD0⟩ := hB
  subst hsz
  have hD := hD0.self (sz := s.heap.size)
  generalize hZ : va_A (mW yy A F G) s.heap.size = Z at hD hQ
  have hA : ∀ q : Nat, s.heap.size ≤ q → Z q := fun q h => by rw [← hZ]; exact Or.inr h
  obtain ⟨H, hH⟩ : ∃ z, z = s.heap := ⟨_, rfl⟩
  obtain ⟨locs, hlocs⟩ : ∃ z : List Loc, z = [] := ⟨_, rfl⟩
  have hS : va_S Z s.heap H locs := by rw [hH, hlocs]; exact va_S.rf
  rw [← hH] at hP
  suffices hgo : W p l e rmX12_endYear s m args below meth c H locs 0 0 Q (F0 m 0 ls []) by rw [hH, hlocs] at hgo; exact hgo
  unfold gX12_endYear at hres
  unfold okX12_endYear at hok
  refine lv_aload_n hx hb (dd_of dX12_endYear_0 0 rfl) rfl (lv_at hl 0 rfl) ?_
  refine lv_aload_n hx hb (dd_of dX12_endYear_0 1 rfl) rfl (lv_at hl 0 rfl) ?_
  refine va_get (D := D) (cl := vwCl) (tys := jT yy) (ci := 12) (v := .int (F 1 0)) (C := RX12) (T := TX12) (N := 61) hx hb hts hin12 hown hK hP 0 rfl rfl 1 (by decide) (jw hts gw968) (fun _ h9 => h9) rfl (dd_of dX12_endYear_0 2 rfl) ?_
  refine lv_bipush (v := 20) hx hb (dd_of dX12_endYear_0 3 rfl) (by decide) ?_
  obtain ⟨z61, q60⟩ : ∃ z : Int32, (if (F 1 0) = 20 then 1 else 0) = z := ⟨_, rfl⟩
  refine jn_i (ls := ls) (v := z61) 15 [.ref (A 99)] (fun v2 ev2 => ?_) (fun K62 => ?_)
  · replace hres := bvE (ev2.trans q60.symm) hres
    replace hok := bvO (ev2.trans q60.symm) hok
    refine va_put (D := D) (cl := vwCl) (tys := jT yy) (ci := 12) (v := .int v2) (ty := .int) (C := RX12) (T := TX12) (N := 61) hx hb hts hin12 tyX12 tyX12_ok nmX12 hown hK hP hD hS 0 rfl rfl 60 (by decide) (jw hts gw590) (fun _ h9 => h9) rfl (by decide +kernel) rfl rfl (Nat.le_of_ble_eq_true rfl) (dd_of dX12_endYear_0 8 rfl) (fun H locs hP hD hS => ?_)
    obtain ⟨F3, e4⟩ : ∃ z : jF, z = u2 F 60 0 v2 := ⟨_, rfl⟩
    have hP : va_P D vwCl (mW yy A F3 G) H := by rw [e4]; exact hP
    have hD : va_D Z (mW yy A F3 G) := by rw [e4]; exact hD
    replace hres := bvE e4 hres
    replace hok := bvO e4 hok
    refine lv_aload_n hx hb (dd_of dX12_endYear_0 9 rfl) rfl (lv_at hl 0 rfl) ?_
    refine va_get (D := D) (cl := vwCl) (tys := jT yy) (ci := 12) (v := .int (F3 60 0)) (C := RX12) (T := TX12) (N := 61) hx hb hts hin12 hown hK hP 0 rfl rfl 60 (by decide) (jw hts gw590) (fun _ h9 => h9) rfl (dd_of dX12_endYear_0 10 rfl) ?_
    refine lv_if_le (tgt := 27) hx hb (dd_of dX12_endYear_0 11 rfl) (by decide) (fun c5 => ?_) (fun c5 => ?_)
    · replace hres := ifE c5 hres
      replace hok := hok.1 c5
      refine lv_iconst (v := 0) hx hb (dd_of dX12_endYear_0 14 rfl) (by decide) ?_
      refine lv_istore_n (lv' := [(1, .int 0), (0, .ref (A 99))]) hx hb (dd_of dX12_endYear_0 15 rfl) rfl hl (by decide) rfl (fun ls hl => ?_)
      have LP29 : ∀ (K : Int32 → jF → jG → (Int32 × jS)) (okK : Int32 → jF → jG → Prop) (n : Nat), ∀ (v1 : Int32) (F : jF) (G : jG), ∀ (H : Heap) (locs : List Loc) (ls : Array Slot), va_P D vwCl (mW yy A F G) H → va_D Z (mW yy A F G) → va_S Z s.heap H locs → lv_has ls 3 [(1, .int v1), (0, .ref (A 99))] → okX12_endYear_L29  okK n v1 F G → gX12_endYear_L29  K n v1 F G = RES → (∀ (v1 : Int32) (F : jF) (G : jG), ∀ (H : Heap) (locs : List Loc) (ls : Array Slot), va_P D vwCl (mW yy A F G) H → va_D Z (mW yy A F G) → va_S Z s.heap H locs → lv_has ls 3 [(1, .int v1), (0, .ref (A 99))] → okK v1 F G → K v1 F G = RES → W p l e rmX12_endYear s m args below meth c H locs 0 0 Q (F0 m 58 ls [])) → W p l e rmX12_endYear s m args below meth c H locs 0 0 Q (F0 m 29 ls []) := by
        intro  K okK n
        induction n with
        | zero =>
          intro v1 F G H locs ls hP hD hS hl hok _ _
          exact absurd hok (by unfold okX12_endYear_L29; exact id)
        | succ n9 ih =>
          intro v1 F G H locs ls hP hD hS hl hok hres hexit
          unfold gX12_endYear_L29 at hres
          unfold okX12_endYear_L29 at hok
          refine lv_iload_n hx hb (dd_of dX12_endYear_0 16 rfl) rfl (lv_at hl 0 rfl) ?_
          refine lv_aload_n hx hb (dd_of dX12_endYear_0 17 rfl) rfl (lv_at hl 1 rfl) ?_
          refine va_get (D := D) (cl := vwCl) (tys := jT yy) (ci := 12) (v := .int (F 8 0)) (C := RX12) (T := TX12) (N := 61) hx hb hts hin12 hown hK hP 0 rfl rfl 8 (by decide) (jw hts gw589) (fun _ h9 => h9) rfl (dd_of dX12_endYear_0 18 rfl) ?_
          refine lv_icmp_ge (tgt := 58) hx hb (dd_of dX12_endYear_0 19 rfl) (by decide) (fun c6 => ?_) (fun c6 => ?_)
          · replace hres := ifE c6 hres
            replace hok := hok.1 c6
            exact hexit v1 F G H locs ls hP hD hS (lv_sub hl [0, 1] rfl) hok hres
          · replace hres := ifN c6 hres
            replace hok := hok.2 c6
            refine lv_aload_n hx hb (dd_of dX12_endYear_0 20 rfl) rfl (lv_at hl 1 rfl) ?_
            refine va_get (D := D) (cl := vwCl) (tys := jT yy) (ci := 12) (v := .ref (A 10)) (C := RX12) (T := TX12) (N := 61) hx hb hts hin12 hown hK hP 0 rfl rfl 10 (by decide) (jw hts gw126) (fun _ h9 => h9) rfl (dd_of dX12_endYear_0 21 rfl) ?_
            refine lv_iload_n hx hb (dd_of dX12_endYear_0 22 rfl) rfl (lv_at hl 0 rfl) ?_
            refine lv_dup2_11 hx hb (dd_of dX12_endYear_0 23 rfl) rfl rfl ?_
            have h7 := hok.1
            replace hok := hok.2
            refine va_iald hx hb hK hP 2 0 rfl rfl h7 (dd_of dX12_endYear_0 24 rfl) ?_
            refine lv_aload_n hx hb (dd_of dX12_endYear_0 25 rfl) rfl (lv_at hl 1 rfl) ?_
            refine va_get (D := D) (cl := vwCl) (tys := jT yy) (ci := 12) (v := .ref (A 11)) (C := RX12) (T := TX12) (N := 61) hx hb hts hin12 hown hK hP 0 rfl rfl 11 (by decide) (jw hts gw127) (fun _ h9 => h9) rfl (dd_of dX12_endYear_0 26 rfl) ?_
            refine lv_iload_n hx hb (dd_of dX12_endYear_0 27 rfl) rfl (lv_at hl 0 rfl) ?_
            have h8 := hok.1
            replace hok := hok.2
            refine va_iald hx hb hK hP 3 0 rfl rfl h8 (dd_of dX12_endYear_0 28 rfl) ?_
            refine lv_isub hx hb (dd_of dX12_endYear_0 29 rfl) ?_
            have h9 := hok.1
            replace hok := hok.2
            refine va_iast hx hb hK hP hD hS 2 0 rfl rfl h9 (dd_of dX12_endYear_0 30 rfl) (fun H locs hP hD hS => ?_)
            obtain ⟨F10, e11⟩ : ∃ z : jF, z = u2 F 10 (Int32.toNatClampNeg v1) ((F 10 (Int32.toNatClampNeg v1)) - (F 11 (Int32.toNatClampNeg v1))) := ⟨_, rfl⟩
            have hP : va_P D vwCl (mW yy A F10 G) H := by rw [e11]; exact hP
            have hD : va_D Z (mW yy A F10 G) := by rw [e11]; exact hD
            replace hres := bvE e11 hres
            replace hok := bvO e11 hok
            refine lv_iinc (v := (v1 + 1)) (lv' := [(1, .int (v1 + 1)), (0, .ref (A 99))]) hx hb (dd_of dX12_endYear_0 31 rfl) hl (k := 0) rfl rfl (by decide) rfl (fun ls hl => ?_)
            refine lv_goto (tgt := 29) hx hb (dd_of dX12_endYear_0 32 rfl) (by decide) ?_
            exact ih (v1 + 1) F10 G H locs ls hP hD hS (lv_sub hl [0, 1] rfl) hok hres hexit
      refine LP29  _ _ 80 0 F3 G H locs ls hP hD hS (lv_sub hl [0, 1] rfl) hok hres (fun y12 F13 G14 H locs ls hP hD hS hl hok hres => ?_)
      refine lv_aload_n hx hb (dd_of dX12_endYear_0 33 rfl) rfl (lv_at hl 1 rfl) ?_
      refine lv_dup hx hb (dd_of dX12_endYear_0 34 rfl) rfl ?_
      refine va_get (D := D) (cl := vwCl) (tys := jT yy) (ci := 12) (v := .long (G14 2 0)) (C := RX12) (T := TX12) (N := 61) hx hb hts hin12 hown hK hP 0 rfl rfl 2 (by decide) (jw hts gw814) (fun _ h9 => h9) rfl (dd_of dX12_endYear_0 35 rfl) ?_
      refine lv_aload_n hx hb (dd_of dX12_endYear_0 36 rfl) rfl (lv_at hl 1 rfl) ?_
      refine va_get (D := D) (cl := vwCl) (tys := jT yy) (ci := 12) (v := .int (F13 3 0)) (C := RX12) (T := TX12) (N := 61) hx hb hts hin12 hown hK hP 0 rfl rfl 3 (by decide) (jw hts gw859) (fun _ h9 => h9) rfl (dd_of dX12_endYear_0 37 rfl) ?_
      refine lv_i2l (v := (Int32.toInt64 (F13 3 0))) hx hb (dd_of dX12_endYear_0 38 rfl) rfl ?_
      refine lv_ladd hx hb (dd_of dX12_endYear_0 39 rfl) ?_
      refine va_put (D := D) (cl := vwCl) (tys := jT yy) (ci := 12) (v := .long ((G14 2 0) + (Int32.toInt64 (F13 3 0)))) (ty := .long) (C := RX12) (T := TX12) (N := 61) hx hb hts hin12 tyX12 tyX12_ok nmX12 hown hK hP hD hS 0 rfl rfl 2 (by decide) (jw hts gw814) (fun _ h9 => h9) rfl (by decide +kernel) rfl rfl (Nat.le_of_ble_eq_true rfl) (dd_of dX12_endYear_1 0 rfl) (fun H locs hP hD hS => ?_)
      obtain ⟨G15, e16⟩ : ∃ z : jG, z = u2 G14 2 0 ((G14 2 0) + (Int32.toInt64 (F13 3 0))) := ⟨_, rfl⟩
      have hP : va_P D vwCl (mW yy A F13 G15) H := by rw [e16]; exact hP
      have hD : va_D Z (mW yy A F13 G15) := by rw [e16]; exact hD
      replace hres := bvE e16 hres
      replace hok := bvO e16 hok
      refine lv_iconst (v := 0) hx hb (dd_of dX12_endYear_1 1 rfl) (by decide) ?_
      refine lv_istore_n (lv' := [(1, .int 0), (0, .ref (A 99))]) hx hb (dd_of dX12_endYear_1 2 rfl) rfl hl (by decide) rfl (fun ls hl => ?_)
      refine lv_iconst (v := 0) hx hb (dd_of dX12_endYear_1 3 rfl) (by decide) ?_
      refine lv_istore_n (lv' := [(2, .int 0), (1, .int 0), (0, .ref (A 99))]) hx hb (dd_of dX12_endYear_1 4 rfl) rfl hl (by decide) rfl (fun ls hl => ?_)
      have LP76 : ∀ (K : Int32 → Int32 → jF → jG → (Int32 × jS)) (okK : Int32 → Int32 → jF → jG → Prop) (n : Nat), ∀ (v2 : Int32) (v1 : Int32) (F : jF) (G : jG), ∀ (H : Heap) (locs : List Loc) (ls : Array Slot), va_P D vwCl (mW yy A F G) H → va_D Z (mW yy A F G) → va_S Z s.heap H locs → lv_has ls 3 [(2, .int v2), (1, .int v1), (0, .ref (A 99))] → okX12_endYear_L76  okK n v2 v1 F G → gX12_endYear_L76  K n v2 v1 F G = RES → (∀ (v2 : Int32) (v1 : Int32) (F : jF) (G : jG), ∀ (H : Heap) (locs : List Loc) (ls : Array Slot), va_P D vwCl (mW yy A F G) H → va_D Z (mW yy A F G) → va_S Z s.heap H locs → lv_has ls 3 [(2, .int v2), (1, .int v1), (0, .ref (A 99))] → okK v2 v1 F G → K v2 v1 F G = RES → W p l e rmX12_endYear s m args below meth c H locs 0 0 Q (F0 m 186 ls [])) → W p l e rmX12_endYear s m args below meth c H locs 0 0 Q (F0 m 76 ls []) := by
        intro  K okK n
        induction n with
        | zero =>
          intro v2 v1 F G H locs ls hP hD hS hl hok _ _
          exact absurd hok (by unfold okX12_endYear_L76; exact id)
        | succ n9 ih =>
          intro v2 v1 F G H locs ls hP hD hS hl hok hres hexit
          unfold gX12_endYear_L76 at hres
          unfold okX12_endYear_L76 at hok
          refine lv_iload_n hx hb (dd_of dX12_endYear_1 5 rfl) rfl (lv_at hl 0 rfl) ?_
          refine lv_aload_n hx hb (dd_of dX12_endYear_1 6 rfl) rfl (lv_at hl 2 rfl) ?_
          refine va_get (D := D) (cl := vwCl) (tys := jT yy) (ci := 12) (v := .int (F 52 0)) (C := RX12) (T := TX12) (N := 61) hx hb hts hin12 hown hK hP 0 rfl rfl 52 (by decide) (jw hts gw876) (fun _ h9 => h9) rfl (dd_of dX12_endYear_1 7 rfl) ?_
          refine lv_icmp_ge (tgt := 186) hx hb (dd_of dX12_endYear_1 8 rfl) (by decide) (fun c17 => ?_) (fun c17 => ?_)
          · replace hres := ifE c17 hres
            replace hok := hok.1 c17
            exact hexit v2 v1 F G H locs ls hP hD hS (lv_sub hl [0, 1, 2] rfl) hok hres
          · replace hres := ifN c17 hres
            replace hok := hok.2 c17
            refine lv_aload_n hx hb (dd_of dX12_endYear_1 9 rfl) rfl (lv_at hl 2 rfl) ?_
            refine va_get (D := D) (cl := vwCl) (tys := jT yy) (ci := 12) (v := .ref (A 55)) (C := RX12) (T := TX12) (N := 61) hx hb hts hin12 hown hK hP 0 rfl rfl 55 (by decide) (jw hts gw165) (fun _ h9 => h9) rfl (dd_of dX12_endYear_1 10 rfl) ?_
            refine lv_iload_n hx hb (dd_of dX12_endYear_1 11 rfl) rfl (lv_at hl 0 rfl) ?_
            refine lv_dup2_11 hx hb (dd_of dX12_endYear_1 12 rfl) rfl rfl ?_
            have h18 := hok.1
            replace hok := hok.2
            refine va_iald hx hb hK hP 41 0 rfl rfl h18 (dd_of dX12_endYear_1 13 rfl) ?_
            refine lv_iconst (v := 1) hx hb (dd_of dX12_endYear_1 14 rfl) (by decide) ?_
            refine lv_isub hx hb (dd_of dX12_endYear_1 15 rfl) ?_
            have h19 := hok.1
            replace hok := hok.2
            refine va_iast hx hb hK hP hD hS 41 0 rfl rfl h19 (dd_of dX12_endYear_1 16 rfl) (fun H locs hP hD hS => ?_)
            obtain ⟨F20, e21⟩ : ∃ z : jF, z = u2 F 55 (Int32.toNatClampNeg v2) ((F 55 (Int32.toNatClampNeg v2)) - 1) := ⟨_, rfl⟩
            have hP : va_P D vwCl (mW yy A F20 G) H := by rw [e21]; exact hP
            have hD : va_D Z (mW yy A F20 G) := by rw [e21]; exact hD
            replace hres := bvE e21 hres
            replace hok := bvO e21 hok
            refine lv_aload_n hx hb (dd_of dX12_endYear_1 17 rfl) rfl (lv_at hl 2 rfl) ?_
            refine va_get (D := D) (cl := vwCl) (tys := jT yy) (ci := 12) (v := .ref (A 35)) (C := RX12) (T := TX12) (N := 61) hx hb hts hin12 hown hK hP 0 rfl rfl 35 (by decide) (jw hts gw148) (fun _ h9 => h9) rfl (dd_of dX12_endYear_1 18 rfl) ?_
            refine lv_aload_n hx hb (dd_of dX12_endYear_1 19 rfl) rfl (lv_at hl 2 rfl) ?_
            refine va_get (D := D) (cl := vwCl) (tys := jT yy) (ci := 12) (v := .ref (A 53)) (C := RX12) (T := TX12) (N := 61) hx hb hts hin12 hown hK hP 0 rfl rfl 53 (by decide) (jw hts gw163) (fun _ h9 => h9) rfl (dd_of dX12_endYear_1 20 rfl) ?_
            refine lv_iload_n hx hb (dd_of dX12_endYear_1 21 rfl) rfl (lv_at hl 0 rfl) ?_
            have h22 := hok.1
            replace hok := hok.2
            refine va_iald hx hb hK hP 39 0 rfl rfl h22 (dd_of dX12_endYear_1 22 rfl) ?_
            refine lv_dup2_11 hx hb (dd_of dX12_endYear_1 23 rfl) rfl rfl ?_
            have h23 := hok.1
            replace hok := hok.2
            refine va_iald hx hb hK hP 24 0 rfl rfl h23 (dd_of dX12_endYear_1 24 rfl) ?_
            refine lv_aload_n hx hb (dd_of dX12_endYear_1 25 rfl) rfl (lv_at hl 2 rfl) ?_
            refine va_get (D := D) (cl := vwCl) (tys := jT yy) (ci := 12) (v := .ref (A 55)) (C := RX12) (T := TX12) (N := 61) hx hb hts hin12 hown hK hP 0 rfl rfl 55 (by decide) (jw hts gw165) (fun _ h9 => h9) rfl (dd_of dX12_endYear_1 26 rfl) ?_
            refine lv_iload_n hx hb (dd_of dX12_endYear_1 27 rfl) rfl (lv_at hl 0 rfl) ?_
            have h24 := hok.1
            replace hok := hok.2
            refine va_iald hx hb hK hP 41 0 rfl rfl h24 (dd_of dX12_endYear_1 28 rfl) ?_
            obtain ⟨z64, q63⟩ : ∃ z : Int32, (if (F20 55 (Int32.toNatClampNeg v2)) = 0 then (F20 54 (Int32.toNatClampNeg v2)) else 0) = z := ⟨_, rfl⟩
            have o66 := hok.1
            replace hok := hok.2
            refine jn_i (ls := ls) (v := z64) 125 [.int (F20 35 (Int32.toNatClampNeg (F20 53 (Int32.toNatClampNeg v2)))), .int (F20 53 (Int32.toNatClampNeg v2)), .ref (A 35)] (fun v27 ev27 => ?_) (fun K65 => ?_)
            · replace hres := bvE (ev27.trans q63.symm) hres
              replace hok := bvO (ev27.trans q63.symm) hok
              refine lv_iadd hx hb (dd_of dX12_endYear_1 36 rfl) ?_
              have h28 := hok.1
              replace hok := hok.2
              refine va_iast hx hb hK hP hD hS 24 0 rfl rfl h28 (dd_of dX12_endYear_1 37 rfl) (fun H locs hP hD hS => ?_)
              obtain ⟨F29, e30⟩ : ∃ z : jF, z = u2 F20 35 (Int32.toNatClampNeg (F20 53 (Int32.toNatClampNeg v2))) ((F20 35 (Int32.toNatClampNeg (F20 53 (Int32.toNatClampNeg v2)))) + v27) := ⟨_, rfl⟩
              have hP : va_P D vwCl (mW yy A F29 G) H := by rw [e30]; exact hP
              have hD : va_D Z (mW yy A F29 G) := by rw [e30]; exact hD
              replace hres := bvE e30 hres
              replace hok := bvO e30 hok
              refine lv_aload_n hx hb (dd_of dX12_endYear_1 38 rfl) rfl (lv_at hl 2 rfl) ?_
              refine va_get (D := D) (cl := vwCl) (tys := jT yy) (ci := 12) (v := .ref (A 53)) (C := RX12) (T := TX12) (N := 61) hx hb hts hin12 hown hK hP 0 rfl rfl 53 (by decide) (jw hts gw163) (fun _ h9 => h9) rfl (dd_of dX12_endYear_1 39 rfl) ?_
              refine lv_iload_n hx hb (dd_of dX12_endYear_2 0 rfl) rfl (lv_at hl 1 rfl) ?_
              refine lv_aload_n hx hb (dd_of dX12_endYear_2 1 rfl) rfl (lv_at hl 2 rfl) ?_
              refine va_get (D := D) (cl := vwCl) (tys := jT yy) (ci := 12) (v := .ref (A 53)) (C := RX12) (T := TX12) (N := 61) hx hb hts hin12 hown hK hP 0 rfl rfl 53 (by decide) (jw hts gw163) (fun _ h9 => h9) rfl (dd_of dX12_endYear_2 2 rfl) ?_
              refine lv_iload_n hx hb (dd_of dX12_endYear_2 3 rfl) rfl (lv_at hl 0 rfl) ?_
              have h31 := hok.1
              replace hok := hok.2
              refine va_iald hx hb hK hP 39 0 rfl rfl h31 (dd_of dX12_endYear_2 4 rfl) ?_
              have h32 := hok.1
              replace hok := hok.2
              refine va_iast hx hb hK hP hD hS 39 0 rfl rfl h32 (dd_of dX12_endYear_2 5 rfl) (fun H locs hP hD hS => ?_)
              obtain ⟨F33, e34⟩ : ∃ z : jF, z = u2 F29 53 (Int32.toNatClampNeg v1) (F29 53 (Int32.toNatClampNeg v2)) := ⟨_, rfl⟩
              have hP : va_P D vwCl (mW yy A F33 G) H := by rw [e34]; exact hP
              have hD : va_D Z (mW yy A F33 G) := by rw [e34]; exact hD
              replace hres := bvE e34 hres
              replace hok := bvO e34 hok
              refine lv_aload_n hx hb (dd_of dX12_endYear_2 6 rfl) rfl (lv_at hl 2 rfl) ?_
              refine va_get (D := D) (cl := vwCl) (tys := jT yy) (ci := 12) (v := .ref (A 54)) (C := RX12) (T := TX12) (N := 61) hx hb hts hin12 hown hK hP 0 rfl rfl 54 (by decide) (jw hts gw164) (fun _ h9 => h9) rfl (dd_of dX12_endYear_2 7 rfl) ?_
              refine lv_iload_n hx hb (dd_of dX12_endYear_2 8 rfl) rfl (lv_at hl 1 rfl) ?_
              refine lv_aload_n hx hb (dd_of dX12_endYear_2 9 rfl) rfl (lv_at hl 2 rfl) ?_
              refine va_get (D := D) (cl := vwCl) (tys := jT yy) (ci := 12) (v := .ref (A 54)) (C := RX12) (T := TX12) (N := 61) hx hb hts hin12 hown hK hP 0 rfl rfl 54 (by decide) (jw hts gw164) (fun _ h9 => h9) rfl (dd_of dX12_endYear_2 10 rfl) ?_
              refine lv_iload_n hx hb (dd_of dX12_endYear_2 11 rfl) rfl (lv_at hl 0 rfl) ?_
              have h35 := hok.1
              replace hok := hok.2
              refine va_iald hx hb hK hP 40 0 rfl rfl h35 (dd_of dX12_endYear_2 12 rfl) ?_
              have h36 := hok.1
              replace hok := hok.2
              refine va_iast hx hb hK hP hD hS 40 0 rfl rfl h36 (dd_of dX12_endYear_2 13 rfl) (fun H locs hP hD hS => ?_)
              obtain ⟨F37, e38⟩ : ∃ z : jF, z = u2 F33 54 (Int32.toNatClampNeg v1) (F33 54 (Int32.toNatClampNeg v2)) := ⟨_, rfl⟩
              have hP : va_P D vwCl (mW yy A F37 G) H := by rw [e38]; exact hP
              have hD : va_D Z (mW yy A F37 G) := by rw [e38]; exact hD
              replace hres := bvE e38 hres
              replace hok := bvO e38 hok
              refine lv_aload_n hx hb (dd_of dX12_endYear_2 14 rfl) rfl (lv_at hl 2 rfl) ?_
              refine va_get (D := D) (cl := vwCl) (tys := jT yy) (ci := 12) (v := .ref (A 55)) (C := RX12) (T := TX12) (N := 61) hx hb hts hin12 hown hK hP 0 rfl rfl 55 (by decide) (jw hts gw165) (fun _ h9 => h9) rfl (dd_of dX12_endYear_2 15 rfl) ?_
              refine lv_iload_n hx hb (dd_of dX12_endYear_2 16 rfl) rfl (lv_at hl 1 rfl) ?_
              refine lv_aload_n hx hb (dd_of dX12_endYear_2 17 rfl) rfl (lv_at hl 2 rfl) ?_
              refine va_get (D := D) (cl := vwCl) (tys := jT yy) (ci := 12) (v := .ref (A 55)) (C := RX12) (T := TX12) (N := 61) hx hb hts hin12 hown hK hP 0 rfl rfl 55 (by decide) (jw hts gw165) (fun _ h9 => h9) rfl (dd_of dX12_endYear_2 18 rfl) ?_
              refine lv_iload_n hx hb (dd_of dX12_endYear_2 19 rfl) rfl (lv_at hl 0 rfl) ?_
              have h39 := hok.1
              replace hok := hok.2
              refine va_iald hx hb hK hP 41 0 rfl rfl h39 (dd_of dX12_endYear_2 20 rfl) ?_
              have h40 := hok.1
              replace hok := hok.2
              refine va_iast hx hb hK hP hD hS 41 0 rfl rfl h40 (dd_of dX12_endYear_2 21 rfl) (fun H locs hP hD hS => ?_)
              obtain ⟨F41, e42⟩ : ∃ z : jF, z = u2 F37 55 (Int32.toNatClampNeg v1) (F37 55 (Int32.toNatClampNeg v2)) := ⟨_, rfl⟩
              have hP : va_P D vwCl (mW yy A F41 G) H := by rw [e42]; exact hP
              have hD : va_D Z (mW yy A F41 G) := by rw [e42]; exact hD
              replace hres := bvE e42 hres
              replace hok := bvO e42 hok
              refine lv_iload_n hx hb (dd_of dX12_endYear_2 22 rfl) rfl (lv_at hl 1 rfl) ?_
              refine lv_aload_n hx hb (dd_of dX12_endYear_2 23 rfl) rfl (lv_at hl 2 rfl) ?_
              refine va_get (D := D) (cl := vwCl) (tys := jT yy) (ci := 12) (v := .ref (A 55)) (C := RX12) (T := TX12) (N := 61) hx hb hts hin12 hown hK hP 0 rfl rfl 55 (by decide) (jw hts gw165) (fun _ h9 => h9) rfl (dd_of dX12_endYear_2 24 rfl) ?_
              refine lv_iload_n hx hb (dd_of dX12_endYear_2 25 rfl) rfl (lv_at hl 0 rfl) ?_
              have h43 := hok.1
              replace hok := hok.2
              refine va_iald hx hb hK hP 41 0 rfl rfl h43 (dd_of dX12_endYear_2 26 rfl) ?_
              obtain ⟨z68, q67⟩ : ∃ z : Int32, (if (F41 55 (Int32.toNatClampNeg v2)) ≤ 0 then 0 else 1) = z := ⟨_, rfl⟩
              refine jn_i (ls := ls) (v := z68) 178 [.int v1] (fun v45 ev45 => ?_) (fun K69 => ?_)
              · replace hres := bvE (ev45.trans q67.symm) hres
                replace hok := bvO (ev45.trans q67.symm) hok
                refine lv_iadd hx hb (dd_of dX12_endYear_2 31 rfl) ?_
                refine lv_topi (fun x46 ex46 => ?_)
                replace hres := bvE ex46 hres
                replace hok := bvO ex46 hok
                refine lv_istore_n (lv' := [(1, .int x46), (2, .int v2), (0, .ref (A 99))]) hx hb (dd_of dX12_endYear_2 32 rfl) rfl hl (by decide) rfl (fun ls hl => ?_)
                refine lv_iinc (v := (v2 + 1)) (lv' := [(2, .int (v2 + 1)), (1, .int x46), (0, .ref (A 99))]) hx hb (dd_of dX12_endYear_2 33 rfl) hl (k := 1) rfl rfl (by decide) rfl (fun ls hl => ?_)
                refine lv_goto (tgt := 76) hx hb (dd_of dX12_endYear_2 34 rfl) (by decide) ?_
                exact ih (v2 + 1) x46 F41 G H locs ls hP hD hS (lv_sub hl [0, 1, 2] rfl) hok hres hexit
              · skip
                refine lv_if_le (tgt := 177) hx hb (dd_of dX12_endYear_2 27 rfl) (by decide) (fun c44 => ?_) (fun c44 => ?_)
                · replace q67 := ifE c44 q67
                  refine lv_iconst (v := 0) hx hb (dd_of dX12_endYear_2 30 rfl) (by decide) ?_
                  exact K69 _ q67
                · replace q67 := ifN c44 q67
                  refine lv_iconst (v := 1) hx hb (dd_of dX12_endYear_2 28 rfl) (by decide) ?_
                  refine lv_goto (tgt := 178) hx hb (dd_of dX12_endYear_2 29 rfl) (by decide) ?_
                  exact K69 _ q67
            · skip
              refine lv_if_ne (tgt := 124) hx hb (dd_of dX12_endYear_1 29 rfl) (by decide) (fun c25 => ?_) (fun c25 => ?_)
              · replace q63 := ifN c25 q63
                refine lv_iconst (v := 0) hx hb (dd_of dX12_endYear_1 35 rfl) (by decide) ?_
                exact K65 _ q63
              · replace q63 := ifE c25 q63
                replace o66 := o66.1 c25
                refine lv_aload_n hx hb (dd_of dX12_endYear_1 30 rfl) rfl (lv_at hl 2 rfl) ?_
                refine va_get (D := D) (cl := vwCl) (tys := jT yy) (ci := 12) (v := .ref (A 54)) (C := RX12) (T := TX12) (N := 61) hx hb hts hin12 hown hK hP 0 rfl rfl 54 (by decide) (jw hts gw164) (fun _ h9 => h9) rfl (dd_of dX12_endYear_1 31 rfl) ?_
                refine lv_iload_n hx hb (dd_of dX12_endYear_1 32 rfl) rfl (lv_at hl 0 rfl) ?_
                have h26 := o66
                refine va_iald hx hb hK hP 40 0 rfl rfl h26 (dd_of dX12_endYear_1 33 rfl) ?_
                refine lv_goto (tgt := 125) hx hb (dd_of dX12_endYear_1 34 rfl) (by decide) ?_
                exact K65 _ q63
      refine LP76  _ _ 80 0 0 F13 G15 H locs ls hP hD hS (lv_sub hl [0, 1, 2] rfl) hok hres (fun y47 y48 F49 G50 H locs ls hP hD hS hl hok hres => ?_)
      refine lv_aload_n hx hb (dd_of dX12_endYear_2 35 rfl) rfl (lv_at hl 2 rfl) ?_
      refine lv_iload_n hx hb (dd_of dX12_endYear_2 36 rfl) rfl (lv_at hl 1 rfl) ?_
      refine va_put (D := D) (cl := vwCl) (tys := jT yy) (ci := 12) (v := .int y48) (ty := .int) (C := RX12) (T := TX12) (N := 61) hx hb hts hin12 tyX12 tyX12_ok nmX12 hown hK hP hD hS 0 rfl rfl 52 (by decide) (jw hts gw876) (fun _ h9 => h9) rfl (by decide +kernel) rfl rfl (Nat.le_of_ble_eq_true rfl) (dd_of dX12_endYear_2 37 rfl) (fun H locs hP hD hS => ?_)
      obtain ⟨F51, e52⟩ : ∃ z : jF, z = u2 F49 52 0 y48 := ⟨_, rfl⟩
      have hP : va_P D vwCl (mW yy A F51 G50) H := by rw [e52]; exact hP
      have hD : va_D Z (mW yy A F51 G50) := by rw [e52]; exact hD
      replace hres := bvE e52 hres
      replace hok := bvO e52 hok
      refine lv_aload_n hx hb (dd_of dX12_endYear_2 38 rfl) rfl (lv_at hl 2 rfl) ?_
      refine va_get (D := D) (cl := vwCl) (tys := jT yy) (ci := 12) (v := .ref (A 57)) (C := RX12) (T := TX12) (N := 61) hx hb hts hin12 hown hK hP 0 rfl rfl 57 (by decide) (jw hts gw167) (fun _ h9 => h9) rfl (dd_of dX12_endYear_2 39 rfl) ?_
      refine lv_aload_n hx hb (dd_of dX12_endYear_3 0 rfl) rfl (lv_at hl 2 rfl) ?_
      refine va_get (D := D) (cl := vwCl) (tys := jT yy) (ci := 12) (v := .int (F51 1 0)) (C := RX12) (T := TX12) (N := 61) hx hb hts hin12 hown hK hP 0 rfl rfl 1 (by decide) (jw hts gw968) (fun _ h9 => h9) rfl (dd_of dX12_endYear_3 1 rfl) ?_
      refine lv_aload_n hx hb (dd_of dX12_endYear_3 2 rfl) rfl (lv_at hl 2 rfl) ?_
      refine va_get (D := D) (cl := vwCl) (tys := jT yy) (ci := 12) (v := .long (G50 58 0)) (C := RX12) (T := TX12) (N := 61) hx hb hts hin12 hown hK hP 0 rfl rfl 58 (by decide) (jw hts gw169) (fun _ h9 => h9) rfl (dd_of dX12_endYear_3 3 rfl) ?_
      have h53 := hok
      refine va_last hx hb hK hP hD hS 43 1 rfl rfl h53 (dd_of dX12_endYear_3 4 rfl) (fun H locs hP hD hS => ?_)
      obtain ⟨G54, e55⟩ : ∃ z : jG, z = u2 G50 57 (Int32.toNatClampNeg (F51 1 0)) (G50 58 0) := ⟨_, rfl⟩
      have hP : va_P D vwCl (mW yy A F51 G54) H := by rw [e55]; exact hP
      have hD : va_D Z (mW yy A F51 G54) := by rw [e55]; exact hD
      replace hres := bvE e55 hres
      refine lv_aload_n hx hb (dd_of dX12_endYear_3 5 rfl) rfl (lv_at hl 2 rfl) ?_
      refine lv_ldc2 (v := (-9223372036854775808)) hx hb hown (jw hts gw168) (dd_of dX12_endYear_3 6 rfl) ?_
      refine va_put (D := D) (cl := vwCl) (tys := jT yy) (ci := 12) (v := .long (-9223372036854775808)) (ty := .long) (C := RX12) (T := TX12) (N := 61) hx hb hts hin12 tyX12 tyX12_ok nmX12 hown hK hP hD hS 0 rfl rfl 58 (by decide) (jw hts gw169) (fun _ h9 => h9) rfl (by decide +kernel) rfl rfl (Nat.le_of_ble_eq_true rfl) (dd_of dX12_endYear_3 7 rfl) (fun H locs hP hD hS => ?_)
      obtain ⟨G56, e57⟩ : ∃ z : jG, z = u2 G54 58 0 (-9223372036854775808) := ⟨_, rfl⟩
      have hP : va_P D vwCl (mW yy A F51 G56) H := by rw [e57]; exact hP
      have hD : va_D Z (mW yy A F51 G56) := by rw [e57]; exact hD
      replace hres := bvE e57 hres
      refine lv_aload_n hx hb (dd_of dX12_endYear_3 8 rfl) rfl (lv_at hl 2 rfl) ?_
      refine lv_dup hx hb (dd_of dX12_endYear_3 9 rfl) rfl ?_
      refine va_get (D := D) (cl := vwCl) (tys := jT yy) (ci := 12) (v := .int (F51 1 0)) (C := RX12) (T := TX12) (N := 61) hx hb hts hin12 hown hK hP 0 rfl rfl 1 (by decide) (jw hts gw968) (fun _ h9 => h9) rfl (dd_of dX12_endYear_3 10 rfl) ?_
      refine lv_iconst (v := 1) hx hb (dd_of dX12_endYear_3 11 rfl) (by decide) ?_
      refine lv_iadd hx hb (dd_of dX12_endYear_3 12 rfl) ?_
      refine va_put (D := D) (cl := vwCl) (tys := jT yy) (ci := 12) (v := .int ((F51 1 0) + 1)) (ty := .int) (C := RX12) (T := TX12) (N := 61) hx hb hts hin12 tyX12 tyX12_ok nmX12 hown hK hP hD hS 0 rfl rfl 1 (by decide) (jw hts gw968) (fun _ h9 => h9) rfl (by decide +kernel) rfl rfl (Nat.le_of_ble_eq_true rfl) (dd_of dX12_endYear_3 13 rfl) (fun H locs hP hD hS => ?_)
      obtain ⟨F58, e59⟩ : ∃ z : jF, z = u2 F51 1 0 ((F51 1 0) + 1) := ⟨_, rfl⟩
      have hP : va_P D vwCl (mW yy A F58 G56) H := by rw [e59]; exact hP
      have hD : va_D Z (mW yy A F58 G56) := by rw [e59]; exact hD
      replace hres := bvE e59 hres
      refine lv_aload_n hx hb (dd_of dX12_endYear_3 14 rfl) rfl (lv_at hl 2 rfl) ?_
      refine va_get (D := D) (cl := vwCl) (tys := jT yy) (ci := 12) (v := .int (F58 1 0)) (C := RX12) (T := TX12) (N := 61) hx hb hts hin12 hown hK hP 0 rfl rfl 1 (by decide) (jw hts gw968) (fun _ h9 => h9) rfl (dd_of dX12_endYear_3 15 rfl) ?_
      subst hQ
      exact W.iret (v := (F58 1 0)) hx hb hr (fun t ht hW => ⟨⟨(F58 1 0), (F58, G56), rfl, hres, by rw [ht]; exact hP, va_K.moved hW.alike hK, hD⟩, hS.F ht⟩) hS.2.2 (dd_of dX12_endYear_3 16 rfl) hlk
    · replace hres := ifN c5 hres
      refine lv_iconst (v := 0) hx hb (dd_of dX12_endYear_0 12 rfl) (by decide) ?_
      subst hQ
      exact W.iret (v := 0) hx hb hr (fun t ht hW => ⟨⟨0, (F3, G), rfl, hres, by rw [ht]; exact hP, va_K.moved hW.alike hK, hD⟩, hS.F ht⟩) hS.2.2 (dd_of dX12_endYear_0 13 rfl) hlk
  · skip
    refine lv_icmp_ne (tgt := 14) hx hb (dd_of dX12_endYear_0 4 rfl) (by decide) (fun c1 => ?_) (fun c1 => ?_)
    · replace q60 := ifN c1 q60
      refine lv_iconst (v := 0) hx hb (dd_of dX12_endYear_0 7 rfl) (by decide) ?_
      exact K62 _ q60
    · replace q60 := ifE c1 q60
      refine lv_iconst (v := 1) hx hb (dd_of dX12_endYear_0 5 rfl) (by decide) ?_
      refine lv_goto (tgt := 15) hx hb (dd_of dX12_endYear_0 6 rfl) (by decide) ?_
      exact K62 _ q60
set_option maxHeartbeats 4000000 in
set_option maxRecDepth 100000 in
theorem qX12_hour (l : Launch) (D : va_G) (yy : Nat → ClassId) (A : Nat → Nat) (F : jF) (G : jG) (sz : Nat)  : Met l yX12_hour (Cond.code yX12_hour cX12_hour 1 (some .int) :: wsL_law) rmX12_hour (va_Pc [.ref (A 99)] (jP D yy (mW yy A F G) sz)) (va_Qi (fun r (u : jS) => (r, u) = gX12_hour F G ) (fun (u : jS) t => jB D yy (va_A (mW yy A F G) sz) (mW yy A u.1 u.2) t) (va_A (mW yy A F G) sz)) 0 0 (va_A (mW yy A F G) sz) := by
  generalize hres : gX12_hour F G  = RES
  refine jM (own := RX12) (by decide) rfl (Nat.le_of_ble_eq_true rfl) ?_
  intro p e s m args below meth c ls Q hQ hargs S hr hlk hinit hB hl
  obtain ⟨hx, hb, hml, hown, hts⟩ := S
  have hl : lv_has ls 1 [(0, .ref (A 99))] := hl
  have hin12 : ∀ w ∈ u_ws RX12 TX12 61, w ∈ (Cond.code yX12_hour cX12_hour 1 (some .int) :: wsL_law) := fun w h => List.mem_cons_of_mem _ (inlX12 w h)
  obtain ⟨hsz, hP, hK, hD0⟩ := hB
  subst hsz
  have hD := hD0.self (sz := s.heap.size)
  generalize hZ : va_A (mW yy A F G) s.heap.size = Z at hD hQ
  have hA : ∀ q : Nat, s.heap.size ≤ q → Z q := fun q h => by rw [← hZ]; exact Or.inr h
  obtain ⟨H, hH⟩ : ∃ z, z = s.heap := ⟨_, rfl⟩
  obtain ⟨locs, hlocs⟩ : ∃ z : List Loc, z = [] := ⟨_, rfl⟩
  have hS : va_S Z s.heap H locs := by rw [hH, hlocs]; exact va_S.rf
  rw [← hH] at hP
  suffices hgo : W p l e rmX12_hour s m args below meth c H locs 0 0 Q (F0 m 0 ls []) by rw [hH, hlocs] at hgo; exact hgo
  unfold gX12_hour at hres
  refine lv_aload_n hx hb (dd_of dX12_hour_0 0 rfl) rfl (lv_at hl 0 rfl) ?_
  refine lv_iconst (v := 0) hx hb (dd_of dX12_hour_0 1 rfl) (by decide) ?_
  refine va_put (D := D) (cl := vwCl) (tys := jT yy) (ci := 12) (v := .int 0) (ty := .int) (C := RX12) (T := TX12) (N := 61) hx hb hts hin12 tyX12 tyX12_ok nmX12 hown hK hP hD hS 0 rfl rfl 60 (by decide) (jw hts gw590) (fun _ h9 => h9) rfl (by decide +kernel) rfl rfl (Nat.le_of_ble_eq_true rfl) (dd_of dX12_hour_0 2 rfl) (fun H locs hP hD hS => ?_)
  obtain ⟨F1, e2⟩ : ∃ z : jF, z = u2 F 60 0 0 := ⟨_, rfl⟩
  have hP : va_P D vwCl (mW yy A F1 G) H := by rw [e2]; exact hP
  have hD : va_D Z (mW yy A F1 G) := by rw [e2]; exact hD
  replace hres := bvE e2 hres
  refine lv_aload_n hx hb (dd_of dX12_hour_0 3 rfl) rfl (lv_at hl 0 rfl) ?_
  refine va_get (D := D) (cl := vwCl) (tys := jT yy) (ci := 12) (v := .int (F1 0 0)) (C := RX12) (T := TX12) (N := 61) hx hb hts hin12 hown hK hP 0 rfl rfl 0 (by decide) (jw hts gw785) (fun _ h9 => h9) rfl (dd_of dX12_hour_0 4 rfl) ?_
  subst hQ
  exact W.iret (v := (F1 0 0)) hx hb hr (fun t ht hW => ⟨⟨(F1 0 0), (F1, G), rfl, hres, by rw [ht]; exact hP, va_K.moved hW.alike hK, hD⟩, hS.F ht⟩) hS.2.2 (dd_of dX12_hour_0 5 rfl) hlk
set_option maxHeartbeats 4000000 in
set_option maxRecDepth 100000 in
theorem qX12_money (l : Launch) (D : va_G) (yy : Nat → ClassId) (A : Nat → Nat) (F : jF) (G : jG) (sz : Nat)  : Met l yX12_money (Cond.code yX12_money cX12_money 1 (some .int) :: wsL_law) rmX12_money (va_Pc [.ref (A 99)] (jP D yy (mW yy A F G) sz)) (va_Qi (fun r (u : jS) => (r, u) = gX12_money F G ) (fun (u : jS) t => jB D yy (va_A (mW yy A F G) sz) (mW yy A u.1 u.2) t) (va_A (mW yy A F G) sz)) 0 0 (va_A (mW yy A F G) sz) := by
  generalize hres : gX12_money F G  = RES
  refine jM (own := RX12) (by decide) rfl (Nat.le_of_ble_eq_true rfl) ?_
  intro p e s m args below meth c ls Q hQ hargs S hr hlk hinit hB hl
  obtain ⟨hx, hb, hml, hown, hts⟩ := S
  have hl : lv_has ls 1 [(0, .ref (A 99))] := hl
  have hin12 : ∀ w ∈ u_ws RX12 TX12 61, w ∈ (Cond.code yX12_money cX12_money 1 (some .int) :: wsL_law) := fun w h => List.mem_cons_of_mem _ (inlX12 w h)
  obtain ⟨hsz, hP, hK, hD0⟩ := hB
  subst hsz
  have hD := hD0.self (sz := s.heap.size)
  generalize hZ : va_A (mW yy A F G) s.heap.size = Z at hD hQ
  have hA : ∀ q : Nat, s.heap.size ≤ q → Z q := fun q h => by rw [← hZ]; exact Or.inr h
  obtain ⟨H, hH⟩ : ∃ z, z = s.heap := ⟨_, rfl⟩
  obtain ⟨locs, hlocs⟩ : ∃ z : List Loc, z = [] := ⟨_, rfl⟩
  have hS : va_S Z s.heap H locs := by rw [hH, hlocs]; exact va_S.rf
  rw [← hH] at hP
  suffices hgo : W p l e rmX12_money s m args below meth c H locs 0 0 Q (F0 m 0 ls []) by rw [hH, hlocs] at hgo; exact hgo
  unfold gX12_money at hres
  refine lv_aload_n hx hb (dd_of dX12_money_0 0 rfl) rfl (lv_at hl 0 rfl) ?_
  refine lv_iconst (v := 0) hx hb (dd_of dX12_money_0 1 rfl) (by decide) ?_
  refine va_put (D := D) (cl := vwCl) (tys := jT yy) (ci := 12) (v := .int 0) (ty := .int) (C := RX12) (T := TX12) (N := 61) hx hb hts hin12 tyX12 tyX12_ok nmX12 hown hK hP hD hS 0 rfl rfl 60 (by decide) (jw hts gw590) (fun _ h9 => h9) rfl (by decide +kernel) rfl rfl (Nat.le_of_ble_eq_true rfl) (dd_of dX12_money_0 2 rfl) (fun H locs hP hD hS => ?_)
  obtain ⟨F1, e2⟩ : ∃ z : jF, z = u2 F 60 0 0 := ⟨_, rfl⟩
  have hP : va_P D vwCl (mW yy A F1 G) H := by rw [e2]; exact hP
  have hD : va_D Z (mW yy A F1 G) := by rw [e2]; exact hD
  replace hres := bvE e2 hres
  refine lv_aload_n hx hb (dd_of dX12_money_0 3 rfl) rfl (lv_at hl 0 rfl) ?_
  refine va_get (D := D) (cl := vwCl) (tys := jT yy) (ci := 12) (v := .long (G 2 0)) (C := RX12) (T := TX12) (N := 61) hx hb hts hin12 hown hK hP 0 rfl rfl 2 (by decide) (jw hts gw814) (fun _ h9 => h9) rfl (dd_of dX12_money_0 4 rfl) ?_
  refine lv_l2i (v := (Int64.toInt32 (G 2 0))) hx hb (dd_of dX12_money_0 5 rfl) rfl ?_
  subst hQ
  exact W.iret (v := (Int64.toInt32 (G 2 0))) hx hb hr (fun t ht hW => ⟨⟨(Int64.toInt32 (G 2 0)), (F1, G), rfl, hres, by rw [ht]; exact hP, va_K.moved hW.alike hK, hD⟩, hS.F ht⟩) hS.2.2 (dd_of dX12_money_0 6 rfl) hlk
set_option maxHeartbeats 4000000 in
set_option maxRecDepth 100000 in
theorem qX12_level (l : Launch) (D : va_G) (yy : Nat → ClassId) (A : Nat → Nat) (F : jF) (G : jG) (sz : Nat) (p1 : Int32) (hok : okX12_level F G p1) : Met l yX12_level (Cond.code yX12_level cX12_level 2 (some .long) :: wsL_law) rmX12_level (va_Pc [.ref (A 99), .int p1] (jP D yy (mW yy A F G) sz)) (va_Ql (fun r (u : jS) => (r, u) = gX12_level F G p1) (fun (u : jS) t => jB D yy (va_A (mW yy A F G) sz) (mW yy A u.1 u.2) t) (va_A (mW yy A F G) sz)) 0 0 (va_A (mW yy A F G) sz) := by
  generalize hres : gX12_level F G p1 = RES
  refine jM (own := RX12) (by decide) rfl (Nat.le_of_ble_eq_true rfl) ?_
  intro p e s m args below meth c ls Q hQ hargs S hr hlk hinit hB hl
  obtain ⟨hx, hb, hml, hown, hts⟩ := S
  have hl : lv_has ls 2 [(0, .ref (A 99)), (1, .int p1)] := hl
  have hin12 : ∀ w ∈ u_ws RX12 TX12 61, w ∈ (Cond.code yX12_level cX12_level 2 (some .long) :: wsL_law) := fun w h => List.mem_cons_of_mem _ (inlX12 w h)
  obtain ⟨hsz, hP, hK, hD0⟩ := hB
  subst hsz
  have hD := hD0.self (sz := s.heap.size)
  generalize hZ : va_A (mW yy A F G) s.heap.size = Z at hD hQ
  have hA : ∀ q : Nat, s.heap.size ≤ q → Z q := fun q h => by rw [← hZ]; exact Or.inr h
  obtain ⟨H, hH⟩ : ∃ z, z = s.heap := ⟨_, rfl⟩
  obtain ⟨locs, hlocs⟩ : ∃ z : List Loc, z = [] := ⟨_, rfl⟩
  have hS : va_S Z s.heap H locs := by rw [hH, hlocs]; exact va_S.rf
  rw [← hH] at hP
  suffices hgo : W p l e rmX12_level s m args below meth c H locs 0 0 Q (F0 m 0 ls []) by rw [hH, hlocs] at hgo; exact hgo
  unfold gX12_level at hres
  unfold okX12_level at hok
  refine lv_aload_n hx hb (dd_of dX12_level_0 0 rfl) rfl (lv_at hl 0 rfl) ?_
  refine lv_aload_n hx hb (dd_of dX12_level_0 1 rfl) rfl (lv_at hl 0 rfl) ?_
  refine lv_iload_n hx hb (dd_of dX12_level_0 2 rfl) rfl (lv_at hl 1 rfl) ?_
  have h1 := hok.1
  replace hok := hok.2
  refine jc_i (As := [.int p1]) (rest := [.ref (A 99)]) (w := (mW yy A F G)) (D := D) (yy := yy) ⟨hx, hb, hml, hown, hts⟩ (qX12_isEnd l D yy A F G p1 h1) (cwV 1 hts (jgV gw678 gw679 gw680 gw5 gw681) rfl rfl rfl (by decide +kernel) ⟨Nat.le_of_ble_eq_true rfl, Nat.le_of_ble_eq_true rfl⟩) hP hK (va_recv hK hP (ci := 12) (q0 := 0) rfl rfl) rfl hl.1 rfl (Nat.le_of_ble_eq_true rfl) (dd_of dX12_level_0 3 rfl) ⟨Nat.zero_le _, Nat.zero_le _⟩ (fun x2 ex2 => ?_)
  replace hres := bvE ex2 hres
  replace hok := bvO ex2 hok
  obtain ⟨z12, q11⟩ : ∃ z : Int32, (if x2 = 0 then 1 else 0) = z := ⟨_, rfl⟩
  refine jn_i (ls := ls) (v := z12) 14 [.ref (A 99)] (fun v4 ev4 => ?_) (fun K13 => ?_)
  · replace hres := bvE (ev4.trans q11.symm) hres
    replace hok := bvO (ev4.trans q11.symm) hok
    refine va_put (D := D) (cl := vwCl) (tys := jT yy) (ci := 12) (v := .int v4) (ty := .int) (C := RX12) (T := TX12) (N := 61) hx hb hts hin12 tyX12 tyX12_ok nmX12 hown hK hP hD hS 0 rfl rfl 60 (by decide) (jw hts gw590) (fun _ h9 => h9) rfl (by decide +kernel) rfl rfl (Nat.le_of_ble_eq_true rfl) (dd_of dX12_level_0 8 rfl) (fun H locs hP hD hS => ?_)
    obtain ⟨F5, e6⟩ : ∃ z : jF, z = u2 F 60 0 v4 := ⟨_, rfl⟩
    have hP : va_P D vwCl (mW yy A F5 G) H := by rw [e6]; exact hP
    have hD : va_D Z (mW yy A F5 G) := by rw [e6]; exact hD
    replace hres := bvE e6 hres
    replace hok := bvO e6 hok
    refine lv_aload_n hx hb (dd_of dX12_level_0 9 rfl) rfl (lv_at hl 0 rfl) ?_
    refine va_get (D := D) (cl := vwCl) (tys := jT yy) (ci := 12) (v := .int (F5 60 0)) (C := RX12) (T := TX12) (N := 61) hx hb hts hin12 hown hK hP 0 rfl rfl 60 (by decide) (jw hts gw590) (fun _ h9 => h9) rfl (dd_of dX12_level_0 10 rfl) ?_
    obtain ⟨z15, q14⟩ : ∃ z : Int64, (if (F5 60 0) = 0 then bv (gX12_levelOf F5 G p1) (fun x9 : Int64 => x9) else 0) = z := ⟨_, rfl⟩
    have o17 := hok
    refine jn_l (ls := ls) (v := z15) 33 [] (fun v10 ev10 => ?_) (fun K16 => ?_)
    · replace hres := bvE (ev10.trans q14.symm) hres
      subst hQ
      exact W.lret (v := v10) hx hb hr (fun t ht hW => ⟨⟨v10, (F5, G), rfl, hres, by rw [ht]; exact hP, va_K.moved hW.alike hK, hD⟩, hS.F ht⟩) hS.2.2 (dd_of dX12_level_0 17 rfl) hlk
    · skip
      refine lv_if_ne (tgt := 32) hx hb (dd_of dX12_level_0 11 rfl) (by decide) (fun c7 => ?_) (fun c7 => ?_)
      · replace q14 := ifN c7 q14
        refine lv_lconst (v := 0) hx hb (dd_of dX12_level_0 16 rfl) (by decide) ?_
        exact K16 _ q14
      · replace q14 := ifE c7 q14
        replace o17 := o17.1 c7
        refine lv_aload_n hx hb (dd_of dX12_level_0 12 rfl) rfl (lv_at hl 0 rfl) ?_
        refine lv_iload_n hx hb (dd_of dX12_level_0 13 rfl) rfl (lv_at hl 1 rfl) ?_
        have h8 := o17
        refine jc_l (As := [.int p1]) (rest := []) (w := (mW yy A F5 G)) (D := D) (yy := yy) ⟨hx, hb, hml, hown, hts⟩ (qX12_levelOf l D yy A F5 G p1 h8) (cwV 1 hts (jgV gw781 gw782 gw783 gw5 gw784) rfl rfl rfl (by decide +kernel) ⟨Nat.le_of_ble_eq_true rfl, Nat.le_of_ble_eq_true rfl⟩) hP hK (va_recv hK hP (ci := 12) (q0 := 0) rfl rfl) rfl hl.1 rfl (Nat.le_of_ble_eq_true rfl) (dd_of dX12_level_0 14 rfl) ⟨Nat.zero_le _, Nat.zero_le _⟩ (fun x9 ex9 => ?_)
        replace q14 := bvE ex9 q14
        refine lv_goto (tgt := 33) hx hb (dd_of dX12_level_0 15 rfl) (by decide) ?_
        exact K16 _ q14
  · skip
    refine lv_if_eq (tgt := 13) hx hb (dd_of dX12_level_0 4 rfl) (by decide) (fun c3 => ?_) (fun c3 => ?_)
    · replace q11 := ifE c3 q11
      refine lv_iconst (v := 1) hx hb (dd_of dX12_level_0 7 rfl) (by decide) ?_
      exact K13 _ q11
    · replace q11 := ifN c3 q11
      refine lv_iconst (v := 0) hx hb (dd_of dX12_level_0 5 rfl) (by decide) ?_
      refine lv_goto (tgt := 14) hx hb (dd_of dX12_level_0 6 rfl) (by decide) ?_
      exact K13 _ q11
