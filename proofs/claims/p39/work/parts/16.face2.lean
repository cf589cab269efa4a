def gX11_addBasin (F : jF) (G : jG) (M : jF) (p1 : Int32) (p2 : Int32) : (Nat × (Int32 × (jS × jF))) := bv (gX11_needRange p1 1 100) (fun c9 : Nat => (if c9 = 0 then bv (gX11_needRange p2 (-500) 500) (fun c9 : Nat => (if c9 = 0 then bv (gX11_needRoom (F 8 0) 8) (fun c9 : Nat => (if c9 = 0 then br (gX11_note M (fun _ _ => 0) 0 p1 p2 0 0 0) (fun (x6 : Int32) (M4 : jF) (G5 : jG) => br (gX5_act F G (M4 82) x6) (fun (x10 : Int64) (F8 : jF) (G9 : jG) => (0, ((Int64.toInt32 x10), ((F8, G9), M4))))) else (c9, (0, ((F, G), M))))) else (c9, (0, ((F, G), M))))) else (c9, (0, ((F, G), M)))))
def okX11_addBasin (F : jF) (G : jG) (M : jF) (p1 : Int32) (p2 : Int32) : Prop := bv (gX11_needRange p1 1 100) (fun c9 : Nat => (c9 = 0 → bv (gX11_needRange p2 (-500) 500) (fun c9 : Nat => (c9 = 0 → bv (gX11_needRoom (F 8 0) 8) (fun c9 : Nat => (c9 = 0 → ((okX11_note M (fun _ _ => 0) 0 p1 p2 0 0 0) ∧ br (gX11_note M (fun _ _ => 0) 0 p1 p2 0 0 0) (fun (x6 : Int32) (M4 : jF) (G5 : jG) => (okX5_act F G (M4 82) x6)))))))))
abbrev rmX11_addBasin : Room := { frames := 7, cells := 9, slots := 64, locals := 181 }
def gX11_setLand (F : jF) (G : jG) (M : jF) (p1 : Int32) (p2 : Int32) (p3 : Int32) (p4 : Int32) : (Nat × (jS × jF)) := om (gX11_needBasin F G p1) (1, ((F, G), M)) (fun k1 : Nat => bv (gX11_needRange p2 0 20) (fun c9 : Nat => (if c9 = 0 then bv (gX11_needRange p3 0 9999) (fun c9 : Nat => (if c9 = 0 then bv (gX11_needRange p4 0 99) (fun c9 : Nat => (if c9 = 0 then br (gX11_note M (fun _ _ => 0) 1 p1 p2 p3 p4 0) (fun (x7 : Int32) (M5 : jF) (G6 : jG) => br (gX5_act F G (M5 82) x7) (fun (x11 : Int64) (F9 : jF) (G10 : jG) => (0, (((F9, G10), M5))))) else (c9, ((F, G), M)))) else (c9, ((F, G), M)))) else (c9, ((F, G), M)))))
def okX11_setLand (F : jF) (G : jG) (M : jF) (p1 : Int32) (p2 : Int32) (p3 : Int32) (p4 : Int32) : Prop := ((okX11_needBasin F G p1) ∧ om (gX11_needBasin F G p1) True (fun k1 : Nat => bv (gX11_needRange p2 0 20) (fun c9 : Nat => (c9 = 0 → bv (gX11_needRange p3 0 9999) (fun c9 : Nat => (c9 = 0 → bv (gX11_needRange p4 0 99) (fun c9 : Nat => (c9 = 0 → ((okX11_note M (fun _ _ => 0) 1 p1 p2 p3 p4 0) ∧ br (gX11_note M (fun _ _ => 0) 1 p1 p2 p3 p4 0) (fun (x7 : Int32) (M5 : jF) (G6 : jG) => (okX5_act F G (M5 82) x7)))))))))))
abbrev rmX11_setLand : Room := { frames := 7, cells := 9, slots := 64, locals := 181 }
def gX11_pour (F : jF) (G : jG) (M : jF) (p1 : Int32) (p2 : Int32) : (Nat × (Int64 × (jS × jF))) := om (gX11_needBasin F G p1) (1, (0, ((F, G), M))) (fun k1 : Nat => bv (gX11_needRange p2 0 1000000) (fun c9 : Nat => (if c9 = 0 then br (gX11_note M (fun _ _ => 0) 2 p1 p2 0 0 0) (fun (x5 : Int32) (M3 : jF) (G4 : jG) => br (gX5_act F G (M3 82) x5) (fun (x9 : Int64) (F7 : jF) (G8 : jG) => (0, (x9, ((F7, G8), M3))))) else (c9, (0, ((F, G), M))))))
def okX11_pour (F : jF) (G : jG) (M : jF) (p1 : Int32) (p2 : Int32) : Prop := ((okX11_needBasin F G p1) ∧ om (gX11_needBasin F G p1) True (fun k1 : Nat => bv (gX11_needRange p2 0 1000000) (fun c9 : Nat => (c9 = 0 → ((okX11_note M (fun _ _ => 0) 2 p1 p2 0 0 0) ∧ br (gX11_note M (fun _ _ => 0) 2 p1 p2 0 0 0) (fun (x5 : Int32) (M3 : jF) (G4 : jG) => (okX5_act F G (M3 82) x5)))))))
abbrev rmX11_pour : Room := { frames := 7, cells := 9, slots := 64, locals := 181 }
def gX11_road (F : jF) (G : jG) (M : jF) (p1 : Int32) (p2 : Int32) (p3 : Int32) : (Nat × (Int32 × (jS × jF))) := om (gX11_needBasin F G p1) (1, (0, ((F, G), M))) (fun k1 : Nat => om (gX11_needBasin F G p2) (1, (0, ((F, G), M))) (fun k2 : Nat => bv (gX11_needDifferent p1 p2) (fun c9 : Nat => (if c9 = 0 then bv ((if p3 = 0 then 0 else 1) : Int32) (fun v5 : Int32 => br (gX11_note M (fun _ _ => 0) 3 p1 p2 v5 0 0) (fun (x8 : Int32) (M6 : jF) (G7 : jG) => br (gX5_act F G (M6 82) x8) (fun (x12 : Int64) (F10 : jF) (G11 : jG) => (if x12 = 0 then (0, (0, ((F10, G11), M6))) else (0, (1, ((F10, G11), M6))))))) else (c9, (0, ((F, G), M)))))))
def okX11_road (F : jF) (G : jG) (M : jF) (p1 : Int32) (p2 : Int32) (p3 : Int32) : Prop := ((okX11_needBasin F G p1) ∧ om (gX11_needBasin F G p1) True (fun k1 : Nat => ((okX11_needBasin F G p2) ∧ om (gX11_needBasin F G p2) True (fun k2 : Nat => bv (gX11_needDifferent p1 p2) (fun c9 : Nat => (c9 = 0 → bv ((if p3 = 0 then 0 else 1) : Int32) (fun v5 : Int32 => ((okX11_note M (fun _ _ => 0) 3 p1 p2 v5 0 0) ∧ br (gX11_note M (fun _ _ => 0) 3 p1 p2 v5 0 0) (fun (x8 : Int32) (M6 : jF) (G7 : jG) => (okX5_act F G (M6 82) x8))))))))))
abbrev rmX11_road : Room := { frames := 7, cells := 9, slots := 64, locals := 181 }
def gX11_addGate (F : jF) (G : jG) (M : jF) (p1 : Int32) (p2 : Int32) (p3 : Int32) (p4 : Int32) : (Nat × (Int32 × (jS × jF))) := bv (gX11_needWay F G p1 p2) (fun c9 : Nat => (if c9 = 0 then bv (gX11_needRange p3 1 9999) (fun c9 : Nat => (if c9 = 0 then bv (gX11_needRange p4 0 3) (fun c9 : Nat => (if c9 = 0 then bv (gX11_needRoom (F 17 0) 8) (fun c9 : Nat => (if c9 = 0 then br (gX11_note M (fun _ _ => 0) 4 p1 p2 p3 p4 0) (fun (x7 : Int32) (M5 : jF) (G6 : jG) => br (gX5_act F G (M5 82) x7) (fun (x11 : Int64) (F9 : jF) (G10 : jG) => (0, ((Int64.toInt32 x11), ((F9, G10), M5))))) else (c9, (0, ((F, G), M))))) else (c9, (0, ((F, G), M))))) else (c9, (0, ((F, G), M))))) else (c9, (0, ((F, G), M)))))
def okX11_addGate (F : jF) (G : jG) (M : jF) (p1 : Int32) (p2 : Int32) (p3 : Int32) (p4 : Int32) : Prop := ((okX11_needWay F G p1 p2) ∧ bv (gX11_needWay F G p1 p2) (fun c9 : Nat => (c9 = 0 → bv (gX11_needRange p3 1 9999) (fun c9 : Nat => (c9 = 0 → bv (gX11_needRange p4 0 3) (fun c9 : Nat => (c9 = 0 → bv (gX11_needRoom (F 17 0) 8) (fun c9 : Nat => (c9 = 0 → ((okX11_note M (fun _ _ => 0) 4 p1 p2 p3 p4 0) ∧ br (gX11_note M (fun _ _ => 0) 4 p1 p2 p3 p4 0) (fun (x7 : Int32) (M5 : jF) (G6 : jG) => (okX5_act F G (M5 82) x7))))))))))))
abbrev rmX11_addGate : Room := { frames := 8, cells := 9, slots := 64, locals := 181 }
def gX11_addPump (F : jF) (G : jG) (M : jF) (p1 : Int32) (p2 : Int32) (p3 : Int32) (p4 : Int32) (p5 : Int32) : (Nat × (Int32 × (jS × jF))) := bv (gX11_needWay F G p1 p2) (fun c9 : Nat => (if c9 = 0 then bv (gX11_needRange p3 1 9999) (fun c9 : Nat => (if c9 = 0 then bv (gX11_needRange p4 0 999) (fun c9 : Nat => (if c9 = 0 then bv (gX11_needRange p5 1 999) (fun c9 : Nat => (if c9 = 0 then bv (gX11_needRoom (F 23 0) 8) (fun c9 : Nat => (if c9 = 0 then br (gX11_note M (fun _ _ => 0) 5 p1 p2 p3 p4 p5) (fun (x8 : Int32) (M6 : jF) (G7 : jG) => br (gX5_act F G (M6 82) x8) (fun (x12 : Int64) (F10 : jF) (G11 : jG) => (0, ((Int64.toInt32 x12), ((F10, G11), M6))))) else (c9, (0, ((F, G), M))))) else (c9, (0, ((F, G), M))))) else (c9, (0, ((F, G), M))))) else (c9, (0, ((F, G), M))))) else (c9, (0, ((F, G), M)))))
def okX11_addPump (F : jF) (G : jG) (M : jF) (p1 : Int32) (p2 : Int32) (p3 : Int32) (p4 : Int32) (p5 : Int32) : Prop := ((okX11_needWay F G p1 p2) ∧ bv (gX11_needWay F G p1 p2) (fun c9 : Nat => (c9 = 0 → bv (gX11_needRange p3 1 9999) (fun c9 : Nat => (c9 = 0 → bv (gX11_needRange p4 0 999) (fun c9 : Nat => (c9 = 0 → bv (gX11_needRange p5 1 999) (fun c9 : Nat => (c9 = 0 → bv (gX11_needRoom (F 23 0) 8) (fun c9 : Nat => (c9 = 0 → ((okX11_note M (fun _ _ => 0) 5 p1 p2 p3 p4 p5) ∧ br (gX11_note M (fun _ _ => 0) 5 p1 p2 p3 p4 p5) (fun (x8 : Int32) (M6 : jF) (G7 : jG) => (okX5_act F G (M6 82) x8))))))))))))))
abbrev rmX11_addPump : Room := { frames := 8, cells := 9, slots := 64, locals := 181 }
def gX11_addDyke (F : jF) (G : jG) (M : jF) (p1 : Int32) (p2 : Int32) (p3 : Int32) (p4 : Int32) (p5 : Int32) : (Nat × (Int32 × (jS × jF))) := bv (gX11_needWay F G p1 p2) (fun c9 : Nat => (if c9 = 0 then bv (gX11_needRange p3 (-500) 999) (fun c9 : Nat => (if c9 = 0 then bv (gX11_needRange p4 1 999) (fun c9 : Nat => (if c9 = 0 then bv (gX11_needRange p5 0 99) (fun c9 : Nat => (if c9 = 0 then bv (gX11_needRoom (F 32 0) 8) (fun c9 : Nat => (if c9 = 0 then br (gX11_note M (fun _ _ => 0) 6 p1 p2 p3 p4 p5) (fun (x8 : Int32) (M6 : jF) (G7 : jG) => br (gX5_act F G (M6 82) x8) (fun (x12 : Int64) (F10 : jF) (G11 : jG) => (0, ((Int64.toInt32 x12), ((F10, G11), M6))))) else (c9, (0, ((F, G), M))))) else (c9, (0, ((F, G), M))))) else (c9, (0, ((F, G), M))))) else (c9, (0, ((F, G), M))))) else (c9, (0, ((F, G), M)))))
def okX11_addDyke (F : jF) (G : jG) (M : jF) (p1 : Int32) (p2 : Int32) (p3 : Int32) (p4 : Int32) (p5 : Int32) : Prop := ((okX11_needWay F G p1 p2) ∧ bv (gX11_needWay F G p1 p2) (fun c9 : Nat => (c9 = 0 → bv (gX11_needRange p3 (-500) 999) (fun c9 : Nat => (c9 = 0 → bv (gX11_needRange p4 1 999) (fun c9 : Nat => (c9 = 0 → bv (gX11_needRange p5 0 99) (fun c9 : Nat => (c9 = 0 → bv (gX11_needRoom (F 32 0) 8) (fun c9 : Nat => (c9 = 0 → ((okX11_note M (fun _ _ => 0) 6 p1 p2 p3 p4 p5) ∧ br (gX11_note M (fun _ _ => 0) 6 p1 p2 p3 p4 p5) (fun (x8 : Int32) (M6 : jF) (G7 : jG) => (okX5_act F G (M6 82) x8))))))))))))))
abbrev rmX11_addDyke : Room := { frames := 8, cells := 9, slots := 64, locals := 181 }
def gX11_setOutside (F : jF) (G : jG) (M : jF) (p1 : Int32) (p2 : Int32) (p3 : Int32) : (Nat × (jS × jF)) := bv (gX11_needRange p1 (-99) 99) (fun c9 : Nat => (if c9 = 0 then bv (gX11_needRange p2 0 400) (fun c9 : Nat => (if c9 = 0 then bv (gX11_needRange p3 (-9999) 99999) (fun c9 : Nat => (if c9 = 0 then br (gX11_note M (fun _ _ => 0) 7 p1 p2 p3 0 0) (fun (x6 : Int32) (M4 : jF) (G5 : jG) => br (gX5_act F G (M4 82) x6) (fun (x10 : Int64) (F8 : jF) (G9 : jG) => (0, (((F8, G9), M4))))) else (c9, ((F, G), M)))) else (c9, ((F, G), M)))) else (c9, ((F, G), M))))
def okX11_setOutside (F : jF) (G : jG) (M : jF) (p1 : Int32) (p2 : Int32) (p3 : Int32) : Prop := bv (gX11_needRange p1 (-99) 99) (fun c9 : Nat => (c9 = 0 → bv (gX11_needRange p2 0 400) (fun c9 : Nat => (c9 = 0 → bv (gX11_needRange p3 (-9999) 99999) (fun c9 : Nat => (c9 = 0 → ((okX11_note M (fun _ _ => 0) 7 p1 p2 p3 0 0) ∧ br (gX11_note M (fun _ _ => 0) 7 p1 p2 p3 0 0) (fun (x6 : Int32) (M4 : jF) (G5 : jG) => (okX5_act F G (M4 82) x6)))))))))
abbrev rmX11_setOutside : Room := { frames := 7, cells := 9, slots := 64, locals := 181 }
def gX11_storm (F : jF) (G : jG) (M : jF) (p1 : Int32) (p2 : Int32) (p3 : Int32) : (Nat × (Int32 × (jS × jF))) := bv (gX11_needRange p1 0 9999) (fun c9 : Nat => (if c9 = 0 then bv (gX11_needRange p2 1 99) (fun c9 : Nat => (if c9 = 0 then bv (gX11_needRange p3 1 500) (fun c9 : Nat => (if c9 = 0 then bv (gX11_needRoom (F 40 0) 12) (fun c9 : Nat => (if c9 = 0 then br (gX11_note M (fun _ _ => 0) 8 p1 p2 p3 0 0) (fun (x7 : Int32) (M5 : jF) (G6 : jG) => br (gX5_act F G (M5 82) x7) (fun (x11 : Int64) (F9 : jF) (G10 : jG) => (0, ((Int64.toInt32 x11), ((F9, G10), M5))))) else (c9, (0, ((F, G), M))))) else (c9, (0, ((F, G), M))))) else (c9, (0, ((F, G), M))))) else (c9, (0, ((F, G), M)))))
def okX11_storm (F : jF) (G : jG) (M : jF) (p1 : Int32) (p2 : Int32) (p3 : Int32) : Prop := bv (gX11_needRange p1 0 9999) (fun c9 : Nat => (c9 = 0 → bv (gX11_needRange p2 1 99) (fun c9 : Nat => (c9 = 0 → bv (gX11_needRange p3 1 500) (fun c9 : Nat => (c9 = 0 → bv (gX11_needRoom (F 40 0) 12) (fun c9 : Nat => (c9 = 0 → ((okX11_note M (fun _ _ => 0) 8 p1 p2 p3 0 0) ∧ br (gX11_note M (fun _ _ => 0) 8 p1 p2 p3 0 0) (fun (x7 : Int32) (M5 : jF) (G6 : jG) => (okX5_act F G (M5 82) x7)))))))))))
abbrev rmX11_storm : Room := { frames := 7, cells := 9, slots := 64, locals := 181 }
def gX11_rain (F : jF) (G : jG) (M : jF) (p1 : Int32) (p2 : Int32) (p3 : Int32) (p4 : Int32) : (Nat × (Int32 × (jS × jF))) := om (gX11_needBasin F G p1) (1, (0, ((F, G), M))) (fun k1 : Nat => bv (gX11_needRange p2 0 9999) (fun c9 : Nat => (if c9 = 0 then bv (gX11_needRange p3 1 99) (fun c9 : Nat => (if c9 = 0 then bv (gX11_needRange p4 1 9999) (fun c9 : Nat => (if c9 = 0 then bv (gX11_needRoom (F 44 0) 12) (fun c9 : Nat => (if c9 = 0 then br (gX11_note M (fun _ _ => 0) 9 p1 p2 p3 p4 0) (fun (x8 : Int32) (M6 : jF) (G7 : jG) => br (gX5_act F G (M6 82) x8) (fun (x12 : Int64) (F10 : jF) (G11 : jG) => (0, ((Int64.toInt32 x12), ((F10, G11), M6))))) else (c9, (0, ((F, G), M))))) else (c9, (0, ((F, G), M))))) else (c9, (0, ((F, G), M))))) else (c9, (0, ((F, G), M))))))
def okX11_rain (F : jF) (G : jG) (M : jF) (p1 : Int32) (p2 : Int32) (p3 : Int32) (p4 : Int32) : Prop := ((okX11_needBasin F G p1) ∧ om (gX11_needBasin F G p1) True (fun k1 : Nat => bv (gX11_needRange p2 0 9999) (fun c9 : Nat => (c9 = 0 → bv (gX11_needRange p3 1 99) (fun c9 : Nat => (c9 = 0 → bv (gX11_needRange p4 1 9999) (fun c9 : Nat => (c9 = 0 → bv (gX11_needRoom (F 44 0) 12) (fun c9 : Nat => (c9 = 0 → ((okX11_note M (fun _ _ => 0) 9 p1 p2 p3 p4 0) ∧ br (gX11_note M (fun _ _ => 0) 9 p1 p2 p3 p4 0) (fun (x8 : Int32) (M6 : jF) (G7 : jG) => (okX5_act F G (M6 82) x8)))))))))))))
abbrev rmX11_rain : Room := { frames := 7, cells := 9, slots := 64, locals := 181 }
def gX11_setSeed (F : jF) (G : jG) (M : jF) (p1 : Int32) : (Nat × (Int32 × (jS × jF))) := bv (gX11_needRange p1 0 9999) (fun c9 : Nat => (if c9 = 0 then br (gX11_note M (fun _ _ => 0) 10 p1 0 0 0 0) (fun (x4 : Int32) (M2 : jF) (G3 : jG) => br (gX5_act F G (M2 82) x4) (fun (x8 : Int64) (F6 : jF) (G7 : jG) => (0, ((Int64.toInt32 x8), ((F6, G7), M2))))) else (c9, (0, ((F, G), M)))))
def okX11_setSeed (F : jF) (G : jG) (M : jF) (p1 : Int32) : Prop := bv (gX11_needRange p1 0 9999) (fun c9 : Nat => (c9 = 0 → ((okX11_note M (fun _ _ => 0) 10 p1 0 0 0 0) ∧ br (gX11_note M (fun _ _ => 0) 10 p1 0 0 0 0) (fun (x4 : Int32) (M2 : jF) (G3 : jG) => (okX5_act F G (M2 82) x4)))))
abbrev rmX11_setSeed : Room := { frames := 7, cells := 9, slots := 64, locals := 181 }
def gX11_command (F : jF) (G : jG) (M : jF) (p1 : Int32) (p2 : Int32) (p3 : Int32) : (Nat × (Int32 × (jS × jF))) := om (gX11_needGate F G p1) (1, (0, ((F, G), M))) (fun k1 : Nat => bv (gX11_needRange p3 0 3) (fun c9 : Nat => (if c9 = 0 then bv ((if p2 = 0 then 0 else 1) : Int32) (fun v4 : Int32 => br (gX11_note M (fun _ _ => 0) 11 p1 v4 p3 0 0) (fun (x7 : Int32) (M5 : jF) (G6 : jG) => br (gX5_act F G (M5 82) x7) (fun (x11 : Int64) (F9 : jF) (G10 : jG) => (0, ((Int64.toInt32 x11), ((F9, G10), M5)))))) else (c9, (0, ((F, G), M))))))
def okX11_command (F : jF) (G : jG) (M : jF) (p1 : Int32) (p2 : Int32) (p3 : Int32) : Prop := ((okX11_needGate F G p1) ∧ om (gX11_needGate F G p1) True (fun k1 : Nat => bv (gX11_needRange p3 0 3) (fun c9 : Nat => (c9 = 0 → bv ((if p2 = 0 then 0 else 1) : Int32) (fun v4 : Int32 => ((okX11_note M (fun _ _ => 0) 11 p1 v4 p3 0 0) ∧ br (gX11_note M (fun _ _ => 0) 11 p1 v4 p3 0 0) (fun (x7 : Int32) (M5 : jF) (G6 : jG) => (okX5_act F G (M5 82) x7))))))))
abbrev rmX11_command : Room := { frames := 7, cells := 9, slots := 64, locals := 181 }
def gX11_drive (F : jF) (G : jG) (M : jF) (p1 : Int32) (p2 : Int32) (p3 : Int32) : (Nat × (Int32 × (jS × jF))) := om (gX11_needPump F G p1) (1, (0, ((F, G), M))) (fun k1 : Nat => bv (gX11_needRange p3 0 99) (fun c9 : Nat => (if c9 = 0 then bv (gX11_needMoney F G p3) (fun c9 : Nat => (if c9 = 0 then bv ((if p2 = 0 then 0 else 1) : Int32) (fun v5 : Int32 => br (gX11_note M (fun _ _ => 0) 12 p1 v5 p3 0 0) (fun (x8 : Int32) (M6 : jF) (G7 : jG) => br (gX5_act F G (M6 82) x8) (fun (x12 : Int64) (F10 : jF) (G11 : jG) => (0, ((Int64.toInt32 x12), ((F10, G11), M6)))))) else (c9, (0, ((F, G), M))))) else (c9, (0, ((F, G), M))))))
def okX11_drive (F : jF) (G : jG) (M : jF) (p1 : Int32) (p2 : Int32) (p3 : Int32) : Prop := ((okX11_needPump F G p1) ∧ om (gX11_needPump F G p1) True (fun k1 : Nat => bv (gX11_needRange p3 0 99) (fun c9 : Nat => (c9 = 0 → bv (gX11_needMoney F G p3) (fun c9 : Nat => (c9 = 0 → bv ((if p2 = 0 then 0 else 1) : Int32) (fun v5 : Int32 => ((okX11_note M (fun _ _ => 0) 12 p1 v5 p3 0 0) ∧ br (gX11_note M (fun _ _ => 0) 12 p1 v5 p3 0 0) (fun (x8 : Int32) (M6 : jF) (G7 : jG) => (okX5_act F G (M6 82) x8))))))))))
abbrev rmX11_drive : Room := { frames := 7, cells := 9, slots := 64, locals := 181 }
def gX11_mend (F : jF) (G : jG) (M : jF) (p1 : Int32) : (Nat × (Int32 × (jS × jF))) := om (gX11_needPump F G p1) (1, (0, ((F, G), M))) (fun k1 : Nat => bv (gX11_needMoney F G 20) (fun c9 : Nat => (if c9 = 0 then br (gX11_note M (fun _ _ => 0) 13 p1 0 0 0 0) (fun (x5 : Int32) (M3 : jF) (G4 : jG) => br (gX5_act F G (M3 82) x5) (fun (x9 : Int64) (F7 : jF) (G8 : jG) => (0, ((Int64.toInt32 x9), ((F7, G8), M3))))) else (c9, (0, ((F, G), M))))))
def okX11_mend (F : jF) (G : jG) (M : jF) (p1 : Int32) : Prop := ((okX11_needPump F G p1) ∧ om (gX11_needPump F G p1) True (fun k1 : Nat => bv (gX11_needMoney F G 20) (fun c9 : Nat => (c9 = 0 → ((okX11_note M (fun _ _ => 0) 13 p1 0 0 0 0) ∧ br (gX11_note M (fun _ _ => 0) 13 p1 0 0 0 0) (fun (x5 : Int32) (M3 : jF) (G4 : jG) => (okX5_act F G (M3 82) x5)))))))
abbrev rmX11_mend : Room := { frames := 7, cells := 9, slots := 64, locals := 181 }
def gX11_send (F : jF) (G : jG) (M : jF) (p1 : Int32) (p2 : Int32) (p3 : Int32) : (Nat × (Int32 × (jS × jF))) := om (gX11_needCrew F G p1) (1, (0, ((F, G), M))) (fun k1 : Nat => (if p2 = (-1) then bv (gX11_needRange p3 0 99) (fun c9 : Nat => (if c9 = 0 then bv (gX11_needMoney F G p3) (fun c9 : Nat => (if c9 = 0 then br (gX11_note M (fun _ _ => 0) 14 p1 p2 p3 0 0) (fun (x7 : Int32) (M5 : jF) (G6 : jG) => br (gX5_act F G (M5 82) x7) (fun (x11 : Int64) (F9 : jF) (G10 : jG) => (0, ((Int64.toInt32 x11), ((F9, G10), M5))))) else (c9, (0, ((F, G), M))))) else (c9, (0, ((F, G), M))))) else om (gX11_needDyke F G p2) (1, (0, ((F, G), M))) (fun k13 : Nat => bv (gX11_needRange p3 0 99) (fun c9 : Nat => (if c9 = 0 then bv (gX11_needMoney F G p3) (fun c9 : Nat => (if c9 = 0 then br (gX11_note M (fun _ _ => 0) 14 p1 p2 p3 0 0) (fun (x18 : Int32) (M16 : jF) (G17 : jG) => br (gX5_act F G (M16 82) x18) (fun (x22 : Int64) (F20 : jF) (G21 : jG) => (0, ((Int64.toInt32 x22), ((F20, G21), M16))))) else (c9, (0, ((F, G), M))))) else (c9, (0, ((F, G), M))))))))
def okX11_send (F : jF) (G : jG) (M : jF) (p1 : Int32) (p2 : Int32) (p3 : Int32) : Prop := ((okX11_needCrew F G p1) ∧ om (gX11_needCrew F G p1) True (fun k1 : Nat => ((p2 = (-1) → bv (gX11_needRange p3 0 99) (fun c9 : Nat => (c9 = 0 → bv (gX11_needMoney F G p3) (fun c9 : Nat => (c9 = 0 → ((okX11_note M (fun _ _ => 0) 14 p1 p2 p3 0 0) ∧ br (gX11_note M (fun _ _ => 0) 14 p1 p2 p3 0 0) (fun (x7 : Int32) (M5 : jF) (G6 : jG) => (okX5_act F G (M5 82) x7)))))))) ∧ (¬ p2 = (-1) → ((okX11_needDyke F G p2) ∧ om (gX11_needDyke F G p2) True (fun k13 : Nat => bv (gX11_needRange p3 0 99) (fun c9 : Nat => (c9 = 0 → bv (gX11_needMoney F G p3) (fun c9 : Nat => (c9 = 0 → ((okX11_note M (fun _ _ => 0) 14 p1 p2 p3 0 0) ∧ br (gX11_note M (fun _ _ => 0) 14 p1 p2 p3 0 0) (fun (x18 : Int32) (M16 : jF) (G17 : jG) => (okX5_act F G (M16 82) x18)))))))))))))
abbrev rmX11_send : Room := { frames := 7, cells := 9, slots := 64, locals := 181 }
def gX11_budget (F : jF) (G : jG) (M : jF) (p1 : Int32) (p2 : Int32) : (Nat × (Int32 × (jS × jF))) := bv (gX11_needRange p1 0 9999) (fun c9 : Nat => (if c9 = 0 then bv (gX11_needRange p2 0 9999) (fun c9 : Nat => (if c9 = 0 then br (gX11_note M (fun _ _ => 0) 15 p1 p2 0 0 0) (fun (x5 : Int32) (M3 : jF) (G4 : jG) => br (gX5_act F G (M3 82) x5) (fun (x9 : Int64) (F7 : jF) (G8 : jG) => (0, ((Int64.toInt32 x9), ((F7, G8), M3))))) else (c9, (0, ((F, G), M))))) else (c9, (0, ((F, G), M)))))
def okX11_budget (F : jF) (G : jG) (M : jF) (p1 : Int32) (p2 : Int32) : Prop := bv (gX11_needRange p1 0 9999) (fun c9 : Nat => (c9 = 0 → bv (gX11_needRange p2 0 9999) (fun c9 : Nat => (c9 = 0 → ((okX11_note M (fun _ _ => 0) 15 p1 p2 0 0 0) ∧ br (gX11_note M (fun _ _ => 0) 15 p1 p2 0 0 0) (fun (x5 : Int32) (M3 : jF) (G4 : jG) => (okX5_act F G (M3 82) x5)))))))
abbrev rmX11_budget : Room := { frames := 7, cells := 9, slots := 64, locals := 181 }
def gX11_raise (F : jF) (G : jG) (M : jF) (p1 : Int32) (p2 : Int32) (p3 : Int32) : (Nat × (Int32 × (jS × jF))) := om (gX11_needDyke F G p1) (1, (0, ((F, G), M))) (fun k1 : Nat => bv (gX11_needRange p2 1 99) (fun c9 : Nat => (if c9 = 0 then bv (gX11_needRange p3 1 9) (fun c9 : Nat => (if c9 = 0 then bv (gX11_needMoney F G (p2 * 10)) (fun c9 : Nat => (if c9 = 0 then bv (gX1_countWorks F G  ) (fun x6 : Int32 => bv (gX11_needRoom x6 6) (fun c9 : Nat => (if c9 = 0 then br (gX11_note M (fun _ _ => 0) 16 p1 p2 p3 0 0) (fun (x10 : Int32) (M8 : jF) (G9 : jG) => br (gX5_act F G (M8 82) x10) (fun (x14 : Int64) (F12 : jF) (G13 : jG) => (0, ((Int64.toInt32 x14), ((F12, G13), M8))))) else (c9, (0, ((F, G), M)))))) else (c9, (0, ((F, G), M))))) else (c9, (0, ((F, G), M))))) else (c9, (0, ((F, G), M))))))
def okX11_raise (F : jF) (G : jG) (M : jF) (p1 : Int32) (p2 : Int32) (p3 : Int32) : Prop := ((okX11_needDyke F G p1) ∧ om (gX11_needDyke F G p1) True (fun k1 : Nat => bv (gX11_needRange p2 1 99) (fun c9 : Nat => (c9 = 0 → bv (gX11_needRange p3 1 9) (fun c9 : Nat => (c9 = 0 → bv (gX11_needMoney F G (p2 * 10)) (fun c9 : Nat => (c9 = 0 → ((okX1_countWorks F G  ) ∧ bv (gX1_countWorks F G  ) (fun x6 : Int32 => bv (gX11_needRoom x6 6) (fun c9 : Nat => (c9 = 0 → ((okX11_note M (fun _ _ => 0) 16 p1 p2 p3 0 0) ∧ br (gX11_note M (fun _ _ => 0) 16 p1 p2 p3 0 0) (fun (x10 : Int32) (M8 : jF) (G9 : jG) => (okX5_act F G (M8 82) x10)))))))))))))))
abbrev rmX11_raise : Room := { frames := 7, cells := 9, slots := 64, locals := 181 }
def gX11_run (F : jF) (G : jG) (M : jF) (p1 : Int32) : (Nat × (Int32 × (jS × jF))) := bv (gX11_needRange p1 1 50) (fun c9 : Nat => (if c9 = 0 then bv ((if 9999 < ((F 0 0) + p1) then 0 else 1) : Int32) (fun v3 : Int32 => bv (gX11_needState v3) (fun c9 : Nat => (if c9 = 0 then br (gX11_note M (fun _ _ => 0) 17 p1 0 0 0 0) (fun (x7 : Int32) (M5 : jF) (G6 : jG) => br (gX5_act F G (M5 82) x7) (fun (x11 : Int64) (F9 : jF) (G10 : jG) => (0, ((Int64.toInt32 x11), ((F9, G10), M5))))) else (c9, (0, ((F, G), M)))))) else (c9, (0, ((F, G), M)))))
def okX11_run (F : jF) (G : jG) (M : jF) (p1 : Int32) : Prop := bv (gX11_needRange p1 1 50) (fun c9 : Nat => (c9 = 0 → bv ((if 9999 < ((F 0 0) + p1) then 0 else 1) : Int32) (fun v3 : Int32 => bv (gX11_needState v3) (fun c9 : Nat => (c9 = 0 → ((okX11_note M (fun _ _ => 0) 17 p1 0 0 0 0) ∧ br (gX11_note M (fun _ _ => 0) 17 p1 0 0 0 0) (fun (x7 : Int32) (M5 : jF) (G6 : jG) => (okX5_act F G (M5 82) x7))))))))
abbrev rmX11_run : Room := { frames := 7, cells := 9, slots := 64, locals := 181 }
def gX11_endYear (F : jF) (G : jG) (M : jF)  : (Nat × (Int32 × (jS × jF))) := bv ((if 20 ≤ (F 1 0) then 0 else 1) : Int32) (fun v2 : Int32 => bv (gX11_needState v2) (fun c9 : Nat => (if c9 = 0 then br (gX11_note M (fun _ _ => 0) 18 0 0 0 0 0) (fun (x6 : Int32) (M4 : jF) (G5 : jG) => br (gX5_act F G (M4 82) x6) (fun (x10 : Int64) (F8 : jF) (G9 : jG) => (0, ((Int64.toInt32 x10), ((F8, G9), M4))))) else (c9, (0, ((F, G), M))))))
def okX11_endYear (F : jF) (G : jG) (M : jF)  : Prop := bv ((if 20 ≤ (F 1 0) then 0 else 1) : Int32) (fun v2 : Int32 => bv (gX11_needState v2) (fun c9 : Nat => (c9 = 0 → ((okX11_note M (fun _ _ => 0) 18 0 0 0 0 0) ∧ br (gX11_note M (fun _ _ => 0) 18 0 0 0 0 0) (fun (x6 : Int32) (M4 : jF) (G5 : jG) => (okX5_act F G (M4 82) x6))))))
abbrev rmX11_endYear : Room := { frames := 7, cells := 9, slots := 64, locals := 181 }
set_option maxHeartbeats 4000000 in
set_option maxRecDepth 100000 in
theorem qX11_addBasin (l : Launch) (hl9 : l.stackTraces = false) (D : va_G) (yy : Nat → ClassId) (h0 an : Nat) (B B2 : Nat → Nat) (F : jF) (G : jG) (F2 : jF) (G2 : jG) (M : jF) (sz : Nat) (p1 : Int32) (p2 : Int32) (hok : okX11_addBasin F G M p1 p2) : vx_Met l yX11_addBasin (Cond.code yX11_addBasin cX11_addBasin 3 (some .int) :: wsL_law) rmX11_addBasin (va_Pc [.ref h0, .int p1, .int p2] (jX D yy (pV yy h0 an B B2 F G F2 G2 M) sz)) (va_Qi (fun r (u : ((Nat → Nat) × jS) × jF) => gX11_addBasin F G M p1 p2 = (0, (r, (u.1.2, u.2))) ∧ ∀ k, k < 100 → u.1.1 k = B k) (fun u t => jB D yy (va_A (pV yy h0 an B B2 F G F2 G2 M) sz) (pV yy h0 an u.1.1 B2 u.1.2.1 u.1.2.2 F2 G2 u.2) t) (va_A (pV yy h0 an B B2 F G F2 G2 M) sz)) (vx_X (fun _ : Unit => True) (fun E _ _ => (gX11_addBasin F G M p1 p2).1 ≠ 0 ∧ E = xN (gX11_addBasin F G M p1 p2).1) (jE sz)) 9 64 (va_A (pV yy h0 an B B2 F G F2 G2 M) sz) := by
  generalize hres : gX11_addBasin F G M p1 p2 = RES
  refine jMX (vs := [.ref h0, .int p1, .int p2]) (own := RX11) (by decide +kernel) rfl (Nat.le_of_ble_eq_true rfl) ?_
  intro p e s m args below meth c ls Q hQ hargs S hr hlk htab hB hl
  obtain ⟨hx, hb, hml, hown, hts⟩ := S
  have hl : lv_has ls 3 [(0, .ref h0), (1, .int p1), (2, .int p2)] := hl

  obtain ⟨⟨hsz, hV, hK, hD0⟩, hT⟩ := hB
  subst hsz
  have hD := hD0.self (sz := s.heap.size)
  have hE : ∀ q, jE s.heap.size q → va_A (pV yy h0 an B B2 F G F2 G2 M) s.heap.size q := fun q h => Or.inr h
  generalize hZ : va_A (pV yy h0 an B B2 F G F2 G2 M) s.heap.size = Z at hD hQ hT hE
  have hA : ∀ q : Nat, s.heap.size ≤ q → Z q := fun q h => by rw [← hZ]; exact Or.inr h
  have hfree : ∀ q, jE s.heap.size q → Z q := hE
  obtain ⟨H, hH⟩ : ∃ z, z = s.heap := ⟨_, rfl⟩
  obtain ⟨locs, hlocs⟩ : ∃ z : List Loc, z = [] := ⟨_, rfl⟩
  have hS9 : va_S (jE s.heap.size) s.heap H locs := by rw [hH, hlocs]; exact va_S.rf
  have hS := hS9.mono hE
  rw [← hH] at hV
  have hP : va_P D vwCl (lW yy B F G) H := pV_P hV
  suffices hgo : W p l e rmX11_addBasin s m args below meth c H locs 0 0 Q (F0 m 0 ls []) by rw [hH, hlocs] at hgo; exact hgo
  unfold gX11_addBasin at hres
  unfold okX11_addBasin at hok
  refine lv_aload_n hx hb (dd_of dX11_addBasin_0 0 rfl) rfl (lv_at hl 0 rfl) ?_
  refine lv_iload_n hx hb (dd_of dX11_addBasin_0 1 rfl) rfl (lv_at hl 1 rfl) ?_
  refine lv_iconst (v := 1) hx hb (dd_of dX11_addBasin_0 2 rfl) (by decide) ?_
  refine lv_bipush (v := 100) hx hb (dd_of dX11_addBasin_0 3 rfl) (by decide) ?_
  refine xc_v (g := (gX11_needRange p1 1 100)) (As := [.int p1, .int 1, .int 100]) (rest := []) (w := ([] : va_W)) (D := D) (yy := yy) ⟨hx, hb, hml, hown, hts⟩ (qX11_needRange l hl9 D yy h0 H.size p1 1 100) (cwV 3 hts (jgV gw183 gw184 gw185 gw2 gw186) rfl rfl rfl (by decide +kernel) ⟨Nat.le_of_ble_eq_true rfl, Nat.le_of_ble_eq_true rfl⟩) (fun k q h => by simp at h) hK hT hS hA hS9 (va_recv hK hV (ci := 11) (q0 := 0) rfl rfl) rfl hl.1 rfl (Nat.le_of_ble_eq_true rfl) (dd_of dX11_addBasin_0 4 rfl) ⟨Nat.le_of_ble_eq_true rfl, Nat.le_of_ble_eq_true rfl⟩ (fun E9 ce9 qx9 H locs cx ex hS9 z1 z2 z3 => ?_) (fun H locs cx hkp hS9 => ?_)
  · replace hres := ifN cx (bvE rfl hres)
    subst hQ
    exact xout (px := True) (B := (fun E => RES.1 ≠ 0 ∧ E = xN RES.1)) htab hlk hS9 z1 z2 z3 trivial (by rw [← hres]; exact ⟨cx, ex⟩) (Nat.le_of_ble_eq_true rfl) (Nat.le_of_ble_eq_true rfl) hfree
  · replace hres := ifE cx (bvE rfl hres)
    replace hok := bvO rfl hok
    replace hok := hok cx
    have hS := hS9.mono hE
    have hV := hkp _ hV
    have hP := hkp _ hP
    refine lv_aload_n hx hb (dd_of dX11_addBasin_0 5 rfl) rfl (lv_at hl 0 rfl) ?_
    refine lv_iload_n hx hb (dd_of dX11_addBasin_0 6 rfl) rfl (lv_at hl 2 rfl) ?_
    refine lv_sipush (v := (-500)) hx hb (dd_of dX11_addBasin_0 7 rfl) (by decide) ?_
    refine lv_sipush (v := 500) hx hb (dd_of dX11_addBasin_0 8 rfl) (by decide) ?_
    refine xc_v (g := (gX11_needRange p2 (-500) 500)) (As := [.int p2, .int (-500), .int 500]) (rest := []) (w := ([] : va_W)) (D := D) (yy := yy) ⟨hx, hb, hml, hown, hts⟩ (qX11_needRange l hl9 D yy h0 H.size p2 (-500) 500) (cwV 3 hts (jgV gw183 gw184 gw185 gw2 gw186) rfl rfl rfl (by decide +kernel) ⟨Nat.le_of_ble_eq_true rfl, Nat.le_of_ble_eq_true rfl⟩) (fun k q h => by simp at h) hK hT hS hA hS9 (va_recv hK hV (ci := 11) (q0 := 0) rfl rfl) rfl hl.1 rfl (Nat.le_of_ble_eq_true rfl) (dd_of dX11_addBasin_0 9 rfl) ⟨Nat.le_of_ble_eq_true rfl, Nat.le_of_ble_eq_true rfl⟩ (fun E9 ce9 qx9 H locs cx ex hS9 z1 z2 z3 => ?_) (fun H locs cx hkp hS9 => ?_)
    · replace hres := ifN cx (bvE rfl hres)
      subst hQ
      exact xout (px := True) (B := (fun E => RES.1 ≠ 0 ∧ E = xN RES.1)) htab hlk hS9 z1 z2 z3 trivial (by rw [← hres]; exact ⟨cx, ex⟩) (Nat.le_of_ble_eq_true rfl) (Nat.le_of_ble_eq_true rfl) hfree
    · replace hres := ifE cx (bvE rfl hres)
      replace hok := bvO rfl hok
      replace hok := hok cx
      have hS := hS9.mono hE
      have hV := hkp _ hV
      have hP := hkp _ hP
      refine lv_aload_n hx hb (dd_of dX11_addBasin_0 10 rfl) rfl (lv_at hl 0 rfl) ?_
      refine lv_aload_n hx hb (dd_of dX11_addBasin_0 11 rfl) rfl (lv_at hl 0 rfl) ?_
      refine va_get (D := D) (cl := vwCl) (tys := jT yy) (ci := 11) (v := .ref (B 0)) (C := RX11) (T := TX11) (N := 5) hx hb hts (fun w h => List.mem_cons_of_mem _ (inlX11 w h)) hown hK hV 0 rfl rfl 0 (by decide) (jw hts gw16) (fun _ h9 => h9) rfl (dd_of dX11_addBasin_0 12 rfl) ?_
      refine va_get (D := D) (cl := vwCl) (tys := jT yy) (ci := 5) (v := .ref (B 1)) (C := RX5) (T := TX5) (N := 10) hx hb hts (fun w h => List.mem_cons_of_mem _ (inlX5 w h)) hown hK hP 0 rfl rfl 0 (by decide) (jw hts gw181) (fun _ h9 => h9) rfl (dd_of dX11_addBasin_0 13 rfl) ?_
      refine va_get (D := D) (cl := vwCl) (tys := jT yy) (ci := 10) (v := .int (F 8 0)) (C := RX10) (T := TX10) (N := 8) hx hb hts (fun w h => List.mem_cons_of_mem _ (inlX10 w h)) hown hK hP 1 rfl rfl 1 (by decide) (jw hts gw182) (fun _ h9 => h9) rfl (dd_of dX11_addBasin_0 14 rfl) ?_
      refine lv_bipush (v := 8) hx hb (dd_of dX11_addBasin_0 15 rfl) (by decide) ?_
      refine xc_v (g := (gX11_needRoom (F 8 0) 8)) (As := [.int (F 8 0), .int 8]) (rest := []) (w := ([] : va_W)) (D := D) (yy := yy) ⟨hx, hb, hml, hown, hts⟩ (qX11_needRoom l hl9 D yy h0 H.size (F 8 0) 8) (cwV 2 hts (jgV gw189 gw190 gw191 gw2 gw192) rfl rfl rfl (by decide +kernel) ⟨Nat.le_of_ble_eq_true rfl, Nat.le_of_ble_eq_true rfl⟩) (fun k q h => by simp at h) hK hT hS hA hS9 (va_recv hK hV (ci := 11) (q0 := 0) rfl rfl) rfl hl.1 rfl (Nat.le_of_ble_eq_true rfl) (dd_of dX11_addBasin_0 16 rfl) ⟨Nat.le_of_ble_eq_true rfl, Nat.le_of_ble_eq_true rfl⟩ (fun E9 ce9 qx9 H locs cx ex hS9 z1 z2 z3 => ?_) (fun H locs cx hkp hS9 => ?_)
      · replace hres := ifN cx (bvE rfl hres)
        subst hQ
        exact xout (px := True) (B := (fun E => RES.1 ≠ 0 ∧ E = xN RES.1)) htab hlk hS9 z1 z2 z3 trivial (by rw [← hres]; exact ⟨cx, ex⟩) (Nat.le_of_ble_eq_true rfl) (Nat.le_of_ble_eq_true rfl) hfree
      · replace hres := ifE cx (bvE rfl hres)
        replace hok := bvO rfl hok
        replace hok := hok cx
        have hS := hS9.mono hE
        have hV := hkp _ hV
        have hP := hkp _ hP
        refine lv_aload_n hx hb (dd_of dX11_addBasin_0 17 rfl) rfl (lv_at hl 0 rfl) ?_
        refine va_get (D := D) (cl := vwCl) (tys := jT yy) (ci := 11) (v := .ref (B 0)) (C := RX11) (T := TX11) (N := 5) hx hb hts (fun w h => List.mem_cons_of_mem _ (inlX11 w h)) hown hK hV 0 rfl rfl 0 (by decide) (jw hts gw16) (fun _ h9 => h9) rfl (dd_of dX11_addBasin_0 18 rfl) ?_
        refine lv_aload_n hx hb (dd_of dX11_addBasin_0 19 rfl) rfl (lv_at hl 0 rfl) ?_
        refine va_get (D := D) (cl := vwCl) (tys := jT yy) (ci := 11) (v := .ref an) (C := RX11) (T := TX11) (N := 5) hx hb hts (fun w h => List.mem_cons_of_mem _ (inlX11 w h)) hown hK hV 0 rfl rfl 1 (by decide) (jw hts gw18) (fun _ h9 => h9) rfl (dd_of dX11_addBasin_0 20 rfl) ?_
        refine lv_aload_n hx hb (dd_of dX11_addBasin_0 21 rfl) rfl (lv_at hl 0 rfl) ?_
        refine lv_iconst (v := 0) hx hb (dd_of dX11_addBasin_0 22 rfl) (by decide) ?_
        refine lv_iload_n hx hb (dd_of dX11_addBasin_0 23 rfl) rfl (lv_at hl 1 rfl) ?_
        refine lv_iload_n hx hb (dd_of dX11_addBasin_0 24 rfl) rfl (lv_at hl 2 rfl) ?_
        refine lv_iconst (v := 0) hx hb (dd_of dX11_addBasin_0 25 rfl) (by decide) ?_
        refine lv_iconst (v := 0) hx hb (dd_of dX11_addBasin_0 26 rfl) (by decide) ?_
        refine lv_iconst (v := 0) hx hb (dd_of dX11_addBasin_0 27 rfl) (by decide) ?_
        have hk9 := hok.1
        replace hok := hok.2
        refine jz_i (As := [.int 0, .int p1, .int p2, .int 0, .int 0, .int 0]) (rest := [.ref an, .ref (B 0)]) (D := D) (yy := yy) (h0 := h0) (an := an) (B := B) (B2 := B2) (F := F) (G := G) (F2 := F2) (G2 := G2) (M := M) ⟨hx, hb, hml, hown, hts⟩ (qX11_note l D yy h0 an (B 0) (B2 0) M (fun _ _ => 0) H.size 0 p1 p2 0 0 0 hk9) (cwV 6 hts (jgV gw195 gw196 gw197 gw2 gw198) rfl rfl rfl (by decide +kernel) ⟨Nat.le_of_ble_eq_true rfl, Nat.le_of_ble_eq_true rfl⟩) hV hK hD hS hA (va_recv hK hV (ci := 11) (q0 := 0) rfl rfl) rfl hl.1 rfl (Nat.le_of_ble_eq_true rfl) (dd_of dX11_addBasin_0 28 rfl) ⟨Nat.le_of_ble_eq_true rfl, Nat.le_of_ble_eq_true rfl⟩ (fun x6 M4 G5 H locs w7 hV hD hS => ?_)
        have hP := pV_P hV
        replace hres := brE w7 hres
        replace hok := brO w7 hok
        have hk9 := hok
        refine jz_l (As := [.ref an, .int x6]) (rest := []) (D := D) (yy := yy) (h0 := h0) (an := an) (B := B) (B2 := B2) (F := F) (G := G) (F2 := F2) (G2 := G2) (M := M4) ⟨hx, hb, hml, hown, hts⟩ (qX5_act l D yy B F G H.size an (M4 82) x6 hk9) (fun _ _ h => h.2 0 (by omega)) (cwV 2 hts (jgV gw200 gw201 gw202 gw15 gw203) rfl rfl rfl (by decide +kernel) ⟨Nat.le_of_ble_eq_true rfl, Nat.le_of_ble_eq_true rfl⟩) hV hK hD hS hA (va_recv hK hP (ci := 5) (q0 := 0) rfl rfl) rfl hl.1 rfl (Nat.le_of_ble_eq_true rfl) (dd_of dX11_addBasin_0 29 rfl) ⟨Nat.le_of_ble_eq_true rfl, Nat.le_of_ble_eq_true rfl⟩ (fun x10 B1 F8 G9 H locs w11 hV hD hS => ?_)
        obtain ⟨w11, hB1⟩ := w11
        have hB1 : ∀ k, k < 100 → B1 k = B k := hB1
        have w11 : (x10, (F8, G9)) = gX5_act F G (M4 82) x6 := w11
        replace hres := brE w11 hres
        refine lv_l2i (v := (Int64.toInt32 x10)) hx hb (dd_of dX11_addBasin_0 30 rfl) rfl ?_
        subst hQ
        refine vx_ret (W.widen (k := 9) (n := 64) (Nat.le_of_ble_eq_true rfl) (Nat.le_of_ble_eq_true rfl) ?_)
        exact W.iret (v := (Int64.toInt32 x10)) hx hb hr (fun t ht hW => ⟨⟨(Int64.toInt32 x10), ((B1, (F8, G9)), M4), rfl, ⟨hres.symm, hB1⟩, by rw [ht]; exact hV, va_K.moved hW.alike hK, hD⟩, hS.F ht⟩) hS.2.2 (dd_of dX11_addBasin_0 31 rfl) hlk
set_option maxHeartbeats 4000000 in
set_option maxRecDepth 100000 in
theorem qX11_setLand (l : Launch) (hl9 : l.stackTraces = false) (D : va_G) (yy : Nat → ClassId) (h0 an : Nat) (B B2 : Nat → Nat) (F : jF) (G : jG) (F2 : jF) (G2 : jG) (M : jF) (sz : Nat) (p1 : Int32) (p2 : Int32) (p3 : Int32) (p4 : Int32) (hok : okX11_setLand F G M p1 p2 p3 p4) : vx_Met l yX11_setLand (Cond.code yX11_setLand cX11_setLand 5 none :: wsL_law) rmX11_setLand (va_Pc [.ref h0, .int p1, .int p2, .int p3, .int p4] (jX D yy (pV yy h0 an B B2 F G F2 G2 M) sz)) (va_Qv (fun (u : ((Nat → Nat) × jS) × jF) => gX11_setLand F G M p1 p2 p3 p4 = (0, (u.1.2, u.2)) ∧ ∀ k, k < 100 → u.1.1 k = B k) (fun u t => jB D yy (va_A (pV yy h0 an B B2 F G F2 G2 M) sz) (pV yy h0 an u.1.1 B2 u.1.2.1 u.1.2.2 F2 G2 u.2) t) (va_A (pV yy h0 an B B2 F G F2 G2 M) sz)) (vx_X (fun _ : Unit => True) (fun E _ _ => (gX11_setLand F G M p1 p2 p3 p4).1 ≠ 0 ∧ E = xN (gX11_setLand F G M p1 p2 p3 p4).1) (jE sz)) 9 64 (va_A (pV yy h0 an B B2 F G F2 G2 M) sz) := by
  generalize hres : gX11_setLand F G M p1 p2 p3 p4 = RES
  refine jMX (vs := [.ref h0, .int p1, .int p2, .int p3, .int p4]) (own := RX11) (by decide +kernel) rfl (Nat.le_of_ble_eq_true rfl) ?_
  intro p e s m args below meth c ls Q hQ hargs S hr hlk htab hB hl
  obtain ⟨hx, hb, hml, hown, hts⟩ := S
  have hl : lv_has ls 5 [(0, .ref h0), (1, .int p1), (2, .int p2), (3, .int p3), (4, .int p4)] := hl

  obtain ⟨⟨hsz, hV, hK, hD0⟩, hT⟩ := hB
  subst hsz
  have hD := hD0.self (sz := s.heap.size)
  have hE : ∀ q, jE s.heap.size q → va_A (pV yy h0 an B B2 F G F2 G2 M) s.heap.size q := fun q h => Or.inr h
  generalize hZ : va_A (pV yy h0 an B B2 F G F2 G2 M) s.heap.size = Z at hD hQ hT hE
  have hA : ∀ q : Nat, s.heap.size ≤ q → Z q := fun q h => by rw [← hZ]; exact Or.inr h
  have hfree : ∀ q, jE s.heap.size q → Z q := hE
  obtain ⟨H, hH⟩ : ∃ z, z = s.heap := ⟨_, rfl⟩
  obtain ⟨locs, hlocs⟩ : ∃ z : List Loc, z = [] := ⟨_, rfl⟩
  have hS9 : va_S (jE s.heap.size) s.heap H locs := by rw [hH, hlocs]; exact va_S.rf
  have hS := hS9.mono hE
  rw [← hH] at hV
  have hP : va_P D vwCl (lW yy B F G) H := pV_P hV
  suffices hgo : W p l e rmX11_setLand s m args below meth c H locs 0 0 Q (F0 m 0 ls []) by rw [hH, hlocs] at hgo; exact hgo
  unfold gX11_setLand at hres
  unfold okX11_setLand at hok
  refine lv_aload_n hx hb (dd_of dX11_setLand_0 0 rfl) rfl (lv_at hl 0 rfl) ?_
  refine lv_iload_n hx hb (dd_of dX11_setLand_0 1 rfl) rfl (lv_at hl 1 rfl) ?_
  have hk9 := hok.1
  replace hok := hok.2
  refine xc_q (B := B) (off := 100) (g := (gX11_needBasin F G p1)) (As := [.int p1]) (rest := []) (w := (pV yy h0 an B B2 F G F2 G2 M)) (D := D) (yy := yy) ⟨hx, hb, hml, hown, hts⟩ (qX11_needBasin l hl9 D yy h0 an B B2 F G F2 G2 M H.size p1 hk9) (cwV 1 hts (jgV gw606 gw607 gw608 gw2 gw609) rfl rfl rfl (by decide +kernel) ⟨Nat.le_of_ble_eq_true rfl, Nat.le_of_ble_eq_true rfl⟩) hV hK hT hS hA hS9 (va_recv hK hV (ci := 11) (q0 := 0) rfl rfl) rfl hl.1 rfl (Nat.le_of_ble_eq_true rfl) (dd_of dX11_setLand_0 2 rfl) ⟨Nat.le_of_ble_eq_true rfl, Nat.le_of_ble_eq_true rfl⟩ (fun E9 ce9 qx9 H locs cx ex hS9 z1 z2 z3 => ?_) (fun k1 H locs cx hkp hS9 => ?_)
  · rw [cx] at hres
    replace hres := omN hres
    subst hQ
    exact xout (px := True) (B := (fun E => RES.1 ≠ 0 ∧ E = xN RES.1)) htab hlk hS9 z1 z2 z3 trivial (by rw [← hres]; exact ⟨Nat.one_ne_zero, ex⟩) (Nat.le_of_ble_eq_true rfl) (Nat.le_of_ble_eq_true rfl) hfree
  · rw [cx] at hres
    replace hres := omS hres
    rw [cx] at hok
    replace hok := opS hok
    have hS := hS9.mono hE
    have hV := hkp _ hV
    have hP := hkp _ hP
    refine lv_pop hx hb (dd_of dX11_setLand_0 3 rfl) rfl ?_
    refine lv_aload_n hx hb (dd_of dX11_setLand_0 4 rfl) rfl (lv_at hl 0 rfl) ?_
    refine lv_iload_n hx hb (dd_of dX11_setLand_0 5 rfl) rfl (lv_at hl 2 rfl) ?_
    refine lv_iconst (v := 0) hx hb (dd_of dX11_setLand_0 6 rfl) (by decide) ?_
    refine lv_bipush (v := 20) hx hb (dd_of dX11_setLand_0 7 rfl) (by decide) ?_
    refine xc_v (g := (gX11_needRange p2 0 20)) (As := [.int p2, .int 0, .int 20]) (rest := []) (w := ([] : va_W)) (D := D) (yy := yy) ⟨hx, hb, hml, hown, hts⟩ (qX11_needRange l hl9 D yy h0 H.size p2 0 20) (cwV 3 hts (jgV gw183 gw184 gw185 gw2 gw186) rfl rfl rfl (by decide +kernel) ⟨Nat.le_of_ble_eq_true rfl, Nat.le_of_ble_eq_true rfl⟩) (fun k q h => by simp at h) hK hT hS hA hS9 (va_recv hK hV (ci := 11) (q0 := 0) rfl rfl) rfl hl.1 rfl (Nat.le_of_ble_eq_true rfl) (dd_of dX11_setLand_0 8 rfl) ⟨Nat.le_of_ble_eq_true rfl, Nat.le_of_ble_eq_true rfl⟩ (fun E9 ce9 qx9 H locs cx ex hS9 z1 z2 z3 => ?_) (fun H locs cx hkp hS9 => ?_)
    · replace hres := ifN cx (bvE rfl hres)
      subst hQ
      exact xout (px := True) (B := (fun E => RES.1 ≠ 0 ∧ E = xN RES.1)) htab hlk hS9 z1 z2 z3 trivial (by rw [← hres]; exact ⟨cx, ex⟩) (Nat.le_of_ble_eq_true rfl) (Nat.le_of_ble_eq_true rfl) hfree
    · replace hres := ifE cx (bvE rfl hres)
      replace hok := bvO rfl hok
      replace hok := hok cx
      have hS := hS9.mono hE
      have hV := hkp _ hV
      have hP := hkp _ hP
      refine lv_aload_n hx hb (dd_of dX11_setLand_0 9 rfl) rfl (lv_at hl 0 rfl) ?_
      refine lv_iload_n hx hb (dd_of dX11_setLand_0 10 rfl) rfl (lv_at hl 3 rfl) ?_
      refine lv_iconst (v := 0) hx hb (dd_of dX11_setLand_0 11 rfl) (by decide) ?_
      refine lv_sipush (v := 9999) hx hb (dd_of dX11_setLand_0 12 rfl) (by decide) ?_
      refine xc_v (g := (gX11_needRange p3 0 9999)) (As := [.int p3, .int 0, .int 9999]) (rest := []) (w := ([] : va_W)) (D := D) (yy := yy) ⟨hx, hb, hml, hown, hts⟩ (qX11_needRange l hl9 D yy h0 H.size p3 0 9999) (cwV 3 hts (jgV gw183 gw184 gw185 gw2 gw186) rfl rfl rfl (by decide +kernel) ⟨Nat.le_of_ble_eq_true rfl, Nat.le_of_ble_eq_true rfl⟩) (fun k q h => by simp at h) hK hT hS hA hS9 (va_recv hK hV (ci := 11) (q0 := 0) rfl rfl) rfl hl.1 rfl (Nat.le_of_ble_eq_true rfl) (dd_of dX11_setLand_0 13 rfl) ⟨Nat.le_of_ble_eq_true rfl, Nat.le_of_ble_eq_true rfl⟩ (fun E9 ce9 qx9 H locs cx ex hS9 z1 z2 z3 => ?_) (fun H locs cx hkp hS9 => ?_)
      · replace hres := ifN cx (bvE rfl hres)
        subst hQ
        exact xout (px := True) (B := (fun E => RES.1 ≠ 0 ∧ E = xN RES.1)) htab hlk hS9 z1 z2 z3 trivial (by rw [← hres]; exact ⟨cx, ex⟩) (Nat.le_of_ble_eq_true rfl) (Nat.le_of_ble_eq_true rfl) hfree
      · replace hres := ifE cx (bvE rfl hres)
        replace hok := bvO rfl hok
        replace hok := hok cx
        have hS := hS9.mono hE
        have hV := hkp _ hV
        have hP := hkp _ hP
        refine lv_aload_n hx hb (dd_of dX11_setLand_0 14 rfl) rfl (lv_at hl 0 rfl) ?_
        refine lv_iload hx hb (dd_of dX11_setLand_0 15 rfl) (lv_at hl 4 rfl) ?_
        refine lv_iconst (v := 0) hx hb (dd_of dX11_setLand_0 16 rfl) (by decide) ?_
        refine lv_bipush (v := 99) hx hb (dd_of dX11_setLand_0 17 rfl) (by decide) ?_
        refine xc_v (g := (gX11_needRange p4 0 99)) (As := [.int p4, .int 0, .int 99]) (rest := []) (w := ([] : va_W)) (D := D) (yy := yy) ⟨hx, hb, hml, hown, hts⟩ (qX11_needRange l hl9 D yy h0 H.size p4 0 99) (cwV 3 hts (jgV gw183 gw184 gw185 gw2 gw186) rfl rfl rfl (by decide +kernel) ⟨Nat.le_of_ble_eq_true rfl, Nat.le_of_ble_eq_true rfl⟩) (fun k q h => by simp at h) hK hT hS hA hS9 (va_recv hK hV (ci := 11) (q0 := 0) rfl rfl) rfl hl.1 rfl (Nat.le_of_ble_eq_true rfl) (dd_of dX11_setLand_0 18 rfl) ⟨Nat.le_of_ble_eq_true rfl, Nat.le_of_ble_eq_true rfl⟩ (fun E9 ce9 qx9 H locs cx ex hS9 z1 z2 z3 => ?_) (fun H locs cx hkp hS9 => ?_)
        · replace hres := ifN cx (bvE rfl hres)
          subst hQ
          exact xout (px := True) (B := (fun E => RES.1 ≠ 0 ∧ E = xN RES.1)) htab hlk hS9 z1 z2 z3 trivial (by rw [← hres]; exact ⟨cx, ex⟩) (Nat.le_of_ble_eq_true rfl) (Nat.le_of_ble_eq_true rfl) hfree
        · replace hres := ifE cx (bvE rfl hres)
          replace hok := bvO rfl hok
          replace hok := hok cx
          have hS := hS9.mono hE
          have hV := hkp _ hV
          have hP := hkp _ hP
          refine lv_aload_n hx hb (dd_of dX11_setLand_0 19 rfl) rfl (lv_at hl 0 rfl) ?_
          refine va_get (D := D) (cl := vwCl) (tys := jT yy) (ci := 11) (v := .ref (B 0)) (C := RX11) (T := TX11) (N := 5) hx hb hts (fun w h => List.mem_cons_of_mem _ (inlX11 w h)) hown hK hV 0 rfl rfl 0 (by decide) (jw hts gw16) (fun _ h9 => h9) rfl (dd_of dX11_setLand_0 20 rfl) ?_
          refine lv_aload_n hx hb (dd_of dX11_setLand_0 21 rfl) rfl (lv_at hl 0 rfl) ?_
          refine va_get (D := D) (cl := vwCl) (tys := jT yy) (ci := 11) (v := .ref an) (C := RX11) (T := TX11) (N := 5) hx hb hts (fun w h => List.mem_cons_of_mem _ (inlX11 w h)) hown hK hV 0 rfl rfl 1 (by decide) (jw hts gw18) (fun _ h9 => h9) rfl (dd_of dX11_setLand_0 22 rfl) ?_
          refine lv_aload_n hx hb (dd_of dX11_setLand_0 23 rfl) rfl (lv_at hl 0 rfl) ?_
          refine lv_iconst (v := 1) hx hb (dd_of dX11_setLand_0 24 rfl) (by decide) ?_
          refine lv_iload_n hx hb (dd_of dX11_setLand_0 25 rfl) rfl (lv_at hl 1 rfl) ?_
          refine lv_iload_n hx hb (dd_of dX11_setLand_0 26 rfl) rfl (lv_at hl 2 rfl) ?_
          refine lv_iload_n hx hb (dd_of dX11_setLand_0 27 rfl) rfl (lv_at hl 3 rfl) ?_
          refine lv_iload hx hb (dd_of dX11_setLand_0 28 rfl) (lv_at hl 4 rfl) ?_
          refine lv_iconst (v := 0) hx hb (dd_of dX11_setLand_0 29 rfl) (by decide) ?_
          have hk9 := hok.1
          replace hok := hok.2
          refine jz_i (As := [.int 1, .int p1, .int p2, .int p3, .int p4, .int 0]) (rest := [.ref an, .ref (B 0)]) (D := D) (yy := yy) (h0 := h0) (an := an) (B := B) (B2 := B2) (F := F) (G := G) (F2 := F2) (G2 := G2) (M := M) ⟨hx, hb, hml, hown, hts⟩ (qX11_note l D yy h0 an (B 0) (B2 0) M (fun _ _ => 0) H.size 1 p1 p2 p3 p4 0 hk9) (cwV 6 hts (jgV gw195 gw196 gw197 gw2 gw198) rfl rfl rfl (by decide +kernel) ⟨Nat.le_of_ble_eq_true rfl, Nat.le_of_ble_eq_true rfl⟩) hV hK hD hS hA (va_recv hK hV (ci := 11) (q0 := 0) rfl rfl) rfl hl.1 rfl (Nat.le_of_ble_eq_true rfl) (dd_of dX11_setLand_0 30 rfl) ⟨Nat.le_of_ble_eq_true rfl, Nat.le_of_ble_eq_true rfl⟩ (fun x7 M5 G6 H locs w8 hV hD hS => ?_)
          have hP := pV_P hV
          replace hres := brE w8 hres
          replace hok := brO w8 hok
          have hk9 := hok
          refine jz_l (As := [.ref an, .int x7]) (rest := []) (D := D) (yy := yy) (h0 := h0) (an := an) (B := B) (B2 := B2) (F := F) (G := G) (F2 := F2) (G2 := G2) (M := M5) ⟨hx, hb, hml, hown, hts⟩ (qX5_act l D yy B F G H.size an (M5 82) x7 hk9) (fun _ _ h => h.2 0 (by omega)) (cwV 2 hts (jgV gw200 gw201 gw202 gw15 gw203) rfl rfl rfl (by decide +kernel) ⟨Nat.le_of_ble_eq_true rfl, Nat.le_of_ble_eq_true rfl⟩) hV hK hD hS hA (va_recv hK hP (ci := 5) (q0 := 0) rfl rfl) rfl hl.1 rfl (Nat.le_of_ble_eq_true rfl) (dd_of dX11_setLand_0 31 rfl) ⟨Nat.le_of_ble_eq_true rfl, Nat.le_of_ble_eq_true rfl⟩ (fun x11 B1 F9 G10 H locs w12 hV hD hS => ?_)
          obtain ⟨w12, hB1⟩ := w12
          have hB1 : ∀ k, k < 100 → B1 k = B k := hB1
          have w12 : (x11, (F9, G10)) = gX5_act F G (M5 82) x7 := w12
          replace hres := brE w12 hres
          refine lv_pop2_2 hx hb (dd_of dX11_setLand_0 32 rfl) rfl ?_
          subst hQ
          refine vx_ret (W.widen (k := 9) (n := 64) (Nat.le_of_ble_eq_true rfl) (Nat.le_of_ble_eq_true rfl) ?_)
          exact W.vret hx hb hr (fun t ht hW => ⟨⟨((B1, (F9, G10)), M5), rfl, ⟨hres.symm, hB1⟩, by rw [ht]; exact hV, va_K.moved hW.alike hK, hD⟩, hS.F ht⟩) hS.2.2 (dd_of dX11_setLand_0 33 rfl) hlk
set_option maxHeartbeats 4000000 in
set_option maxRecDepth 100000 in
theorem qX11_pour (l : Launch) (hl9 : l.stackTraces = false) (D : va_G) (yy : Nat → ClassId) (h0 an : Nat) (B B2 : Nat → Nat) (F : jF) (G : jG) (F2 : jF) (G2 : jG) (M : jF) (sz : Nat) (p1 : Int32) (p2 : Int32) (hok : okX11_pour F G M p1 p2) : vx_Met l yX11_pour (Cond.code yX11_pour cX11_pour 3 (some .long) :: wsL_law) rmX11_pour (va_Pc [.ref h0, .int p1, .int p2] (jX D yy (pV yy h0 an B B2 F G F2 G2 M) sz)) (va_Ql (fun r (u : ((Nat → Nat) × jS) × jF) => gX11_pour F G M p1 p2 = (0, (r, (u.1.2, u.2))) ∧ ∀ k, k < 100 → u.1.1 k = B k) (fun u t => jB D yy (va_A (pV yy h0 an B B2 F G F2 G2 M) sz) (pV yy h0 an u.1.1 B2 u.1.2.1 u.1.2.2 F2 G2 u.2) t) (va_A (pV yy h0 an B B2 F G F2 G2 M) sz)) (vx_X (fun _ : Unit => True) (fun E _ _ => (gX11_pour F G M p1 p2).1 ≠ 0 ∧ E = xN (gX11_pour F G M p1 p2).1) (jE sz)) 9 64 (va_A (pV yy h0 an B B2 F G F2 G2 M) sz) := by
  generalize hres : gX11_pour F G M p1 p2 = RES
  refine jMX (vs := [.ref h0, .int p1, .int p2]) (own := RX11) (by decide +kernel) rfl (Nat.le_of_ble_eq_true rfl) ?_
  intro p e s m args below meth c ls Q hQ hargs S hr hlk htab hB hl
  obtain ⟨hx, hb, hml, hown, hts⟩ := S
  have hl : lv_has ls 3 [(0, .ref h0), (1, .int p1), (2, .int p2)] := hl

  obtain ⟨⟨hsz, hV, hK, hD0⟩, hT⟩ := hB
  subst hsz
  have hD := hD0.self (sz := s.heap.size)
  have hE : ∀ q, jE s.heap.size q → va_A (pV yy h0 an B B2 F G F2 G2 M) s.heap.size q := fun q h => Or.inr h
  generalize hZ : va_A (pV yy h0 an B B2 F G F2 G2 M) s.heap.size = Z at hD hQ hT hE
  have hA : ∀ q : Nat, s.heap.size ≤ q → Z q := fun q h => by rw [← hZ]; exact Or.inr h
  have hfree : ∀ q, jE s.heap.size q → Z q := hE
  obtain ⟨H, hH⟩ : ∃ z, z = s.heap := ⟨_, rfl⟩
  obtain ⟨locs, hlocs⟩ : ∃ z : List Loc, z = [] := ⟨_, rfl⟩
  have hS9 : va_S (jE s.heap.size) s.heap H locs := by rw [hH, hlocs]; exact va_S.rf
  have hS := hS9.mono hE
  rw [← hH] at hV
  have hP : va_P D vwCl (lW yy B F G) H := pV_P hV
  suffices hgo : W p l e rmX11_pour s m args below meth c H locs 0 0 Q (F0 m 0 ls []) by rw [hH, hlocs] at hgo; exact hgo
  unfold gX11_pour at hres
  unfold okX11_pour at hok
  refine lv_aload_n hx hb (dd_of dX11_pour_0 0 rfl) rfl (lv_at hl 0 rfl) ?_
  refine lv_iload_n hx hb (dd_of dX11_pour_0 1 rfl) rfl (lv_at hl 1 rfl) ?_
  have hk9 := hok.1
  replace hok := hok.2
  refine xc_q (B := B) (off := 100) (g := (gX11_needBasin F G p1)) (As := [.int p1]) (rest := []) (w := (pV yy h0 an B B2 F G F2 G2 M)) (D := D) (yy := yy) ⟨hx, hb, hml, hown, hts⟩ (qX11_needBasin l hl9 D yy h0 an B B2 F G F2 G2 M H.size p1 hk9) (cwV 1 hts (jgV gw606 gw607 gw608 gw2 gw609) rfl rfl rfl (by decide +kernel) ⟨Nat.le_of_ble_eq_true rfl, Nat.le_of_ble_eq_true rfl⟩) hV hK hT hS hA hS9 (va_recv hK hV (ci := 11) (q0 := 0) rfl rfl) rfl hl.1 rfl (Nat.le_of_ble_eq_true rfl) (dd_of dX11_pour_0 2 rfl) ⟨Nat.le_of_ble_eq_true rfl, Nat.le_of_ble_eq_true rfl⟩ (fun E9 ce9 qx9 H locs cx ex hS9 z1 z2 z3 => ?_) (fun k1 H locs cx hkp hS9 => ?_)
  · rw [cx] at hres
    replace hres := omN hres
    subst hQ
    exact xout (px := True) (B := (fun E => RES.1 ≠ 0 ∧ E = xN RES.1)) htab hlk hS9 z1 z2 z3 trivial (by rw [← hres]; exact ⟨Nat.one_ne_zero, ex⟩) (Nat.le_of_ble_eq_true rfl) (Nat.le_of_ble_eq_true rfl) hfree
  · rw [cx] at hres
    replace hres := omS hres
    rw [cx] at hok
    replace hok := opS hok
    have hS := hS9.mono hE
    have hV := hkp _ hV
    have hP := hkp _ hP
    refine lv_pop hx hb (dd_of dX11_pour_0 3 rfl) rfl ?_
    refine lv_aload_n hx hb (dd_of dX11_pour_0 4 rfl) rfl (lv_at hl 0 rfl) ?_
    refine lv_iload_n hx hb (dd_of dX11_pour_0 5 rfl) rfl (lv_at hl 2 rfl) ?_
    refine lv_iconst (v := 0) hx hb (dd_of dX11_pour_0 6 rfl) (by decide) ?_
    refine lv_ldc (v := 1000000) hx hb hown (jw hts gw628) (dd_of dX11_pour_0 7 rfl) ?_
    refine xc_v (g := (gX11_needRange p2 0 1000000)) (As := [.int p2, .int 0, .int 1000000]) (rest := []) (w := ([] : va_W)) (D := D) (yy := yy) ⟨hx, hb, hml, hown, hts⟩ (qX11_needRange l hl9 D yy h0 H.size p2 0 1000000) (cwV 3 hts (jgV gw183 gw184 gw185 gw2 gw186) rfl rfl rfl (by decide +kernel) ⟨Nat.le_of_ble_eq_true rfl, Nat.le_of_ble_eq_true rfl⟩) (fun k q h => by simp at h) hK hT hS hA hS9 (va_recv hK hV (ci := 11) (q0 := 0) rfl rfl) rfl hl.1 rfl (Nat.le_of_ble_eq_true rfl) (dd_of dX11_pour_0 8 rfl) ⟨Nat.le_of_ble_eq_true rfl, Nat.le_of_ble_eq_true rfl⟩ (fun E9 ce9 qx9 H locs cx ex hS9 z1 z2 z3 => ?_) (fun H locs cx hkp hS9 => ?_)
    · replace hres := ifN cx (bvE rfl hres)
      subst hQ
      exact xout (px := True) (B := (fun E => RES.1 ≠ 0 ∧ E = xN RES.1)) htab hlk hS9 z1 z2 z3 trivial (by rw [← hres]; exact ⟨cx, ex⟩) (Nat.le_of_ble_eq_true rfl) (Nat.le_of_ble_eq_true rfl) hfree
    · replace hres := ifE cx (bvE rfl hres)
      replace hok := bvO rfl hok
      replace hok := hok cx
      have hS := hS9.mono hE
      have hV := hkp _ hV
      have hP := hkp _ hP
      refine lv_aload_n hx hb (dd_of dX11_pour_0 9 rfl) rfl (lv_at hl 0 rfl) ?_
      refine va_get (D := D) (cl := vwCl) (tys := jT yy) (ci := 11) (v := .ref (B 0)) (C := RX11) (T := TX11) (N := 5) hx hb hts (fun w h => List.mem_cons_of_mem _ (inlX11 w h)) hown hK hV 0 rfl rfl 0 (by decide) (jw hts gw16) (fun _ h9 => h9) rfl (dd_of dX11_pour_0 10 rfl) ?_
      refine lv_aload_n hx hb (dd_of dX11_pour_0 11 rfl) rfl (lv_at hl 0 rfl) ?_
      refine va_get (D := D) (cl := vwCl) (tys := jT yy) (ci := 11) (v := .ref an) (C := RX11) (T := TX11) (N := 5) hx hb hts (fun w h => List.mem_cons_of_mem _ (inlX11 w h)) hown hK hV 0 rfl rfl 1 (by decide) (jw hts gw18) (fun _ h9 => h9) rfl (dd_of dX11_pour_0 12 rfl) ?_
      refine lv_aload_n hx hb (dd_of dX11_pour_0 13 rfl) rfl (lv_at hl 0 rfl) ?_
      refine lv_iconst (v := 2) hx hb (dd_of dX11_pour_0 14 rfl) (by decide) ?_
      refine lv_iload_n hx hb (dd_of dX11_pour_0 15 rfl) rfl (lv_at hl 1 rfl) ?_
      refine lv_iload_n hx hb (dd_of dX11_pour_0 16 rfl) rfl (lv_at hl 2 rfl) ?_
      refine lv_iconst (v := 0) hx hb (dd_of dX11_pour_0 17 rfl) (by decide) ?_
      refine lv_iconst (v := 0) hx hb (dd_of dX11_pour_0 18 rfl) (by decide) ?_
      refine lv_iconst (v := 0) hx hb (dd_of dX11_pour_0 19 rfl) (by decide) ?_
      have hk9 := hok.1
      replace hok := hok.2
      refine jz_i (As := [.int 2, .int p1, .int p2, .int 0, .int 0, .int 0]) (rest := [.ref an, .ref (B 0)]) (D := D) (yy := yy) (h0 := h0) (an := an) (B := B) (B2 := B2) (F := F) (G := G) (F2 := F2) (G2 := G2) (M := M) ⟨hx, hb, hml, hown, hts⟩ (qX11_note l D yy h0 an (B 0) (B2 0) M (fun _ _ => 0) H.size 2 p1 p2 0 0 0 hk9) (cwV 6 hts (jgV gw195 gw196 gw197 gw2 gw198) rfl rfl rfl (by decide +kernel) ⟨Nat.le_of_ble_eq_true rfl, Nat.le_of_ble_eq_true rfl⟩) hV hK hD hS hA (va_recv hK hV (ci := 11) (q0 := 0) rfl rfl) rfl hl.1 rfl (Nat.le_of_ble_eq_true rfl) (dd_of dX11_pour_0 20 rfl) ⟨Nat.le_of_ble_eq_true rfl, Nat.le_of_ble_eq_true rfl⟩ (fun x5 M3 G4 H locs w6 hV hD hS => ?_)
      have hP := pV_P hV
      replace hres := brE w6 hres
      replace hok := brO w6 hok
      have hk9 := hok
      refine jz_l (As := [.ref an, .int x5]) (rest := []) (D := D) (yy := yy) (h0 := h0) (an := an) (B := B) (B2 := B2) (F := F) (G := G) (F2 := F2) (G2 := G2) (M := M3) ⟨hx, hb, hml, hown, hts⟩ (qX5_act l D yy B F G H.size an (M3 82) x5 hk9) (fun _ _ h => h.2 0 (by omega)) (cwV 2 hts (jgV gw200 gw201 gw202 gw15 gw203) rfl rfl rfl (by decide +kernel) ⟨Nat.le_of_ble_eq_true rfl, Nat.le_of_ble_eq_true rfl⟩) hV hK hD hS hA (va_recv hK hP (ci := 5) (q0 := 0) rfl rfl) rfl hl.1 rfl (Nat.le_of_ble_eq_true rfl) (dd_of dX11_pour_0 21 rfl) ⟨Nat.le_of_ble_eq_true rfl, Nat.le_of_ble_eq_true rfl⟩ (fun x9 B1 F7 G8 H locs w10 hV hD hS => ?_)
      obtain ⟨w10, hB1⟩ := w10
      have hB1 : ∀ k, k < 100 → B1 k = B k := hB1
      have w10 : (x9, (F7, G8)) = gX5_act F G (M3 82) x5 := w10
      replace hres := brE w10 hres
      subst hQ
      refine vx_ret (W.widen (k := 9) (n := 64) (Nat.le_of_ble_eq_true rfl) (Nat.le_of_ble_eq_true rfl) ?_)
      exact W.lret (v := x9) hx hb hr (fun t ht hW => ⟨⟨x9, ((B1, (F7, G8)), M3), rfl, ⟨hres.symm, hB1⟩, by rw [ht]; exact hV, va_K.moved hW.alike hK, hD⟩, hS.F ht⟩) hS.2.2 (dd_of dX11_pour_0 22 rfl) hlk
set_option maxHeartbeats 4000000 in
set_option maxRecDepth 100000 in
theorem qX11_road (l : Launch) (hl9 : l.stackTraces = false) (D : va_G) (yy : Nat → ClassId) (h0 an : Nat) (B B2 : Nat → Nat) (F : jF) (G : jG) (F2 : jF) (G2 : jG) (M : jF) (sz : Nat) (p1 : Int32) (p2 : Int32) (p3 : Int32) (hok : okX11_road F G M p1 p2 p3) : vx_Met l yX11_road (Cond.code yX11_road cX11_road 4 (some .boolean) :: wsL_law) rmX11_road (va_Pc [.ref h0, .int p1, .int p2, .int p3] (jX D yy (pV yy h0 an B B2 F G F2 G2 M) sz)) (va_Qi (fun r (u : ((Nat → Nat) × jS) × jF) => gX11_road F G M p1 p2 p3 = (0, (r, (u.1.2, u.2))) ∧ ∀ k, k < 100 → u.1.1 k = B k) (fun u t => jB D yy (va_A (pV yy h0 an B B2 F G F2 G2 M) sz) (pV yy h0 an u.1.1 B2 u.1.2.1 u.1.2.2 F2 G2 u.2) t) (va_A (pV yy h0 an B B2 F G F2 G2 M) sz)) (vx_X (fun _ : Unit => True) (fun E _ _ => (gX11_road F G M p1 p2 p3).1 ≠ 0 ∧ E = xN (gX11_road F G M p1 p2 p3).1) (jE sz)) 9 64 (va_A (pV yy h0 an B B2 F G F2 G2 M) sz) := by
  generalize hres : gX11_road F G M p1 p2 p3 = RES
  refine jMX (vs := [.ref h0, .int p1, .int p2, .int p3]) (own := RX11) (by decide +kernel) rfl (Nat.le_of_ble_eq_true rfl) ?_
  intro p e s m args below meth c ls Q hQ hargs S hr hlk htab hB hl
  obtain ⟨hx, hb, hml, hown, hts⟩ := S
  have hl : lv_has ls 4 [(0, .ref h0), (1, .int p1), (2, .int p2), (3, .int p3)] := hl

  obtain ⟨⟨hsz, hV, hK, hD0⟩, hT⟩ := hB
  subst hsz
  have hD := hD0.self (sz := s.heap.size)
  have hE : ∀ q, jE s.heap.size q → va_A (pV yy h0 an B B2 F G F2 G2 M) s.heap.size q := fun q h => Or.inr h
  generalize hZ : va_A (pV yy h0 an B B2 F G F2 G2 M) s.heap.size = Z at hD hQ hT hE
  have hA : ∀ q : Nat, s.heap.size ≤ q → Z q := fun q h => by rw [← hZ]; exact Or.inr h
  have hfree : ∀ q, jE s.heap.size q → Z q := hE
  obtain ⟨H, hH⟩ : ∃ z, z = s.heap := ⟨_, rfl⟩
  obtain ⟨locs, hlocs⟩ : ∃ z : List Loc, z = [] := ⟨_, rfl⟩
  have hS9 : va_S (jE s.heap.size) s.heap H locs := by rw [hH, hlocs]; exact va_S.rf
  have hS := hS9.mono hE
  rw [← hH] at hV
  have hP : va_P D vwCl (lW yy B F G) H := pV_P hV
  suffices hgo : W p l e rmX11_road s m args below meth c H locs 0 0 Q (F0 m 0 ls []) by rw [hH, hlocs] at hgo; exact hgo
  unfold gX11_road at hres
  unfold okX11_road at hok
  refine lv_aload_n hx hb (dd_of dX11_road_0 0 rfl) rfl (lv_at hl 0 rfl) ?_
  refine lv_iload_n hx hb (dd_of dX11_road_0 1 rfl) rfl (lv_at hl 1 rfl) ?_
  have hk9 := hok.1
  replace hok := hok.2
  refine xc_q (B := B) (off := 100) (g := (gX11_needBasin F G p1)) (As := [.int p1]) (rest := []) (w := (pV yy h0 an B B2 F G F2 G2 M)) (D := D) (yy := yy) ⟨hx, hb, hml, hown, hts⟩ (qX11_needBasin l hl9 D yy h0 an B B2 F G F2 G2 M H.size p1 hk9) (cwV 1 hts (jgV gw606 gw607 gw608 gw2 gw609) rfl rfl rfl (by decide +kernel) ⟨Nat.le_of_ble_eq_true rfl, Nat.le_of_ble_eq_true rfl⟩) hV hK hT hS hA hS9 (va_recv hK hV (ci := 11) (q0 := 0) rfl rfl) rfl hl.1 rfl (Nat.le_of_ble_eq_true rfl) (dd_of dX11_road_0 2 rfl) ⟨Nat.le_of_ble_eq_true rfl, Nat.le_of_ble_eq_true rfl⟩ (fun E9 ce9 qx9 H locs cx ex hS9 z1 z2 z3 => ?_) (fun k1 H locs cx hkp hS9 => ?_)
  · rw [cx] at hres
    replace hres := omN hres
    subst hQ
    exact xout (px := True) (B := (fun E => RES.1 ≠ 0 ∧ E = xN RES.1)) htab hlk hS9 z1 z2 z3 trivial (by rw [← hres]; exact ⟨Nat.one_ne_zero, ex⟩) (Nat.le_of_ble_eq_true rfl) (Nat.le_of_ble_eq_true rfl) hfree
  · rw [cx] at hres
    replace hres := omS hres
    rw [cx] at hok
    replace hok := opS hok
    have hS := hS9.mono hE
    have hV := hkp _ hV
    have hP := hkp _ hP
    refine lv_pop hx hb (dd_of dX11_road_0 3 rfl) rfl ?_
    refine lv_aload_n hx hb (dd_of dX11_road_0 4 rfl) rfl (lv_at hl 0 rfl) ?_
    refine lv_iload_n hx hb (dd_of dX11_road_0 5 rfl) rfl (lv_at hl 2 rfl) ?_
    have hk9 := hok.1
    replace hok := hok.2
    refine xc_q (B := B) (off := 100) (g := (gX11_needBasin F G p2)) (As := [.int p2]) (rest := []) (w := (pV yy h0 an B B2 F G F2 G2 M)) (D := D) (yy := yy) ⟨hx, hb, hml, hown, hts⟩ (qX11_needBasin l hl9 D yy h0 an B B2 F G F2 G2 M H.size p2 hk9) (cwV 1 hts (jgV gw606 gw607 gw608 gw2 gw609) rfl rfl rfl (by decide +kernel) ⟨Nat.le_of_ble_eq_true rfl, Nat.le_of_ble_eq_true rfl⟩) hV hK hT hS hA hS9 (va_recv hK hV (ci := 11) (q0 := 0) rfl rfl) rfl hl.1 rfl (Nat.le_of_ble_eq_true rfl) (dd_of dX11_road_0 6 rfl) ⟨Nat.le_of_ble_eq_true rfl, Nat.le_of_ble_eq_true rfl⟩ (fun E9 ce9 qx9 H locs cx ex hS9 z1 z2 z3 => ?_) (fun k2 H locs cx hkp hS9 => ?_)
    · rw [cx] at hres
      replace hres := omN hres
      subst hQ
      exact xout (px := True) (B := (fun E => RES.1 ≠ 0 ∧ E = xN RES.1)) htab hlk hS9 z1 z2 z3 trivial (by rw [← hres]; exact ⟨Nat.one_ne_zero, ex⟩) (Nat.le_of_ble_eq_true rfl) (Nat.le_of_ble_eq_true rfl) hfree
    · rw [cx] at hres
      replace hres := omS hres
      rw [cx] at hok
      replace hok := opS hok
      have hS := hS9.mono hE
      have hV := hkp _ hV
      have hP := hkp _ hP
      refine lv_pop hx hb (dd_of dX11_road_0 7 rfl) rfl ?_
      refine lv_aload_n hx hb (dd_of dX11_road_0 8 rfl) rfl (lv_at hl 0 rfl) ?_
      refine lv_iload_n hx hb (dd_of dX11_road_0 9 rfl) rfl (lv_at hl 1 rfl) ?_
      refine lv_iload_n hx hb (dd_of dX11_road_0 10 rfl) rfl (lv_at hl 2 rfl) ?_
      refine xc_v (g := (gX11_needDifferent p1 p2)) (As := [.int p1, .int p2]) (rest := []) (w := ([] : va_W)) (D := D) (yy := yy) ⟨hx, hb, hml, hown, hts⟩ (qX11_needDifferent l hl9 D yy h0 H.size p1 p2) (cwV 2 hts (jgV gw641 gw642 gw643 gw2 gw644) rfl rfl rfl (by decide +kernel) ⟨Nat.le_of_ble_eq_true rfl, Nat.le_of_ble_eq_true rfl⟩) (fun k q h => by simp at h) hK hT hS hA hS9 (va_recv hK hV (ci := 11) (q0 := 0) rfl rfl) rfl hl.1 rfl (Nat.le_of_ble_eq_true rfl) (dd_of dX11_road_0 11 rfl) ⟨Nat.le_of_ble_eq_true rfl, Nat.le_of_ble_eq_true rfl⟩ (fun E9 ce9 qx9 H locs cx ex hS9 z1 z2 z3 => ?_) (fun H locs cx hkp hS9 => ?_)
      · replace hres := ifN cx (bvE rfl hres)
        subst hQ
        exact xout (px := True) (B := (fun E => RES.1 ≠ 0 ∧ E = xN RES.1)) htab hlk hS9 z1 z2 z3 trivial (by rw [← hres]; exact ⟨cx, ex⟩) (Nat.le_of_ble_eq_true rfl) (Nat.le_of_ble_eq_true rfl) hfree
      · replace hres := ifE cx (bvE rfl hres)
        replace hok := bvO rfl hok
        replace hok := hok cx
        have hS := hS9.mono hE
        have hV := hkp _ hV
        have hP := hkp _ hP
        refine lv_aload_n hx hb (dd_of dX11_road_0 12 rfl) rfl (lv_at hl 0 rfl) ?_
        refine va_get (D := D) (cl := vwCl) (tys := jT yy) (ci := 11) (v := .ref (B 0)) (C := RX11) (T := TX11) (N := 5) hx hb hts (fun w h => List.mem_cons_of_mem _ (inlX11 w h)) hown hK hV 0 rfl rfl 0 (by decide) (jw hts gw16) (fun _ h9 => h9) rfl (dd_of dX11_road_0 13 rfl) ?_
        refine lv_aload_n hx hb (dd_of dX11_road_0 14 rfl) rfl (lv_at hl 0 rfl) ?_
        refine va_get (D := D) (cl := vwCl) (tys := jT yy) (ci := 11) (v := .ref an) (C := RX11) (T := TX11) (N := 5) hx hb hts (fun w h => List.mem_cons_of_mem _ (inlX11 w h)) hown hK hV 0 rfl rfl 1 (by decide) (jw hts gw18) (fun _ h9 => h9) rfl (dd_of dX11_road_0 15 rfl) ?_
        refine lv_aload_n hx hb (dd_of dX11_road_0 16 rfl) rfl (lv_at hl 0 rfl) ?_
        refine lv_iconst (v := 3) hx hb (dd_of dX11_road_0 17 rfl) (by decide) ?_
        refine lv_iload_n hx hb (dd_of dX11_road_0 18 rfl) rfl (lv_at hl 1 rfl) ?_
        refine lv_iload_n hx hb (dd_of dX11_road_0 19 rfl) rfl (lv_at hl 2 rfl) ?_
        refine lv_iload_n hx hb (dd_of dX11_road_0 20 rfl) rfl (lv_at hl 3 rfl) ?_
        obtain ⟨z16, q15⟩ : ∃ z : Int32, (if p3 = 0 then 0 else 1) = z := ⟨_, rfl⟩
        refine jn_i (ls := ls) (v := z16) 39 [.int p2, .int p1, .int 3, .ref h0, .ref an, .ref (B 0)] (fun v5 ev5 => ?_) (fun K17 => ?_)
        · replace hres := bvE (ev5.trans q15.symm) hres
          replace hok := bvO (ev5.trans q15.symm) hok
          refine lv_iconst (v := 0) hx hb (dd_of dX11_road_0 25 rfl) (by decide) ?_
          refine lv_iconst (v := 0) hx hb (dd_of dX11_road_0 26 rfl) (by decide) ?_
          have hk9 := hok.1
          replace hok := hok.2
          refine jz_i (As := [.int 3, .int p1, .int p2, .int v5, .int 0, .int 0]) (rest := [.ref an, .ref (B 0)]) (D := D) (yy := yy) (h0 := h0) (an := an) (B := B) (B2 := B2) (F := F) (G := G) (F2 := F2) (G2 := G2) (M := M) ⟨hx, hb, hml, hown, hts⟩ (qX11_note l D yy h0 an (B 0) (B2 0) M (fun _ _ => 0) H.size 3 p1 p2 v5 0 0 hk9) (cwV 6 hts (jgV gw195 gw196 gw197 gw2 gw198) rfl rfl rfl (by decide +kernel) ⟨Nat.le_of_ble_eq_true rfl, Nat.le_of_ble_eq_true rfl⟩) hV hK hD hS hA (va_recv hK hV (ci := 11) (q0 := 0) rfl rfl) rfl hl.1 rfl (Nat.le_of_ble_eq_true rfl) (dd_of dX11_road_0 27 rfl) ⟨Nat.le_of_ble_eq_true rfl, Nat.le_of_ble_eq_true rfl⟩ (fun x8 M6 G7 H locs w9 hV hD hS => ?_)
          have hP := pV_P hV
          replace hres := brE w9 hres
          replace hok := brO w9 hok
          have hk9 := hok
          refine jz_l (As := [.ref an, .int x8]) (rest := []) (D := D) (yy := yy) (h0 := h0) (an := an) (B := B) (B2 := B2) (F := F) (G := G) (F2 := F2) (G2 := G2) (M := M6) ⟨hx, hb, hml, hown, hts⟩ (qX5_act l D yy B F G H.size an (M6 82) x8 hk9) (fun _ _ h => h.2 0 (by omega)) (cwV 2 hts (jgV gw200 gw201 gw202 gw15 gw203) rfl rfl rfl (by decide +kernel) ⟨Nat.le_of_ble_eq_true rfl, Nat.le_of_ble_eq_true rfl⟩) hV hK hD hS hA (va_recv hK hP (ci := 5) (q0 := 0) rfl rfl) rfl hl.1 rfl (Nat.le_of_ble_eq_true rfl) (dd_of dX11_road_0 28 rfl) ⟨Nat.le_of_ble_eq_true rfl, Nat.le_of_ble_eq_true rfl⟩ (fun x12 B1 F10 G11 H locs w13 hV hD hS => ?_)
          obtain ⟨w13, hB1⟩ := w13
          have hB1 : ∀ k, k < 100 → B1 k = B k := hB1
          have w13 : (x12, (F10, G11)) = gX5_act F G (M6 82) x8 := w13
          replace hres := brE w13 hres
          refine lv_lconst (v := 0) hx hb (dd_of dX11_road_0 29 rfl) (by decide) ?_
          refine jl_eq (tgt := 56) hx hb (dd_of dX11_road_0 30 rfl) (dd_of dX11_road_0 31 rfl) (by decide) (fun c14 => ?_) (fun c14 => ?_)
          · replace hres := ifE c14 hres
            refine lv_iconst (v := 0) hx hb (dd_of dX11_road_0 34 rfl) (by decide) ?_
            subst hQ
            refine vx_ret (W.widen (k := 9) (n := 64) (Nat.le_of_ble_eq_true rfl) (Nat.le_of_ble_eq_true rfl) ?_)
            exact W.zret (ty := .boolean) (v := 0) hx hb hr (jb_nz (Or.inl rfl)) (fun t ht hW => ⟨⟨0, ((B1, (F10, G11)), M6), rfl, ⟨hres.symm, hB1⟩, by rw [ht]; exact hV, va_K.moved hW.alike hK, hD⟩, hS.F ht⟩) hS.2.2 (dd_of dX11_road_0 35 rfl) hlk
          · replace hres := ifN c14 hres
            refine lv_iconst (v := 1) hx hb (dd_of dX11_road_0 32 rfl) (by decide) ?_
            refine lv_goto (tgt := 57) hx hb (dd_of dX11_road_0 33 rfl) (by decide) ?_
            subst hQ
            refine vx_ret (W.widen (k := 9) (n := 64) (Nat.le_of_ble_eq_true rfl) (Nat.le_of_ble_eq_true rfl) ?_)
            exact W.zret (ty := .boolean) (v := 1) hx hb hr (jb_nz (Or.inr rfl)) (fun t ht hW => ⟨⟨1, ((B1, (F10, G11)), M6), rfl, ⟨hres.symm, hB1⟩, by rw [ht]; exact hV, va_K.moved hW.alike hK, hD⟩, hS.F ht⟩) hS.2.2 (dd_of dX11_road_0 35 rfl) hlk
        · skip
          refine lv_if_eq (tgt := 38) hx hb (dd_of dX11_road_0 21 rfl) (by decide) (fun c4 => ?_) (fun c4 => ?_)
          · replace q15 := ifE c4 q15
            refine lv_iconst (v := 0) hx hb (dd_of dX11_road_0 24 rfl) (by decide) ?_
            exact K17 _ q15
          · replace q15 := ifN c4 q15
            refine lv_iconst (v := 1) hx hb (dd_of dX11_road_0 22 rfl) (by decide) ?_
            refine lv_goto (tgt := 39) hx hb (dd_of dX11_road_0 23 rfl) (by decide) ?_
            exact K17 _ q15
set_option maxHeartbeats 4000000 in
set_option maxRecDepth 100000 in
theorem qX11_addGate (l : Launch) (hl9 : l.stackTraces = false) (D : va_G) (yy : Nat → ClassId) (h0 an : Nat) (B B2 : Nat → Nat) (F : jF) (G : jG) (F2 : jF) (G2 : jG) (M : jF) (sz : Nat) (p1 : Int32) (p2 : Int32) (p3 : Int32) (p4 : Int32) (hok : okX11_addGate F G M p1 p2 p3 p4) : vx_Met l yX11_addGate (Cond.code yX11_addGate cX11_addGate 5 (some .int) :: wsL_law) rmX11_addGate (va_Pc [.ref h0, .int p1, .int p2, .int p3, .int p4] (jX D yy (pV yy h0 an B B2 F G F2 G2 M) sz)) (va_Qi (fun r (u : ((Nat → Nat) × jS) × jF) => gX11_addGate F G M p1 p2 p3 p4 = (0, (r, (u.1.2, u.2))) ∧ ∀ k, k < 100 → u.1.1 k = B k) (fun u t => jB D yy (va_A (pV yy h0 an B B2 F G F2 G2 M) sz) (pV yy h0 an u.1.1 B2 u.1.2.1 u.1.2.2 F2 G2 u.2) t) (va_A (pV yy h0 an B B2 F G F2 G2 M) sz)) (vx_X (fun _ : Unit => True) (fun E _ _ => (gX11_addGate F G M p1 p2 p3 p4).1 ≠ 0 ∧ E = xN (gX11_addGate F G M p1 p2 p3 p4).1) (jE sz)) 9 64 (va_A (pV yy h0 an B B2 F G F2 G2 M) sz) := by
  generalize hres : gX11_addGate F G M p1 p2 p3 p4 = RES
  refine jMX (vs := [.ref h0, .int p1, .int p2, .int p3, .int p4]) (own := RX11) (by decide +kernel) rfl (Nat.le_of_ble_eq_true rfl) ?_
  intro p e s m args below meth c ls Q hQ hargs S hr hlk htab hB hl
  obtain ⟨hx, hb, hml, hown, hts⟩ := S
  have hl : lv_has ls 5 [(0, .ref h0), (1, .int p1), (2, .int p2), (3, .int p3), (4, .int p4)] := hl

  obtain ⟨⟨hsz, hV, hK, hD0⟩, hT⟩ := hB
  subst hsz
  have hD := hD0.self (sz := s.heap.size)
  have hE : ∀ q, jE s.heap.size q → va_A (pV yy h0 an B B2 F G F2 G2 M) s.heap.size q := fun q h => Or.inr h
  generalize hZ : va_A (pV yy h0 an B B2 F G F2 G2 M) s.heap.size = Z at hD hQ hT hE
  have hA : ∀ q : Nat, s.heap.size ≤ q → Z q := fun q h => by rw [← hZ]; exact Or.inr h
  have hfree : ∀ q, jE s.heap.size q → Z q := hE
  obtain ⟨H, hH⟩ : ∃ z, z = s.heap := ⟨_, rfl⟩
  obtain ⟨locs, hlocs⟩ : ∃ z : List Loc, z = [] := ⟨_, rfl⟩
  have hS9 : va_S (jE s.heap.size) s.heap H locs := by rw [hH, hlocs]; exact va_S.rf
  have hS := hS9.mono hE
  rw [← hH] at hV
  have hP : va_P D vwCl (lW yy B F G) H := pV_P hV
  suffices hgo : W p l e rmX11_addGate s m args below meth c H locs 0 0 Q (F0 m 0 ls []) by rw [hH, hlocs] at hgo; exact hgo
  unfold gX11_addGate at hres
  unfold okX11_addGate at hok
  refine lv_aload_n hx hb (dd_of dX11_addGate_0 0 rfl) rfl (lv_at hl 0 rfl) ?_
  refine lv_iload_n hx hb (dd_of dX11_addGate_0 1 rfl) rfl (lv_at hl 1 rfl) ?_
  refine lv_iload_n hx hb (dd_of dX11_addGate_0 2 rfl) rfl (lv_at hl 2 rfl) ?_
  have hk9 := hok.1
  replace hok := hok.2
  refine xc_v (g := (gX11_needWay F G p1 p2)) (As := [.int p1, .int p2]) (rest := []) (w := (pV yy h0 an B B2 F G F2 G2 M)) (D := D) (yy := yy) ⟨hx, hb, hml, hown, hts⟩ (qX11_needWay l hl9 D yy h0 an B B2 F G F2 G2 M H.size p1 p2 hk9) (cwV 2 hts (jgV gw657 gw658 gw659 gw2 gw660) rfl rfl rfl (by decide +kernel) ⟨Nat.le_of_ble_eq_true rfl, Nat.le_of_ble_eq_true rfl⟩) hV hK hT hS hA hS9 (va_recv hK hV (ci := 11) (q0 := 0) rfl rfl) rfl hl.1 rfl (Nat.le_of_ble_eq_true rfl) (dd_of dX11_addGate_0 3 rfl) ⟨Nat.le_of_ble_eq_true rfl, Nat.le_of_ble_eq_true rfl⟩ (fun E9 ce9 qx9 H locs cx ex hS9 z1 z2 z3 => ?_) (fun H locs cx hkp hS9 => ?_)
  · replace hres := ifN cx (bvE rfl hres)
    subst hQ
    exact xout (px := True) (B := (fun E => RES.1 ≠ 0 ∧ E = xN RES.1)) htab hlk hS9 z1 z2 z3 trivial (by rw [← hres]; exact ⟨cx, ex⟩) (Nat.le_of_ble_eq_true rfl) (Nat.le_of_ble_eq_true rfl) hfree
  · replace hres := ifE cx (bvE rfl hres)
    replace hok := bvO rfl hok
    replace hok := hok cx
    have hS := hS9.mono hE
    have hV := hkp _ hV
    have hP := hkp _ hP
    refine lv_aload_n hx hb (dd_of dX11_addGate_0 4 rfl) rfl (lv_at hl 0 rfl) ?_
    refine lv_iload_n hx hb (dd_of dX11_addGate_0 5 rfl) rfl (lv_at hl 3 rfl) ?_
    refine lv_iconst (v := 1) hx hb (dd_of dX11_addGate_0 6 rfl) (by decide) ?_
    refine lv_sipush (v := 9999) hx hb (dd_of dX11_addGate_0 7 rfl) (by decide) ?_
    refine xc_v (g := (gX11_needRange p3 1 9999)) (As := [.int p3, .int 1, .int 9999]) (rest := []) (w := ([] : va_W)) (D := D) (yy := yy) ⟨hx, hb, hml, hown, hts⟩ (qX11_needRange l hl9 D yy h0 H.size p3 1 9999) (cwV 3 hts (jgV gw183 gw184 gw185 gw2 gw186) rfl rfl rfl (by decide +kernel) ⟨Nat.le_of_ble_eq_true rfl, Nat.le_of_ble_eq_true rfl⟩) (fun k q h => by simp at h) hK hT hS hA hS9 (va_recv hK hV (ci := 11) (q0 := 0) rfl rfl) rfl hl.1 rfl (Nat.le_of_ble_eq_true rfl) (dd_of dX11_addGate_0 8 rfl) ⟨Nat.le_of_ble_eq_true rfl, Nat.le_of_ble_eq_true rfl⟩ (fun E9 ce9 qx9 H locs cx ex hS9 z1 z2 z3 => ?_) (fun H locs cx hkp hS9 => ?_)
    · replace hres := ifN cx (bvE rfl hres)
      subst hQ
      exact xout (px := True) (B := (fun E => RES.1 ≠ 0 ∧ E = xN RES.1)) htab hlk hS9 z1 z2 z3 trivial (by rw [← hres]; exact ⟨cx, ex⟩) (Nat.le_of_ble_eq_true rfl) (Nat.le_of_ble_eq_true rfl) hfree
    · replace hres := ifE cx (bvE rfl hres)
      replace hok := bvO rfl hok
      replace hok := hok cx
      have hS := hS9.mono hE
      have hV := hkp _ hV
      have hP := hkp _ hP
      refine lv_aload_n hx hb (dd_of dX11_addGate_0 9 rfl) rfl (lv_at hl 0 rfl) ?_
      refine lv_iload hx hb (dd_of dX11_addGate_0 10 rfl) (lv_at hl 4 rfl) ?_
      refine lv_iconst (v := 0) hx hb (dd_of dX11_addGate_0 11 rfl) (by decide) ?_
      refine lv_iconst (v := 3) hx hb (dd_of dX11_addGate_0 12 rfl) (by decide) ?_
      refine xc_v (g := (gX11_needRange p4 0 3)) (As := [.int p4, .int 0, .int 3]) (rest := []) (w := ([] : va_W)) (D := D) (yy := yy) ⟨hx, hb, hml, hown, hts⟩ (qX11_needRange l hl9 D yy h0 H.size p4 0 3) (cwV 3 hts (jgV gw183 gw184 gw185 gw2 gw186) rfl rfl rfl (by decide +kernel) ⟨Nat.le_of_ble_eq_true rfl, Nat.le_of_ble_eq_true rfl⟩) (fun k q h => by simp at h) hK hT hS hA hS9 (va_recv hK hV (ci := 11) (q0 := 0) rfl rfl) rfl hl.1 rfl (Nat.le_of_ble_eq_true rfl) (dd_of dX11_addGate_0 13 rfl) ⟨Nat.le_of_ble_eq_true rfl, Nat.le_of_ble_eq_true rfl⟩ (fun E9 ce9 qx9 H locs cx ex hS9 z1 z2 z3 => ?_) (fun H locs cx hkp hS9 => ?_)
      · replace hres := ifN cx (bvE rfl hres)
        subst hQ
        exact xout (px := True) (B := (fun E => RES.1 ≠ 0 ∧ E = xN RES.1)) htab hlk hS9 z1 z2 z3 trivial (by rw [← hres]; exact ⟨cx, ex⟩) (Nat.le_of_ble_eq_true rfl) (Nat.le_of_ble_eq_true rfl) hfree
      · replace hres := ifE cx (bvE rfl hres)
        replace hok := bvO rfl hok
        replace hok := hok cx
        have hS := hS9.mono hE
        have hV := hkp _ hV
        have hP := hkp _ hP
        refine lv_aload_n hx hb (dd_of dX11_addGate_0 14 rfl) rfl (lv_at hl 0 rfl) ?_
        refine lv_aload_n hx hb (dd_of dX11_addGate_0 15 rfl) rfl (lv_at hl 0 rfl) ?_
        refine va_get (D := D) (cl := vwCl) (tys := jT yy) (ci := 11) (v := .ref (B 0)) (C := RX11) (T := TX11) (N := 5) hx hb hts (fun w h => List.mem_cons_of_mem _ (inlX11 w h)) hown hK hV 0 rfl rfl 0 (by decide) (jw hts gw16) (fun _ h9 => h9) rfl (dd_of dX11_addGate_0 16 rfl) ?_
        refine va_get (D := D) (cl := vwCl) (tys := jT yy) (ci := 5) (v := .int (F 17 0)) (C := RX5) (T := TX5) (N := 10) hx hb hts (fun w h => List.mem_cons_of_mem _ (inlX5 w h)) hown hK hP 0 rfl rfl 3 (by decide) (jw hts gw656) (fun _ h9 => h9) rfl (dd_of dX11_addGate_0 17 rfl) ?_
        refine lv_bipush (v := 8) hx hb (dd_of dX11_addGate_0 18 rfl) (by decide) ?_
        refine xc_v (g := (gX11_needRoom (F 17 0) 8)) (As := [.int (F 17 0), .int 8]) (rest := []) (w := ([] : va_W)) (D := D) (yy := yy) ⟨hx, hb, hml, hown, hts⟩ (qX11_needRoom l hl9 D yy h0 H.size (F 17 0) 8) (cwV 2 hts (jgV gw189 gw190 gw191 gw2 gw192) rfl rfl rfl (by decide +kernel) ⟨Nat.le_of_ble_eq_true rfl, Nat.le_of_ble_eq_true rfl⟩) (fun k q h => by simp at h) hK hT hS hA hS9 (va_recv hK hV (ci := 11) (q0 := 0) rfl rfl) rfl hl.1 rfl (Nat.le_of_ble_eq_true rfl) (dd_of dX11_addGate_0 19 rfl) ⟨Nat.le_of_ble_eq_true rfl, Nat.le_of_ble_eq_true rfl⟩ (fun E9 ce9 qx9 H locs cx ex hS9 z1 z2 z3 => ?_) (fun H locs cx hkp hS9 => ?_)
        · replace hres := ifN cx (bvE rfl hres)
          subst hQ
          exact xout (px := True) (B := (fun E => RES.1 ≠ 0 ∧ E = xN RES.1)) htab hlk hS9 z1 z2 z3 trivial (by rw [← hres]; exact ⟨cx, ex⟩) (Nat.le_of_ble_eq_true rfl) (Nat.le_of_ble_eq_true rfl) hfree
        · replace hres := ifE cx (bvE rfl hres)
          replace hok := bvO rfl hok
          replace hok := hok cx
          have hS := hS9.mono hE
          have hV := hkp _ hV
          have hP := hkp _ hP
          refine lv_aload_n hx hb (dd_of dX11_addGate_0 20 rfl) rfl (lv_at hl 0 rfl) ?_
          refine va_get (D := D) (cl := vwCl) (tys := jT yy) (ci := 11) (v := .ref (B 0)) (C := RX11) (T := TX11) (N := 5) hx hb hts (fun w h => List.mem_cons_of_mem _ (inlX11 w h)) hown hK hV 0 rfl rfl 0 (by decide) (jw hts gw16) (fun _ h9 => h9) rfl (dd_of dX11_addGate_0 21 rfl) ?_
          refine lv_aload_n hx hb (dd_of dX11_addGate_0 22 rfl) rfl (lv_at hl 0 rfl) ?_
          refine va_get (D := D) (cl := vwCl) (tys := jT yy) (ci := 11) (v := .ref an) (C := RX11) (T := TX11) (N := 5) hx hb hts (fun w h => List.mem_cons_of_mem _ (inlX11 w h)) hown hK hV 0 rfl rfl 1 (by decide) (jw hts gw18) (fun _ h9 => h9) rfl (dd_of dX11_addGate_0 23 rfl) ?_
          refine lv_aload_n hx hb (dd_of dX11_addGate_0 24 rfl) rfl (lv_at hl 0 rfl) ?_
          refine lv_iconst (v := 4) hx hb (dd_of dX11_addGate_0 25 rfl) (by decide) ?_
          refine lv_iload_n hx hb (dd_of dX11_addGate_0 26 rfl) rfl (lv_at hl 1 rfl) ?_
          refine lv_iload_n hx hb (dd_of dX11_addGate_0 27 rfl) rfl (lv_at hl 2 rfl) ?_
          refine lv_iload_n hx hb (dd_of dX11_addGate_0 28 rfl) rfl (lv_at hl 3 rfl) ?_
          refine lv_iload hx hb (dd_of dX11_addGate_0 29 rfl) (lv_at hl 4 rfl) ?_
          refine lv_iconst (v := 0) hx hb (dd_of dX11_addGate_0 30 rfl) (by decide) ?_
          have hk9 := hok.1
          replace hok := hok.2
          refine jz_i (As := [.int 4, .int p1, .int p2, .int p3, .int p4, .int 0]) (rest := [.ref an, .ref (B 0)]) (D := D) (yy := yy) (h0 := h0) (an := an) (B := B) (B2 := B2) (F := F) (G := G) (F2 := F2) (G2 := G2) (M := M) ⟨hx, hb, hml, hown, hts⟩ (qX11_note l D yy h0 an (B 0) (B2 0) M (fun _ _ => 0) H.size 4 p1 p2 p3 p4 0 hk9) (cwV 6 hts (jgV gw195 gw196 gw197 gw2 gw198) rfl rfl rfl (by decide +kernel) ⟨Nat.le_of_ble_eq_true rfl, Nat.le_of_ble_eq_true rfl⟩) hV hK hD hS hA (va_recv hK hV (ci := 11) (q0 := 0) rfl rfl) rfl hl.1 rfl (Nat.le_of_ble_eq_true rfl) (dd_of dX11_addGate_0 31 rfl) ⟨Nat.le_of_ble_eq_true rfl, Nat.le_of_ble_eq_true rfl⟩ (fun x7 M5 G6 H locs w8 hV hD hS => ?_)
          have hP := pV_P hV
          replace hres := brE w8 hres
          replace hok := brO w8 hok
          have hk9 := hok
          refine jz_l (As := [.ref an, .int x7]) (rest := []) (D := D) (yy := yy) (h0 := h0) (an := an) (B := B) (B2 := B2) (F := F) (G := G) (F2 := F2) (G2 := G2) (M := M5) ⟨hx, hb, hml, hown, hts⟩ (qX5_act l D yy B F G H.size an (M5 82) x7 hk9) (fun _ _ h => h.2 0 (by omega)) (cwV 2 hts (jgV gw200 gw201 gw202 gw15 gw203) rfl rfl rfl (by decide +kernel) ⟨Nat.le_of_ble_eq_true rfl, Nat.le_of_ble_eq_true rfl⟩) hV hK hD hS hA (va_recv hK hP (ci := 5) (q0 := 0) rfl rfl) rfl hl.1 rfl (Nat.le_of_ble_eq_true rfl) (dd_of dX11_addGate_0 32 rfl) ⟨Nat.le_of_ble_eq_true rfl, Nat.le_of_ble_eq_true rfl⟩ (fun x11 B1 F9 G10 H locs w12 hV hD hS => ?_)
          obtain ⟨w12, hB1⟩ := w12
          have hB1 : ∀ k, k < 100 → B1 k = B k := hB1
          have w12 : (x11, (F9, G10)) = gX5_act F G (M5 82) x7 := w12
          replace hres := brE w12 hres
          refine lv_l2i (v := (Int64.toInt32 x11)) hx hb (dd_of dX11_addGate_0 33 rfl) rfl ?_
          subst hQ
          refine vx_ret (W.widen (k := 9) (n := 64) (Nat.le_of_ble_eq_true rfl) (Nat.le_of_ble_eq_true rfl) ?_)
          exact W.iret (v := (Int64.toInt32 x11)) hx hb hr (fun t ht hW => ⟨⟨(Int64.toInt32 x11), ((B1, (F9, G10)), M5), rfl, ⟨hres.symm, hB1⟩, by rw [ht]; exact hV, va_K.moved hW.alike hK, hD⟩, hS.F ht⟩) hS.2.2 (dd_of dX11_addGate_0 34 rfl) hlk
set_option maxHeartbeats 4000000 in
set_option maxRecDepth 100000 in
theorem qX11_addPump (l : Launch) (hl9 : l.stackTraces = false) (D : va_G) (yy : Nat → ClassId) (h0 an : Nat) (B B2 : Nat → Nat) (F : jF) (G : jG) (F2 : jF) (G2 : jG) (M : jF) (sz : Nat) (p1 : Int32) (p2 : Int32) (p3 : Int32) (p4 : Int32) (p5 : Int32) (hok : okX11_addPump F G M p1 p2 p3 p4 p5) : vx_Met l yX11_addPump (Cond.code yX11_addPump cX11_addPump 6 (some .int) :: wsL_law) rmX11_addPump (va_Pc [.ref h0, .int p1, .int p2, .int p3, .int p4, .int p5] (jX D yy (pV yy h0 an B B2 F G F2 G2 M) sz)) (va_Qi (fun r (u : ((Nat → Nat) × jS) × jF) => gX11_addPump F G M p1 p2 p3 p4 p5 = (0, (r, (u.1.2, u.2))) ∧ ∀ k, k < 100 → u.1.1 k = B k) (fun u t => jB D yy (va_A (pV yy h0 an B B2 F G F2 G2 M) sz) (pV yy h0 an u.1.1 B2 u.1.2.1 u.1.2.2 F2 G2 u.2) t) (va_A (pV yy h0 an B B2 F G F2 G2 M) sz)) (vx_X (fun _ : Unit => True) (fun E _ _ => (gX11_addPump F G M p1 p2 p3 p4 p5).1 ≠ 0 ∧ E = xN (gX11_addPump F G M p1 p2 p3 p4 p5).1) (jE sz)) 9 64 (va_A (pV yy h0 an B B2 F G F2 G2 M) sz) := by
  generalize hres : gX11_addPump F G M p1 p2 p3 p4 p5 = RES
  refine jMX (vs := [.ref h0, .int p1, .int p2, .int p3, .int p4, .int p5]) (own := RX11) (by decide +kernel) rfl (Nat.le_of_ble_eq_true rfl) ?_
  intro p e s m args below meth c ls Q hQ hargs S hr hlk htab hB hl
  obtain ⟨hx, hb, hml, hown, hts⟩ := S
  have hl : lv_has ls 6 [(0, .ref h0), (1, .int p1), (2, .int p2), (3, .int p3), (4, .int p4), (5, .int p5)] := hl

  obtain ⟨⟨hsz, hV, hK, hD0⟩, hT⟩ := hB
  subst hsz
  have hD := hD0.self (sz := s.heap.size)
  have hE : ∀ q, jE s.heap.size q → va_A (pV yy h0 an B B2 F G F2 G2 M) s.heap.size q := fun q h => Or.inr h
  generalize hZ : va_A (pV yy h0 an B B2 F G F2 G2 M) s.heap.size = Z at hD hQ hT hE
  have hA : ∀ q : Nat, s.heap.size ≤ q → Z q := fun q h => by rw [← hZ]; exact Or.inr h
  have hfree : ∀ q, jE s.heap.size q → Z q := hE
  obtain ⟨H, hH⟩ : ∃ z, z = s.heap := ⟨_, rfl⟩
  obtain ⟨locs, hlocs⟩ : ∃ z : List Loc, z = [] := ⟨_, rfl⟩
  have hS9 : va_S (jE s.heap.size) s.heap H locs := by rw [hH, hlocs]; exact va_S.rf
  have hS := hS9.mono hE
  rw [← hH] at hV
  have hP : va_P D vwCl (lW yy B F G) H := pV_P hV
  suffices hgo : W p l e rmX11_addPump s m args below meth c H locs 0 0 Q (F0 m 0 ls []) by rw [hH, hlocs] at hgo; exact hgo
  unfold gX11_addPump at hres
  unfold okX11_addPump at hok
  refine lv_aload_n hx hb (dd_of dX11_addPump_0 0 rfl) rfl (lv_at hl 0 rfl) ?_
  refine lv_iload_n hx hb (dd_of dX11_addPump_0 1 rfl) rfl (lv_at hl 1 rfl) ?_
  refine lv_iload_n hx hb (dd_of dX11_addPump_0 2 rfl) rfl (lv_at hl 2 rfl) ?_
  have hk9 := hok.1
  replace hok := hok.2
  refine xc_v (g := (gX11_needWay F G p1 p2)) (As := [.int p1, .int p2]) (rest := []) (w := (pV yy h0 an B B2 F G F2 G2 M)) (D := D) (yy := yy) ⟨hx, hb, hml, hown, hts⟩ (qX11_needWay l hl9 D yy h0 an B B2 F G F2 G2 M H.size p1 p2 hk9) (cwV 2 hts (jgV gw657 gw658 gw659 gw2 gw660) rfl rfl rfl (by decide +kernel) ⟨Nat.le_of_ble_eq_true rfl, Nat.le_of_ble_eq_true rfl⟩) hV hK hT hS hA hS9 (va_recv hK hV (ci := 11) (q0 := 0) rfl rfl) rfl hl.1 rfl (Nat.le_of_ble_eq_true rfl) (dd_of dX11_addPump_0 3 rfl) ⟨Nat.le_of_ble_eq_true rfl, Nat.le_of_ble_eq_true rfl⟩ (fun E9 ce9 qx9 H locs cx ex hS9 z1 z2 z3 => ?_) (fun H locs cx hkp hS9 => ?_)
  · replace hres := ifN cx (bvE rfl hres)
    subst hQ
    exact xout (px := True) (B := (fun E => RES.1 ≠ 0 ∧ E = xN RES.1)) htab hlk hS9 z1 z2 z3 trivial (by rw [← hres]; exact ⟨cx, ex⟩) (Nat.le_of_ble_eq_true rfl) (Nat.le_of_ble_eq_true rfl) hfree
  · replace hres := ifE cx (bvE rfl hres)
    replace hok := bvO rfl hok
    replace hok := hok cx
    have hS := hS9.mono hE
    have hV := hkp _ hV
    have hP := hkp _ hP
    refine lv_aload_n hx hb (dd_of dX11_addPump_0 4 rfl) rfl (lv_at hl 0 rfl) ?_
    refine lv_iload_n hx hb (dd_of dX11_addPump_0 5 rfl) rfl (lv_at hl 3 rfl) ?_
    refine lv_iconst (v := 1) hx hb (dd_of dX11_addPump_0 6 rfl) (by decide) ?_
    refine lv_sipush (v := 9999) hx hb (dd_of dX11_addPump_0 7 rfl) (by decide) ?_
    refine xc_v (g := (gX11_needRange p3 1 9999)) (As := [.int p3, .int 1, .int 9999]) (rest := []) (w := ([] : va_W)) (D := D) (yy := yy) ⟨hx, hb, hml, hown, hts⟩ (qX11_needRange l hl9 D yy h0 H.size p3 1 9999) (cwV 3 hts (jgV gw183 gw184 gw185 gw2 gw186) rfl rfl rfl (by decide +kernel) ⟨Nat.le_of_ble_eq_true rfl, Nat.le_of_ble_eq_true rfl⟩) (fun k q h => by simp at h) hK hT hS hA hS9 (va_recv hK hV (ci := 11) (q0 := 0) rfl rfl) rfl hl.1 rfl (Nat.le_of_ble_eq_true rfl) (dd_of dX11_addPump_0 8 rfl) ⟨Nat.le_of_ble_eq_true rfl, Nat.le_of_ble_eq_true rfl⟩ (fun E9 ce9 qx9 H locs cx ex hS9 z1 z2 z3 => ?_) (fun H locs cx hkp hS9 => ?_)
    · replace hres := ifN cx (bvE rfl hres)
      subst hQ
      exact xout (px := True) (B := (fun E => RES.1 ≠ 0 ∧ E = xN RES.1)) htab hlk hS9 z1 z2 z3 trivial (by rw [← hres]; exact ⟨cx, ex⟩) (Nat.le_of_ble_eq_true rfl) (Nat.le_of_ble_eq_true rfl) hfree
    · replace hres := ifE cx (bvE rfl hres)
      replace hok := bvO rfl hok
      replace hok := hok cx
      have hS := hS9.mono hE
      have hV := hkp _ hV
      have hP := hkp _ hP
      refine lv_aload_n hx hb (dd_of dX11_addPump_0 9 rfl) rfl (lv_at hl 0 rfl) ?_
      refine lv_iload hx hb (dd_of dX11_addPump_0 10 rfl) (lv_at hl 4 rfl) ?_
      refine lv_iconst (v := 0) hx hb (dd_of dX11_addPump_0 11 rfl) (by decide) ?_
      refine lv_sipush (v := 999) hx hb (dd_of dX11_addPump_0 12 rfl) (by decide) ?_
      refine xc_v (g := (gX11_needRange p4 0 999)) (As := [.int p4, .int 0, .int 999]) (rest := []) (w := ([] : va_W)) (D := D) (yy := yy) ⟨hx, hb, hml, hown, hts⟩ (qX11_needRange l hl9 D yy h0 H.size p4 0 999) (cwV 3 hts (jgV gw183 gw184 gw185 gw2 gw186) rfl rfl rfl (by decide +kernel) ⟨Nat.le_of_ble_eq_true rfl, Nat.le_of_ble_eq_true rfl⟩) (fun k q h => by simp at h) hK hT hS hA hS9 (va_recv hK hV (ci := 11) (q0 := 0) rfl rfl) rfl hl.1 rfl (Nat.le_of_ble_eq_true rfl) (dd_of dX11_addPump_0 13 rfl) ⟨Nat.le_of_ble_eq_true rfl, Nat.le_of_ble_eq_true rfl⟩ (fun E9 ce9 qx9 H locs cx ex hS9 z1 z2 z3 => ?_) (fun H locs cx hkp hS9 => ?_)
      · replace hres := ifN cx (bvE rfl hres)
        subst hQ
        exact xout (px := True) (B := (fun E => RES.1 ≠ 0 ∧ E = xN RES.1)) htab hlk hS9 z1 z2 z3 trivial (by rw [← hres]; exact ⟨cx, ex⟩) (Nat.le_of_ble_eq_true rfl) (Nat.le_of_ble_eq_true rfl) hfree
      · replace hres := ifE cx (bvE rfl hres)
        replace hok := bvO rfl hok
        replace hok := hok cx
        have hS := hS9.mono hE
        have hV := hkp _ hV
        have hP := hkp _ hP
        refine lv_aload_n hx hb (dd_of dX11_addPump_0 14 rfl) rfl (lv_at hl 0 rfl) ?_
        refine lv_iload hx hb (dd_of dX11_addPump_0 15 rfl) (lv_at hl 5 rfl) ?_
        refine lv_iconst (v := 1) hx hb (dd_of dX11_addPump_0 16 rfl) (by decide) ?_
        refine lv_sipush (v := 999) hx hb (dd_of dX11_addPump_0 17 rfl) (by decide) ?_
        refine xc_v (g := (gX11_needRange p5 1 999)) (As := [.int p5, .int 1, .int 999]) (rest := []) (w := ([] : va_W)) (D := D) (yy := yy) ⟨hx, hb, hml, hown, hts⟩ (qX11_needRange l hl9 D yy h0 H.size p5 1 999) (cwV 3 hts (jgV gw183 gw184 gw185 gw2 gw186) rfl rfl rfl (by decide +kernel) ⟨Nat.le_of_ble_eq_true rfl, Nat.le_of_ble_eq_true rfl⟩) (fun k q h => by simp at h) hK hT hS hA hS9 (va_recv hK hV (ci := 11) (q0 := 0) rfl rfl) rfl hl.1 rfl (Nat.le_of_ble_eq_true rfl) (dd_of dX11_addPump_0 18 rfl) ⟨Nat.le_of_ble_eq_true rfl, Nat.le_of_ble_eq_true rfl⟩ (fun E9 ce9 qx9 H locs cx ex hS9 z1 z2 z3 => ?_) (fun H locs cx hkp hS9 => ?_)
        · replace hres := ifN cx (bvE rfl hres)
          subst hQ
          exact xout (px := True) (B := (fun E => RES.1 ≠ 0 ∧ E = xN RES.1)) htab hlk hS9 z1 z2 z3 trivial (by rw [← hres]; exact ⟨cx, ex⟩) (Nat.le_of_ble_eq_true rfl) (Nat.le_of_ble_eq_true rfl) hfree
        · replace hres := ifE cx (bvE rfl hres)
          replace hok := bvO rfl hok
          replace hok := hok cx
          have hS := hS9.mono hE
          have hV := hkp _ hV
          have hP := hkp _ hP
          refine lv_aload_n hx hb (dd_of dX11_addPump_0 19 rfl) rfl (lv_at hl 0 rfl) ?_
          refine lv_aload_n hx hb (dd_of dX11_addPump_0 20 rfl) rfl (lv_at hl 0 rfl) ?_
          refine va_get (D := D) (cl := vwCl) (tys := jT yy) (ci := 11) (v := .ref (B 0)) (C := RX11) (T := TX11) (N := 5) hx hb hts (fun w h => List.mem_cons_of_mem _ (inlX11 w h)) hown hK hV 0 rfl rfl 0 (by decide) (jw hts gw16) (fun _ h9 => h9) rfl (dd_of dX11_addPump_0 21 rfl) ?_
          refine va_get (D := D) (cl := vwCl) (tys := jT yy) (ci := 5) (v := .int (F 23 0)) (C := RX5) (T := TX5) (N := 10) hx hb hts (fun w h => List.mem_cons_of_mem _ (inlX5 w h)) hown hK hP 0 rfl rfl 5 (by decide) (jw hts gw689) (fun _ h9 => h9) rfl (dd_of dX11_addPump_0 22 rfl) ?_
          refine lv_bipush (v := 8) hx hb (dd_of dX11_addPump_0 23 rfl) (by decide) ?_
          refine xc_v (g := (gX11_needRoom (F 23 0) 8)) (As := [.int (F 23 0), .int 8]) (rest := []) (w := ([] : va_W)) (D := D) (yy := yy) ⟨hx, hb, hml, hown, hts⟩ (qX11_needRoom l hl9 D yy h0 H.size (F 23 0) 8) (cwV 2 hts (jgV gw189 gw190 gw191 gw2 gw192) rfl rfl rfl (by decide +kernel) ⟨Nat.le_of_ble_eq_true rfl, Nat.le_of_ble_eq_true rfl⟩) (fun k q h => by simp at h) hK hT hS hA hS9 (va_recv hK hV (ci := 11) (q0 := 0) rfl rfl) rfl hl.1 rfl (Nat.le_of_ble_eq_true rfl) (dd_of dX11_addPump_0 24 rfl) ⟨Nat.le_of_ble_eq_true rfl, Nat.le_of_ble_eq_true rfl⟩ (fun E9 ce9 qx9 H locs cx ex hS9 z1 z2 z3 => ?_) (fun H locs cx hkp hS9 => ?_)
          · replace hres := ifN cx (bvE rfl hres)
            subst hQ
            exact xout (px := True) (B := (fun E => RES.1 ≠ 0 ∧ E = xN RES.1)) htab hlk hS9 z1 z2 z3 trivial (by rw [← hres]; exact ⟨cx, ex⟩) (Nat.le_of_ble_eq_true rfl) (Nat.le_of_ble_eq_true rfl) hfree
          · replace hres := ifE cx (bvE rfl hres)
            replace hok := bvO rfl hok
            replace hok := hok cx
            have hS := hS9.mono hE
            have hV := hkp _ hV
            have hP := hkp _ hP
            refine lv_aload_n hx hb (dd_of dX11_addPump_0 25 rfl) rfl (lv_at hl 0 rfl) ?_
            refine va_get (D := D) (cl := vwCl) (tys := jT yy) (ci := 11) (v := .ref (B 0)) (C := RX11) (T := TX11) (N := 5) hx hb hts (fun w h => List.mem_cons_of_mem _ (inlX11 w h)) hown hK hV 0 rfl rfl 0 (by decide) (jw hts gw16) (fun _ h9 => h9) rfl (dd_of dX11_addPump_0 26 rfl) ?_
            refine lv_aload_n hx hb (dd_of dX11_addPump_0 27 rfl) rfl (lv_at hl 0 rfl) ?_
            refine va_get (D := D) (cl := vwCl) (tys := jT yy) (ci := 11) (v := .ref an) (C := RX11) (T := TX11) (N := 5) hx hb hts (fun w h => List.mem_cons_of_mem _ (inlX11 w h)) hown hK hV 0 rfl rfl 1 (by decide) (jw hts gw18) (fun _ h9 => h9) rfl (dd_of dX11_addPump_0 28 rfl) ?_
            refine lv_aload_n hx hb (dd_of dX11_addPump_0 29 rfl) rfl (lv_at hl 0 rfl) ?_
            refine lv_iconst (v := 5) hx hb (dd_of dX11_addPump_0 30 rfl) (by decide) ?_
            refine lv_iload_n hx hb (dd_of dX11_addPump_0 31 rfl) rfl (lv_at hl 1 rfl) ?_
            refine lv_iload_n hx hb (dd_of dX11_addPump_0 32 rfl) rfl (lv_at hl 2 rfl) ?_
            refine lv_iload_n hx hb (dd_of dX11_addPump_0 33 rfl) rfl (lv_at hl 3 rfl) ?_
            refine lv_iload hx hb (dd_of dX11_addPump_0 34 rfl) (lv_at hl 4 rfl) ?_
            refine lv_iload hx hb (dd_of dX11_addPump_0 35 rfl) (lv_at hl 5 rfl) ?_
            have hk9 := hok.1
            replace hok := hok.2
            refine jz_i (As := [.int 5, .int p1, .int p2, .int p3, .int p4, .int p5]) (rest := [.ref an, .ref (B 0)]) (D := D) (yy := yy) (h0 := h0) (an := an) (B := B) (B2 := B2) (F := F) (G := G) (F2 := F2) (G2 := G2) (M := M) ⟨hx, hb, hml, hown, hts⟩ (qX11_note l D yy h0 an (B 0) (B2 0) M (fun _ _ => 0) H.size 5 p1 p2 p3 p4 p5 hk9) (cwV 6 hts (jgV gw195 gw196 gw197 gw2 gw198) rfl rfl rfl (by decide +kernel) ⟨Nat.le_of_ble_eq_true rfl, Nat.le_of_ble_eq_true rfl⟩) hV hK hD hS hA (va_recv hK hV (ci := 11) (q0 := 0) rfl rfl) rfl hl.1 rfl (Nat.le_of_ble_eq_true rfl) (dd_of dX11_addPump_0 36 rfl) ⟨Nat.le_of_ble_eq_true rfl, Nat.le_of_ble_eq_true rfl⟩ (fun x8 M6 G7 H locs w9 hV hD hS => ?_)
            have hP := pV_P hV
            replace hres := brE w9 hres
            replace hok := brO w9 hok
            have hk9 := hok
            refine jz_l (As := [.ref an, .int x8]) (rest := []) (D := D) (yy := yy) (h0 := h0) (an := an) (B := B) (B2 := B2) (F := F) (G := G) (F2 := F2) (G2 := G2) (M := M6) ⟨hx, hb, hml, hown, hts⟩ (qX5_act l D yy B F G H.size an (M6 82) x8 hk9) (fun _ _ h => h.2 0 (by omega)) (cwV 2 hts (jgV gw200 gw201 gw202 gw15 gw203) rfl rfl rfl (by decide +kernel) ⟨Nat.le_of_ble_eq_true rfl, Nat.le_of_ble_eq_true rfl⟩) hV hK hD hS hA (va_recv hK hP (ci := 5) (q0 := 0) rfl rfl) rfl hl.1 rfl (Nat.le_of_ble_eq_true rfl) (dd_of dX11_addPump_0 37 rfl) ⟨Nat.le_of_ble_eq_true rfl, Nat.le_of_ble_eq_true rfl⟩ (fun x12 B1 F10 G11 H locs w13 hV hD hS => ?_)
            obtain ⟨w13, hB1⟩ := w13
            have hB1 : ∀ k, k < 100 → B1 k = B k := hB1
            have w13 : (x12, (F10, G11)) = gX5_act F G (M6 82) x8 := w13
            replace hres := brE w13 hres
            refine lv_l2i (v := (Int64.toInt32 x12)) hx hb (dd_of dX11_addPump_0 38 rfl) rfl ?_
            subst hQ
            refine vx_ret (W.widen (k := 9) (n := 64) (Nat.le_of_ble_eq_true rfl) (Nat.le_of_ble_eq_true rfl) ?_)
            exact W.iret (v := (Int64.toInt32 x12)) hx hb hr (fun t ht hW => ⟨⟨(Int64.toInt32 x12), ((B1, (F10, G11)), M6), rfl, ⟨hres.symm, hB1⟩, by rw [ht]; exact hV, va_K.moved hW.alike hK, hD⟩, hS.F ht⟩) hS.2.2 (dd_of dX11_addPump_0 39 rfl) hlk
set_option maxHeartbeats 4000000 in
set_option maxRecDepth 100000 in
theorem qX11_addDyke (l : Launch) (hl9 : l.stackTraces = false) (D : va_G) (yy : Nat → ClassId) (h0 an : Nat) (B B2 : Nat → Nat) (F : jF) (G : jG) (F2 : jF) (G2 : jG) (M : jF) (sz : Nat) (p1 : Int32) (p2 : Int32) (p3 : Int32) (p4 : Int32) (p5 : Int32) (hok : okX11_addDyke F G M p1 p2 p3 p4 p5) : vx_Met l yX11_addDyke (Cond.code yX11_addDyke cX11_addDyke 6 (some .int) :: wsL_law) rmX11_addDyke (va_Pc [.ref h0, .int p1, .int p2, .int p3, .int p4, .int p5] (jX D yy (pV yy h0 an B B2 F G F2 G2 M) sz)) (va_Qi (fun r (u : ((Nat → Nat) × jS) × jF) => gX11_addDyke F G M p1 p2 p3 p4 p5 = (0, (r, (u.1.2, u.2))) ∧ ∀ k, k < 100 → u.1.1 k = B k) (fun u t => jB D yy (va_A (pV yy h0 an B B2 F G F2 G2 M) sz) (pV yy h0 an u.1.1 B2 u.1.2.1 u.1.2.2 F2 G2 u.2) t) (va_A (pV yy h0 an B B2 F G F2 G2 M) sz)) (vx_X (fun _ : Unit => True) (fun E _ _ => (gX11_addDyke F G M p1 p2 p3 p4 p5).1 ≠ 0 ∧ E = xN (gX11_addDyke F G M p1 p2 p3 p4 p5).1) (jE sz)) 9 64 (va_A (pV yy h0 an B B2 F G F2 G2 M) sz) := by
  generalize hres : gX11_addDyke F G M p1 p2 p3 p4 p5 = RES
  refine jMX (vs := [.ref h0, .int p1, .int p2, .int p3, .int p4, .int p5]) (own := RX11) (by decide +kernel) rfl (Nat.le_of_ble_eq_true rfl) ?_
  intro p e s m args below meth c ls Q hQ hargs S hr hlk htab hB hl
  obtain ⟨hx, hb, hml, hown, hts⟩ := S
  have hl : lv_has ls 6 [(0, .ref h0), (1, .int p1), (2, .int p2), (3, .int p3), (4, .int p4), (5, .int p5)] := hl

  obtain ⟨⟨hsz, hV, hK, hD0⟩, hT⟩ := hB
  subst hsz
  have hD := hD0.self (sz := s.heap.size)
  have hE : ∀ q, jE s.heap.size q → va_A (pV yy h0 an B B2 F G F2 G2 M) s.heap.size q := fun q h => Or.inr h
  generalize hZ : va_A (pV yy h0 an B B2 F G F2 G2 M) s.heap.size = Z at hD hQ hT hE
  have hA : ∀ q : Nat, s.heap.size ≤ q → Z q := fun q h => by rw [← hZ]; exact Or.inr h
  have hfree : ∀ q, jE s.heap.size q → Z q := hE
  obtain ⟨H, hH⟩ : ∃ z, z = s.heap := ⟨_, rfl⟩
  obtain ⟨locs, hlocs⟩ : ∃ z : List Loc, z = [] := ⟨_, rfl⟩
  have hS9 : va_S (jE s.heap.size) s.heap H locs := by rw [hH, hlocs]; exact va_S.rf
  have hS := hS9.mono hE
  rw [← hH] at hV
  have hP : va_P D vwCl (lW yy B F G) H := pV_P hV
  suffices hgo : W p l e rmX11_addDyke s m args below meth c H locs 0 0 Q (F0 m 0 ls []) by rw [hH, hlocs] at hgo; exact hgo
  unfold gX11_addDyke at hres
  unfold okX11_addDyke at hok
  refine lv_aload_n hx hb (dd_of dX11_addDyke_0 0 rfl) rfl (lv_at hl 0 rfl) ?_
  refine lv_iload_n hx hb (dd_of dX11_addDyke_0 1 rfl) rfl (lv_at hl 1 rfl) ?_
  refine lv_iload_n hx hb (dd_of dX11_addDyke_0 2 rfl) rfl (lv_at hl 2 rfl) ?_
  have hk9 := hok.1
  replace hok := hok.2
  refine xc_v (g := (gX11_needWay F G p1 p2)) (As := [.int p1, .int p2]) (rest := []) (w := (pV yy h0 an B B2 F G F2 G2 M)) (D := D) (yy := yy) ⟨hx, hb, hml, hown, hts⟩ (qX11_needWay l hl9 D yy h0 an B B2 F G F2 G2 M H.size p1 p2 hk9) (cwV 2 hts (jgV gw657 gw658 gw659 gw2 gw660) rfl rfl rfl (by decide +kernel) ⟨Nat.le_of_ble_eq_true rfl, Nat.le_of_ble_eq_true rfl⟩) hV hK hT hS hA hS9 (va_recv hK hV (ci := 11) (q0 := 0) rfl rfl) rfl hl.1 rfl (Nat.le_of_ble_eq_true rfl) (dd_of dX11_addDyke_0 3 rfl) ⟨Nat.le_of_ble_eq_true rfl, Nat.le_of_ble_eq_true rfl⟩ (fun E9 ce9 qx9 H locs cx ex hS9 z1 z2 z3 => ?_) (fun H locs cx hkp hS9 => ?_)
  · replace hres := ifN cx (bvE rfl hres)
    subst hQ
    exact xout (px := True) (B := (fun E => RES.1 ≠ 0 ∧ E = xN RES.1)) htab hlk hS9 z1 z2 z3 trivial (by rw [← hres]; exact ⟨cx, ex⟩) (Nat.le_of_ble_eq_true rfl) (Nat.le_of_ble_eq_true rfl) hfree
  · replace hres := ifE cx (bvE rfl hres)
    replace hok := bvO rfl hok
    replace hok := hok cx
    have hS := hS9.mono hE
    have hV := hkp _ hV
    have hP := hkp _ hP
    refine lv_aload_n hx hb (dd_of dX11_addDyke_0 4 rfl) rfl (lv_at hl 0 rfl) ?_
    refine lv_iload_n hx hb (dd_of dX11_addDyke_0 5 rfl) rfl (lv_at hl 3 rfl) ?_
    refine lv_sipush (v := (-500)) hx hb (dd_of dX11_addDyke_0 6 rfl) (by decide) ?_
    refine lv_sipush (v := 999) hx hb (dd_of dX11_addDyke_0 7 rfl) (by decide) ?_
    refine xc_v (g := (gX11_needRange p3 (-500) 999)) (As := [.int p3, .int (-500), .int 999]) (rest := []) (w := ([] : va_W)) (D := D) (yy := yy) ⟨hx, hb, hml, hown, hts⟩ (qX11_needRange l hl9 D yy h0 H.size p3 (-500) 999) (cwV 3 hts (jgV gw183 gw184 gw185 gw2 gw186) rfl rfl rfl (by decide +kernel) ⟨Nat.le_of_ble_eq_true rfl, Nat.le_of_ble_eq_true rfl⟩) (fun k q h => by simp at h) hK hT hS hA hS9 (va_recv hK hV (ci := 11) (q0 := 0) rfl rfl) rfl hl.1 rfl (Nat.le_of_ble_eq_true rfl) (dd_of dX11_addDyke_0 8 rfl) ⟨Nat.le_of_ble_eq_true rfl, Nat.le_of_ble_eq_true rfl⟩ (fun E9 ce9 qx9 H locs cx ex hS9 z1 z2 z3 => ?_) (fun H locs cx hkp hS9 => ?_)
    · replace hres := ifN cx (bvE rfl hres)
      subst hQ
      exact xout (px := True) (B := (fun E => RES.1 ≠ 0 ∧ E = xN RES.1)) htab hlk hS9 z1 z2 z3 trivial (by rw [← hres]; exact ⟨cx, ex⟩) (Nat.le_of_ble_eq_true rfl) (Nat.le_of_ble_eq_true rfl) hfree
    · replace hres := ifE cx (bvE rfl hres)
      replace hok := bvO rfl hok
      replace hok := hok cx
      have hS := hS9.mono hE
      have hV := hkp _ hV
      have hP := hkp _ hP
      refine lv_aload_n hx hb (dd_of dX11_addDyke_0 9 rfl) rfl (lv_at hl 0 rfl) ?_
      refine lv_iload hx hb (dd_of dX11_addDyke_0 10 rfl) (lv_at hl 4 rfl) ?_
      refine lv_iconst (v := 1) hx hb (dd_of dX11_addDyke_0 11 rfl) (by decide) ?_
      refine lv_sipush (v := 999) hx hb (dd_of dX11_addDyke_0 12 rfl) (by decide) ?_
      refine xc_v (g := (gX11_needRange p4 1 999)) (As := [.int p4, .int 1, .int 999]) (rest := []) (w := ([] : va_W)) (D := D) (yy := yy) ⟨hx, hb, hml, hown, hts⟩ (qX11_needRange l hl9 D yy h0 H.size p4 1 999) (cwV 3 hts (jgV gw183 gw184 gw185 gw2 gw186) rfl rfl rfl (by decide +kernel) ⟨Nat.le_of_ble_eq_true rfl, Nat.le_of_ble_eq_true rfl⟩) (fun k q h => by simp at h) hK hT hS hA hS9 (va_recv hK hV (ci := 11) (q0 := 0) rfl rfl) rfl hl.1 rfl (Nat.le_of_ble_eq_true rfl) (dd_of dX11_addDyke_0 13 rfl) ⟨Nat.le_of_ble_eq_true rfl, Nat.le_of_ble_eq_true rfl⟩ (fun E9 ce9 qx9 H locs cx ex hS9 z1 z2 z3 => ?_) (fun H locs cx hkp hS9 => ?_)
      · replace hres := ifN cx (bvE rfl hres)
        subst hQ
        exact xout (px := True) (B := (fun E => RES.1 ≠ 0 ∧ E = xN RES.1)) htab hlk hS9 z1 z2 z3 trivial (by rw [← hres]; exact ⟨cx, ex⟩) (Nat.le_of_ble_eq_true rfl) (Nat.le_of_ble_eq_true rfl) hfree
      · replace hres := ifE cx (bvE rfl hres)
        replace hok := bvO rfl hok
        replace hok := hok cx
        have hS := hS9.mono hE
        have hV := hkp _ hV
        have hP := hkp _ hP
        refine lv_aload_n hx hb (dd_of dX11_addDyke_0 14 rfl) rfl (lv_at hl 0 rfl) ?_
        refine lv_iload hx hb (dd_of dX11_addDyke_0 15 rfl) (lv_at hl 5 rfl) ?_
        refine lv_iconst (v := 0) hx hb (dd_of dX11_addDyke_0 16 rfl) (by decide) ?_
        refine lv_bipush (v := 99) hx hb (dd_of dX11_addDyke_0 17 rfl) (by decide) ?_
        refine xc_v (g := (gX11_needRange p5 0 99)) (As := [.int p5, .int 0, .int 99]) (rest := []) (w := ([] : va_W)) (D := D) (yy := yy) ⟨hx, hb, hml, hown, hts⟩ (qX11_needRange l hl9 D yy h0 H.size p5 0 99) (cwV 3 hts (jgV gw183 gw184 gw185 gw2 gw186) rfl rfl rfl (by decide +kernel) ⟨Nat.le_of_ble_eq_true rfl, Nat.le_of_ble_eq_true rfl⟩) (fun k q h => by simp at h) hK hT hS hA hS9 (va_recv hK hV (ci := 11) (q0 := 0) rfl rfl) rfl hl.1 rfl (Nat.le_of_ble_eq_true rfl) (dd_of dX11_addDyke_0 18 rfl) ⟨Nat.le_of_ble_eq_true rfl, Nat.le_of_ble_eq_true rfl⟩ (fun E9 ce9 qx9 H locs cx ex hS9 z1 z2 z3 => ?_) (fun H locs cx hkp hS9 => ?_)
        · replace hres := ifN cx (bvE rfl hres)
          subst hQ
          exact xout (px := True) (B := (fun E => RES.1 ≠ 0 ∧ E = xN RES.1)) htab hlk hS9 z1 z2 z3 trivial (by rw [← hres]; exact ⟨cx, ex⟩) (Nat.le_of_ble_eq_true rfl) (Nat.le_of_ble_eq_true rfl) hfree
        · replace hres := ifE cx (bvE rfl hres)
          replace hok := bvO rfl hok
          replace hok := hok cx
          have hS := hS9.mono hE
          have hV := hkp _ hV
          have hP := hkp _ hP
          refine lv_aload_n hx hb (dd_of dX11_addDyke_0 19 rfl) rfl (lv_at hl 0 rfl) ?_
          refine lv_aload_n hx hb (dd_of dX11_addDyke_0 20 rfl) rfl (lv_at hl 0 rfl) ?_
          refine va_get (D := D) (cl := vwCl) (tys := jT yy) (ci := 11) (v := .ref (B 0)) (C := RX11) (T := TX11) (N := 5) hx hb hts (fun w h => List.mem_cons_of_mem _ (inlX11 w h)) hown hK hV 0 rfl rfl 0 (by decide) (jw hts gw16) (fun _ h9 => h9) rfl (dd_of dX11_addDyke_0 21 rfl) ?_
          refine va_get (D := D) (cl := vwCl) (tys := jT yy) (ci := 5) (v := .int (F 32 0)) (C := RX5) (T := TX5) (N := 10) hx hb hts (fun w h => List.mem_cons_of_mem _ (inlX5 w h)) hown hK hP 0 rfl rfl 7 (by decide) (jw hts gw702) (fun _ h9 => h9) rfl (dd_of dX11_addDyke_0 22 rfl) ?_
          refine lv_bipush (v := 8) hx hb (dd_of dX11_addDyke_0 23 rfl) (by decide) ?_
          refine xc_v (g := (gX11_needRoom (F 32 0) 8)) (As := [.int (F 32 0), .int 8]) (rest := []) (w := ([] : va_W)) (D := D) (yy := yy) ⟨hx, hb, hml, hown, hts⟩ (qX11_needRoom l hl9 D yy h0 H.size (F 32 0) 8) (cwV 2 hts (jgV gw189 gw190 gw191 gw2 gw192) rfl rfl rfl (by decide +kernel) ⟨Nat.le_of_ble_eq_true rfl, Nat.le_of_ble_eq_true rfl⟩) (fun k q h => by simp at h) hK hT hS hA hS9 (va_recv hK hV (ci := 11) (q0 := 0) rfl rfl) rfl hl.1 rfl (Nat.le_of_ble_eq_true rfl) (dd_of dX11_addDyke_0 24 rfl) ⟨Nat.le_of_ble_eq_true rfl, Nat.le_of_ble_eq_true rfl⟩ (fun E9 ce9 qx9 H locs cx ex hS9 z1 z2 z3 => ?_) (fun H locs cx hkp hS9 => ?_)
          · replace hres := ifN cx (bvE rfl hres)
            subst hQ
            exact xout (px := True) (B := (fun E => RES.1 ≠ 0 ∧ E = xN RES.1)) htab hlk hS9 z1 z2 z3 trivial (by rw [← hres]; exact ⟨cx, ex⟩) (Nat.le_of_ble_eq_true rfl) (Nat.le_of_ble_eq_true rfl) hfree
          · replace hres := ifE cx (bvE rfl hres)
            replace hok := bvO rfl hok
            replace hok := hok cx
            have hS := hS9.mono hE
            have hV := hkp _ hV
            have hP := hkp _ hP
            refine lv_aload_n hx hb (dd_of dX11_addDyke_0 25 rfl) rfl (lv_at hl 0 rfl) ?_
            refine va_get (D := D) (cl := vwCl) (tys := jT yy) (ci := 11) (v := .ref (B 0)) (C := RX11) (T := TX11) (N := 5) hx hb hts (fun w h => List.mem_cons_of_mem _ (inlX11 w h)) hown hK hV 0 rfl rfl 0 (by decide) (jw hts gw16) (fun _ h9 => h9) rfl (dd_of dX11_addDyke_0 26 rfl) ?_
            refine lv_aload_n hx hb (dd_of dX11_addDyke_0 27 rfl) rfl (lv_at hl 0 rfl) ?_
            refine va_get (D := D) (cl := vwCl) (tys := jT yy) (ci := 11) (v := .ref an) (C := RX11) (T := TX11) (N := 5) hx hb hts (fun w h => List.mem_cons_of_mem _ (inlX11 w h)) hown hK hV 0 rfl rfl 1 (by decide) (jw hts gw18) (fun _ h9 => h9) rfl (dd_of dX11_addDyke_0 28 rfl) ?_
            refine lv_aload_n hx hb (dd_of dX11_addDyke_0 29 rfl) rfl (lv_at hl 0 rfl) ?_
            refine lv_bipush (v := 6) hx hb (dd_of dX11_addDyke_0 30 rfl) (by decide) ?_
            refine lv_iload_n hx hb (dd_of dX11_addDyke_0 31 rfl) rfl (lv_at hl 1 rfl) ?_
            refine lv_iload_n hx hb (dd_of dX11_addDyke_0 32 rfl) rfl (lv_at hl 2 rfl) ?_
            refine lv_iload_n hx hb (dd_of dX11_addDyke_0 33 rfl) rfl (lv_at hl 3 rfl) ?_
            refine lv_iload hx hb (dd_of dX11_addDyke_0 34 rfl) (lv_at hl 4 rfl) ?_
            refine lv_iload hx hb (dd_of dX11_addDyke_0 35 rfl) (lv_at hl 5 rfl) ?_
            have hk9 := hok.1
            replace hok := hok.2
            refine jz_i (As := [.int 6, .int p1, .int p2, .int p3, .int p4, .int p5]) (rest := [.ref an, .ref (B 0)]) (D := D) (yy := yy) (h0 := h0) (an := an) (B := B) (B2 := B2) (F := F) (G := G) (F2 := F2) (G2 := G2) (M := M) ⟨hx, hb, hml, hown, hts⟩ (qX11_note l D yy h0 an (B 0) (B2 0) M (fun _ _ => 0) H.size 6 p1 p2 p3 p4 p5 hk9) (cwV 6 hts (jgV gw195 gw196 gw197 gw2 gw198) rfl rfl rfl (by decide +kernel) ⟨Nat.le_of_ble_eq_true rfl, Nat.le_of_ble_eq_true rfl⟩) hV hK hD hS hA (va_recv hK hV (ci := 11) (q0 := 0) rfl rfl) rfl hl.1 rfl (Nat.le_of_ble_eq_true rfl) (dd_of dX11_addDyke_0 36 rfl) ⟨Nat.le_of_ble_eq_true rfl, Nat.le_of_ble_eq_true rfl⟩ (fun x8 M6 G7 H locs w9 hV hD hS => ?_)
            have hP := pV_P hV
            replace hres := brE w9 hres
            replace hok := brO w9 hok
            have hk9 := hok
            refine jz_l (As := [.ref an, .int x8]) (rest := []) (D := D) (yy := yy) (h0 := h0) (an := an) (B := B) (B2 := B2) (F := F) (G := G) (F2 := F2) (G2 := G2) (M := M6) ⟨hx, hb, hml, hown, hts⟩ (qX5_act l D yy B F G H.size an (M6 82) x8 hk9) (fun _ _ h => h.2 0 (by omega)) (cwV 2 hts (jgV gw200 gw201 gw202 gw15 gw203) rfl rfl rfl (by decide +kernel) ⟨Nat.le_of_ble_eq_true rfl, Nat.le_of_ble_eq_true rfl⟩) hV hK hD hS hA (va_recv hK hP (ci := 5) (q0 := 0) rfl rfl) rfl hl.1 rfl (Nat.le_of_ble_eq_true rfl) (dd_of dX11_addDyke_0 37 rfl) ⟨Nat.le_of_ble_eq_true rfl, Nat.le_of_ble_eq_true rfl⟩ (fun x12 B1 F10 G11 H locs w13 hV hD hS => ?_)
            obtain ⟨w13, hB1⟩ := w13
            have hB1 : ∀ k, k < 100 → B1 k = B k := hB1
            have w13 : (x12, (F10, G11)) = gX5_act F G (M6 82) x8 := w13
            replace hres := brE w13 hres
            refine lv_l2i (v := (Int64.toInt32 x12)) hx hb (dd_of dX11_addDyke_0 38 rfl) rfl ?_
            subst hQ
            refine vx_ret (W.widen (k := 9) (n := 64) (Nat.le_of_ble_eq_true rfl) (Nat.le_of_ble_eq_true rfl) ?_)
            exact W.iret (v := (Int64.toInt32 x12)) hx hb hr (fun t ht hW => ⟨⟨(Int64.toInt32 x12), ((B1, (F10, G11)), M6), rfl, ⟨hres.symm, hB1⟩, by rw [ht]; exact hV, va_K.moved hW.alike hK, hD⟩, hS.F ht⟩) hS.2.2 (dd_of dX11_addDyke_0 39 rfl) hlk
set_option maxHeartbeats 4000000 in
set_option maxRecDepth 100000 in
theorem qX11_setOutside (l : Launch) (hl9 : l.stackTraces = false) (D : va_G) (yy : Nat → ClassId) (h0 an : Nat) (B B2 : Nat → Nat) (F : jF) (G : jG) (F2 : jF) (G2 : jG) (M : jF) (sz : Nat) (p1 : Int32) (p2 : Int32) (p3 : Int32) (hok : okX11_setOutside F G M p1 p2 p3) : vx_Met l yX11_setOutside (Cond.code yX11_setOutside cX11_setOutside 4 none :: wsL_law) rmX11_setOutside (va_Pc [.ref h0, .int p1, .int p2, .int p3] (jX D yy (pV yy h0 an B B2 F G F2 G2 M) sz)) (va_Qv (fun (u : ((Nat → Nat) × jS) × jF) => gX11_setOutside F G M p1 p2 p3 = (0, (u.1.2, u.2)) ∧ ∀ k, k < 100 → u.1.1 k = B k) (fun u t => jB D yy (va_A (pV yy h0 an B B2 F G F2 G2 M) sz) (pV yy h0 an u.1.1 B2 u.1.2.1 u.1.2.2 F2 G2 u.2) t) (va_A (pV yy h0 an B B2 F G F2 G2 M) sz)) (vx_X (fun _ : Unit => True) (fun E _ _ => (gX11_setOutside F G M p1 p2 p3).1 ≠ 0 ∧ E = xN (gX11_setOutside F G M p1 p2 p3).1) (jE sz)) 9 64 (va_A (pV yy h0 an B B2 F G F2 G2 M) sz) := by
  generalize hres : gX11_setOutside F G M p1 p2 p3 = RES
  refine jMX (vs := [.ref h0, .int p1, .int p2, .int p3]) (own := RX11) (by decide +kernel) rfl (Nat.le_of_ble_eq_true rfl) ?_
  intro p e s m args below meth c ls Q hQ hargs S hr hlk htab hB hl
  obtain ⟨hx, hb, hml, hown, hts⟩ := S
  have hl : lv_has ls 4 [(0, .ref h0), (1, .int p1), (2, .int p2), (3, .int p3)] := hl

  obtain ⟨⟨hsz, hV, hK, hD0⟩, hT⟩ := hB
  subst hsz
  have hD := hD0.self (sz := s.heap.size)
  have hE : ∀ q, jE s.heap.size q → va_A (pV yy h0 an B B2 F G F2 G2 M) s.heap.size q := fun q h => Or.inr h
  generalize hZ : va_A (pV yy h0 an B B2 F G F2 G2 M) s.heap.size = Z at hD hQ hT hE
  have hA : ∀ q : Nat, s.heap.size ≤ q → Z q := fun q h => by rw [← hZ]; exact Or.inr h
  have hfree : ∀ q, jE s.heap.size q → Z q := hE
  obtain ⟨H, hH⟩ : ∃ z, z = s.heap := ⟨_, rfl⟩
  obtain ⟨locs, hlocs⟩ : ∃ z : List Loc, z = [] := ⟨_, rfl⟩
  have hS9 : va_S (jE s.heap.size) s.heap H locs := by rw [hH, hlocs]; exact va_S.rf
  have hS := hS9.mono hE
  rw [← hH] at hV
  have hP : va_P D vwCl (lW yy B F G) H := pV_P hV
  suffices hgo : W p l e rmX11_setOutside s m args below meth c H locs 0 0 Q (F0 m 0 ls []) by rw [hH, hlocs] at hgo; exact hgo
  unfold gX11_setOutside at hres
  unfold okX11_setOutside at hok
  refine lv_aload_n hx hb (dd_of dX11_setOutside_0 0 rfl) rfl (lv_at hl 0 rfl) ?_
  refine lv_iload_n hx hb (dd_of dX11_setOutside_0 1 rfl) rfl (lv_at hl 1 rfl) ?_
  refine lv_bipush (v := (-99)) hx hb (dd_of dX11_setOutside_0 2 rfl) (by decide) ?_
  refine lv_bipush (v := 99) hx hb (dd_of dX11_setOutside_0 3 rfl) (by decide) ?_
  refine xc_v (g := (gX11_needRange p1 (-99) 99)) (As := [.int p1, .int (-99), .int 99]) (rest := []) (w := ([] : va_W)) (D := D) (yy := yy) ⟨hx, hb, hml, hown, hts⟩ (qX11_needRange l hl9 D yy h0 H.size p1 (-99) 99) (cwV 3 hts (jgV gw183 gw184 gw185 gw2 gw186) rfl rfl rfl (by decide +kernel) ⟨Nat.le_of_ble_eq_true rfl, Nat.le_of_ble_eq_true rfl⟩) (fun k q h => by simp at h) hK hT hS hA hS9 (va_recv hK hV (ci := 11) (q0 := 0) rfl rfl) rfl hl.1 rfl (Nat.le_of_ble_eq_true rfl) (dd_of dX11_setOutside_0 4 rfl) ⟨Nat.le_of_ble_eq_true rfl, Nat.le_of_ble_eq_true rfl⟩ (fun E9 ce9 qx9 H locs cx ex hS9 z1 z2 z3 => ?_) (fun H locs cx hkp hS9 => ?_)
  · replace hres := ifN cx (bvE rfl hres)
    subst hQ
    exact xout (px := True) (B := (fun E => RES.1 ≠ 0 ∧ E = xN RES.1)) htab hlk hS9 z1 z2 z3 trivial (by rw [← hres]; exact ⟨cx, ex⟩) (Nat.le_of_ble_eq_true rfl) (Nat.le_of_ble_eq_true rfl) hfree
  · replace hres := ifE cx (bvE rfl hres)
    replace hok := bvO rfl hok
    replace hok := hok cx
    have hS := hS9.mono hE
    have hV := hkp _ hV
    have hP := hkp _ hP
    refine lv_aload_n hx hb (dd_of dX11_setOutside_0 5 rfl) rfl (lv_at hl 0 rfl) ?_
    refine lv_iload_n hx hb (dd_of dX11_setOutside_0 6 rfl) rfl (lv_at hl 2 rfl) ?_
    refine lv_iconst (v := 0) hx hb (dd_of dX11_setOutside_0 7 rfl) (by decide) ?_
    refine lv_sipush (v := 400) hx hb (dd_of dX11_setOutside_0 8 rfl) (by decide) ?_
    refine xc_v (g := (gX11_needRange p2 0 400)) (As := [.int p2, .int 0, .int 400]) (rest := []) (w := ([] : va_W)) (D := D) (yy := yy) ⟨hx, hb, hml, hown, hts⟩ (qX11_needRange l hl9 D yy h0 H.size p2 0 400) (cwV 3 hts (jgV gw183 gw184 gw185 gw2 gw186) rfl rfl rfl (by decide +kernel) ⟨Nat.le_of_ble_eq_true rfl, Nat.le_of_ble_eq_true rfl⟩) (fun k q h => by simp at h) hK hT hS hA hS9 (va_recv hK hV (ci := 11) (q0 := 0) rfl rfl) rfl hl.1 rfl (Nat.le_of_ble_eq_true rfl) (dd_of dX11_setOutside_0 9 rfl) ⟨Nat.le_of_ble_eq_true rfl, Nat.le_of_ble_eq_true rfl⟩ (fun E9 ce9 qx9 H locs cx ex hS9 z1 z2 z3 => ?_) (fun H locs cx hkp hS9 => ?_)
    · replace hres := ifN cx (bvE rfl hres)
      subst hQ
      exact xout (px := True) (B := (fun E => RES.1 ≠ 0 ∧ E = xN RES.1)) htab hlk hS9 z1 z2 z3 trivial (by rw [← hres]; exact ⟨cx, ex⟩) (Nat.le_of_ble_eq_true rfl) (Nat.le_of_ble_eq_true rfl) hfree
    · replace hres := ifE cx (bvE rfl hres)
      replace hok := bvO rfl hok
      replace hok := hok cx
      have hS := hS9.mono hE
      have hV := hkp _ hV
      have hP := hkp _ hP
      refine lv_aload_n hx hb (dd_of dX11_setOutside_0 10 rfl) rfl (lv_at hl 0 rfl) ?_
      refine lv_iload_n hx hb (dd_of dX11_setOutside_0 11 rfl) rfl (lv_at hl 3 rfl) ?_
      refine lv_sipush (v := (-9999)) hx hb (dd_of dX11_setOutside_0 12 rfl) (by decide) ?_
      refine lv_ldc (v := 99999) hx hb hown (jw hts gw715) (dd_of dX11_setOutside_0 13 rfl) ?_
      refine xc_v (g := (gX11_needRange p3 (-9999) 99999)) (As := [.int p3, .int (-9999), .int 99999]) (rest := []) (w := ([] : va_W)) (D := D) (yy := yy) ⟨hx, hb, hml, hown, hts⟩ (qX11_needRange l hl9 D yy h0 H.size p3 (-9999) 99999) (cwV 3 hts (jgV gw183 gw184 gw185 gw2 gw186) rfl rfl rfl (by decide +kernel) ⟨Nat.le_of_ble_eq_true rfl, Nat.le_of_ble_eq_true rfl⟩) (fun k q h => by simp at h) hK hT hS hA hS9 (va_recv hK hV (ci := 11) (q0 := 0) rfl rfl) rfl hl.1 rfl (Nat.le_of_ble_eq_true rfl) (dd_of dX11_setOutside_0 14 rfl) ⟨Nat.le_of_ble_eq_true rfl, Nat.le_of_ble_eq_true rfl⟩ (fun E9 ce9 qx9 H locs cx ex hS9 z1 z2 z3 => ?_) (fun H locs cx hkp hS9 => ?_)
      · replace hres := ifN cx (bvE rfl hres)
        subst hQ
        exact xout (px := True) (B := (fun E => RES.1 ≠ 0 ∧ E = xN RES.1)) htab hlk hS9 z1 z2 z3 trivial (by rw [← hres]; exact ⟨cx, ex⟩) (Nat.le_of_ble_eq_true rfl) (Nat.le_of_ble_eq_true rfl) hfree
      · replace hres := ifE cx (bvE rfl hres)
        replace hok := bvO rfl hok
        replace hok := hok cx
        have hS := hS9.mono hE
        have hV := hkp _ hV
        have hP := hkp _ hP
        refine lv_aload_n hx hb (dd_of dX11_setOutside_0 15 rfl) rfl (lv_at hl 0 rfl) ?_
        refine va_get (D := D) (cl := vwCl) (tys := jT yy) (ci := 11) (v := .ref (B 0)) (C := RX11) (T := TX11) (N := 5) hx hb hts (fun w h => List.mem_cons_of_mem _ (inlX11 w h)) hown hK hV 0 rfl rfl 0 (by decide) (jw hts gw16) (fun _ h9 => h9) rfl (dd_of dX11_setOutside_0 16 rfl) ?_
        refine lv_aload_n hx hb (dd_of dX11_setOutside_0 17 rfl) rfl (lv_at hl 0 rfl) ?_
        refine va_get (D := D) (cl := vwCl) (tys := jT yy) (ci := 11) (v := .ref an) (C := RX11) (T := TX11) (N := 5) hx hb hts (fun w h => List.mem_cons_of_mem _ (inlX11 w h)) hown hK hV 0 rfl rfl 1 (by decide) (jw hts gw18) (fun _ h9 => h9) rfl (dd_of dX11_setOutside_0 18 rfl) ?_
        refine lv_aload_n hx hb (dd_of dX11_setOutside_0 19 rfl) rfl (lv_at hl 0 rfl) ?_
        refine lv_bipush (v := 7) hx hb (dd_of dX11_setOutside_0 20 rfl) (by decide) ?_
        refine lv_iload_n hx hb (dd_of dX11_setOutside_0 21 rfl) rfl (lv_at hl 1 rfl) ?_
        refine lv_iload_n hx hb (dd_of dX11_setOutside_0 22 rfl) rfl (lv_at hl 2 rfl) ?_
        refine lv_iload_n hx hb (dd_of dX11_setOutside_0 23 rfl) rfl (lv_at hl 3 rfl) ?_
        refine lv_iconst (v := 0) hx hb (dd_of dX11_setOutside_0 24 rfl) (by decide) ?_
        refine lv_iconst (v := 0) hx hb (dd_of dX11_setOutside_0 25 rfl) (by decide) ?_
        have hk9 := hok.1
        replace hok := hok.2
        refine jz_i (As := [.int 7, .int p1, .int p2, .int p3, .int 0, .int 0]) (rest := [.ref an, .ref (B 0)]) (D := D) (yy := yy) (h0 := h0) (an := an) (B := B) (B2 := B2) (F := F) (G := G) (F2 := F2) (G2 := G2) (M := M) ⟨hx, hb, hml, hown, hts⟩ (qX11_note l D yy h0 an (B 0) (B2 0) M (fun _ _ => 0) H.size 7 p1 p2 p3 0 0 hk9) (cwV 6 hts (jgV gw195 gw196 gw197 gw2 gw198) rfl rfl rfl (by decide +kernel) ⟨Nat.le_of_ble_eq_true rfl, Nat.le_of_ble_eq_true rfl⟩) hV hK hD hS hA (va_recv hK hV (ci := 11) (q0 := 0) rfl rfl) rfl hl.1 rfl (Nat.le_of_ble_eq_true rfl) (dd_of dX11_setOutside_0 26 rfl) ⟨Nat.le_of_ble_eq_true rfl, Nat.le_of_ble_eq_true rfl⟩ (fun x6 M4 G5 H locs w7 hV hD hS => ?_)
        have hP := pV_P hV
        replace hres := brE w7 hres
        replace hok := brO w7 hok
        have hk9 := hok
        refine jz_l (As := [.ref an, .int x6]) (rest := []) (D := D) (yy := yy) (h0 := h0) (an := an) (B := B) (B2 := B2) (F := F) (G := G) (F2 := F2) (G2 := G2) (M := M4) ⟨hx, hb, hml, hown, hts⟩ (qX5_act l D yy B F G H.size an (M4 82) x6 hk9) (fun _ _ h => h.2 0 (by omega)) (cwV 2 hts (jgV gw200 gw201 gw202 gw15 gw203) rfl rfl rfl (by decide +kernel) ⟨Nat.le_of_ble_eq_true rfl, Nat.le_of_ble_eq_true rfl⟩) hV hK hD hS hA (va_recv hK hP (ci := 5) (q0 := 0) rfl rfl) rfl hl.1 rfl (Nat.le_of_ble_eq_true rfl) (dd_of dX11_setOutside_0 27 rfl) ⟨Nat.le_of_ble_eq_true rfl, Nat.le_of_ble_eq_true rfl⟩ (fun x10 B1 F8 G9 H locs w11 hV hD hS => ?_)
        obtain ⟨w11, hB1⟩ := w11
        have hB1 : ∀ k, k < 100 → B1 k = B k := hB1
        have w11 : (x10, (F8, G9)) = gX5_act F G (M4 82) x6 := w11
        replace hres := brE w11 hres
        refine lv_pop2_2 hx hb (dd_of dX11_setOutside_0 28 rfl) rfl ?_
        subst hQ
        refine vx_ret (W.widen (k := 9) (n := 64) (Nat.le_of_ble_eq_true rfl) (Nat.le_of_ble_eq_true rfl) ?_)
        exact W.vret hx hb hr (fun t ht hW => ⟨⟨((B1, (F8, G9)), M4), rfl, ⟨hres.symm, hB1⟩, by rw [ht]; exact hV, va_K.moved hW.alike hK, hD⟩, hS.F ht⟩) hS.2.2 (dd_of dX11_setOutside_0 29 rfl) hlk
set_option maxHeartbeats 4000000 in
set_option maxRecDepth 100000 in
theorem qX11_command (l : Launch) (hl9 : l.stackTraces = false) (D : va_G) (yy : Nat → ClassId) (h0 an : Nat) (B B2 : Nat → Nat) (F : jF) (G : jG) (F2 : jF) (G2 : jG) (M : jF) (sz : Nat) (p1 : Int32) (p2 : Int32) (p3 : Int32) (hok : okX11_command F G M p1 p2 p3) : vx_Met l yX11_command (Cond.code yX11_command cX11_command 4 (some .int) :: wsL_law) rmX11_command (va_Pc [.ref h0, .int p1, .int p2, .int p3] (jX D yy (pV yy h0 an B B2 F G F2 G2 M) sz)) (va_Qi (fun r (u : ((Nat → Nat) × jS) × jF) => gX11_command F G M p1 p2 p3 = (0, (r, (u.1.2, u.2))) ∧ ∀ k, k < 100 → u.1.1 k = B k) (fun u t => jB D yy (va_A (pV yy h0 an B B2 F G F2 G2 M) sz) (pV yy h0 an u.1.1 B2 u.1.2.1 u.1.2.2 F2 G2 u.2) t) (va_A (pV yy h0 an B B2 F G F2 G2 M) sz)) (vx_X (fun _ : Unit => True) (fun E _ _ => (gX11_command F G M p1 p2 p3).1 ≠ 0 ∧ E = xN (gX11_command F G M p1 p2 p3).1) (jE sz)) 9 64 (va_A (pV yy h0 an B B2 F G F2 G2 M) sz) := by
  generalize hres : gX11_command F G M p1 p2 p3 = RES
  refine jMX (vs := [.ref h0, .int p1, .int p2, .int p3]) (own := RX11) (by decide +kernel) rfl (Nat.le_of_ble_eq_true rfl) ?_
  intro p e s m args below meth c ls Q hQ hargs S hr hlk htab hB hl
  obtain ⟨hx, hb, hml, hown, hts⟩ := S
  have hl : lv_has ls 4 [(0, .ref h0), (1, .int p1), (2, .int p2), (3, .int p3)] := hl

  obtain ⟨⟨hsz, hV, hK, hD0⟩, hT⟩ := hB
  subst hsz
  have hD := hD0.self (sz := s.heap.size)
  have hE : ∀ q, jE s.heap.size q → va_A (pV yy h0 an B B2 F G F2 G2 M) s.heap.size q := fun q h => Or.inr h
  generalize hZ : va_A (pV yy h0 an B B2 F G F2 G2 M) s.heap.size = Z at hD hQ hT hE
  have hA : ∀ q : Nat, s.heap.size ≤ q → Z q := fun q h => by rw [← hZ]; exact Or.inr h
  have hfree : ∀ q, jE s.heap.size q → Z q := hE
  obtain ⟨H, hH⟩ : ∃ z, z = s.heap := ⟨_, rfl⟩
  obtain ⟨locs, hlocs⟩ : ∃ z : List Loc, z = [] := ⟨_, rfl⟩
  have hS9 : va_S (jE s.heap.size) s.heap H locs := by rw [hH, hlocs]; exact va_S.rf
  have hS := hS9.mono hE
  rw [← hH] at hV
  have hP : va_P D vwCl (lW yy B F G) H := pV_P hV
  suffices hgo : W p l e rmX11_command s m args below meth c H locs 0 0 Q (F0 m 0 ls []) by rw [hH, hlocs] at hgo; exact hgo
  unfold gX11_command at hres
  unfold okX11_command at hok
  refine lv_aload_n hx hb (dd_of dX11_command_0 0 rfl) rfl (lv_at hl 0 rfl) ?_
  refine lv_iload_n hx hb (dd_of dX11_command_0 1 rfl) rfl (lv_at hl 1 rfl) ?_
  have hk9 := hok.1
  replace hok := hok.2
  refine xc_q (B := B) (off := 200) (g := (gX11_needGate F G p1)) (As := [.int p1]) (rest := []) (w := (pV yy h0 an B B2 F G F2 G2 M)) (D := D) (yy := yy) ⟨hx, hb, hml, hown, hts⟩ (qX11_needGate l hl9 D yy h0 an B B2 F G F2 G2 M H.size p1 hk9) (cwV 1 hts (jgV gw768 gw769 gw770 gw2 gw771) rfl rfl rfl (by decide +kernel) ⟨Nat.le_of_ble_eq_true rfl, Nat.le_of_ble_eq_true rfl⟩) hV hK hT hS hA hS9 (va_recv hK hV (ci := 11) (q0 := 0) rfl rfl) rfl hl.1 rfl (Nat.le_of_ble_eq_true rfl) (dd_of dX11_command_0 2 rfl) ⟨Nat.le_of_ble_eq_true rfl, Nat.le_of_ble_eq_true rfl⟩ (fun E9 ce9 qx9 H locs cx ex hS9 z1 z2 z3 => ?_) (fun k1 H locs cx hkp hS9 => ?_)
  · rw [cx] at hres
    replace hres := omN hres
    subst hQ
    exact xout (px := True) (B := (fun E => RES.1 ≠ 0 ∧ E = xN RES.1)) htab hlk hS9 z1 z2 z3 trivial (by rw [← hres]; exact ⟨Nat.one_ne_zero, ex⟩) (Nat.le_of_ble_eq_true rfl) (Nat.le_of_ble_eq_true rfl) hfree
  · rw [cx] at hres
    replace hres := omS hres
    rw [cx] at hok
    replace hok := opS hok
    have hS := hS9.mono hE
    have hV := hkp _ hV
    have hP := hkp _ hP
    refine lv_pop hx hb (dd_of dX11_command_0 3 rfl) rfl ?_
    refine lv_aload_n hx hb (dd_of dX11_command_0 4 rfl) rfl (lv_at hl 0 rfl) ?_
    refine lv_iload_n hx hb (dd_of dX11_command_0 5 rfl) rfl (lv_at hl 3 rfl) ?_
    refine lv_iconst (v := 0) hx hb (dd_of dX11_command_0 6 rfl) (by decide) ?_
    refine lv_iconst (v := 3) hx hb (dd_of dX11_command_0 7 rfl) (by decide) ?_
    refine xc_v (g := (gX11_needRange p3 0 3)) (As := [.int p3, .int 0, .int 3]) (rest := []) (w := ([] : va_W)) (D := D) (yy := yy) ⟨hx, hb, hml, hown, hts⟩ (qX11_needRange l hl9 D yy h0 H.size p3 0 3) (cwV 3 hts (jgV gw183 gw184 gw185 gw2 gw186) rfl rfl rfl (by decide +kernel) ⟨Nat.le_of_ble_eq_true rfl, Nat.le_of_ble_eq_true rfl⟩) (fun k q h => by simp at h) hK hT hS hA hS9 (va_recv hK hV (ci := 11) (q0 := 0) rfl rfl) rfl hl.1 rfl (Nat.le_of_ble_eq_true rfl) (dd_of dX11_command_0 8 rfl) ⟨Nat.le_of_ble_eq_true rfl, Nat.le_of_ble_eq_true rfl⟩ (fun E9 ce9 qx9 H locs cx ex hS9 z1 z2 z3 => ?_) (fun H locs cx hkp hS9 => ?_)
    · replace hres := ifN cx (bvE rfl hres)
      subst hQ
      exact xout (px := True) (B := (fun E => RES.1 ≠ 0 ∧ E = xN RES.1)) htab hlk hS9 z1 z2 z3 trivial (by rw [← hres]; exact ⟨cx, ex⟩) (Nat.le_of_ble_eq_true rfl) (Nat.le_of_ble_eq_true rfl) hfree
    · replace hres := ifE cx (bvE rfl hres)
      replace hok := bvO rfl hok
      replace hok := hok cx
      have hS := hS9.mono hE
      have hV := hkp _ hV
      have hP := hkp _ hP
      refine lv_aload_n hx hb (dd_of dX11_command_0 9 rfl) rfl (lv_at hl 0 rfl) ?_
      refine va_get (D := D) (cl := vwCl) (tys := jT yy) (ci := 11) (v := .ref (B 0)) (C := RX11) (T := TX11) (N := 5) hx hb hts (fun w h => List.mem_cons_of_mem _ (inlX11 w h)) hown hK hV 0 rfl rfl 0 (by decide) (jw hts gw16) (fun _ h9 => h9) rfl (dd_of dX11_command_0 10 rfl) ?_
      refine lv_aload_n hx hb (dd_of dX11_command_0 11 rfl) rfl (lv_at hl 0 rfl) ?_
      refine va_get (D := D) (cl := vwCl) (tys := jT yy) (ci := 11) (v := .ref an) (C := RX11) (T := TX11) (N := 5) hx hb hts (fun w h => List.mem_cons_of_mem _ (inlX11 w h)) hown hK hV 0 rfl rfl 1 (by decide) (jw hts gw18) (fun _ h9 => h9) rfl (dd_of dX11_command_0 12 rfl) ?_
      refine lv_aload_n hx hb (dd_of dX11_command_0 13 rfl) rfl (lv_at hl 0 rfl) ?_
      refine lv_bipush (v := 11) hx hb (dd_of dX11_command_0 14 rfl) (by decide) ?_
      refine lv_iload_n hx hb (dd_of dX11_command_0 15 rfl) rfl (lv_at hl 1 rfl) ?_
      refine lv_iload_n hx hb (dd_of dX11_command_0 16 rfl) rfl (lv_at hl 2 rfl) ?_
      obtain ⟨z14, q13⟩ : ∃ z : Int32, (if p2 = 0 then 0 else 1) = z := ⟨_, rfl⟩
      refine jn_i (ls := ls) (v := z14) 34 [.int p1, .int 11, .ref h0, .ref an, .ref (B 0)] (fun v4 ev4 => ?_) (fun K15 => ?_)
      · replace hres := bvE (ev4.trans q13.symm) hres
        replace hok := bvO (ev4.trans q13.symm) hok
        refine lv_iload_n hx hb (dd_of dX11_command_0 21 rfl) rfl (lv_at hl 3 rfl) ?_
        refine lv_iconst (v := 0) hx hb (dd_of dX11_command_0 22 rfl) (by decide) ?_
        refine lv_iconst (v := 0) hx hb (dd_of dX11_command_0 23 rfl) (by decide) ?_
        have hk9 := hok.1
        replace hok := hok.2
        refine jz_i (As := [.int 11, .int p1, .int v4, .int p3, .int 0, .int 0]) (rest := [.ref an, .ref (B 0)]) (D := D) (yy := yy) (h0 := h0) (an := an) (B := B) (B2 := B2) (F := F) (G := G) (F2 := F2) (G2 := G2) (M := M) ⟨hx, hb, hml, hown, hts⟩ (qX11_note l D yy h0 an (B 0) (B2 0) M (fun _ _ => 0) H.size 11 p1 v4 p3 0 0 hk9) (cwV 6 hts (jgV gw195 gw196 gw197 gw2 gw198) rfl rfl rfl (by decide +kernel) ⟨Nat.le_of_ble_eq_true rfl, Nat.le_of_ble_eq_true rfl⟩) hV hK hD hS hA (va_recv hK hV (ci := 11) (q0 := 0) rfl rfl) rfl hl.1 rfl (Nat.le_of_ble_eq_true rfl) (dd_of dX11_command_0 24 rfl) ⟨Nat.le_of_ble_eq_true rfl, Nat.le_of_ble_eq_true rfl⟩ (fun x7 M5 G6 H locs w8 hV hD hS => ?_)
        have hP := pV_P hV
        replace hres := brE w8 hres
        replace hok := brO w8 hok
        have hk9 := hok
        refine jz_l (As := [.ref an, .int x7]) (rest := []) (D := D) (yy := yy) (h0 := h0) (an := an) (B := B) (B2 := B2) (F := F) (G := G) (F2 := F2) (G2 := G2) (M := M5) ⟨hx, hb, hml, hown, hts⟩ (qX5_act l D yy B F G H.size an (M5 82) x7 hk9) (fun _ _ h => h.2 0 (by omega)) (cwV 2 hts (jgV gw200 gw201 gw202 gw15 gw203) rfl rfl rfl (by decide +kernel) ⟨Nat.le_of_ble_eq_true rfl, Nat.le_of_ble_eq_true rfl⟩) hV hK hD hS hA (va_recv hK hP (ci := 5) (q0 := 0) rfl rfl) rfl hl.1 rfl (Nat.le_of_ble_eq_true rfl) (dd_of dX11_command_0 25 rfl) ⟨Nat.le_of_ble_eq_true rfl, Nat.le_of_ble_eq_true rfl⟩ (fun x11 B1 F9 G10 H locs w12 hV hD hS => ?_)
        obtain ⟨w12, hB1⟩ := w12
        have hB1 : ∀ k, k < 100 → B1 k = B k := hB1
        have w12 : (x11, (F9, G10)) = gX5_act F G (M5 82) x7 := w12
        replace hres := brE w12 hres
        refine lv_l2i (v := (Int64.toInt32 x11)) hx hb (dd_of dX11_command_0 26 rfl) rfl ?_
        subst hQ
        refine vx_ret (W.widen (k := 9) (n := 64) (Nat.le_of_ble_eq_true rfl) (Nat.le_of_ble_eq_true rfl) ?_)
        exact W.iret (v := (Int64.toInt32 x11)) hx hb hr (fun t ht hW => ⟨⟨(Int64.toInt32 x11), ((B1, (F9, G10)), M5), rfl, ⟨hres.symm, hB1⟩, by rw [ht]; exact hV, va_K.moved hW.alike hK, hD⟩, hS.F ht⟩) hS.2.2 (dd_of dX11_command_0 27 rfl) hlk
      · skip
        refine lv_if_eq (tgt := 33) hx hb (dd_of dX11_command_0 17 rfl) (by decide) (fun c3 => ?_) (fun c3 => ?_)
        · replace q13 := ifE c3 q13
          refine lv_iconst (v := 0) hx hb (dd_of dX11_command_0 20 rfl) (by decide) ?_
          exact K15 _ q13
        · replace q13 := ifN c3 q13
          refine lv_iconst (v := 1) hx hb (dd_of dX11_command_0 18 rfl) (by decide) ?_
          refine lv_goto (tgt := 34) hx hb (dd_of dX11_command_0 19 rfl) (by decide) ?_
          exact K15 _ q13
set_option maxHeartbeats 4000000 in
set_option maxRecDepth 100000 in
theorem qX11_drive (l : Launch) (hl9 : l.stackTraces = false) (D : va_G) (yy : Nat → ClassId) (h0 an : Nat) (B B2 : Nat → Nat) (F : jF) (G : jG) (F2 : jF) (G2 : jG) (M : jF) (sz : Nat) (p1 : Int32) (p2 : Int32) (p3 : Int32) (hok : okX11_drive F G M p1 p2 p3) : vx_Met l yX11_drive (Cond.code yX11_drive cX11_drive 4 (some .int) :: wsL_law) rmX11_drive (va_Pc [.ref h0, .int p1, .int p2, .int p3] (jX D yy (pV yy h0 an B B2 F G F2 G2 M) sz)) (va_Qi (fun r (u : ((Nat → Nat) × jS) × jF) => gX11_drive F G M p1 p2 p3 = (0, (r, (u.1.2, u.2))) ∧ ∀ k, k < 100 → u.1.1 k = B k) (fun u t => jB D yy (va_A (pV yy h0 an B B2 F G F2 G2 M) sz) (pV yy h0 an u.1.1 B2 u.1.2.1 u.1.2.2 F2 G2 u.2) t) (va_A (pV yy h0 an B B2 F G F2 G2 M) sz)) (vx_X (fun _ : Unit => True) (fun E _ _ => (gX11_drive F G M p1 p2 p3).1 ≠ 0 ∧ E = xN (gX11_drive F G M p1 p2 p3).1) (jE sz)) 9 64 (va_A (pV yy h0 an B B2 F G F2 G2 M) sz) := by
  generalize hres : gX11_drive F G M p1 p2 p3 = RES
  refine jMX (vs := [.ref h0, .int p1, .int p2, .int p3]) (own := RX11) (by decide +kernel) rfl (Nat.le_of_ble_eq_true rfl) ?_
  intro p e s m args below meth c ls Q hQ hargs S hr hlk htab hB hl
  obtain ⟨hx, hb, hml, hown, hts⟩ := S
  have hl : lv_has ls 4 [(0, .ref h0), (1, .int p1), (2, .int p2), (3, .int p3)] := hl

  obtain ⟨⟨hsz, hV, hK, hD0⟩, hT⟩ := hB
  subst hsz
  have hD := hD0.self (sz := s.heap.size)
  have hE : ∀ q, jE s.heap.size q → va_A (pV yy h0 an B B2 F G F2 G2 M) s.heap.size q := fun q h => Or.inr h
  generalize hZ : va_A (pV yy h0 an B B2 F G F2 G2 M) s.heap.size = Z at hD hQ hT hE
  have hA : ∀ q : Nat, s.heap.size ≤ q → Z q := fun q h => by rw [← hZ]; exact Or.inr h
  have hfree : ∀ q, jE s.heap.size q → Z q := hE
  obtain ⟨H, hH⟩ : ∃ z, z = s.heap := ⟨_, rfl⟩
  obtain ⟨locs, hlocs⟩ : ∃ z : List Loc, z = [] := ⟨_, rfl⟩
  have hS9 : va_S (jE s.heap.size) s.heap H locs := by rw [hH, hlocs]; exact va_S.rf
  have hS := hS9.mono hE
  rw [← hH] at hV
  have hP : va_P D vwCl (lW yy B F G) H := pV_P hV
  suffices hgo : W p l e rmX11_drive s m args below meth c H locs 0 0 Q (F0 m 0 ls []) by rw [hH, hlocs] at hgo; exact hgo
  unfold gX11_drive at hres
  unfold okX11_drive at hok
  refine lv_aload_n hx hb (dd_of dX11_drive_0 0 rfl) rfl (lv_at hl 0 rfl) ?_
  refine lv_iload_n hx hb (dd_of dX11_drive_0 1 rfl) rfl (lv_at hl 1 rfl) ?_
  have hk9 := hok.1
  replace hok := hok.2
  refine xc_q (B := B) (off := 300) (g := (gX11_needPump F G p1)) (As := [.int p1]) (rest := []) (w := (pV yy h0 an B B2 F G F2 G2 M)) (D := D) (yy := yy) ⟨hx, hb, hml, hown, hts⟩ (qX11_needPump l hl9 D yy h0 an B B2 F G F2 G2 M H.size p1 hk9) (cwV 1 hts (jgV gw799 gw800 gw801 gw2 gw802) rfl rfl rfl (by decide +kernel) ⟨Nat.le_of_ble_eq_true rfl, Nat.le_of_ble_eq_true rfl⟩) hV hK hT hS hA hS9 (va_recv hK hV (ci := 11) (q0 := 0) rfl rfl) rfl hl.1 rfl (Nat.le_of_ble_eq_true rfl) (dd_of dX11_drive_0 2 rfl) ⟨Nat.le_of_ble_eq_true rfl, Nat.le_of_ble_eq_true rfl⟩ (fun E9 ce9 qx9 H locs cx ex hS9 z1 z2 z3 => ?_) (fun k1 H locs cx hkp hS9 => ?_)
  · rw [cx] at hres
    replace hres := omN hres
    subst hQ
    exact xout (px := True) (B := (fun E => RES.1 ≠ 0 ∧ E = xN RES.1)) htab hlk hS9 z1 z2 z3 trivial (by rw [← hres]; exact ⟨Nat.one_ne_zero, ex⟩) (Nat.le_of_ble_eq_true rfl) (Nat.le_of_ble_eq_true rfl) hfree
  · rw [cx] at hres
    replace hres := omS hres
    rw [cx] at hok
    replace hok := opS hok
    have hS := hS9.mono hE
    have hV := hkp _ hV
    have hP := hkp _ hP
    refine lv_pop hx hb (dd_of dX11_drive_0 3 rfl) rfl ?_
    refine lv_aload_n hx hb (dd_of dX11_drive_0 4 rfl) rfl (lv_at hl 0 rfl) ?_
    refine lv_iload_n hx hb (dd_of dX11_drive_0 5 rfl) rfl (lv_at hl 3 rfl) ?_
    refine lv_iconst (v := 0) hx hb (dd_of dX11_drive_0 6 rfl) (by decide) ?_
    refine lv_bipush (v := 99) hx hb (dd_of dX11_drive_0 7 rfl) (by decide) ?_
    refine xc_v (g := (gX11_needRange p3 0 99)) (As := [.int p3, .int 0, .int 99]) (rest := []) (w := ([] : va_W)) (D := D) (yy := yy) ⟨hx, hb, hml, hown, hts⟩ (qX11_needRange l hl9 D yy h0 H.size p3 0 99) (cwV 3 hts (jgV gw183 gw184 gw185 gw2 gw186) rfl rfl rfl (by decide +kernel) ⟨Nat.le_of_ble_eq_true rfl, Nat.le_of_ble_eq_true rfl⟩) (fun k q h => by simp at h) hK hT hS hA hS9 (va_recv hK hV (ci := 11) (q0 := 0) rfl rfl) rfl hl.1 rfl (Nat.le_of_ble_eq_true rfl) (dd_of dX11_drive_0 8 rfl) ⟨Nat.le_of_ble_eq_true rfl, Nat.le_of_ble_eq_true rfl⟩ (fun E9 ce9 qx9 H locs cx ex hS9 z1 z2 z3 => ?_) (fun H locs cx hkp hS9 => ?_)
    · replace hres := ifN cx (bvE rfl hres)
      subst hQ
      exact xout (px := True) (B := (fun E => RES.1 ≠ 0 ∧ E = xN RES.1)) htab hlk hS9 z1 z2 z3 trivial (by rw [← hres]; exact ⟨cx, ex⟩) (Nat.le_of_ble_eq_true rfl) (Nat.le_of_ble_eq_true rfl) hfree
    · replace hres := ifE cx (bvE rfl hres)
      replace hok := bvO rfl hok
      replace hok := hok cx
      have hS := hS9.mono hE
      have hV := hkp _ hV
      have hP := hkp _ hP
      refine lv_aload_n hx hb (dd_of dX11_drive_0 9 rfl) rfl (lv_at hl 0 rfl) ?_
      refine lv_iload_n hx hb (dd_of dX11_drive_0 10 rfl) rfl (lv_at hl 3 rfl) ?_
      refine xc_v (g := (gX11_needMoney F G p3)) (As := [.int p3]) (rest := []) (w := (pV yy h0 an B B2 F G F2 G2 M)) (D := D) (yy := yy) ⟨hx, hb, hml, hown, hts⟩ (qX11_needMoney l hl9 D yy h0 an B B2 F G F2 G2 M H.size p3) (cwV 1 hts (jgV gw804 gw805 gw806 gw2 gw807) rfl rfl rfl (by decide +kernel) ⟨Nat.le_of_ble_eq_true rfl, Nat.le_of_ble_eq_true rfl⟩) hV hK hT hS hA hS9 (va_recv hK hV (ci := 11) (q0 := 0) rfl rfl) rfl hl.1 rfl (Nat.le_of_ble_eq_true rfl) (dd_of dX11_drive_0 11 rfl) ⟨Nat.le_of_ble_eq_true rfl, Nat.le_of_ble_eq_true rfl⟩ (fun E9 ce9 qx9 H locs cx ex hS9 z1 z2 z3 => ?_) (fun H locs cx hkp hS9 => ?_)
      · replace hres := ifN cx (bvE rfl hres)
        subst hQ
        exact xout (px := True) (B := (fun E => RES.1 ≠ 0 ∧ E = xN RES.1)) htab hlk hS9 z1 z2 z3 trivial (by rw [← hres]; exact ⟨cx, ex⟩) (Nat.le_of_ble_eq_true rfl) (Nat.le_of_ble_eq_true rfl) hfree
      · replace hres := ifE cx (bvE rfl hres)
        replace hok := bvO rfl hok
        replace hok := hok cx
        have hS := hS9.mono hE
        have hV := hkp _ hV
        have hP := hkp _ hP
        refine lv_aload_n hx hb (dd_of dX11_drive_0 12 rfl) rfl (lv_at hl 0 rfl) ?_
        refine va_get (D := D) (cl := vwCl) (tys := jT yy) (ci := 11) (v := .ref (B 0)) (C := RX11) (T := TX11) (N := 5) hx hb hts (fun w h => List.mem_cons_of_mem _ (inlX11 w h)) hown hK hV 0 rfl rfl 0 (by decide) (jw hts gw16) (fun _ h9 => h9) rfl (dd_of dX11_drive_0 13 rfl) ?_
        refine lv_aload_n hx hb (dd_of dX11_drive_0 14 rfl) rfl (lv_at hl 0 rfl) ?_
        refine va_get (D := D) (cl := vwCl) (tys := jT yy) (ci := 11) (v := .ref an) (C := RX11) (T := TX11) (N := 5) hx hb hts (fun w h => List.mem_cons_of_mem _ (inlX11 w h)) hown hK hV 0 rfl rfl 1 (by decide) (jw hts gw18) (fun _ h9 => h9) rfl (dd_of dX11_drive_0 15 rfl) ?_
        refine lv_aload_n hx hb (dd_of dX11_drive_0 16 rfl) rfl (lv_at hl 0 rfl) ?_
        refine lv_bipush (v := 12) hx hb (dd_of dX11_drive_0 17 rfl) (by decide) ?_
        refine lv_iload_n hx hb (dd_of dX11_drive_0 18 rfl) rfl (lv_at hl 1 rfl) ?_
        refine lv_iload_n hx hb (dd_of dX11_drive_0 19 rfl) rfl (lv_at hl 2 rfl) ?_
        obtain ⟨z15, q14⟩ : ∃ z : Int32, (if p2 = 0 then 0 else 1) = z := ⟨_, rfl⟩
        refine jn_i (ls := ls) (v := z15) 40 [.int p1, .int 12, .ref h0, .ref an, .ref (B 0)] (fun v5 ev5 => ?_) (fun K16 => ?_)
        · replace hres := bvE (ev5.trans q14.symm) hres
          replace hok := bvO (ev5.trans q14.symm) hok
          refine lv_iload_n hx hb (dd_of dX11_drive_0 24 rfl) rfl (lv_at hl 3 rfl) ?_
          refine lv_iconst (v := 0) hx hb (dd_of dX11_drive_0 25 rfl) (by decide) ?_
          refine lv_iconst (v := 0) hx hb (dd_of dX11_drive_0 26 rfl) (by decide) ?_
          have hk9 := hok.1
          replace hok := hok.2
          refine jz_i (As := [.int 12, .int p1, .int v5, .int p3, .int 0, .int 0]) (rest := [.ref an, .ref (B 0)]) (D := D) (yy := yy) (h0 := h0) (an := an) (B := B) (B2 := B2) (F := F) (G := G) (F2 := F2) (G2 := G2) (M := M) ⟨hx, hb, hml, hown, hts⟩ (qX11_note l D yy h0 an (B 0) (B2 0) M (fun _ _ => 0) H.size 12 p1 v5 p3 0 0 hk9) (cwV 6 hts (jgV gw195 gw196 gw197 gw2 gw198) rfl rfl rfl (by decide +kernel) ⟨Nat.le_of_ble_eq_true rfl, Nat.le_of_ble_eq_true rfl⟩) hV hK hD hS hA (va_recv hK hV (ci := 11) (q0 := 0) rfl rfl) rfl hl.1 rfl (Nat.le_of_ble_eq_true rfl) (dd_of dX11_drive_0 27 rfl) ⟨Nat.le_of_ble_eq_true rfl, Nat.le_of_ble_eq_true rfl⟩ (fun x8 M6 G7 H locs w9 hV hD hS => ?_)
          have hP := pV_P hV
          replace hres := brE w9 hres
          replace hok := brO w9 hok
          have hk9 := hok
          refine jz_l (As := [.ref an, .int x8]) (rest := []) (D := D) (yy := yy) (h0 := h0) (an := an) (B := B) (B2 := B2) (F := F) (G := G) (F2 := F2) (G2 := G2) (M := M6) ⟨hx, hb, hml, hown, hts⟩ (qX5_act l D yy B F G H.size an (M6 82) x8 hk9) (fun _ _ h => h.2 0 (by omega)) (cwV 2 hts (jgV gw200 gw201 gw202 gw15 gw203) rfl rfl rfl (by decide +kernel) ⟨Nat.le_of_ble_eq_true rfl, Nat.le_of_ble_eq_true rfl⟩) hV hK hD hS hA (va_recv hK hP (ci := 5) (q0 := 0) rfl rfl) rfl hl.1 rfl (Nat.le_of_ble_eq_true rfl) (dd_of dX11_drive_0 28 rfl) ⟨Nat.le_of_ble_eq_true rfl, Nat.le_of_ble_eq_true rfl⟩ (fun x12 B1 F10 G11 H locs w13 hV hD hS => ?_)
          obtain ⟨w13, hB1⟩ := w13
          have hB1 : ∀ k, k < 100 → B1 k = B k := hB1
          have w13 : (x12, (F10, G11)) = gX5_act F G (M6 82) x8 := w13
          replace hres := brE w13 hres
          refine lv_l2i (v := (Int64.toInt32 x12)) hx hb (dd_of dX11_drive_0 29 rfl) rfl ?_
          subst hQ
          refine vx_ret (W.widen (k := 9) (n := 64) (Nat.le_of_ble_eq_true rfl) (Nat.le_of_ble_eq_true rfl) ?_)
          exact W.iret (v := (Int64.toInt32 x12)) hx hb hr (fun t ht hW => ⟨⟨(Int64.toInt32 x12), ((B1, (F10, G11)), M6), rfl, ⟨hres.symm, hB1⟩, by rw [ht]; exact hV, va_K.moved hW.alike hK, hD⟩, hS.F ht⟩) hS.2.2 (dd_of dX11_drive_0 30 rfl) hlk
        · skip
          refine lv_if_eq (tgt := 39) hx hb (dd_of dX11_drive_0 20 rfl) (by decide) (fun c4 => ?_) (fun c4 => ?_)
          · replace q14 := ifE c4 q14
            refine lv_iconst (v := 0) hx hb (dd_of dX11_drive_0 23 rfl) (by decide) ?_
            exact K16 _ q14
          · replace q14 := ifN c4 q14
            refine lv_iconst (v := 1) hx hb (dd_of dX11_drive_0 21 rfl) (by decide) ?_
            refine lv_goto (tgt := 40) hx hb (dd_of dX11_drive_0 22 rfl) (by decide) ?_
            exact K16 _ q14
set_option maxHeartbeats 4000000 in
set_option maxRecDepth 100000 in
theorem qX11_mend (l : Launch) (hl9 : l.stackTraces = false) (D : va_G) (yy : Nat → ClassId) (h0 an : Nat) (B B2 : Nat → Nat) (F : jF) (G : jG) (F2 : jF) (G2 : jG) (M : jF) (sz : Nat) (p1 : Int32) (hok : okX11_mend F G M p1) : vx_Met l yX11_mend (Cond.code yX11_mend cX11_mend 2 (some .int) :: wsL_law) rmX11_mend (va_Pc [.ref h0, .int p1] (jX D yy (pV yy h0 an B B2 F G F2 G2 M) sz)) (va_Qi (fun r (u : ((Nat → Nat) × jS) × jF) => gX11_mend F G M p1 = (0, (r, (u.1.2, u.2))) ∧ ∀ k, k < 100 → u.1.1 k = B k) (fun u t => jB D yy (va_A (pV yy h0 an B B2 F G F2 G2 M) sz) (pV yy h0 an u.1.1 B2 u.1.2.1 u.1.2.2 F2 G2 u.2) t) (va_A (pV yy h0 an B B2 F G F2 G2 M) sz)) (vx_X (fun _ : Unit => True) (fun E _ _ => (gX11_mend F G M p1).1 ≠ 0 ∧ E = xN (gX11_mend F G M p1).1) (jE sz)) 9 64 (va_A (pV yy h0 an B B2 F G F2 G2 M) sz) := by
  generalize hres : gX11_mend F G M p1 = RES
  refine jMX (vs := [.ref h0, .int p1]) (own := RX11) (by decide +kernel) rfl (Nat.le_of_ble_eq_true rfl) ?_
  intro p e s m args below meth c ls Q hQ hargs S hr hlk htab hB hl
  obtain ⟨hx, hb, hml, hown, hts⟩ := S
  have hl : lv_has ls 2 [(0, .ref h0), (1, .int p1)] := hl

  obtain ⟨⟨hsz, hV, hK, hD0⟩, hT⟩ := hB
  subst hsz
  have hD := hD0.self (sz := s.heap.size)
  have hE : ∀ q, jE s.heap.size q → va_A (pV yy h0 an B B2 F G F2 G2 M) s.heap.size q := fun q h => Or.inr h
  generalize hZ : va_A (pV yy h0 an B B2 F G F2 G2 M) s.heap.size = Z at hD hQ hT hE
  have hA : ∀ q : Nat, s.heap.size ≤ q → Z q := fun q h => by rw [← hZ]; exact Or.inr h
  have hfree : ∀ q, jE s.heap.size q → Z q := hE
  obtain ⟨H, hH⟩ : ∃ z, z = s.heap := ⟨_, rfl⟩
  obtain ⟨locs, hlocs⟩ : ∃ z : List Loc, z = [] := ⟨_, rfl⟩
  have hS9 : va_S (jE s.heap.size) s.heap H locs := by rw [hH, hlocs]; exact va_S.rf
  have hS := hS9.mono hE
  rw [← hH] at hV
  have hP : va_P D vwCl (lW yy B F G) H := pV_P hV
  suffices hgo : W p l e rmX11_mend s m args below meth c H locs 0 0 Q (F0 m 0 ls []) by rw [hH, hlocs] at hgo; exact hgo
  unfold gX11_mend at hres
  unfold okX11_mend at hok
  refine lv_aload_n hx hb (dd_of dX11_mend_0 0 rfl) rfl (lv_at hl 0 rfl) ?_
  refine lv_iload_n hx hb (dd_of dX11_mend_0 1 rfl) rfl (lv_at hl 1 rfl) ?_
  have hk9 := hok.1
  replace hok := hok.2
  refine xc_q (B := B) (off := 300) (g := (gX11_needPump F G p1)) (As := [.int p1]) (rest := []) (w := (pV yy h0 an B B2 F G F2 G2 M)) (D := D) (yy := yy) ⟨hx, hb, hml, hown, hts⟩ (qX11_needPump l hl9 D yy h0 an B B2 F G F2 G2 M H.size p1 hk9) (cwV 1 hts (jgV gw799 gw800 gw801 gw2 gw802) rfl rfl rfl (by decide +kernel) ⟨Nat.le_of_ble_eq_true rfl, Nat.le_of_ble_eq_true rfl⟩) hV hK hT hS hA hS9 (va_recv hK hV (ci := 11) (q0 := 0) rfl rfl) rfl hl.1 rfl (Nat.le_of_ble_eq_true rfl) (dd_of dX11_mend_0 2 rfl) ⟨Nat.le_of_ble_eq_true rfl, Nat.le_of_ble_eq_true rfl⟩ (fun E9 ce9 qx9 H locs cx ex hS9 z1 z2 z3 => ?_) (fun k1 H locs cx hkp hS9 => ?_)
  · rw [cx] at hres
    replace hres := omN hres
    subst hQ
    exact xout (px := True) (B := (fun E => RES.1 ≠ 0 ∧ E = xN RES.1)) htab hlk hS9 z1 z2 z3 trivial (by rw [← hres]; exact ⟨Nat.one_ne_zero, ex⟩) (Nat.le_of_ble_eq_true rfl) (Nat.le_of_ble_eq_true rfl) hfree
  · rw [cx] at hres
    replace hres := omS hres
    rw [cx] at hok
    replace hok := opS hok
    have hS := hS9.mono hE
    have hV := hkp _ hV
    have hP := hkp _ hP
    refine lv_pop hx hb (dd_of dX11_mend_0 3 rfl) rfl ?_
    refine lv_aload_n hx hb (dd_of dX11_mend_0 4 rfl) rfl (lv_at hl 0 rfl) ?_
    refine lv_bipush (v := 20) hx hb (dd_of dX11_mend_0 5 rfl) (by decide) ?_
    refine xc_v (g := (gX11_needMoney F G 20)) (As := [.int 20]) (rest := []) (w := (pV yy h0 an B B2 F G F2 G2 M)) (D := D) (yy := yy) ⟨hx, hb, hml, hown, hts⟩ (qX11_needMoney l hl9 D yy h0 an B B2 F G F2 G2 M H.size 20) (cwV 1 hts (jgV gw804 gw805 gw806 gw2 gw807) rfl rfl rfl (by decide +kernel) ⟨Nat.le_of_ble_eq_true rfl, Nat.le_of_ble_eq_true rfl⟩) hV hK hT hS hA hS9 (va_recv hK hV (ci := 11) (q0 := 0) rfl rfl) rfl hl.1 rfl (Nat.le_of_ble_eq_true rfl) (dd_of dX11_mend_0 6 rfl) ⟨Nat.le_of_ble_eq_true rfl, Nat.le_of_ble_eq_true rfl⟩ (fun E9 ce9 qx9 H locs cx ex hS9 z1 z2 z3 => ?_) (fun H locs cx hkp hS9 => ?_)
    · replace hres := ifN cx (bvE rfl hres)
      subst hQ
      exact xout (px := True) (B := (fun E => RES.1 ≠ 0 ∧ E = xN RES.1)) htab hlk hS9 z1 z2 z3 trivial (by rw [← hres]; exact ⟨cx, ex⟩) (Nat.le_of_ble_eq_true rfl) (Nat.le_of_ble_eq_true rfl) hfree
    · replace hres := ifE cx (bvE rfl hres)
      replace hok := bvO rfl hok
      replace hok := hok cx
      have hS := hS9.mono hE
      have hV := hkp _ hV
      have hP := hkp _ hP
      refine lv_aload_n hx hb (dd_of dX11_mend_0 7 rfl) rfl (lv_at hl 0 rfl) ?_
      refine va_get (D := D) (cl := vwCl) (tys := jT yy) (ci := 11) (v := .ref (B 0)) (C := RX11) (T := TX11) (N := 5) hx hb hts (fun w h => List.mem_cons_of_mem _ (inlX11 w h)) hown hK hV 0 rfl rfl 0 (by decide) (jw hts gw16) (fun _ h9 => h9) rfl (dd_of dX11_mend_0 8 rfl) ?_
      refine lv_aload_n hx hb (dd_of dX11_mend_0 9 rfl) rfl (lv_at hl 0 rfl) ?_
      refine va_get (D := D) (cl := vwCl) (tys := jT yy) (ci := 11) (v := .ref an) (C := RX11) (T := TX11) (N := 5) hx hb hts (fun w h => List.mem_cons_of_mem _ (inlX11 w h)) hown hK hV 0 rfl rfl 1 (by decide) (jw hts gw18) (fun _ h9 => h9) rfl (dd_of dX11_mend_0 10 rfl) ?_
      refine lv_aload_n hx hb (dd_of dX11_mend_0 11 rfl) rfl (lv_at hl 0 rfl) ?_
      refine lv_bipush (v := 13) hx hb (dd_of dX11_mend_0 12 rfl) (by decide) ?_
      refine lv_iload_n hx hb (dd_of dX11_mend_0 13 rfl) rfl (lv_at hl 1 rfl) ?_
      refine lv_iconst (v := 0) hx hb (dd_of dX11_mend_0 14 rfl) (by decide) ?_
      refine lv_iconst (v := 0) hx hb (dd_of dX11_mend_0 15 rfl) (by decide) ?_
      refine lv_iconst (v := 0) hx hb (dd_of dX11_mend_0 16 rfl) (by decide) ?_
      refine lv_iconst (v := 0) hx hb (dd_of dX11_mend_0 17 rfl) (by decide) ?_
      have hk9 := hok.1
      replace hok := hok.2
      refine jz_i (As := [.int 13, .int p1, .int 0, .int 0, .int 0, .int 0]) (rest := [.ref an, .ref (B 0)]) (D := D) (yy := yy) (h0 := h0) (an := an) (B := B) (B2 := B2) (F := F) (G := G) (F2 := F2) (G2 := G2) (M := M) ⟨hx, hb, hml, hown, hts⟩ (qX11_note l D yy h0 an (B 0) (B2 0) M (fun _ _ => 0) H.size 13 p1 0 0 0 0 hk9) (cwV 6 hts (jgV gw195 gw196 gw197 gw2 gw198) rfl rfl rfl (by decide +kernel) ⟨Nat.le_of_ble_eq_true rfl, Nat.le_of_ble_eq_true rfl⟩) hV hK hD hS hA (va_recv hK hV (ci := 11) (q0 := 0) rfl rfl) rfl hl.1 rfl (Nat.le_of_ble_eq_true rfl) (dd_of dX11_mend_0 18 rfl) ⟨Nat.le_of_ble_eq_true rfl, Nat.le_of_ble_eq_true rfl⟩ (fun x5 M3 G4 H locs w6 hV hD hS => ?_)
      have hP := pV_P hV
      replace hres := brE w6 hres
      replace hok := brO w6 hok
      have hk9 := hok
      refine jz_l (As := [.ref an, .int x5]) (rest := []) (D := D) (yy := yy) (h0 := h0) (an := an) (B := B) (B2 := B2) (F := F) (G := G) (F2 := F2) (G2 := G2) (M := M3) ⟨hx, hb, hml, hown, hts⟩ (qX5_act l D yy B F G H.size an (M3 82) x5 hk9) (fun _ _ h => h.2 0 (by omega)) (cwV 2 hts (jgV gw200 gw201 gw202 gw15 gw203) rfl rfl rfl (by decide +kernel) ⟨Nat.le_of_ble_eq_true rfl, Nat.le_of_ble_eq_true rfl⟩) hV hK hD hS hA (va_recv hK hP (ci := 5) (q0 := 0) rfl rfl) rfl hl.1 rfl (Nat.le_of_ble_eq_true rfl) (dd_of dX11_mend_0 19 rfl) ⟨Nat.le_of_ble_eq_true rfl, Nat.le_of_ble_eq_true rfl⟩ (fun x9 B1 F7 G8 H locs w10 hV hD hS => ?_)
      obtain ⟨w10, hB1⟩ := w10
      have hB1 : ∀ k, k < 100 → B1 k = B k := hB1
      have w10 : (x9, (F7, G8)) = gX5_act F G (M3 82) x5 := w10
      replace hres := brE w10 hres
      refine lv_l2i (v := (Int64.toInt32 x9)) hx hb (dd_of dX11_mend_0 20 rfl) rfl ?_
      subst hQ
      refine vx_ret (W.widen (k := 9) (n := 64) (Nat.le_of_ble_eq_true rfl) (Nat.le_of_ble_eq_true rfl) ?_)
      exact W.iret (v := (Int64.toInt32 x9)) hx hb hr (fun t ht hW => ⟨⟨(Int64.toInt32 x9), ((B1, (F7, G8)), M3), rfl, ⟨hres.symm, hB1⟩, by rw [ht]; exact hV, va_K.moved hW.alike hK, hD⟩, hS.F ht⟩) hS.2.2 (dd_of dX11_mend_0 21 rfl) hlk
set_option maxHeartbeats 4000000 in
set_option maxRecDepth 100000 in
theorem qX11_send (l : Launch) (hl9 : l.stackTraces = false) (D : va_G) (yy : Nat → ClassId) (h0 an : Nat) (B B2 : Nat → Nat) (F : jF) (G : jG) (F2 : jF) (G2 : jG) (M : jF) (sz : Nat) (p1 : Int32) (p2 : Int32) (p3 : Int32) (hok : okX11_send F G M p1 p2 p3) : vx_Met l yX11_send (Cond.code yX11_send cX11_send 4 (some .int) :: wsL_law) rmX11_send (va_Pc [.ref h0, .int p1, .int p2, .int p3] (jX D yy (pV yy h0 an B B2 F G F2 G2 M) sz)) (va_Qi (fun r (u : ((Nat → Nat) × jS) × jF) => gX11_send F G M p1 p2 p3 = (0, (r, (u.1.2, u.2))) ∧ ∀ k, k < 100 → u.1.1 k = B k) (fun u t => jB D yy (va_A (pV yy h0 an B B2 F G F2 G2 M) sz) (pV yy h0 an u.1.1 B2 u.1.2.1 u.1.2.2 F2 G2 u.2) t) (va_A (pV yy h0 an B B2 F G F2 G2 M) sz)) (vx_X (fun _ : Unit => True) (fun E _ _ => (gX11_send F G M p1 p2 p3).1 ≠ 0 ∧ E = xN (gX11_send F G M p1 p2 p3).1) (jE sz)) 9 64 (va_A (pV yy h0 an B B2 F G F2 G2 M) sz) := by
  generalize hres : gX11_send F G M p1 p2 p3 = RES
  refine jMX (vs := [.ref h0, .int p1, .int p2, .int p3]) (own := RX11) (by decide +kernel) rfl (Nat.le_of_ble_eq_true rfl) ?_
  intro p e s m args below meth c ls Q hQ hargs S hr hlk htab hB hl
  obtain ⟨hx, hb, hml, hown, hts⟩ := S
  have hl : lv_has ls 4 [(0, .ref h0), (1, .int p1), (2, .int p2), (3, .int p3)] := hl

  obtain ⟨⟨hsz, hV, hK, hD0⟩, hT⟩ := hB
  subst hsz
  have hD := hD0.self (sz := s.heap.size)
  have hE : ∀ q, jE s.heap.size q → va_A (pV yy h0 an B B2 F G F2 G2 M) s.heap.size q := fun q h => Or.inr h
  generalize hZ : va_A (pV yy h0 an B B2 F G F2 G2 M) s.heap.size = Z at hD hQ hT hE
  have hA : ∀ q : Nat, s.heap.size ≤ q → Z q := fun q h => by rw [← hZ]; exact Or.inr h
  have hfree : ∀ q, jE s.heap.size q → Z q := hE
  obtain ⟨H, hH⟩ : ∃ z, z = s.heap := ⟨_, rfl⟩
  obtain ⟨locs, hlocs⟩ : ∃ z : List Loc, z = [] := ⟨_, rfl⟩
  have hS9 : va_S (jE s.heap.size) s.heap H locs := by rw [hH, hlocs]; exact va_S.rf
  have hS := hS9.mono hE
  rw [← hH] at hV
  have hP : va_P D vwCl (lW yy B F G) H := pV_P hV
  suffices hgo : W p l e rmX11_send s m args below meth c H locs 0 0 Q (F0 m 0 ls []) by rw [hH, hlocs] at hgo; exact hgo
  unfold gX11_send at hres
  unfold okX11_send at hok
  refine lv_aload_n hx hb (dd_of dX11_send_0 0 rfl) rfl (lv_at hl 0 rfl) ?_
  refine lv_iload_n hx hb (dd_of dX11_send_0 1 rfl) rfl (lv_at hl 1 rfl) ?_
  have hk9 := hok.1
  replace hok := hok.2
  refine xc_q (B := B) (off := 700) (g := (gX11_needCrew F G p1)) (As := [.int p1]) (rest := []) (w := (pV yy h0 an B B2 F G F2 G2 M)) (D := D) (yy := yy) ⟨hx, hb, hml, hown, hts⟩ (qX11_needCrew l hl9 D yy h0 an B B2 F G F2 G2 M H.size p1 hk9) (cwV 1 hts (jgV gw834 gw835 gw836 gw2 gw837) rfl rfl rfl (by decide +kernel) ⟨Nat.le_of_ble_eq_true rfl, Nat.le_of_ble_eq_true rfl⟩) hV hK hT hS hA hS9 (va_recv hK hV (ci := 11) (q0 := 0) rfl rfl) rfl hl.1 rfl (Nat.le_of_ble_eq_true rfl) (dd_of dX11_send_0 2 rfl) ⟨Nat.le_of_ble_eq_true rfl, Nat.le_of_ble_eq_true rfl⟩ (fun E9 ce9 qx9 H locs cx ex hS9 z1 z2 z3 => ?_) (fun k1 H locs cx hkp hS9 => ?_)
  · rw [cx] at hres
    replace hres := omN hres
    subst hQ
    exact xout (px := True) (B := (fun E => RES.1 ≠ 0 ∧ E = xN RES.1)) htab hlk hS9 z1 z2 z3 trivial (by rw [← hres]; exact ⟨Nat.one_ne_zero, ex⟩) (Nat.le_of_ble_eq_true rfl) (Nat.le_of_ble_eq_true rfl) hfree
  · rw [cx] at hres
    replace hres := omS hres
    rw [cx] at hok
    replace hok := opS hok
    have hS := hS9.mono hE
    have hV := hkp _ hV
    have hP := hkp _ hP
    refine lv_pop hx hb (dd_of dX11_send_0 3 rfl) rfl ?_
    refine lv_iload_n hx hb (dd_of dX11_send_0 4 rfl) rfl (lv_at hl 2 rfl) ?_
    refine lv_iconst (v := (-1)) hx hb (dd_of dX11_send_0 5 rfl) (by decide) ?_
    refine lv_icmp_eq (tgt := 17) hx hb (dd_of dX11_send_0 6 rfl) (by decide) (fun c2 => ?_) (fun c2 => ?_)
    · replace hres := ifE c2 hres
      replace hok := hok.1 c2
      refine lv_aload_n hx hb (dd_of dX11_send_0 11 rfl) rfl (lv_at hl 0 rfl) ?_
      refine lv_iload_n hx hb (dd_of dX11_send_0 12 rfl) rfl (lv_at hl 3 rfl) ?_
      refine lv_iconst (v := 0) hx hb (dd_of dX11_send_0 13 rfl) (by decide) ?_
      refine lv_bipush (v := 99) hx hb (dd_of dX11_send_0 14 rfl) (by decide) ?_
      refine xc_v (g := (gX11_needRange p3 0 99)) (As := [.int p3, .int 0, .int 99]) (rest := []) (w := ([] : va_W)) (D := D) (yy := yy) ⟨hx, hb, hml, hown, hts⟩ (qX11_needRange l hl9 D yy h0 H.size p3 0 99) (cwV 3 hts (jgV gw183 gw184 gw185 gw2 gw186) rfl rfl rfl (by decide +kernel) ⟨Nat.le_of_ble_eq_true rfl, Nat.le_of_ble_eq_true rfl⟩) (fun k q h => by simp at h) hK hT hS hA hS9 (va_recv hK hV (ci := 11) (q0 := 0) rfl rfl) rfl hl.1 rfl (Nat.le_of_ble_eq_true rfl) (dd_of dX11_send_0 15 rfl) ⟨Nat.le_of_ble_eq_true rfl, Nat.le_of_ble_eq_true rfl⟩ (fun E9 ce9 qx9 H locs cx ex hS9 z1 z2 z3 => ?_) (fun H locs cx hkp hS9 => ?_)
      · replace hres := ifN cx (bvE rfl hres)
        subst hQ
        exact xout (px := True) (B := (fun E => RES.1 ≠ 0 ∧ E = xN RES.1)) htab hlk hS9 z1 z2 z3 trivial (by rw [← hres]; exact ⟨cx, ex⟩) (Nat.le_of_ble_eq_true rfl) (Nat.le_of_ble_eq_true rfl) hfree
      · replace hres := ifE cx (bvE rfl hres)
        replace hok := bvO rfl hok
        replace hok := hok cx
        have hS := hS9.mono hE
        have hV := hkp _ hV
        have hP := hkp _ hP
        refine lv_aload_n hx hb (dd_of dX11_send_0 16 rfl) rfl (lv_at hl 0 rfl) ?_
        refine lv_iload_n hx hb (dd_of dX11_send_0 17 rfl) rfl (lv_at hl 3 rfl) ?_
        refine xc_v (g := (gX11_needMoney F G p3)) (As := [.int p3]) (rest := []) (w := (pV yy h0 an B B2 F G F2 G2 M)) (D := D) (yy := yy) ⟨hx, hb, hml, hown, hts⟩ (qX11_needMoney l hl9 D yy h0 an B B2 F G F2 G2 M H.size p3) (cwV 1 hts (jgV gw804 gw805 gw806 gw2 gw807) rfl rfl rfl (by decide +kernel) ⟨Nat.le_of_ble_eq_true rfl, Nat.le_of_ble_eq_true rfl⟩) hV hK hT hS hA hS9 (va_recv hK hV (ci := 11) (q0 := 0) rfl rfl) rfl hl.1 rfl (Nat.le_of_ble_eq_true rfl) (dd_of dX11_send_0 18 rfl) ⟨Nat.le_of_ble_eq_true rfl, Nat.le_of_ble_eq_true rfl⟩ (fun E9 ce9 qx9 H locs cx ex hS9 z1 z2 z3 => ?_) (fun H locs cx hkp hS9 => ?_)
        · replace hres := ifN cx (bvE rfl hres)
          subst hQ
          exact xout (px := True) (B := (fun E => RES.1 ≠ 0 ∧ E = xN RES.1)) htab hlk hS9 z1 z2 z3 trivial (by rw [← hres]; exact ⟨cx, ex⟩) (Nat.le_of_ble_eq_true rfl) (Nat.le_of_ble_eq_true rfl) hfree
        · replace hres := ifE cx (bvE rfl hres)
          replace hok := bvO rfl hok
          replace hok := hok cx
          have hS := hS9.mono hE
          have hV := hkp _ hV
          have hP := hkp _ hP
          refine lv_aload_n hx hb (dd_of dX11_send_0 19 rfl) rfl (lv_at hl 0 rfl) ?_
          refine va_get (D := D) (cl := vwCl) (tys := jT yy) (ci := 11) (v := .ref (B 0)) (C := RX11) (T := TX11) (N := 5) hx hb hts (fun w h => List.mem_cons_of_mem _ (inlX11 w h)) hown hK hV 0 rfl rfl 0 (by decide) (jw hts gw16) (fun _ h9 => h9) rfl (dd_of dX11_send_0 20 rfl) ?_
          refine lv_aload_n hx hb (dd_of dX11_send_0 21 rfl) rfl (lv_at hl 0 rfl) ?_
          refine va_get (D := D) (cl := vwCl) (tys := jT yy) (ci := 11) (v := .ref an) (C := RX11) (T := TX11) (N := 5) hx hb hts (fun w h => List.mem_cons_of_mem _ (inlX11 w h)) hown hK hV 0 rfl rfl 1 (by decide) (jw hts gw18) (fun _ h9 => h9) rfl (dd_of dX11_send_0 22 rfl) ?_
          refine lv_aload_n hx hb (dd_of dX11_send_0 23 rfl) rfl (lv_at hl 0 rfl) ?_
          refine lv_bipush (v := 14) hx hb (dd_of dX11_send_0 24 rfl) (by decide) ?_
          refine lv_iload_n hx hb (dd_of dX11_send_0 25 rfl) rfl (lv_at hl 1 rfl) ?_
          refine lv_iload_n hx hb (dd_of dX11_send_0 26 rfl) rfl (lv_at hl 2 rfl) ?_
          refine lv_iload_n hx hb (dd_of dX11_send_0 27 rfl) rfl (lv_at hl 3 rfl) ?_
          refine lv_iconst (v := 0) hx hb (dd_of dX11_send_0 28 rfl) (by decide) ?_
          refine lv_iconst (v := 0) hx hb (dd_of dX11_send_0 29 rfl) (by decide) ?_
          have hk9 := hok.1
          replace hok := hok.2
          refine jz_i (As := [.int 14, .int p1, .int p2, .int p3, .int 0, .int 0]) (rest := [.ref an, .ref (B 0)]) (D := D) (yy := yy) (h0 := h0) (an := an) (B := B) (B2 := B2) (F := F) (G := G) (F2 := F2) (G2 := G2) (M := M) ⟨hx, hb, hml, hown, hts⟩ (qX11_note l D yy h0 an (B 0) (B2 0) M (fun _ _ => 0) H.size 14 p1 p2 p3 0 0 hk9) (cwV 6 hts (jgV gw195 gw196 gw197 gw2 gw198) rfl rfl rfl (by decide +kernel) ⟨Nat.le_of_ble_eq_true rfl, Nat.le_of_ble_eq_true rfl⟩) hV hK hD hS hA (va_recv hK hV (ci := 11) (q0 := 0) rfl rfl) rfl hl.1 rfl (Nat.le_of_ble_eq_true rfl) (dd_of dX11_send_0 30 rfl) ⟨Nat.le_of_ble_eq_true rfl, Nat.le_of_ble_eq_true rfl⟩ (fun x7 M5 G6 H locs w8 hV hD hS => ?_)
          have hP := pV_P hV
          replace hres := brE w8 hres
          replace hok := brO w8 hok
          have hk9 := hok
          refine jz_l (As := [.ref an, .int x7]) (rest := []) (D := D) (yy := yy) (h0 := h0) (an := an) (B := B) (B2 := B2) (F := F) (G := G) (F2 := F2) (G2 := G2) (M := M5) ⟨hx, hb, hml, hown, hts⟩ (qX5_act l D yy B F G H.size an (M5 82) x7 hk9) (fun _ _ h => h.2 0 (by omega)) (cwV 2 hts (jgV gw200 gw201 gw202 gw15 gw203) rfl rfl rfl (by decide +kernel) ⟨Nat.le_of_ble_eq_true rfl, Nat.le_of_ble_eq_true rfl⟩) hV hK hD hS hA (va_recv hK hP (ci := 5) (q0 := 0) rfl rfl) rfl hl.1 rfl (Nat.le_of_ble_eq_true rfl) (dd_of dX11_send_0 31 rfl) ⟨Nat.le_of_ble_eq_true rfl, Nat.le_of_ble_eq_true rfl⟩ (fun x11 B1 F9 G10 H locs w12 hV hD hS => ?_)
          obtain ⟨w12, hB1⟩ := w12
          have hB1 : ∀ k, k < 100 → B1 k = B k := hB1
          have w12 : (x11, (F9, G10)) = gX5_act F G (M5 82) x7 := w12
          replace hres := brE w12 hres
          refine lv_l2i (v := (Int64.toInt32 x11)) hx hb (dd_of dX11_send_0 32 rfl) rfl ?_
          subst hQ
          refine vx_ret (W.widen (k := 9) (n := 64) (Nat.le_of_ble_eq_true rfl) (Nat.le_of_ble_eq_true rfl) ?_)
          exact W.iret (v := (Int64.toInt32 x11)) hx hb hr (fun t ht hW => ⟨⟨(Int64.toInt32 x11), ((B1, (F9, G10)), M5), rfl, ⟨hres.symm, hB1⟩, by rw [ht]; exact hV, va_K.moved hW.alike hK, hD⟩, hS.F ht⟩) hS.2.2 (dd_of dX11_send_0 33 rfl) hlk
    · replace hres := ifN c2 hres
      replace hok := hok.2 c2
      refine lv_aload_n hx hb (dd_of dX11_send_0 7 rfl) rfl (lv_at hl 0 rfl) ?_
      refine lv_iload_n hx hb (dd_of dX11_send_0 8 rfl) rfl (lv_at hl 2 rfl) ?_
      have hk9 := hok.1
      replace hok := hok.2
      refine xc_q (B := B) (off := 400) (g := (gX11_needDyke F G p2)) (As := [.int p2]) (rest := []) (w := (pV yy h0 an B B2 F G F2 G2 M)) (D := D) (yy := yy) ⟨hx, hb, hml, hown, hts⟩ (qX11_needDyke l hl9 D yy h0 an B B2 F G F2 G2 M H.size p2 hk9) (cwV 1 hts (jgV gw839 gw840 gw841 gw2 gw842) rfl rfl rfl (by decide +kernel) ⟨Nat.le_of_ble_eq_true rfl, Nat.le_of_ble_eq_true rfl⟩) hV hK hT hS hA hS9 (va_recv hK hV (ci := 11) (q0 := 0) rfl rfl) rfl hl.1 rfl (Nat.le_of_ble_eq_true rfl) (dd_of dX11_send_0 9 rfl) ⟨Nat.le_of_ble_eq_true rfl, Nat.le_of_ble_eq_true rfl⟩ (fun E9 ce9 qx9 H locs cx ex hS9 z1 z2 z3 => ?_) (fun k13 H locs cx hkp hS9 => ?_)
      · rw [cx] at hres
        replace hres := omN hres
        subst hQ
        exact xout (px := True) (B := (fun E => RES.1 ≠ 0 ∧ E = xN RES.1)) htab hlk hS9 z1 z2 z3 trivial (by rw [← hres]; exact ⟨Nat.one_ne_zero, ex⟩) (Nat.le_of_ble_eq_true rfl) (Nat.le_of_ble_eq_true rfl) hfree
      · rw [cx] at hres
        replace hres := omS hres
        rw [cx] at hok
        replace hok := opS hok
        have hS := hS9.mono hE
        have hV := hkp _ hV
        have hP := hkp _ hP
        refine lv_pop hx hb (dd_of dX11_send_0 10 rfl) rfl ?_
        refine lv_aload_n hx hb (dd_of dX11_send_0 11 rfl) rfl (lv_at hl 0 rfl) ?_
        refine lv_iload_n hx hb (dd_of dX11_send_0 12 rfl) rfl (lv_at hl 3 rfl) ?_
        refine lv_iconst (v := 0) hx hb (dd_of dX11_send_0 13 rfl) (by decide) ?_
        refine lv_bipush (v := 99) hx hb (dd_of dX11_send_0 14 rfl) (by decide) ?_
        refine xc_v (g := (gX11_needRange p3 0 99)) (As := [.int p3, .int 0, .int 99]) (rest := []) (w := ([] : va_W)) (D := D) (yy := yy) ⟨hx, hb, hml, hown, hts⟩ (qX11_needRange l hl9 D yy h0 H.size p3 0 99) (cwV 3 hts (jgV gw183 gw184 gw185 gw2 gw186) rfl rfl rfl (by decide +kernel) ⟨Nat.le_of_ble_eq_true rfl, Nat.le_of_ble_eq_true rfl⟩) (fun k q h => by simp at h) hK hT hS hA hS9 (va_recv hK hV (ci := 11) (q0 := 0) rfl rfl) rfl hl.1 rfl (Nat.le_of_ble_eq_true rfl) (dd_of dX11_send_0 15 rfl) ⟨Nat.le_of_ble_eq_true rfl, Nat.le_of_ble_eq_true rfl⟩ (fun E9 ce9 qx9 H locs cx ex hS9 z1 z2 z3 => ?_) (fun H locs cx hkp hS9 => ?_)
        · replace hres := ifN cx (bvE rfl hres)
          subst hQ
          exact xout (px := True) (B := (fun E => RES.1 ≠ 0 ∧ E = xN RES.1)) htab hlk hS9 z1 z2 z3 trivial (by rw [← hres]; exact ⟨cx, ex⟩) (Nat.le_of_ble_eq_true rfl) (Nat.le_of_ble_eq_true rfl) hfree
        · replace hres := ifE cx (bvE rfl hres)
          replace hok := bvO rfl hok
          replace hok := hok cx
          have hS := hS9.mono hE
          have hV := hkp _ hV
          have hP := hkp _ hP
          refine lv_aload_n hx hb (dd_of dX11_send_0 16 rfl) rfl (lv_at hl 0 rfl) ?_
          refine lv_iload_n hx hb (dd_of dX11_send_0 17 rfl) rfl (lv_at hl 3 rfl) ?_
          refine xc_v (g := (gX11_needMoney F G p3)) (As := [.int p3]) (rest := []) (w := (pV yy h0 an B B2 F G F2 G2 M)) (D := D) (yy := yy) ⟨hx, hb, hml, hown, hts⟩ (qX11_needMoney l hl9 D yy h0 an B B2 F G F2 G2 M H.size p3) (cwV 1 hts (jgV gw804 gw805 gw806 gw2 gw807) rfl rfl rfl (by decide +kernel) ⟨Nat.le_of_ble_eq_true rfl, Nat.le_of_ble_eq_true rfl⟩) hV hK hT hS hA hS9 (va_recv hK hV (ci := 11) (q0 := 0) rfl rfl) rfl hl.1 rfl (Nat.le_of_ble_eq_true rfl) (dd_of dX11_send_0 18 rfl) ⟨Nat.le_of_ble_eq_true rfl, Nat.le_of_ble_eq_true rfl⟩ (fun E9 ce9 qx9 H locs cx ex hS9 z1 z2 z3 => ?_) (fun H locs cx hkp hS9 => ?_)
          · replace hres := ifN cx (bvE rfl hres)
            subst hQ
            exact xout (px := True) (B := (fun E => RES.1 ≠ 0 ∧ E = xN RES.1)) htab hlk hS9 z1 z2 z3 trivial (by rw [← hres]; exact ⟨cx, ex⟩) (Nat.le_of_ble_eq_true rfl) (Nat.le_of_ble_eq_true rfl) hfree
          · replace hres := ifE cx (bvE rfl hres)
            replace hok := bvO rfl hok
            replace hok := hok cx
            have hS := hS9.mono hE
            have hV := hkp _ hV
            have hP := hkp _ hP
            refine lv_aload_n hx hb (dd_of dX11_send_0 19 rfl) rfl (lv_at hl 0 rfl) ?_
            refine va_get (D := D) (cl := vwCl) (tys := jT yy) (ci := 11) (v := .ref (B 0)) (C := RX11) (T := TX11) (N := 5) hx hb hts (fun w h => List.mem_cons_of_mem _ (inlX11 w h)) hown hK hV 0 rfl rfl 0 (by decide) (jw hts gw16) (fun _ h9 => h9) rfl (dd_of dX11_send_0 20 rfl) ?_
            refine lv_aload_n hx hb (dd_of dX11_send_0 21 rfl) rfl (lv_at hl 0 rfl) ?_
            refine va_get (D := D) (cl := vwCl) (tys := jT yy) (ci := 11) (v := .ref an) (C := RX11) (T := TX11) (N := 5) hx hb hts (fun w h => List.mem_cons_of_mem _ (inlX11 w h)) hown hK hV 0 rfl rfl 1 (by decide) (jw hts gw18) (fun _ h9 => h9) rfl (dd_of dX11_send_0 22 rfl) ?_
            refine lv_aload_n hx hb (dd_of dX11_send_0 23 rfl) rfl (lv_at hl 0 rfl) ?_
            refine lv_bipush (v := 14) hx hb (dd_of dX11_send_0 24 rfl) (by decide) ?_
            refine lv_iload_n hx hb (dd_of dX11_send_0 25 rfl) rfl (lv_at hl 1 rfl) ?_
            refine lv_iload_n hx hb (dd_of dX11_send_0 26 rfl) rfl (lv_at hl 2 rfl) ?_
            refine lv_iload_n hx hb (dd_of dX11_send_0 27 rfl) rfl (lv_at hl 3 rfl) ?_
            refine lv_iconst (v := 0) hx hb (dd_of dX11_send_0 28 rfl) (by decide) ?_
            refine lv_iconst (v := 0) hx hb (dd_of dX11_send_0 29 rfl) (by decide) ?_
            have hk9 := hok.1
            replace hok := hok.2
            refine jz_i (As := [.int 14, .int p1, .int p2, .int p3, .int 0, .int 0]) (rest := [.ref an, .ref (B 0)]) (D := D) (yy := yy) (h0 := h0) (an := an) (B := B) (B2 := B2) (F := F) (G := G) (F2 := F2) (G2 := G2) (M := M) ⟨hx, hb, hml, hown, hts⟩ (qX11_note l D yy h0 an (B 0) (B2 0) M (fun _ _ => 0) H.size 14 p1 p2 p3 0 0 hk9) (cwV 6 hts (jgV gw195 gw196 gw197 gw2 gw198) rfl rfl rfl (by decide +kernel) ⟨Nat.le_of_ble_eq_true rfl, Nat.le_of_ble_eq_true rfl⟩) hV hK hD hS hA (va_recv hK hV (ci := 11) (q0 := 0) rfl rfl) rfl hl.1 rfl (Nat.le_of_ble_eq_true rfl) (dd_of dX11_send_0 30 rfl) ⟨Nat.le_of_ble_eq_true rfl, Nat.le_of_ble_eq_true rfl⟩ (fun x18 M16 G17 H locs w19 hV hD hS => ?_)
            have hP := pV_P hV
            replace hres := brE w19 hres
            replace hok := brO w19 hok
            have hk9 := hok
            refine jz_l (As := [.ref an, .int x18]) (rest := []) (D := D) (yy := yy) (h0 := h0) (an := an) (B := B) (B2 := B2) (F := F) (G := G) (F2 := F2) (G2 := G2) (M := M16) ⟨hx, hb, hml, hown, hts⟩ (qX5_act l D yy B F G H.size an (M16 82) x18 hk9) (fun _ _ h => h.2 0 (by omega)) (cwV 2 hts (jgV gw200 gw201 gw202 gw15 gw203) rfl rfl rfl (by decide +kernel) ⟨Nat.le_of_ble_eq_true rfl, Nat.le_of_ble_eq_true rfl⟩) hV hK hD hS hA (va_recv hK hP (ci := 5) (q0 := 0) rfl rfl) rfl hl.1 rfl (Nat.le_of_ble_eq_true rfl) (dd_of dX11_send_0 31 rfl) ⟨Nat.le_of_ble_eq_true rfl, Nat.le_of_ble_eq_true rfl⟩ (fun x22 B1 F20 G21 H locs w23 hV hD hS => ?_)
            obtain ⟨w23, hB1⟩ := w23
            have hB1 : ∀ k, k < 100 → B1 k = B k := hB1
            have w23 : (x22, (F20, G21)) = gX5_act F G (M16 82) x18 := w23
            replace hres := brE w23 hres
            refine lv_l2i (v := (Int64.toInt32 x22)) hx hb (dd_of dX11_send_0 32 rfl) rfl ?_
            subst hQ
            refine vx_ret (W.widen (k := 9) (n := 64) (Nat.le_of_ble_eq_true rfl) (Nat.le_of_ble_eq_true rfl) ?_)
            exact W.iret (v := (Int64.toInt32 x22)) hx hb hr (fun t ht hW => ⟨⟨(Int64.toInt32 x22), ((B1, (F20, G21)), M16), rfl, ⟨hres.symm, hB1⟩, by rw [ht]; exact hV, va_K.moved hW.alike hK, hD⟩, hS.F ht⟩) hS.2.2 (dd_of dX11_send_0 33 rfl) hlk
set_option maxHeartbeats 4000000 in
set_option maxRecDepth 100000 in
theorem qX11_budget (l : Launch) (hl9 : l.stackTraces = false) (D : va_G) (yy : Nat → ClassId) (h0 an : Nat) (B B2 : Nat → Nat) (F : jF) (G : jG) (F2 : jF) (G2 : jG) (M : jF) (sz : Nat) (p1 : Int32) (p2 : Int32) (hok : okX11_budget F G M p1 p2) : vx_Met l yX11_budget (Cond.code yX11_budget cX11_budget 3 (some .int) :: wsL_law) rmX11_budget (va_Pc [.ref h0, .int p1, .int p2] (jX D yy (pV yy h0 an B B2 F G F2 G2 M) sz)) (va_Qi (fun r (u : ((Nat → Nat) × jS) × jF) => gX11_budget F G M p1 p2 = (0, (r, (u.1.2, u.2))) ∧ ∀ k, k < 100 → u.1.1 k = B k) (fun u t => jB D yy (va_A (pV yy h0 an B B2 F G F2 G2 M) sz) (pV yy h0 an u.1.1 B2 u.1.2.1 u.1.2.2 F2 G2 u.2) t) (va_A (pV yy h0 an B B2 F G F2 G2 M) sz)) (vx_X (fun _ : Unit => True) (fun E _ _ => (gX11_budget F G M p1 p2).1 ≠ 0 ∧ E = xN (gX11_budget F G M p1 p2).1) (jE sz)) 9 64 (va_A (pV yy h0 an B B2 F G F2 G2 M) sz) := by
  generalize hres : gX11_budget F G M p1 p2 = RES
  refine jMX (vs := [.ref h0, .int p1, .int p2]) (own := RX11) (by decide +kernel) rfl (Nat.le_of_ble_eq_true rfl) ?_
  intro p e s m args below meth c ls Q hQ hargs S hr hlk htab hB hl
  obtain ⟨hx, hb, hml, hown, hts⟩ := S
  have hl : lv_has ls 3 [(0, .ref h0), (1, .int p1), (2, .int p2)] := hl

  obtain ⟨⟨hsz, hV, hK, hD0⟩, hT⟩ := hB
  subst hsz
  have hD := hD0.self (sz := s.heap.size)
  have hE : ∀ q, jE s.heap.size q → va_A (pV yy h0 an B B2 F G F2 G2 M) s.heap.size q := fun q h => Or.inr h
  generalize hZ : va_A (pV yy h0 an B B2 F G F2 G2 M) s.heap.size = Z at hD hQ hT hE
  have hA : ∀ q : Nat, s.heap.size ≤ q → Z q := fun q h => by rw [← hZ]; exact Or.inr h
  have hfree : ∀ q, jE s.heap.size q → Z q := hE
  obtain ⟨H, hH⟩ : ∃ z, z = s.heap := ⟨_, rfl⟩
  obtain ⟨locs, hlocs⟩ : ∃ z : List Loc, z = [] := ⟨_, rfl⟩
  have hS9 : va_S (jE s.heap.size) s.heap H locs := by rw [hH, hlocs]; exact va_S.rf
  have hS := hS9.mono hE
  rw [← hH] at hV
  have hP : va_P D vwCl (lW yy B F G) H := pV_P hV
  suffices hgo : W p l e rmX11_budget s m args below meth c H locs 0 0 Q (F0 m 0 ls []) by rw [hH, hlocs] at hgo; exact hgo
  unfold gX11_budget at hres
  unfold okX11_budget at hok
  refine lv_aload_n hx hb (dd_of dX11_budget_0 0 rfl) rfl (lv_at hl 0 rfl) ?_
  refine lv_iload_n hx hb (dd_of dX11_budget_0 1 rfl) rfl (lv_at hl 1 rfl) ?_
  refine lv_iconst (v := 0) hx hb (dd_of dX11_budget_0 2 rfl) (by decide) ?_
  refine lv_sipush (v := 9999) hx hb (dd_of dX11_budget_0 3 rfl) (by decide) ?_
  refine xc_v (g := (gX11_needRange p1 0 9999)) (As := [.int p1, .int 0, .int 9999]) (rest := []) (w := ([] : va_W)) (D := D) (yy := yy) ⟨hx, hb, hml, hown, hts⟩ (qX11_needRange l hl9 D yy h0 H.size p1 0 9999) (cwV 3 hts (jgV gw183 gw184 gw185 gw2 gw186) rfl rfl rfl (by decide +kernel) ⟨Nat.le_of_ble_eq_true rfl, Nat.le_of_ble_eq_true rfl⟩) (fun k q h => by simp at h) hK hT hS hA hS9 (va_recv hK hV (ci := 11) (q0 := 0) rfl rfl) rfl hl.1 rfl (Nat.le_of_ble_eq_true rfl) (dd_of dX11_budget_0 4 rfl) ⟨Nat.le_of_ble_eq_true rfl, Nat.le_of_ble_eq_true rfl⟩ (fun E9 ce9 qx9 H locs cx ex hS9 z1 z2 z3 => ?_) (fun H locs cx hkp hS9 => ?_)
  · replace hres := ifN cx (bvE rfl hres)
    subst hQ
    exact xout (px := True) (B := (fun E => RES.1 ≠ 0 ∧ E = xN RES.1)) htab hlk hS9 z1 z2 z3 trivial (by rw [← hres]; exact ⟨cx, ex⟩) (Nat.le_of_ble_eq_true rfl) (Nat.le_of_ble_eq_true rfl) hfree
  · replace hres := ifE cx (bvE rfl hres)
    replace hok := bvO rfl hok
    replace hok := hok cx
    have hS := hS9.mono hE
    have hV := hkp _ hV
    have hP := hkp _ hP
    refine lv_aload_n hx hb (dd_of dX11_budget_0 5 rfl) rfl (lv_at hl 0 rfl) ?_
    refine lv_iload_n hx hb (dd_of dX11_budget_0 6 rfl) rfl (lv_at hl 2 rfl) ?_
    refine lv_iconst (v := 0) hx hb (dd_of dX11_budget_0 7 rfl) (by decide) ?_
    refine lv_sipush (v := 9999) hx hb (dd_of dX11_budget_0 8 rfl) (by decide) ?_
    refine xc_v (g := (gX11_needRange p2 0 9999)) (As := [.int p2, .int 0, .int 9999]) (rest := []) (w := ([] : va_W)) (D := D) (yy := yy) ⟨hx, hb, hml, hown, hts⟩ (qX11_needRange l hl9 D yy h0 H.size p2 0 9999) (cwV 3 hts (jgV gw183 gw184 gw185 gw2 gw186) rfl rfl rfl (by decide +kernel) ⟨Nat.le_of_ble_eq_true rfl, Nat.le_of_ble_eq_true rfl⟩) (fun k q h => by simp at h) hK hT hS hA hS9 (va_recv hK hV (ci := 11) (q0 := 0) rfl rfl) rfl hl.1 rfl (Nat.le_of_ble_eq_true rfl) (dd_of dX11_budget_0 9 rfl) ⟨Nat.le_of_ble_eq_true rfl, Nat.le_of_ble_eq_true rfl⟩ (fun E9 ce9 qx9 H locs cx ex hS9 z1 z2 z3 => ?_) (fun H locs cx hkp hS9 => ?_)
    · replace hres := ifN cx (bvE rfl hres)
      subst hQ
      exact xout (px := True) (B := (fun E => RES.1 ≠ 0 ∧ E = xN RES.1)) htab hlk hS9 z1 z2 z3 trivial (by rw [← hres]; exact ⟨cx, ex⟩) (Nat.le_of_ble_eq_true rfl) (Nat.le_of_ble_eq_true rfl) hfree
    · replace hres := ifE cx (bvE rfl hres)
      replace hok := bvO rfl hok
      replace hok := hok cx
      have hS := hS9.mono hE
      have hV := hkp _ hV
      have hP := hkp _ hP
      refine lv_aload_n hx hb (dd_of dX11_budget_0 10 rfl) rfl (lv_at hl 0 rfl) ?_
      refine va_get (D := D) (cl := vwCl) (tys := jT yy) (ci := 11) (v := .ref (B 0)) (C := RX11) (T := TX11) (N := 5) hx hb hts (fun w h => List.mem_cons_of_mem _ (inlX11 w h)) hown hK hV 0 rfl rfl 0 (by decide) (jw hts gw16) (fun _ h9 => h9) rfl (dd_of dX11_budget_0 11 rfl) ?_
      refine lv_aload_n hx hb (dd_of dX11_budget_0 12 rfl) rfl (lv_at hl 0 rfl) ?_
      refine va_get (D := D) (cl := vwCl) (tys := jT yy) (ci := 11) (v := .ref an) (C := RX11) (T := TX11) (N := 5) hx hb hts (fun w h => List.mem_cons_of_mem _ (inlX11 w h)) hown hK hV 0 rfl rfl 1 (by decide) (jw hts gw18) (fun _ h9 => h9) rfl (dd_of dX11_budget_0 13 rfl) ?_
      refine lv_aload_n hx hb (dd_of dX11_budget_0 14 rfl) rfl (lv_at hl 0 rfl) ?_
      refine lv_bipush (v := 15) hx hb (dd_of dX11_budget_0 15 rfl) (by decide) ?_
      refine lv_iload_n hx hb (dd_of dX11_budget_0 16 rfl) rfl (lv_at hl 1 rfl) ?_
      refine lv_iload_n hx hb (dd_of dX11_budget_0 17 rfl) rfl (lv_at hl 2 rfl) ?_
      refine lv_iconst (v := 0) hx hb (dd_of dX11_budget_0 18 rfl) (by decide) ?_
      refine lv_iconst (v := 0) hx hb (dd_of dX11_budget_0 19 rfl) (by decide) ?_
      refine lv_iconst (v := 0) hx hb (dd_of dX11_budget_0 20 rfl) (by decide) ?_
      have hk9 := hok.1
      replace hok := hok.2
      refine jz_i (As := [.int 15, .int p1, .int p2, .int 0, .int 0, .int 0]) (rest := [.ref an, .ref (B 0)]) (D := D) (yy := yy) (h0 := h0) (an := an) (B := B) (B2 := B2) (F := F) (G := G) (F2 := F2) (G2 := G2) (M := M) ⟨hx, hb, hml, hown, hts⟩ (qX11_note l D yy h0 an (B 0) (B2 0) M (fun _ _ => 0) H.size 15 p1 p2 0 0 0 hk9) (cwV 6 hts (jgV gw195 gw196 gw197 gw2 gw198) rfl rfl rfl (by decide +kernel) ⟨Nat.le_of_ble_eq_true rfl, Nat.le_of_ble_eq_true rfl⟩) hV hK hD hS hA (va_recv hK hV (ci := 11) (q0 := 0) rfl rfl) rfl hl.1 rfl (Nat.le_of_ble_eq_true rfl) (dd_of dX11_budget_0 21 rfl) ⟨Nat.le_of_ble_eq_true rfl, Nat.le_of_ble_eq_true rfl⟩ (fun x5 M3 G4 H locs w6 hV hD hS => ?_)
      have hP := pV_P hV
      replace hres := brE w6 hres
      replace hok := brO w6 hok
      have hk9 := hok
      refine jz_l (As := [.ref an, .int x5]) (rest := []) (D := D) (yy := yy) (h0 := h0) (an := an) (B := B) (B2 := B2) (F := F) (G := G) (F2 := F2) (G2 := G2) (M := M3) ⟨hx, hb, hml, hown, hts⟩ (qX5_act l D yy B F G H.size an (M3 82) x5 hk9) (fun _ _ h => h.2 0 (by omega)) (cwV 2 hts (jgV gw200 gw201 gw202 gw15 gw203) rfl rfl rfl (by decide +kernel) ⟨Nat.le_of_ble_eq_true rfl, Nat.le_of_ble_eq_true rfl⟩) hV hK hD hS hA (va_recv hK hP (ci := 5) (q0 := 0) rfl rfl) rfl hl.1 rfl (Nat.le_of_ble_eq_true rfl) (dd_of dX11_budget_0 22 rfl) ⟨Nat.le_of_ble_eq_true rfl, Nat.le_of_ble_eq_true rfl⟩ (fun x9 B1 F7 G8 H locs w10 hV hD hS => ?_)
      obtain ⟨w10, hB1⟩ := w10
      have hB1 : ∀ k, k < 100 → B1 k = B k := hB1
      have w10 : (x9, (F7, G8)) = gX5_act F G (M3 82) x5 := w10
      replace hres := brE w10 hres
      refine lv_l2i (v := (Int64.toInt32 x9)) hx hb (dd_of dX11_budget_0 23 rfl) rfl ?_
      subst hQ
      refine vx_ret (W.widen (k := 9) (n := 64) (Nat.le_of_ble_eq_true rfl) (Nat.le_of_ble_eq_true rfl) ?_)
      exact W.iret (v := (Int64.toInt32 x9)) hx hb hr (fun t ht hW => ⟨⟨(Int64.toInt32 x9), ((B1, (F7, G8)), M3), rfl, ⟨hres.symm, hB1⟩, by rw [ht]; exact hV, va_K.moved hW.alike hK, hD⟩, hS.F ht⟩) hS.2.2 (dd_of dX11_budget_0 24 rfl) hlk
set_option maxHeartbeats 4000000 in
set_option maxRecDepth 100000 in
theorem qX11_raise (l : Launch) (hl9 : l.stackTraces = false) (D : va_G) (yy : Nat → ClassId) (h0 an : Nat) (B B2 : Nat → Nat) (F : jF) (G : jG) (F2 : jF) (G2 : jG) (M : jF) (sz : Nat) (p1 : Int32) (p2 : Int32) (p3 : Int32) (hok : okX11_raise F G M p1 p2 p3) : vx_Met l yX11_raise (Cond.code yX11_raise cX11_raise 4 (some .int) :: wsL_law) rmX11_raise (va_Pc [.ref h0, .int p1, .int p2, .int p3] (jX D yy (pV yy h0 an B B2 F G F2 G2 M) sz)) (va_Qi (fun r (u : ((Nat → Nat) × jS) × jF) => gX11_raise F G M p1 p2 p3 = (0, (r, (u.1.2, u.2))) ∧ ∀ k, k < 100 → u.1.1 k = B k) (fun u t => jB D yy (va_A (pV yy h0 an B B2 F G F2 G2 M) sz) (pV yy h0 an u.1.1 B2 u.1.2.1 u.1.2.2 F2 G2 u.2) t) (va_A (pV yy h0 an B B2 F G F2 G2 M) sz)) (vx_X (fun _ : Unit => True) (fun E _ _ => (gX11_raise F G M p1 p2 p3).1 ≠ 0 ∧ E = xN (gX11_raise F G M p1 p2 p3).1) (jE sz)) 9 64 (va_A (pV yy h0 an B B2 F G F2 G2 M) sz) := by
  generalize hres : gX11_raise F G M p1 p2 p3 = RES
  refine jMX (vs := [.ref h0, .int p1, .int p2, .int p3]) (own := RX11) (by decide +kernel) rfl (Nat.le_of_ble_eq_true rfl) ?_
  intro p e s m args below meth c ls Q hQ hargs S hr hlk htab hB hl
  obtain ⟨hx, hb, hml, hown, hts⟩ := S
  have hl : lv_has ls 4 [(0, .ref h0), (1, .int p1), (2, .int p2), (3, .int p3)] := hl

  obtain ⟨⟨hsz, hV, hK, hD0⟩, hT⟩ := hB
  subst hsz
  have hD := hD0.self (sz := s.heap.size)
  have hE : ∀ q, jE s.heap.size q → va_A (pV yy h0 an B B2 F G F2 G2 M) s.heap.size q := fun q h => Or.inr h
  generalize hZ : va_A (pV yy h0 an B B2 F G F2 G2 M) s.heap.size = Z at hD hQ hT hE
  have hA : ∀ q : Nat, s.heap.size ≤ q → Z q := fun q h => by rw [← hZ]; exact Or.inr h
  have hfree : ∀ q, jE s.heap.size q → Z q := hE
  obtain ⟨H, hH⟩ : ∃ z, z = s.heap := ⟨_, rfl⟩
  obtain ⟨locs, hlocs⟩ : ∃ z : List Loc, z = [] := ⟨_, rfl⟩
  have hS9 : va_S (jE s.heap.size) s.heap H locs := by rw [hH, hlocs]; exact va_S.rf
  have hS := hS9.mono hE
  rw [← hH] at hV
  have hP : va_P D vwCl (lW yy B F G) H := pV_P hV
  suffices hgo : W p l e rmX11_raise s m args below meth c H locs 0 0 Q (F0 m 0 ls []) by rw [hH, hlocs] at hgo; exact hgo
  unfold gX11_raise at hres
  unfold okX11_raise at hok
  refine lv_aload_n hx hb (dd_of dX11_raise_0 0 rfl) rfl (lv_at hl 0 rfl) ?_
  refine lv_iload_n hx hb (dd_of dX11_raise_0 1 rfl) rfl (lv_at hl 1 rfl) ?_
  have hk9 := hok.1
  replace hok := hok.2
  refine xc_q (B := B) (off := 400) (g := (gX11_needDyke F G p1)) (As := [.int p1]) (rest := []) (w := (pV yy h0 an B B2 F G F2 G2 M)) (D := D) (yy := yy) ⟨hx, hb, hml, hown, hts⟩ (qX11_needDyke l hl9 D yy h0 an B B2 F G F2 G2 M H.size p1 hk9) (cwV 1 hts (jgV gw839 gw840 gw841 gw2 gw842) rfl rfl rfl (by decide +kernel) ⟨Nat.le_of_ble_eq_true rfl, Nat.le_of_ble_eq_true rfl⟩) hV hK hT hS hA hS9 (va_recv hK hV (ci := 11) (q0 := 0) rfl rfl) rfl hl.1 rfl (Nat.le_of_ble_eq_true rfl) (dd_of dX11_raise_0 2 rfl) ⟨Nat.le_of_ble_eq_true rfl, Nat.le_of_ble_eq_true rfl⟩ (fun E9 ce9 qx9 H locs cx ex hS9 z1 z2 z3 => ?_) (fun k1 H locs cx hkp hS9 => ?_)
  · rw [cx] at hres
    replace hres := omN hres
    subst hQ
    exact xout (px := True) (B := (fun E => RES.1 ≠ 0 ∧ E = xN RES.1)) htab hlk hS9 z1 z2 z3 trivial (by rw [← hres]; exact ⟨Nat.one_ne_zero, ex⟩) (Nat.le_of_ble_eq_true rfl) (Nat.le_of_ble_eq_true rfl) hfree
  · rw [cx] at hres
    replace hres := omS hres
    rw [cx] at hok
    replace hok := opS hok
    have hS := hS9.mono hE
    have hV := hkp _ hV
    have hP := hkp _ hP
    refine lv_pop hx hb (dd_of dX11_raise_0 3 rfl) rfl ?_
    refine lv_aload_n hx hb (dd_of dX11_raise_0 4 rfl) rfl (lv_at hl 0 rfl) ?_
    refine lv_iload_n hx hb (dd_of dX11_raise_0 5 rfl) rfl (lv_at hl 2 rfl) ?_
    refine lv_iconst (v := 1) hx hb (dd_of dX11_raise_0 6 rfl) (by decide) ?_
    refine lv_bipush (v := 99) hx hb (dd_of dX11_raise_0 7 rfl) (by decide) ?_
    refine xc_v (g := (gX11_needRange p2 1 99)) (As := [.int p2, .int 1, .int 99]) (rest := []) (w := ([] : va_W)) (D := D) (yy := yy) ⟨hx, hb, hml, hown, hts⟩ (qX11_needRange l hl9 D yy h0 H.size p2 1 99) (cwV 3 hts (jgV gw183 gw184 gw185 gw2 gw186) rfl rfl rfl (by decide +kernel) ⟨Nat.le_of_ble_eq_true rfl, Nat.le_of_ble_eq_true rfl⟩) (fun k q h => by simp at h) hK hT hS hA hS9 (va_recv hK hV (ci := 11) (q0 := 0) rfl rfl) rfl hl.1 rfl (Nat.le_of_ble_eq_true rfl) (dd_of dX11_raise_0 8 rfl) ⟨Nat.le_of_ble_eq_true rfl, Nat.le_of_ble_eq_true rfl⟩ (fun E9 ce9 qx9 H locs cx ex hS9 z1 z2 z3 => ?_) (fun H locs cx hkp hS9 => ?_)
    · replace hres := ifN cx (bvE rfl hres)
      subst hQ
      exact xout (px := True) (B := (fun E => RES.1 ≠ 0 ∧ E = xN RES.1)) htab hlk hS9 z1 z2 z3 trivial (by rw [← hres]; exact ⟨cx, ex⟩) (Nat.le_of_ble_eq_true rfl) (Nat.le_of_ble_eq_true rfl) hfree
    · replace hres := ifE cx (bvE rfl hres)
      replace hok := bvO rfl hok
      replace hok := hok cx
      have hS := hS9.mono hE
      have hV := hkp _ hV
      have hP := hkp _ hP
      refine lv_aload_n hx hb (dd_of dX11_raise_0 9 rfl) rfl (lv_at hl 0 rfl) ?_
      refine lv_iload_n hx hb (dd_of dX11_raise_0 10 rfl) rfl (lv_at hl 3 rfl) ?_
      refine lv_iconst (v := 1) hx hb (dd_of dX11_raise_0 11 rfl) (by decide) ?_
      refine lv_bipush (v := 9) hx hb (dd_of dX11_raise_0 12 rfl) (by decide) ?_
      refine xc_v (g := (gX11_needRange p3 1 9)) (As := [.int p3, .int 1, .int 9]) (rest := []) (w := ([] : va_W)) (D := D) (yy := yy) ⟨hx, hb, hml, hown, hts⟩ (qX11_needRange l hl9 D yy h0 H.size p3 1 9) (cwV 3 hts (jgV gw183 gw184 gw185 gw2 gw186) rfl rfl rfl (by decide +kernel) ⟨Nat.le_of_ble_eq_true rfl, Nat.le_of_ble_eq_true rfl⟩) (fun k q h => by simp at h) hK hT hS hA hS9 (va_recv hK hV (ci := 11) (q0 := 0) rfl rfl) rfl hl.1 rfl (Nat.le_of_ble_eq_true rfl) (dd_of dX11_raise_0 13 rfl) ⟨Nat.le_of_ble_eq_true rfl, Nat.le_of_ble_eq_true rfl⟩ (fun E9 ce9 qx9 H locs cx ex hS9 z1 z2 z3 => ?_) (fun H locs cx hkp hS9 => ?_)
      · replace hres := ifN cx (bvE rfl hres)
        subst hQ
        exact xout (px := True) (B := (fun E => RES.1 ≠ 0 ∧ E = xN RES.1)) htab hlk hS9 z1 z2 z3 trivial (by rw [← hres]; exact ⟨cx, ex⟩) (Nat.le_of_ble_eq_true rfl) (Nat.le_of_ble_eq_true rfl) hfree
      · replace hres := ifE cx (bvE rfl hres)
        replace hok := bvO rfl hok
        replace hok := hok cx
        have hS := hS9.mono hE
        have hV := hkp _ hV
        have hP := hkp _ hP
        refine lv_aload_n hx hb (dd_of dX11_raise_0 14 rfl) rfl (lv_at hl 0 rfl) ?_
        refine lv_iload_n hx hb (dd_of dX11_raise_0 15 rfl) rfl (lv_at hl 2 rfl) ?_
        refine lv_bipush (v := 10) hx hb (dd_of dX11_raise_0 16 rfl) (by decide) ?_
        refine lv_imul hx hb (dd_of dX11_raise_0 17 rfl) ?_
        refine xc_v (g := (gX11_needMoney F G (p2 * 10))) (As := [.int (p2 * 10)]) (rest := []) (w := (pV yy h0 an B B2 F G F2 G2 M)) (D := D) (yy := yy) ⟨hx, hb, hml, hown, hts⟩ (qX11_needMoney l hl9 D yy h0 an B B2 F G F2 G2 M H.size (p2 * 10)) (cwV 1 hts (jgV gw804 gw805 gw806 gw2 gw807) rfl rfl rfl (by decide +kernel) ⟨Nat.le_of_ble_eq_true rfl, Nat.le_of_ble_eq_true rfl⟩) hV hK hT hS hA hS9 (va_recv hK hV (ci := 11) (q0 := 0) rfl rfl) rfl hl.1 rfl (Nat.le_of_ble_eq_true rfl) (dd_of dX11_raise_0 18 rfl) ⟨Nat.le_of_ble_eq_true rfl, Nat.le_of_ble_eq_true rfl⟩ (fun E9 ce9 qx9 H locs cx ex hS9 z1 z2 z3 => ?_) (fun H locs cx hkp hS9 => ?_)
        · replace hres := ifN cx (bvE rfl hres)
          subst hQ
          exact xout (px := True) (B := (fun E => RES.1 ≠ 0 ∧ E = xN RES.1)) htab hlk hS9 z1 z2 z3 trivial (by rw [← hres]; exact ⟨cx, ex⟩) (Nat.le_of_ble_eq_true rfl) (Nat.le_of_ble_eq_true rfl) hfree
        · replace hres := ifE cx (bvE rfl hres)
          replace hok := bvO rfl hok
          replace hok := hok cx
          have hS := hS9.mono hE
          have hV := hkp _ hV
          have hP := hkp _ hP
          refine lv_aload_n hx hb (dd_of dX11_raise_0 19 rfl) rfl (lv_at hl 0 rfl) ?_
          refine lv_aload_n hx hb (dd_of dX11_raise_0 20 rfl) rfl (lv_at hl 0 rfl) ?_
          refine va_get (D := D) (cl := vwCl) (tys := jT yy) (ci := 11) (v := .ref (B 0)) (C := RX11) (T := TX11) (N := 5) hx hb hts (fun w h => List.mem_cons_of_mem _ (inlX11 w h)) hown hK hV 0 rfl rfl 0 (by decide) (jw hts gw16) (fun _ h9 => h9) rfl (dd_of dX11_raise_0 21 rfl) ?_
          refine va_get (D := D) (cl := vwCl) (tys := jT yy) (ci := 5) (v := .ref (B 2)) (C := RX5) (T := TX5) (N := 10) hx hb hts (fun w h => List.mem_cons_of_mem _ (inlX5 w h)) hown hK hP 0 rfl rfl 1 (by decide) (jw hts gw808) (fun _ h9 => h9) rfl (dd_of dX11_raise_0 22 rfl) ?_
          have h5 := hok.1
          replace hok := hok.2
          refine jc_i (As := []) (rest := [.ref h0]) (w := (lW yy B F G)) (D := D) (yy := yy) ⟨hx, hb, hml, hown, hts⟩ (qX1_countWorks l D yy B F G   h5) (cwV 0 hts (jgV gw867 gw868 gw869 gw30 gw870) rfl rfl rfl (by decide +kernel) ⟨Nat.le_of_ble_eq_true rfl, Nat.le_of_ble_eq_true rfl⟩) hP hK (va_recv hK hP (ci := 1) (q0 := 2) rfl rfl) rfl hl.1 rfl (Nat.le_of_ble_eq_true rfl) (dd_of dX11_raise_0 23 rfl) ⟨Nat.le_of_ble_eq_true rfl, Nat.le_of_ble_eq_true rfl⟩ (fun x6 ex6 => ?_)
          replace hres := bvE ex6 hres
          replace hok := bvO ex6 hok
          refine lv_bipush (v := 6) hx hb (dd_of dX11_raise_0 24 rfl) (by decide) ?_
          refine xc_v (g := (gX11_needRoom x6 6)) (As := [.int x6, .int 6]) (rest := []) (w := ([] : va_W)) (D := D) (yy := yy) ⟨hx, hb, hml, hown, hts⟩ (qX11_needRoom l hl9 D yy h0 H.size x6 6) (cwV 2 hts (jgV gw189 gw190 gw191 gw2 gw192) rfl rfl rfl (by decide +kernel) ⟨Nat.le_of_ble_eq_true rfl, Nat.le_of_ble_eq_true rfl⟩) (fun k q h => by simp at h) hK hT hS hA hS9 (va_recv hK hV (ci := 11) (q0 := 0) rfl rfl) rfl hl.1 rfl (Nat.le_of_ble_eq_true rfl) (dd_of dX11_raise_0 25 rfl) ⟨Nat.le_of_ble_eq_true rfl, Nat.le_of_ble_eq_true rfl⟩ (fun E9 ce9 qx9 H locs cx ex hS9 z1 z2 z3 => ?_) (fun H locs cx hkp hS9 => ?_)
          · replace hres := ifN cx (bvE rfl hres)
            subst hQ
            exact xout (px := True) (B := (fun E => RES.1 ≠ 0 ∧ E = xN RES.1)) htab hlk hS9 z1 z2 z3 trivial (by rw [← hres]; exact ⟨cx, ex⟩) (Nat.le_of_ble_eq_true rfl) (Nat.le_of_ble_eq_true rfl) hfree
          · replace hres := ifE cx (bvE rfl hres)
            replace hok := bvO rfl hok
            replace hok := hok cx
            have hS := hS9.mono hE
            have hV := hkp _ hV
            have hP := hkp _ hP
            refine lv_aload_n hx hb (dd_of dX11_raise_0 26 rfl) rfl (lv_at hl 0 rfl) ?_
            refine va_get (D := D) (cl := vwCl) (tys := jT yy) (ci := 11) (v := .ref (B 0)) (C := RX11) (T := TX11) (N := 5) hx hb hts (fun w h => List.mem_cons_of_mem _ (inlX11 w h)) hown hK hV 0 rfl rfl 0 (by decide) (jw hts gw16) (fun _ h9 => h9) rfl (dd_of dX11_raise_0 27 rfl) ?_
            refine lv_aload_n hx hb (dd_of dX11_raise_0 28 rfl) rfl (lv_at hl 0 rfl) ?_
            refine va_get (D := D) (cl := vwCl) (tys := jT yy) (ci := 11) (v := .ref an) (C := RX11) (T := TX11) (N := 5) hx hb hts (fun w h => List.mem_cons_of_mem _ (inlX11 w h)) hown hK hV 0 rfl rfl 1 (by decide) (jw hts gw18) (fun _ h9 => h9) rfl (dd_of dX11_raise_0 29 rfl) ?_
            refine lv_aload_n hx hb (dd_of dX11_raise_0 30 rfl) rfl (lv_at hl 0 rfl) ?_
            refine lv_bipush (v := 16) hx hb (dd_of dX11_raise_0 31 rfl) (by decide) ?_
            refine lv_iload_n hx hb (dd_of dX11_raise_0 32 rfl) rfl (lv_at hl 1 rfl) ?_
            refine lv_iload_n hx hb (dd_of dX11_raise_0 33 rfl) rfl (lv_at hl 2 rfl) ?_
            refine lv_iload_n hx hb (dd_of dX11_raise_0 34 rfl) rfl (lv_at hl 3 rfl) ?_
            refine lv_iconst (v := 0) hx hb (dd_of dX11_raise_0 35 rfl) (by decide) ?_
            refine lv_iconst (v := 0) hx hb (dd_of dX11_raise_0 36 rfl) (by decide) ?_
            have hk9 := hok.1
            replace hok := hok.2
            refine jz_i (As := [.int 16, .int p1, .int p2, .int p3, .int 0, .int 0]) (rest := [.ref an, .ref (B 0)]) (D := D) (yy := yy) (h0 := h0) (an := an) (B := B) (B2 := B2) (F := F) (G := G) (F2 := F2) (G2 := G2) (M := M) ⟨hx, hb, hml, hown, hts⟩ (qX11_note l D yy h0 an (B 0) (B2 0) M (fun _ _ => 0) H.size 16 p1 p2 p3 0 0 hk9) (cwV 6 hts (jgV gw195 gw196 gw197 gw2 gw198) rfl rfl rfl (by decide +kernel) ⟨Nat.le_of_ble_eq_true rfl, Nat.le_of_ble_eq_true rfl⟩) hV hK hD hS hA (va_recv hK hV (ci := 11) (q0 := 0) rfl rfl) rfl hl.1 rfl (Nat.le_of_ble_eq_true rfl) (dd_of dX11_raise_0 37 rfl) ⟨Nat.le_of_ble_eq_true rfl, Nat.le_of_ble_eq_true rfl⟩ (fun x10 M8 G9 H locs w11 hV hD hS => ?_)
            have hP := pV_P hV
            replace hres := brE w11 hres
            replace hok := brO w11 hok
            have hk9 := hok
            refine jz_l (As := [.ref an, .int x10]) (rest := []) (D := D) (yy := yy) (h0 := h0) (an := an) (B := B) (B2 := B2) (F := F) (G := G) (F2 := F2) (G2 := G2) (M := M8) ⟨hx, hb, hml, hown, hts⟩ (qX5_act l D yy B F G H.size an (M8 82) x10 hk9) (fun _ _ h => h.2 0 (by omega)) (cwV 2 hts (jgV gw200 gw201 gw202 gw15 gw203) rfl rfl rfl (by decide +kernel) ⟨Nat.le_of_ble_eq_true rfl, Nat.le_of_ble_eq_true rfl⟩) hV hK hD hS hA (va_recv hK hP (ci := 5) (q0 := 0) rfl rfl) rfl hl.1 rfl (Nat.le_of_ble_eq_true rfl) (dd_of dX11_raise_0 38 rfl) ⟨Nat.le_of_ble_eq_true rfl, Nat.le_of_ble_eq_true rfl⟩ (fun x14 B1 F12 G13 H locs w15 hV hD hS => ?_)
            obtain ⟨w15, hB1⟩ := w15
            have hB1 : ∀ k, k < 100 → B1 k = B k := hB1
            have w15 : (x14, (F12, G13)) = gX5_act F G (M8 82) x10 := w15
            replace hres := brE w15 hres
            refine lv_l2i (v := (Int64.toInt32 x14)) hx hb (dd_of dX11_raise_0 39 rfl) rfl ?_
            subst hQ
            refine vx_ret (W.widen (k := 9) (n := 64) (Nat.le_of_ble_eq_true rfl) (Nat.le_of_ble_eq_true rfl) ?_)
            exact W.iret (v := (Int64.toInt32 x14)) hx hb hr (fun t ht hW => ⟨⟨(Int64.toInt32 x14), ((B1, (F12, G13)), M8), rfl, ⟨hres.symm, hB1⟩, by rw [ht]; exact hV, va_K.moved hW.alike hK, hD⟩, hS.F ht⟩) hS.2.2 (dd_of dX11_raise_1 0 rfl) hlk
set_option maxHeartbeats 4000000 in
set_option maxRecDepth 100000 in
theorem qX11_run (l : Launch) (hl9 : l.stackTraces = false) (D : va_G) (yy : Nat → ClassId) (h0 an : Nat) (B B2 : Nat → Nat) (F : jF) (G : jG) (F2 : jF) (G2 : jG) (M : jF) (sz : Nat) (p1 : Int32) (hok : okX11_run F G M p1) : vx_Met l yX11_run (Cond.code yX11_run cX11_run 2 (some .int) :: wsL_law) rmX11_run (va_Pc [.ref h0, .int p1] (jX D yy (pV yy h0 an B B2 F G F2 G2 M) sz)) (va_Qi (fun r (u : ((Nat → Nat) × jS) × jF) => gX11_run F G M p1 = (0, (r, (u.1.2, u.2))) ∧ ∀ k, k < 100 → u.1.1 k = B k) (fun u t => jB D yy (va_A (pV yy h0 an B B2 F G F2 G2 M) sz) (pV yy h0 an u.1.1 B2 u.1.2.1 u.1.2.2 F2 G2 u.2) t) (va_A (pV yy h0 an B B2 F G F2 G2 M) sz)) (vx_X (fun _ : Unit => True) (fun E _ _ => (gX11_run F G M p1).1 ≠ 0 ∧ E = xN (gX11_run F G M p1).1) (jE sz)) 9 64 (va_A (pV yy h0 an B B2 F G F2 G2 M) sz) := by
  generalize hres : gX11_run F G M p1 = RES
  refine jMX (vs := [.ref h0, .int p1]) (own := RX11) (by decide +kernel) rfl (Nat.le_of_ble_eq_true rfl) ?_
  intro p e s m args below meth c ls Q hQ hargs S hr hlk htab hB hl
  obtain ⟨hx, hb, hml, hown, hts⟩ := S
  have hl : lv_has ls 2 [(0, .ref h0), (1, .int p1)] := hl

  obtain ⟨⟨hsz, hV, hK, hD0⟩, hT⟩ := hB
  subst hsz
  have hD := hD0.self (sz := s.heap.size)
  have hE : ∀ q, jE s.heap.size q → va_A (pV yy h0 an B B2 F G F2 G2 M) s.heap.size q := fun q h => Or.inr h
  generalize hZ : va_A (pV yy h0 an B B2 F G F2 G2 M) s.heap.size = Z at hD hQ hT hE
  have hA : ∀ q : Nat, s.heap.size ≤ q → Z q := fun q h => by rw [← hZ]; exact Or.inr h
  have hfree : ∀ q, jE s.heap.size q → Z q := hE
  obtain ⟨H, hH⟩ : ∃ z, z = s.heap := ⟨_, rfl⟩
  obtain ⟨locs, hlocs⟩ : ∃ z : List Loc, z = [] := ⟨_, rfl⟩
  have hS9 : va_S (jE s.heap.size) s.heap H locs := by rw [hH, hlocs]; exact va_S.rf
  have hS := hS9.mono hE
  rw [← hH] at hV
  have hP : va_P D vwCl (lW yy B F G) H := pV_P hV
  suffices hgo : W p l e rmX11_run s m args below meth c H locs 0 0 Q (F0 m 0 ls []) by rw [hH, hlocs] at hgo; exact hgo
  unfold gX11_run at hres
  unfold okX11_run at hok
  refine lv_aload_n hx hb (dd_of dX11_run_0 0 rfl) rfl (lv_at hl 0 rfl) ?_
  refine lv_iload_n hx hb (dd_of dX11_run_0 1 rfl) rfl (lv_at hl 1 rfl) ?_
  refine lv_iconst (v := 1) hx hb (dd_of dX11_run_0 2 rfl) (by decide) ?_
  refine lv_bipush (v := 50) hx hb (dd_of dX11_run_0 3 rfl) (by decide) ?_
  refine xc_v (g := (gX11_needRange p1 1 50)) (As := [.int p1, .int 1, .int 50]) (rest := []) (w := ([] : va_W)) (D := D) (yy := yy) ⟨hx, hb, hml, hown, hts⟩ (qX11_needRange l hl9 D yy h0 H.size p1 1 50) (cwV 3 hts (jgV gw183 gw184 gw185 gw2 gw186) rfl rfl rfl (by decide +kernel) ⟨Nat.le_of_ble_eq_true rfl, Nat.le_of_ble_eq_true rfl⟩) (fun k q h => by simp at h) hK hT hS hA hS9 (va_recv hK hV (ci := 11) (q0 := 0) rfl rfl) rfl hl.1 rfl (Nat.le_of_ble_eq_true rfl) (dd_of dX11_run_0 4 rfl) ⟨Nat.le_of_ble_eq_true rfl, Nat.le_of_ble_eq_true rfl⟩ (fun E9 ce9 qx9 H locs cx ex hS9 z1 z2 z3 => ?_) (fun H locs cx hkp hS9 => ?_)
  · replace hres := ifN cx (bvE rfl hres)
    subst hQ
    exact xout (px := True) (B := (fun E => RES.1 ≠ 0 ∧ E = xN RES.1)) htab hlk hS9 z1 z2 z3 trivial (by rw [← hres]; exact ⟨cx, ex⟩) (Nat.le_of_ble_eq_true rfl) (Nat.le_of_ble_eq_true rfl) hfree
  · replace hres := ifE cx (bvE rfl hres)
    replace hok := bvO rfl hok
    replace hok := hok cx
    have hS := hS9.mono hE
    have hV := hkp _ hV
    have hP := hkp _ hP
    refine lv_aload_n hx hb (dd_of dX11_run_0 5 rfl) rfl (lv_at hl 0 rfl) ?_
    refine lv_aload_n hx hb (dd_of dX11_run_0 6 rfl) rfl (lv_at hl 0 rfl) ?_
    refine va_get (D := D) (cl := vwCl) (tys := jT yy) (ci := 11) (v := .ref (B 0)) (C := RX11) (T := TX11) (N := 5) hx hb hts (fun w h => List.mem_cons_of_mem _ (inlX11 w h)) hown hK hV 0 rfl rfl 0 (by decide) (jw hts gw16) (fun _ h9 => h9) rfl (dd_of dX11_run_0 7 rfl) ?_
    refine va_get (D := D) (cl := vwCl) (tys := jT yy) (ci := 5) (v := .ref (B 1)) (C := RX5) (T := TX5) (N := 10) hx hb hts (fun w h => List.mem_cons_of_mem _ (inlX5 w h)) hown hK hP 0 rfl rfl 0 (by decide) (jw hts gw181) (fun _ h9 => h9) rfl (dd_of dX11_run_0 8 rfl) ?_
    refine va_get (D := D) (cl := vwCl) (tys := jT yy) (ci := 10) (v := .int (F 0 0)) (C := RX10) (T := TX10) (N := 8) hx hb hts (fun w h => List.mem_cons_of_mem _ (inlX10 w h)) hown hK hP 1 rfl rfl 6 (by decide) (jw hts gw884) (fun _ h9 => h9) rfl (dd_of dX11_run_0 9 rfl) ?_
    refine lv_iload_n hx hb (dd_of dX11_run_0 10 rfl) rfl (lv_at hl 1 rfl) ?_
    refine lv_iadd hx hb (dd_of dX11_run_0 11 rfl) ?_
    refine lv_sipush (v := 9999) hx hb (dd_of dX11_run_0 12 rfl) (by decide) ?_
    obtain ⟨z14, q13⟩ : ∃ z : Int32, (if 9999 < ((F 0 0) + p1) then 0 else 1) = z := ⟨_, rfl⟩
    refine jn_i (ls := ls) (v := z14) 32 [.ref h0] (fun v3 ev3 => ?_) (fun K15 => ?_)
    · replace hres := bvE (ev3.trans q13.symm) hres
      replace hok := bvO (ev3.trans q13.symm) hok
      refine xc_v (g := (gX11_needState v3)) (As := [.int v3]) (rest := []) (w := ([] : va_W)) (D := D) (yy := yy) ⟨hx, hb, hml, hown, hts⟩ (qX11_needState l hl9 D yy h0 H.size v3) (cwV 1 hts (jgV gw885 gw886 gw887 gw2 gw888) rfl rfl rfl (by decide +kernel) ⟨Nat.le_of_ble_eq_true rfl, Nat.le_of_ble_eq_true rfl⟩) (fun k q h => by simp at h) hK hT hS hA hS9 (va_recv hK hV (ci := 11) (q0 := 0) rfl rfl) rfl hl.1 rfl (Nat.le_of_ble_eq_true rfl) (dd_of dX11_run_0 17 rfl) ⟨Nat.le_of_ble_eq_true rfl, Nat.le_of_ble_eq_true rfl⟩ (fun E9 ce9 qx9 H locs cx ex hS9 z1 z2 z3 => ?_) (fun H locs cx hkp hS9 => ?_)
      · replace hres := ifN cx (bvE rfl hres)
        subst hQ
        exact xout (px := True) (B := (fun E => RES.1 ≠ 0 ∧ E = xN RES.1)) htab hlk hS9 z1 z2 z3 trivial (by rw [← hres]; exact ⟨cx, ex⟩) (Nat.le_of_ble_eq_true rfl) (Nat.le_of_ble_eq_true rfl) hfree
      · replace hres := ifE cx (bvE rfl hres)
        replace hok := bvO rfl hok
        replace hok := hok cx
        have hS := hS9.mono hE
        have hV := hkp _ hV
        have hP := hkp _ hP
        refine lv_aload_n hx hb (dd_of dX11_run_0 18 rfl) rfl (lv_at hl 0 rfl) ?_
        refine va_get (D := D) (cl := vwCl) (tys := jT yy) (ci := 11) (v := .ref (B 0)) (C := RX11) (T := TX11) (N := 5) hx hb hts (fun w h => List.mem_cons_of_mem _ (inlX11 w h)) hown hK hV 0 rfl rfl 0 (by decide) (jw hts gw16) (fun _ h9 => h9) rfl (dd_of dX11_run_0 19 rfl) ?_
        refine lv_aload_n hx hb (dd_of dX11_run_0 20 rfl) rfl (lv_at hl 0 rfl) ?_
        refine va_get (D := D) (cl := vwCl) (tys := jT yy) (ci := 11) (v := .ref an) (C := RX11) (T := TX11) (N := 5) hx hb hts (fun w h => List.mem_cons_of_mem _ (inlX11 w h)) hown hK hV 0 rfl rfl 1 (by decide) (jw hts gw18) (fun _ h9 => h9) rfl (dd_of dX11_run_0 21 rfl) ?_
        refine lv_aload_n hx hb (dd_of dX11_run_0 22 rfl) rfl (lv_at hl 0 rfl) ?_
        refine lv_bipush (v := 17) hx hb (dd_of dX11_run_0 23 rfl) (by decide) ?_
        refine lv_iload_n hx hb (dd_of dX11_run_0 24 rfl) rfl (lv_at hl 1 rfl) ?_
        refine lv_iconst (v := 0) hx hb (dd_of dX11_run_0 25 rfl) (by decide) ?_
        refine lv_iconst (v := 0) hx hb (dd_of dX11_run_0 26 rfl) (by decide) ?_
        refine lv_iconst (v := 0) hx hb (dd_of dX11_run_0 27 rfl) (by decide) ?_
        refine lv_iconst (v := 0) hx hb (dd_of dX11_run_0 28 rfl) (by decide) ?_
        have hk9 := hok.1
        replace hok := hok.2
        refine jz_i (As := [.int 17, .int p1, .int 0, .int 0, .int 0, .int 0]) (rest := [.ref an, .ref (B 0)]) (D := D) (yy := yy) (h0 := h0) (an := an) (B := B) (B2 := B2) (F := F) (G := G) (F2 := F2) (G2 := G2) (M := M) ⟨hx, hb, hml, hown, hts⟩ (qX11_note l D yy h0 an (B 0) (B2 0) M (fun _ _ => 0) H.size 17 p1 0 0 0 0 hk9) (cwV 6 hts (jgV gw195 gw196 gw197 gw2 gw198) rfl rfl rfl (by decide +kernel) ⟨Nat.le_of_ble_eq_true rfl, Nat.le_of_ble_eq_true rfl⟩) hV hK hD hS hA (va_recv hK hV (ci := 11) (q0 := 0) rfl rfl) rfl hl.1 rfl (Nat.le_of_ble_eq_true rfl) (dd_of dX11_run_0 29 rfl) ⟨Nat.le_of_ble_eq_true rfl, Nat.le_of_ble_eq_true rfl⟩ (fun x7 M5 G6 H locs w8 hV hD hS => ?_)
        have hP := pV_P hV
        replace hres := brE w8 hres
        replace hok := brO w8 hok
        have hk9 := hok
        refine jz_l (As := [.ref an, .int x7]) (rest := []) (D := D) (yy := yy) (h0 := h0) (an := an) (B := B) (B2 := B2) (F := F) (G := G) (F2 := F2) (G2 := G2) (M := M5) ⟨hx, hb, hml, hown, hts⟩ (qX5_act l D yy B F G H.size an (M5 82) x7 hk9) (fun _ _ h => h.2 0 (by omega)) (cwV 2 hts (jgV gw200 gw201 gw202 gw15 gw203) rfl rfl rfl (by decide +kernel) ⟨Nat.le_of_ble_eq_true rfl, Nat.le_of_ble_eq_true rfl⟩) hV hK hD hS hA (va_recv hK hP (ci := 5) (q0 := 0) rfl rfl) rfl hl.1 rfl (Nat.le_of_ble_eq_true rfl) (dd_of dX11_run_0 30 rfl) ⟨Nat.le_of_ble_eq_true rfl, Nat.le_of_ble_eq_true rfl⟩ (fun x11 B1 F9 G10 H locs w12 hV hD hS => ?_)
        obtain ⟨w12, hB1⟩ := w12
        have hB1 : ∀ k, k < 100 → B1 k = B k := hB1
        have w12 : (x11, (F9, G10)) = gX5_act F G (M5 82) x7 := w12
        replace hres := brE w12 hres
        refine lv_l2i (v := (Int64.toInt32 x11)) hx hb (dd_of dX11_run_0 31 rfl) rfl ?_
        subst hQ
        refine vx_ret (W.widen (k := 9) (n := 64) (Nat.le_of_ble_eq_true rfl) (Nat.le_of_ble_eq_true rfl) ?_)
        exact W.iret (v := (Int64.toInt32 x11)) hx hb hr (fun t ht hW => ⟨⟨(Int64.toInt32 x11), ((B1, (F9, G10)), M5), rfl, ⟨hres.symm, hB1⟩, by rw [ht]; exact hV, va_K.moved hW.alike hK, hD⟩, hS.F ht⟩) hS.2.2 (dd_of dX11_run_0 32 rfl) hlk
    · skip
      refine lv_icmp_gt (tgt := 31) hx hb (dd_of dX11_run_0 13 rfl) (by decide) (fun c2 => ?_) (fun c2 => ?_)
      · replace q13 := ifE c2 q13
        refine lv_iconst (v := 0) hx hb (dd_of dX11_run_0 16 rfl) (by decide) ?_
        exact K15 _ q13
      · replace q13 := ifN c2 q13
        refine lv_iconst (v := 1) hx hb (dd_of dX11_run_0 14 rfl) (by decide) ?_
        refine lv_goto (tgt := 32) hx hb (dd_of dX11_run_0 15 rfl) (by decide) ?_
        exact K15 _ q13
set_option maxHeartbeats 4000000 in
set_option maxRecDepth 100000 in
theorem qX11_endYear (l : Launch) (hl9 : l.stackTraces = false) (D : va_G) (yy : Nat → ClassId) (h0 an : Nat) (B B2 : Nat → Nat) (F : jF) (G : jG) (F2 : jF) (G2 : jG) (M : jF) (sz : Nat)  (hok : okX11_endYear F G M ) : vx_Met l yX11_endYear (Cond.code yX11_endYear cX11_endYear 1 (some .int) :: wsL_law) rmX11_endYear (va_Pc [.ref h0] (jX D yy (pV yy h0 an B B2 F G F2 G2 M) sz)) (va_Qi (fun r (u : ((Nat → Nat) × jS) × jF) => gX11_endYear F G M  = (0, (r, (u.1.2, u.2))) ∧ ∀ k, k < 100 → u.1.1 k = B k) (fun u t => jB D yy (va_A (pV yy h0 an B B2 F G F2 G2 M) sz) (pV yy h0 an u.1.1 B2 u.1.2.1 u.1.2.2 F2 G2 u.2) t) (va_A (pV yy h0 an B B2 F G F2 G2 M) sz)) (vx_X (fun _ : Unit => True) (fun E _ _ => (gX11_endYear F G M ).1 ≠ 0 ∧ E = xN (gX11_endYear F G M ).1) (jE sz)) 9 64 (va_A (pV yy h0 an B B2 F G F2 G2 M) sz) := by
  generalize hres : gX11_endYear F G M  = RES
  refine jMX (vs := [.ref h0]) (own := RX11) (by decide +kernel) rfl (Nat.le_of_ble_eq_true rfl) ?_
  intro p e s m args below meth c ls Q hQ hargs S hr hlk htab hB hl
  obtain ⟨hx, hb, hml, hown, hts⟩ := S
  have hl : lv_has ls 1 [(0, .ref h0)] := hl

  obtain ⟨⟨hsz, hV, hK, hD0⟩, hT⟩ := hB
  subst hsz
  have hD := hD0.self (sz := s.heap.size)
  have hE : ∀ q, jE s.heap.size q → va_A (pV yy h0 an B B2 F G F2 G2 M) s.heap.size q := fun q h => Or.inr h
  generalize hZ : va_A (pV yy h0 an B B2 F G F2 G2 M) s.heap.size = Z at hD hQ hT hE
  have hA : ∀ q : Nat, s.heap.size ≤ q → Z q := fun q h => by rw [← hZ]; exact Or.inr h
  have hfree : ∀ q, jE s.heap.size q → Z q := hE
  obtain ⟨H, hH⟩ : ∃ z, z = s.heap := ⟨_, rfl⟩
  obtain ⟨locs, hlocs⟩ : ∃ z : List Loc, z = [] := ⟨_, rfl⟩
  have hS9 : va_S (jE s.heap.size) s.heap H locs := by rw [hH, hlocs]; exact va_S.rf
  have hS := hS9.mono hE
  rw [← hH] at hV
  have hP : va_P D vwCl (lW yy B F G) H := pV_P hV
  suffices hgo : W p l e rmX11_endYear s m args below meth c H locs 0 0 Q (F0 m 0 ls []) by rw [hH, hlocs] at hgo; exact hgo
  unfold gX11_endYear at hres
  unfold okX11_endYear at hok
  refine lv_aload_n hx hb (dd_of dX11_endYear_0 0 rfl) rfl (lv_at hl 0 rfl) ?_
  refine lv_aload_n hx hb (dd_of dX11_endYear_0 1 rfl) rfl (lv_at hl 0 rfl) ?_
  refine va_get (D := D) (cl := vwCl) (tys := jT yy) (ci := 11) (v := .ref (B 0)) (C := RX11) (T := TX11) (N := 5) hx hb hts (fun w h => List.mem_cons_of_mem _ (inlX11 w h)) hown hK hV 0 rfl rfl 0 (by decide) (jw hts gw16) (fun _ h9 => h9) rfl (dd_of dX11_endYear_0 2 rfl) ?_
  refine va_get (D := D) (cl := vwCl) (tys := jT yy) (ci := 5) (v := .ref (B 2)) (C := RX5) (T := TX5) (N := 10) hx hb hts (fun w h => List.mem_cons_of_mem _ (inlX5 w h)) hown hK hP 0 rfl rfl 1 (by decide) (jw hts gw808) (fun _ h9 => h9) rfl (dd_of dX11_endYear_0 3 rfl) ?_
  refine va_get (D := D) (cl := vwCl) (tys := jT yy) (ci := 1) (v := .int (F 1 0)) (C := RX1) (T := TX1) (N := 8) hx hb hts (fun w h => List.mem_cons_of_mem _ (inlX1 w h)) hown hK hP 2 rfl rfl 2 (by decide) (jw hts gw963) (fun _ h9 => h9) rfl (dd_of dX11_endYear_0 4 rfl) ?_
  refine lv_bipush (v := 20) hx hb (dd_of dX11_endYear_0 5 rfl) (by decide) ?_
  obtain ⟨z13, q12⟩ : ∃ z : Int32, (if 20 ≤ (F 1 0) then 0 else 1) = z := ⟨_, rfl⟩
  refine jn_i (ls := ls) (v := z13) 21 [.ref h0] (fun v2 ev2 => ?_) (fun K14 => ?_)
  · replace hres := bvE (ev2.trans q12.symm) hres
    replace hok := bvO (ev2.trans q12.symm) hok
    refine xc_v (g := (gX11_needState v2)) (As := [.int v2]) (rest := []) (w := ([] : va_W)) (D := D) (yy := yy) ⟨hx, hb, hml, hown, hts⟩ (qX11_needState l hl9 D yy h0 H.size v2) (cwV 1 hts (jgV gw885 gw886 gw887 gw2 gw888) rfl rfl rfl (by decide +kernel) ⟨Nat.le_of_ble_eq_true rfl, Nat.le_of_ble_eq_true rfl⟩) (fun k q h => by simp at h) hK hT hS hA hS9 (va_recv hK hV (ci := 11) (q0 := 0) rfl rfl) rfl hl.1 rfl (Nat.le_of_ble_eq_true rfl) (dd_of dX11_endYear_0 10 rfl) ⟨Nat.le_of_ble_eq_true rfl, Nat.le_of_ble_eq_true rfl⟩ (fun E9 ce9 qx9 H locs cx ex hS9 z1 z2 z3 => ?_) (fun H locs cx hkp hS9 => ?_)
    · replace hres := ifN cx (bvE rfl hres)
      subst hQ
      exact xout (px := True) (B := (fun E => RES.1 ≠ 0 ∧ E = xN RES.1)) htab hlk hS9 z1 z2 z3 trivial (by rw [← hres]; exact ⟨cx, ex⟩) (Nat.le_of_ble_eq_true rfl) (Nat.le_of_ble_eq_true rfl) hfree
    · replace hres := ifE cx (bvE rfl hres)
      replace hok := bvO rfl hok
      replace hok := hok cx
      have hS := hS9.mono hE
      have hV := hkp _ hV
      have hP := hkp _ hP
      refine lv_aload_n hx hb (dd_of dX11_endYear_0 11 rfl) rfl (lv_at hl 0 rfl) ?_
      refine va_get (D := D) (cl := vwCl) (tys := jT yy) (ci := 11) (v := .ref (B 0)) (C := RX11) (T := TX11) (N := 5) hx hb hts (fun w h => List.mem_cons_of_mem _ (inlX11 w h)) hown hK hV 0 rfl rfl 0 (by decide) (jw hts gw16) (fun _ h9 => h9) rfl (dd_of dX11_endYear_0 12 rfl) ?_
      refine lv_aload_n hx hb (dd_of dX11_endYear_0 13 rfl) rfl (lv_at hl 0 rfl) ?_
      refine va_get (D := D) (cl := vwCl) (tys := jT yy) (ci := 11) (v := .ref an) (C := RX11) (T := TX11) (N := 5) hx hb hts (fun w h => List.mem_cons_of_mem _ (inlX11 w h)) hown hK hV 0 rfl rfl 1 (by decide) (jw hts gw18) (fun _ h9 => h9) rfl (dd_of dX11_endYear_0 14 rfl) ?_
      refine lv_aload_n hx hb (dd_of dX11_endYear_0 15 rfl) rfl (lv_at hl 0 rfl) ?_
      refine lv_bipush (v := 18) hx hb (dd_of dX11_endYear_0 16 rfl) (by decide) ?_
      refine lv_iconst (v := 0) hx hb (dd_of dX11_endYear_0 17 rfl) (by decide) ?_
      refine lv_iconst (v := 0) hx hb (dd_of dX11_endYear_0 18 rfl) (by decide) ?_
      refine lv_iconst (v := 0) hx hb (dd_of dX11_endYear_0 19 rfl) (by decide) ?_
      refine lv_iconst (v := 0) hx hb (dd_of dX11_endYear_0 20 rfl) (by decide) ?_
      refine lv_iconst (v := 0) hx hb (dd_of dX11_endYear_0 21 rfl) (by decide) ?_
      have hk9 := hok.1
      replace hok := hok.2
      refine jz_i (As := [.int 18, .int 0, .int 0, .int 0, .int 0, .int 0]) (rest := [.ref an, .ref (B 0)]) (D := D) (yy := yy) (h0 := h0) (an := an) (B := B) (B2 := B2) (F := F) (G := G) (F2 := F2) (G2 := G2) (M := M) ⟨hx, hb, hml, hown, hts⟩ (qX11_note l D yy h0 an (B 0) (B2 0) M (fun _ _ => 0) H.size 18 0 0 0 0 0 hk9) (cwV 6 hts (jgV gw195 gw196 gw197 gw2 gw198) rfl rfl rfl (by decide +kernel) ⟨Nat.le_of_ble_eq_true rfl, Nat.le_of_ble_eq_true rfl⟩) hV hK hD hS hA (va_recv hK hV (ci := 11) (q0 := 0) rfl rfl) rfl hl.1 rfl (Nat.le_of_ble_eq_true rfl) (dd_of dX11_endYear_0 22 rfl) ⟨Nat.le_of_ble_eq_true rfl, Nat.le_of_ble_eq_true rfl⟩ (fun x6 M4 G5 H locs w7 hV hD hS => ?_)
      have hP := pV_P hV
      replace hres := brE w7 hres
      replace hok := brO w7 hok
      have hk9 := hok
      refine jz_l (As := [.ref an, .int x6]) (rest := []) (D := D) (yy := yy) (h0 := h0) (an := an) (B := B) (B2 := B2) (F := F) (G := G) (F2 := F2) (G2 := G2) (M := M4) ⟨hx, hb, hml, hown, hts⟩ (qX5_act l D yy B F G H.size an (M4 82) x6 hk9) (fun _ _ h => h.2 0 (by omega)) (cwV 2 hts (jgV gw200 gw201 gw202 gw15 gw203) rfl rfl rfl (by decide +kernel) ⟨Nat.le_of_ble_eq_true rfl, Nat.le_of_ble_eq_true rfl⟩) hV hK hD hS hA (va_recv hK hP (ci := 5) (q0 := 0) rfl rfl) rfl hl.1 rfl (Nat.le_of_ble_eq_true rfl) (dd_of dX11_endYear_0 23 rfl) ⟨Nat.le_of_ble_eq_true rfl, Nat.le_of_ble_eq_true rfl⟩ (fun x10 B1 F8 G9 H locs w11 hV hD hS => ?_)
      obtain ⟨w11, hB1⟩ := w11
      have hB1 : ∀ k, k < 100 → B1 k = B k := hB1
      have w11 : (x10, (F8, G9)) = gX5_act F G (M4 82) x6 := w11
      replace hres := brE w11 hres
      refine lv_l2i (v := (Int64.toInt32 x10)) hx hb (dd_of dX11_endYear_0 24 rfl) rfl ?_
      subst hQ
      refine vx_ret (W.widen (k := 9) (n := 64) (Nat.le_of_ble_eq_true rfl) (Nat.le_of_ble_eq_true rfl) ?_)
      exact W.iret (v := (Int64.toInt32 x10)) hx hb hr (fun t ht hW => ⟨⟨(Int64.toInt32 x10), ((B1, (F8, G9)), M4), rfl, ⟨hres.symm, hB1⟩, by rw [ht]; exact hV, va_K.moved hW.alike hK, hD⟩, hS.F ht⟩) hS.2.2 (dd_of dX11_endYear_0 25 rfl) hlk
  · skip
    refine lv_icmp_ge (tgt := 20) hx hb (dd_of dX11_endYear_0 6 rfl) (by decide) (fun c1 => ?_) (fun c1 => ?_)
    · replace q12 := ifE c1 q12
      refine lv_iconst (v := 0) hx hb (dd_of dX11_endYear_0 9 rfl) (by decide) ?_
      exact K14 _ q12
    · replace q12 := ifN c1 q12
      refine lv_iconst (v := 1) hx hb (dd_of dX11_endYear_0 7 rfl) (by decide) ?_
      refine lv_goto (tgt := 21) hx hb (dd_of dX11_endYear_0 8 rfl) (by decide) ?_
      exact K14 _ q12
