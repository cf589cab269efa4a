-- the land's acts, by kind
def cN (k a b c d e : Int32) : Nat → Int32 := fun i => if i = 0 then k else if i = 1 then a else if i = 2 then b else if i = 3 then c else if i = 4 then d else e
def acV (F : jF) (G : jG) (k a b c d e : Int32) : Int64 × jS := gX5_act F G (cN k a b c d e) 0
def okV (F : jF) (G : jG) (k a b c d e : Int32) : Prop := okX5_act F G (cN k a b c d e) 0
theorem cN_v (k a b c d e : Int32) : cN k a b c d e (Int32.toNatClampNeg 0) = k ∧ cN k a b c d e (Int32.toNatClampNeg (0 + 1)) = a ∧ cN k a b c d e (Int32.toNatClampNeg (0 + 2)) = b ∧ cN k a b c d e (Int32.toNatClampNeg (0 + 3)) = c ∧ cN k a b c d e (Int32.toNatClampNeg (0 + 4)) = d ∧ cN k a b c d e (Int32.toNatClampNeg (0 + 5)) = e := ⟨rfl, rfl, rfl, rfl, rfl, rfl⟩
theorem act_V {N : Nat → Int32} (F : jF) (G : jG) {q : Nat} (hq : q < 513) : gX5_act F G N (nI (6 * q)) = acV F G (N (6 * q)) (N (6 * q + 1)) (N (6 * q + 2)) (N (6 * q + 3)) (N (6 * q + 4)) (N (6 * q + 5)) ∧ (okV F G (N (6 * q)) (N (6 * q + 1)) (N (6 * q + 2)) (N (6 * q + 3)) (N (6 * q + 4)) (N (6 * q + 5)) → okX5_act F G N (nI (6 * q))) := by
  have ea : ∀ j : Nat, nI (6 * q) + nI j = nI (6 * q + j) := fun j => nI_add _ _
  have l1 : nI (6 * q) + 1 = nI (6 * q + 1) := ea 1
  have l2 : nI (6 * q) + 2 = nI (6 * q + 2) := ea 2
  have l3 : nI (6 * q) + 3 = nI (6 * q + 3) := ea 3
  have l4 : nI (6 * q) + 4 = nI (6 * q + 4) := ea 4
  have l5 : nI (6 * q) + 5 = nI (6 * q + 5) := ea 5
  have l6 : nI (6 * q) + 6 = nI (6 * q + 6) := ea 6
  have c0 : ¬ nI (6 * q) < 0 := nI_pos (by omega)
  have c1 : nI (6 * q + 6) ≤ 3078 := nI_le (a := 6 * q + 6) (b := 3078) (by omega) (by omega)
  have d0 : ¬ (0 : Int32) < 0 := by decide
  have d1 : (0 : Int32) + 6 ≤ 3078 := by decide
  have k0 := nI_clamp (show 6 * q < 2 ^ 31 by omega)
  have k1 := nI_clamp (show 6 * q + 1 < 2 ^ 31 by omega)
  have k2 := nI_clamp (show 6 * q + 2 < 2 ^ 31 by omega)
  have k3 := nI_clamp (show 6 * q + 3 < 2 ^ 31 by omega)
  have k4 := nI_clamp (show 6 * q + 4 < 2 ^ 31 by omega)
  have k5 := nI_clamp (show 6 * q + 5 < 2 ^ 31 by omega)
  constructor
  · obtain ⟨v0, v1, v2, v3, v4, v5⟩ := cN_v (N (6 * q)) (N (6 * q + 1)) (N (6 * q + 2)) (N (6 * q + 3)) (N (6 * q + 4)) (N (6 * q + 5))
    unfold acV gX5_act
    rw [if_neg c0, l6, if_pos c1, if_neg d0, if_pos d1, v0, v1, v2, v3, v4, v5, l1, l2, l3, l4, l5, k0, k1, k2, k3, k4, k5]
  · intro h
    obtain ⟨v0, v1, v2, v3, v4, v5⟩ := cN_v (N (6 * q)) (N (6 * q + 1)) (N (6 * q + 2)) (N (6 * q + 3)) (N (6 * q + 4)) (N (6 * q + 5))
    unfold okV okX5_act at h
    unfold okX5_act
    refine ⟨fun _ => trivial, fun _ => ⟨fun _ => ?_, fun e => absurd (by rw [l6]; exact c1) e⟩⟩
    have h := (h.2 d0).1 d1
    have hv : ∀ j, j < 6 → vp_in (nI (6 * q + j)) 3078 := fun j hj => nI_in (by omega) (by omega)
    rw [v0, v1, v2, v3, v4, v5] at h
    rw [l1, l2, l3, l4, l5, k0, k1, k2, k3, k4, k5]
    simp only [bvd] at h ⊢
    obtain ⟨-, -, -, -, -, -, h⟩ := h
    exact ⟨hv 1 (by omega), hv 2 (by omega), hv 3 (by omega), hv 4 (by omega), hv 5 (by omega), hv 0 (by omega), h⟩
theorem ac_0 (F : jF) (G : jG) (a b c d e : Int32) : acV F G 0 a b c d e = ((gX10_newBasin F G a b).1.toInt64, (gX10_newBasin F G a b).2) := by
  obtain ⟨v0, v1, v2, v3, v4, v5⟩ := cN_v 0 a b c d e
  unfold acV gX5_act
  rw [if_neg (show ¬ (0 : Int32) < 0 by decide), if_pos (show (0 : Int32) + 6 ≤ 3078 by decide), v0, v1, v2, v3, v4, v5]
  rw [bvd, bvd, bvd, bvd, bvd, bvd, if_pos (show (0 : Int32) = 0 from rfl)]
  rw [brd]
theorem ac_1 (F : jF) (G : jG) (a b c d e : Int32) : acV F G 1 a b c d e = ((gX10_layOut F G a b c d).1.toInt64, (gX10_layOut F G a b c d).2) := by
  obtain ⟨v0, v1, v2, v3, v4, v5⟩ := cN_v 1 a b c d e
  unfold acV gX5_act
  rw [if_neg (show ¬ (0 : Int32) < 0 by decide), if_pos (show (0 : Int32) + 6 ≤ 3078 by decide), v0, v1, v2, v3, v4, v5]
  rw [bvd, bvd, bvd, bvd, bvd, bvd, if_neg (show ¬ (1 : Int32) = 0 by decide), if_pos (show (1 : Int32) = 1 from rfl)]
  rw [brd]
theorem ac_2 (F : jF) (G : jG) (a b c d e : Int32) : acV F G 2 a b c d e = (gX10_pourInto F G a b) := by
  obtain ⟨v0, v1, v2, v3, v4, v5⟩ := cN_v 2 a b c d e
  unfold acV gX5_act
  rw [if_neg (show ¬ (0 : Int32) < 0 by decide), if_pos (show (0 : Int32) + 6 ≤ 3078 by decide), v0, v1, v2, v3, v4, v5]
  rw [bvd, bvd, bvd, bvd, bvd, bvd, if_neg (show ¬ (2 : Int32) = 0 by decide), if_neg (show ¬ (2 : Int32) = 1 by decide), if_pos (show (2 : Int32) = 2 from rfl)]
  rw [brd]
theorem ac_3 (F : jF) (G : jG) (a b c d e : Int32) : acV F G 3 a b c d e = ((if (gX8_build F G a b (if c = 0 then 0 else 1)).1 = 0 then (0 : Int64) else 1), (gX8_build F G a b (if c = 0 then 0 else 1)).2) := by
  obtain ⟨v0, v1, v2, v3, v4, v5⟩ := cN_v 3 a b c d e
  unfold acV gX5_act
  rw [if_neg (show ¬ (0 : Int32) < 0 by decide), if_pos (show (0 : Int32) + 6 ≤ 3078 by decide), v0, v1, v2, v3, v4, v5]
  rw [bvd, bvd, bvd, bvd, bvd, bvd, if_neg (show ¬ (3 : Int32) = 0 by decide), if_neg (show ¬ (3 : Int32) = 1 by decide), if_neg (show ¬ (3 : Int32) = 2 by decide), if_pos (show (3 : Int32) = 3 from rfl)]
  rw [bvd, brd, bvd]
theorem ac_4 (F : jF) (G : jG) (a b c d e : Int32) : acV F G 4 a b c d e = ((gX5_newGate F G a b c d).1.toInt64, (gX5_newGate F G a b c d).2) := by
  obtain ⟨v0, v1, v2, v3, v4, v5⟩ := cN_v 4 a b c d e
  unfold acV gX5_act
  rw [if_neg (show ¬ (0 : Int32) < 0 by decide), if_pos (show (0 : Int32) + 6 ≤ 3078 by decide), v0, v1, v2, v3, v4, v5]
  rw [bvd, bvd, bvd, bvd, bvd, bvd, if_neg (show ¬ (4 : Int32) = 0 by decide), if_neg (show ¬ (4 : Int32) = 1 by decide), if_neg (show ¬ (4 : Int32) = 2 by decide), if_neg (show ¬ (4 : Int32) = 3 by decide), if_pos (show (4 : Int32) = 4 from rfl)]
  rw [brd]
theorem ac_5 (F : jF) (G : jG) (a b c d e : Int32) : acV F G 5 a b c d e = ((gX5_newPump F G a b c d e).1.toInt64, (gX5_newPump F G a b c d e).2) := by
  obtain ⟨v0, v1, v2, v3, v4, v5⟩ := cN_v 5 a b c d e
  unfold acV gX5_act
  rw [if_neg (show ¬ (0 : Int32) < 0 by decide), if_pos (show (0 : Int32) + 6 ≤ 3078 by decide), v0, v1, v2, v3, v4, v5]
  rw [bvd, bvd, bvd, bvd, bvd, bvd, if_neg (show ¬ (5 : Int32) = 0 by decide), if_neg (show ¬ (5 : Int32) = 1 by decide), if_neg (show ¬ (5 : Int32) = 2 by decide), if_neg (show ¬ (5 : Int32) = 3 by decide), if_neg (show ¬ (5 : Int32) = 4 by decide), if_pos (show (5 : Int32) = 5 from rfl)]
  rw [brd]
theorem ac_6 (F : jF) (G : jG) (a b c d e : Int32) : acV F G 6 a b c d e = ((gX5_newDyke F G a b c d e).1.toInt64, (gX5_newDyke F G a b c d e).2) := by
  obtain ⟨v0, v1, v2, v3, v4, v5⟩ := cN_v 6 a b c d e
  unfold acV gX5_act
  rw [if_neg (show ¬ (0 : Int32) < 0 by decide), if_pos (show (0 : Int32) + 6 ≤ 3078 by decide), v0, v1, v2, v3, v4, v5]
  rw [bvd, bvd, bvd, bvd, bvd, bvd, if_neg (show ¬ (6 : Int32) = 0 by decide), if_neg (show ¬ (6 : Int32) = 1 by decide), if_neg (show ¬ (6 : Int32) = 2 by decide), if_neg (show ¬ (6 : Int32) = 3 by decide), if_neg (show ¬ (6 : Int32) = 4 by decide), if_neg (show ¬ (6 : Int32) = 5 by decide), if_pos (show (6 : Int32) = 6 from rfl)]
  rw [brd]
theorem ac_7 (F : jF) (G : jG) (a b c d e : Int32) : acV F G 7 a b c d e = ((gX10_layOutside F G a b c).1.toInt64, (gX10_layOutside F G a b c).2) := by
  obtain ⟨v0, v1, v2, v3, v4, v5⟩ := cN_v 7 a b c d e
  unfold acV gX5_act
  rw [if_neg (show ¬ (0 : Int32) < 0 by decide), if_pos (show (0 : Int32) + 6 ≤ 3078 by decide), v0, v1, v2, v3, v4, v5]
  rw [bvd, bvd, bvd, bvd, bvd, bvd, if_neg (show ¬ (7 : Int32) = 0 by decide), if_neg (show ¬ (7 : Int32) = 1 by decide), if_neg (show ¬ (7 : Int32) = 2 by decide), if_neg (show ¬ (7 : Int32) = 3 by decide), if_neg (show ¬ (7 : Int32) = 4 by decide), if_neg (show ¬ (7 : Int32) = 5 by decide), if_neg (show ¬ (7 : Int32) = 6 by decide), if_pos (show (7 : Int32) = 7 from rfl)]
  rw [brd]
theorem ac_8 (F : jF) (G : jG) (a b c d e : Int32) : acV F G 8 a b c d e = ((gX10_tellStorm F G a b c).1.toInt64, (gX10_tellStorm F G a b c).2) := by
  obtain ⟨v0, v1, v2, v3, v4, v5⟩ := cN_v 8 a b c d e
  unfold acV gX5_act
  rw [if_neg (show ¬ (0 : Int32) < 0 by decide), if_pos (show (0 : Int32) + 6 ≤ 3078 by decide), v0, v1, v2, v3, v4, v5]
  rw [bvd, bvd, bvd, bvd, bvd, bvd, if_neg (show ¬ (8 : Int32) = 0 by decide), if_neg (show ¬ (8 : Int32) = 1 by decide), if_neg (show ¬ (8 : Int32) = 2 by decide), if_neg (show ¬ (8 : Int32) = 3 by decide), if_neg (show ¬ (8 : Int32) = 4 by decide), if_neg (show ¬ (8 : Int32) = 5 by decide), if_neg (show ¬ (8 : Int32) = 6 by decide), if_neg (show ¬ (8 : Int32) = 7 by decide), if_pos (show (8 : Int32) = 8 from rfl)]
  rw [brd]
theorem ac_9 (F : jF) (G : jG) (a b c d e : Int32) : acV F G 9 a b c d e = ((gX10_tellRain F G a b c d).1.toInt64, (gX10_tellRain F G a b c d).2) := by
  obtain ⟨v0, v1, v2, v3, v4, v5⟩ := cN_v 9 a b c d e
  unfold acV gX5_act
  rw [if_neg (show ¬ (0 : Int32) < 0 by decide), if_pos (show (0 : Int32) + 6 ≤ 3078 by decide), v0, v1, v2, v3, v4, v5]
  rw [bvd, bvd, bvd, bvd, bvd, bvd, if_neg (show ¬ (9 : Int32) = 0 by decide), if_neg (show ¬ (9 : Int32) = 1 by decide), if_neg (show ¬ (9 : Int32) = 2 by decide), if_neg (show ¬ (9 : Int32) = 3 by decide), if_neg (show ¬ (9 : Int32) = 4 by decide), if_neg (show ¬ (9 : Int32) = 5 by decide), if_neg (show ¬ (9 : Int32) = 6 by decide), if_neg (show ¬ (9 : Int32) = 7 by decide), if_neg (show ¬ (9 : Int32) = 8 by decide), if_pos (show (9 : Int32) = 9 from rfl)]
  rw [brd]
theorem ac_10 (F : jF) (G : jG) (a b c d e : Int32) : acV F G 10 a b c d e = ((gX6_sow F G a).1.toInt64, (gX6_sow F G a).2) := by
  obtain ⟨v0, v1, v2, v3, v4, v5⟩ := cN_v 10 a b c d e
  unfold acV gX5_act
  rw [if_neg (show ¬ (0 : Int32) < 0 by decide), if_pos (show (0 : Int32) + 6 ≤ 3078 by decide), v0, v1, v2, v3, v4, v5]
  rw [bvd, bvd, bvd, bvd, bvd, bvd, if_neg (show ¬ (10 : Int32) = 0 by decide), if_neg (show ¬ (10 : Int32) = 1 by decide), if_neg (show ¬ (10 : Int32) = 2 by decide), if_neg (show ¬ (10 : Int32) = 3 by decide), if_neg (show ¬ (10 : Int32) = 4 by decide), if_neg (show ¬ (10 : Int32) = 5 by decide), if_neg (show ¬ (10 : Int32) = 6 by decide), if_neg (show ¬ (10 : Int32) = 7 by decide), if_neg (show ¬ (10 : Int32) = 8 by decide), if_neg (show ¬ (10 : Int32) = 9 by decide), if_pos (show (10 : Int32) = 10 from rfl)]
  rw [brd]
theorem ac_11 (F : jF) (G : jG) (a b c d e : Int32) : acV F G 11 a b c d e = ((gX5_order F G (gX5_gateAt F G a) (if b = 0 then 0 else 1) c).1.toInt64, (gX5_order F G (gX5_gateAt F G a) (if b = 0 then 0 else 1) c).2) := by
  obtain ⟨v0, v1, v2, v3, v4, v5⟩ := cN_v 11 a b c d e
  unfold acV gX5_act
  rw [if_neg (show ¬ (0 : Int32) < 0 by decide), if_pos (show (0 : Int32) + 6 ≤ 3078 by decide), v0, v1, v2, v3, v4, v5]
  rw [bvd, bvd, bvd, bvd, bvd, bvd, if_neg (show ¬ (11 : Int32) = 0 by decide), if_neg (show ¬ (11 : Int32) = 1 by decide), if_neg (show ¬ (11 : Int32) = 2 by decide), if_neg (show ¬ (11 : Int32) = 3 by decide), if_neg (show ¬ (11 : Int32) = 4 by decide), if_neg (show ¬ (11 : Int32) = 5 by decide), if_neg (show ¬ (11 : Int32) = 6 by decide), if_neg (show ¬ (11 : Int32) = 7 by decide), if_neg (show ¬ (11 : Int32) = 8 by decide), if_neg (show ¬ (11 : Int32) = 9 by decide), if_neg (show ¬ (11 : Int32) = 10 by decide), if_pos (show (11 : Int32) = 11 from rfl)]
  rw [bvd, bvd, brd]
theorem ac_12 (F : jF) (G : jG) (a b c d e : Int32) : acV F G 12 a b c d e = ((gX5_switchPump F G (gX5_pumpAt F G a) (if b = 0 then 0 else 1) c).1.toInt64, (gX5_switchPump F G (gX5_pumpAt F G a) (if b = 0 then 0 else 1) c).2) := by
  obtain ⟨v0, v1, v2, v3, v4, v5⟩ := cN_v 12 a b c d e
  unfold acV gX5_act
  rw [if_neg (show ¬ (0 : Int32) < 0 by decide), if_pos (show (0 : Int32) + 6 ≤ 3078 by decide), v0, v1, v2, v3, v4, v5]
  rw [bvd, bvd, bvd, bvd, bvd, bvd, if_neg (show ¬ (12 : Int32) = 0 by decide), if_neg (show ¬ (12 : Int32) = 1 by decide), if_neg (show ¬ (12 : Int32) = 2 by decide), if_neg (show ¬ (12 : Int32) = 3 by decide), if_neg (show ¬ (12 : Int32) = 4 by decide), if_neg (show ¬ (12 : Int32) = 5 by decide), if_neg (show ¬ (12 : Int32) = 6 by decide), if_neg (show ¬ (12 : Int32) = 7 by decide), if_neg (show ¬ (12 : Int32) = 8 by decide), if_neg (show ¬ (12 : Int32) = 9 by decide), if_neg (show ¬ (12 : Int32) = 10 by decide), if_neg (show ¬ (12 : Int32) = 11 by decide), if_pos (show (12 : Int32) = 12 from rfl)]
  rw [bvd, bvd, brd]
theorem ac_13 (F : jF) (G : jG) (a b c d e : Int32) : acV F G 13 a b c d e = ((gX5_mendPump F G (gX5_pumpAt F G a)).1.toInt64, (gX5_mendPump F G (gX5_pumpAt F G a)).2) := by
  obtain ⟨v0, v1, v2, v3, v4, v5⟩ := cN_v 13 a b c d e
  unfold acV gX5_act
  rw [if_neg (show ¬ (0 : Int32) < 0 by decide), if_pos (show (0 : Int32) + 6 ≤ 3078 by decide), v0, v1, v2, v3, v4, v5]
  rw [bvd, bvd, bvd, bvd, bvd, bvd, if_neg (show ¬ (13 : Int32) = 0 by decide), if_neg (show ¬ (13 : Int32) = 1 by decide), if_neg (show ¬ (13 : Int32) = 2 by decide), if_neg (show ¬ (13 : Int32) = 3 by decide), if_neg (show ¬ (13 : Int32) = 4 by decide), if_neg (show ¬ (13 : Int32) = 5 by decide), if_neg (show ¬ (13 : Int32) = 6 by decide), if_neg (show ¬ (13 : Int32) = 7 by decide), if_neg (show ¬ (13 : Int32) = 8 by decide), if_neg (show ¬ (13 : Int32) = 9 by decide), if_neg (show ¬ (13 : Int32) = 10 by decide), if_neg (show ¬ (13 : Int32) = 11 by decide), if_neg (show ¬ (13 : Int32) = 12 by decide), if_pos (show (13 : Int32) = 13 from rfl)]
  rw [bvd, brd]
theorem ac_14 (F : jF) (G : jG) (a b c d e : Int32) : acV F G 14 a b c d e = ((gX5_sendCrew F G (gX5_crewAt F G a) b c).1.toInt64, (gX5_sendCrew F G (gX5_crewAt F G a) b c).2) := by
  obtain ⟨v0, v1, v2, v3, v4, v5⟩ := cN_v 14 a b c d e
  unfold acV gX5_act
  rw [if_neg (show ¬ (0 : Int32) < 0 by decide), if_pos (show (0 : Int32) + 6 ≤ 3078 by decide), v0, v1, v2, v3, v4, v5]
  rw [bvd, bvd, bvd, bvd, bvd, bvd, if_neg (show ¬ (14 : Int32) = 0 by decide), if_neg (show ¬ (14 : Int32) = 1 by decide), if_neg (show ¬ (14 : Int32) = 2 by decide), if_neg (show ¬ (14 : Int32) = 3 by decide), if_neg (show ¬ (14 : Int32) = 4 by decide), if_neg (show ¬ (14 : Int32) = 5 by decide), if_neg (show ¬ (14 : Int32) = 6 by decide), if_neg (show ¬ (14 : Int32) = 7 by decide), if_neg (show ¬ (14 : Int32) = 8 by decide), if_neg (show ¬ (14 : Int32) = 9 by decide), if_neg (show ¬ (14 : Int32) = 10 by decide), if_neg (show ¬ (14 : Int32) = 11 by decide), if_neg (show ¬ (14 : Int32) = 12 by decide), if_neg (show ¬ (14 : Int32) = 13 by decide), if_pos (show (14 : Int32) = 14 from rfl)]
  rw [bvd, brd]
theorem ac_15 (F : jF) (G : jG) (a b c d e : Int32) : acV F G 15 a b c d e = ((gX1_grant F G a b).1.toInt64, (gX1_grant F G a b).2) := by
  obtain ⟨v0, v1, v2, v3, v4, v5⟩ := cN_v 15 a b c d e
  unfold acV gX5_act
  rw [if_neg (show ¬ (0 : Int32) < 0 by decide), if_pos (show (0 : Int32) + 6 ≤ 3078 by decide), v0, v1, v2, v3, v4, v5]
  rw [bvd, bvd, bvd, bvd, bvd, bvd, if_neg (show ¬ (15 : Int32) = 0 by decide), if_neg (show ¬ (15 : Int32) = 1 by decide), if_neg (show ¬ (15 : Int32) = 2 by decide), if_neg (show ¬ (15 : Int32) = 3 by decide), if_neg (show ¬ (15 : Int32) = 4 by decide), if_neg (show ¬ (15 : Int32) = 5 by decide), if_neg (show ¬ (15 : Int32) = 6 by decide), if_neg (show ¬ (15 : Int32) = 7 by decide), if_neg (show ¬ (15 : Int32) = 8 by decide), if_neg (show ¬ (15 : Int32) = 9 by decide), if_neg (show ¬ (15 : Int32) = 10 by decide), if_neg (show ¬ (15 : Int32) = 11 by decide), if_neg (show ¬ (15 : Int32) = 12 by decide), if_neg (show ¬ (15 : Int32) = 13 by decide), if_neg (show ¬ (15 : Int32) = 14 by decide), if_pos (show (15 : Int32) = 15 from rfl)]
  rw [brd]
theorem ac_16 (F : jF) (G : jG) (a b c d e : Int32) : acV F G 16 a b c d e = ((gX1_beginWork F G (gX5_dykeAt F G a) b c).1.toInt64, (gX1_beginWork F G (gX5_dykeAt F G a) b c).2) := by
  obtain ⟨v0, v1, v2, v3, v4, v5⟩ := cN_v 16 a b c d e
  unfold acV gX5_act
  rw [if_neg (show ¬ (0 : Int32) < 0 by decide), if_pos (show (0 : Int32) + 6 ≤ 3078 by decide), v0, v1, v2, v3, v4, v5]
  rw [bvd, bvd, bvd, bvd, bvd, bvd, if_neg (show ¬ (16 : Int32) = 0 by decide), if_neg (show ¬ (16 : Int32) = 1 by decide), if_neg (show ¬ (16 : Int32) = 2 by decide), if_neg (show ¬ (16 : Int32) = 3 by decide), if_neg (show ¬ (16 : Int32) = 4 by decide), if_neg (show ¬ (16 : Int32) = 5 by decide), if_neg (show ¬ (16 : Int32) = 6 by decide), if_neg (show ¬ (16 : Int32) = 7 by decide), if_neg (show ¬ (16 : Int32) = 8 by decide), if_neg (show ¬ (16 : Int32) = 9 by decide), if_neg (show ¬ (16 : Int32) = 10 by decide), if_neg (show ¬ (16 : Int32) = 11 by decide), if_neg (show ¬ (16 : Int32) = 12 by decide), if_neg (show ¬ (16 : Int32) = 13 by decide), if_neg (show ¬ (16 : Int32) = 14 by decide), if_neg (show ¬ (16 : Int32) = 15 by decide), if_pos (show (16 : Int32) = 16 from rfl)]
  rw [bvd, brd]
theorem ac_17 (F : jF) (G : jG) (a b c d e : Int32) : acV F G 17 a b c d e = ((gX5_passHours F G a).1.toInt64, (gX5_passHours F G a).2) := by
  obtain ⟨v0, v1, v2, v3, v4, v5⟩ := cN_v 17 a b c d e
  unfold acV gX5_act
  rw [if_neg (show ¬ (0 : Int32) < 0 by decide), if_pos (show (0 : Int32) + 6 ≤ 3078 by decide), v0, v1, v2, v3, v4, v5]
  rw [bvd, bvd, bvd, bvd, bvd, bvd, if_neg (show ¬ (17 : Int32) = 0 by decide), if_neg (show ¬ (17 : Int32) = 1 by decide), if_neg (show ¬ (17 : Int32) = 2 by decide), if_neg (show ¬ (17 : Int32) = 3 by decide), if_neg (show ¬ (17 : Int32) = 4 by decide), if_neg (show ¬ (17 : Int32) = 5 by decide), if_neg (show ¬ (17 : Int32) = 6 by decide), if_neg (show ¬ (17 : Int32) = 7 by decide), if_neg (show ¬ (17 : Int32) = 8 by decide), if_neg (show ¬ (17 : Int32) = 9 by decide), if_neg (show ¬ (17 : Int32) = 10 by decide), if_neg (show ¬ (17 : Int32) = 11 by decide), if_neg (show ¬ (17 : Int32) = 12 by decide), if_neg (show ¬ (17 : Int32) = 13 by decide), if_neg (show ¬ (17 : Int32) = 14 by decide), if_neg (show ¬ (17 : Int32) = 15 by decide), if_neg (show ¬ (17 : Int32) = 16 by decide), if_pos (show (17 : Int32) = 17 from rfl)]
  rw [brd]
theorem ac_18 (F : jF) (G : jG) (a b c d e : Int32) : acV F G 18 a b c d e = ((gX5_closeYear F G).1.toInt64, (gX5_closeYear F G).2) := by
  obtain ⟨v0, v1, v2, v3, v4, v5⟩ := cN_v 18 a b c d e
  unfold acV gX5_act
  rw [if_neg (show ¬ (0 : Int32) < 0 by decide), if_pos (show (0 : Int32) + 6 ≤ 3078 by decide), v0, v1, v2, v3, v4, v5]
  rw [bvd, bvd, bvd, bvd, bvd, bvd, if_neg (show ¬ (18 : Int32) = 0 by decide), if_neg (show ¬ (18 : Int32) = 1 by decide), if_neg (show ¬ (18 : Int32) = 2 by decide), if_neg (show ¬ (18 : Int32) = 3 by decide), if_neg (show ¬ (18 : Int32) = 4 by decide), if_neg (show ¬ (18 : Int32) = 5 by decide), if_neg (show ¬ (18 : Int32) = 6 by decide), if_neg (show ¬ (18 : Int32) = 7 by decide), if_neg (show ¬ (18 : Int32) = 8 by decide), if_neg (show ¬ (18 : Int32) = 9 by decide), if_neg (show ¬ (18 : Int32) = 10 by decide), if_neg (show ¬ (18 : Int32) = 11 by decide), if_neg (show ¬ (18 : Int32) = 12 by decide), if_neg (show ¬ (18 : Int32) = 13 by decide), if_neg (show ¬ (18 : Int32) = 14 by decide), if_neg (show ¬ (18 : Int32) = 15 by decide), if_neg (show ¬ (18 : Int32) = 16 by decide), if_neg (show ¬ (18 : Int32) = 17 by decide), if_pos (show (18 : Int32) = 18 from rfl)]
  rw [brd]
