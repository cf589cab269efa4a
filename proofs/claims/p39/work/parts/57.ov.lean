-- what an act needs, by kind
theorem hv6 : ∀ j, j < 6 → vp_in (0 + nI j) 3078 := fun j hj => by rw [show (0 : Int32) + nI j = nI j from Int32.zero_add _]; exact nI_in (by omega) (by omega)
theorem ov_0 {F : jF} {G : jG} {a b c d e : Int32} (h : lK F ∧ lroom F 8 8) : okV F G 0 a b c d e := by
  obtain ⟨v0, v1, v2, v3, v4, v5⟩ := cN_v 0 a b c d e
  unfold okV okX5_act
  rw [v0, v1, v2, v3, v4, v5]
  refine ⟨fun _ => trivial, fun _ => ⟨fun _ => ?_, fun _ => trivial⟩⟩
  rw [bvd, bvd, bvd, bvd, bvd, bvd]
  exact ⟨hv6 1 (by omega), hv6 2 (by omega), hv6 3 (by omega), hv6 4 (by omega), hv6 5 (by omega), nI_in (c := 0) (by omega) (by omega), ⟨fun _ => h, fun e => absurd rfl e⟩⟩
theorem ov_1 {F : jF} {G : jG} {a b c d e : Int32} (h : okX10_layOut F G a b c d) : okV F G 1 a b c d e := by
  obtain ⟨v0, v1, v2, v3, v4, v5⟩ := cN_v 1 a b c d e
  unfold okV okX5_act
  rw [v0, v1, v2, v3, v4, v5]
  refine ⟨fun _ => trivial, fun _ => ⟨fun _ => ?_, fun _ => trivial⟩⟩
  rw [bvd, bvd, bvd, bvd, bvd, bvd]
  exact ⟨hv6 1 (by omega), hv6 2 (by omega), hv6 3 (by omega), hv6 4 (by omega), hv6 5 (by omega), nI_in (c := 0) (by omega) (by omega), ⟨fun e => absurd e (by decide), fun _ => ⟨fun _ => h, fun e => absurd rfl e⟩⟩⟩
theorem ov_2 {F : jF} {G : jG} {a b c d e : Int32} (h : okX10_pourInto F G a b) : okV F G 2 a b c d e := by
  obtain ⟨v0, v1, v2, v3, v4, v5⟩ := cN_v 2 a b c d e
  unfold okV okX5_act
  rw [v0, v1, v2, v3, v4, v5]
  refine ⟨fun _ => trivial, fun _ => ⟨fun _ => ?_, fun _ => trivial⟩⟩
  rw [bvd, bvd, bvd, bvd, bvd, bvd]
  exact ⟨hv6 1 (by omega), hv6 2 (by omega), hv6 3 (by omega), hv6 4 (by omega), hv6 5 (by omega), nI_in (c := 0) (by omega) (by omega), ⟨fun e => absurd e (by decide), fun _ => ⟨fun e => absurd e (by decide), fun _ => ⟨fun _ => h, fun e => absurd rfl e⟩⟩⟩⟩
theorem ov_3 {F : jF} {G : jG} {a b c d e : Int32} (h : okX8_build F G a b (if c = 0 then 0 else 1)) : okV F G 3 a b c d e := by
  obtain ⟨v0, v1, v2, v3, v4, v5⟩ := cN_v 3 a b c d e
  unfold okV okX5_act
  rw [v0, v1, v2, v3, v4, v5]
  refine ⟨fun _ => trivial, fun _ => ⟨fun _ => ?_, fun _ => trivial⟩⟩
  rw [bvd, bvd, bvd, bvd, bvd, bvd]
  exact ⟨hv6 1 (by omega), hv6 2 (by omega), hv6 3 (by omega), hv6 4 (by omega), hv6 5 (by omega), nI_in (c := 0) (by omega) (by omega), ⟨fun e => absurd e (by decide), fun _ => ⟨fun e => absurd e (by decide), fun _ => ⟨fun e => absurd e (by decide), fun _ => ⟨fun _ => h, fun e => absurd rfl e⟩⟩⟩⟩⟩
theorem ov_4 {F : jF} {G : jG} {a b c d e : Int32} (h : lK F ∧ lroom F 17 8) : okV F G 4 a b c d e := by
  obtain ⟨v0, v1, v2, v3, v4, v5⟩ := cN_v 4 a b c d e
  unfold okV okX5_act
  rw [v0, v1, v2, v3, v4, v5]
  refine ⟨fun _ => trivial, fun _ => ⟨fun _ => ?_, fun _ => trivial⟩⟩
  rw [bvd, bvd, bvd, bvd, bvd, bvd]
  exact ⟨hv6 1 (by omega), hv6 2 (by omega), hv6 3 (by omega), hv6 4 (by omega), hv6 5 (by omega), nI_in (c := 0) (by omega) (by omega), ⟨fun e => absurd e (by decide), fun _ => ⟨fun e => absurd e (by decide), fun _ => ⟨fun e => absurd e (by decide), fun _ => ⟨fun e => absurd e (by decide), fun _ => ⟨fun _ => h, fun e => absurd rfl e⟩⟩⟩⟩⟩⟩
theorem ov_5 {F : jF} {G : jG} {a b c d e : Int32} (h : lK F ∧ lroom F 23 8) : okV F G 5 a b c d e := by
  obtain ⟨v0, v1, v2, v3, v4, v5⟩ := cN_v 5 a b c d e
  unfold okV okX5_act
  rw [v0, v1, v2, v3, v4, v5]
  refine ⟨fun _ => trivial, fun _ => ⟨fun _ => ?_, fun _ => trivial⟩⟩
  rw [bvd, bvd, bvd, bvd, bvd, bvd]
  exact ⟨hv6 1 (by omega), hv6 2 (by omega), hv6 3 (by omega), hv6 4 (by omega), hv6 5 (by omega), nI_in (c := 0) (by omega) (by omega), ⟨fun e => absurd e (by decide), fun _ => ⟨fun e => absurd e (by decide), fun _ => ⟨fun e => absurd e (by decide), fun _ => ⟨fun e => absurd e (by decide), fun _ => ⟨fun e => absurd e (by decide), fun _ => ⟨fun _ => h, fun e => absurd rfl e⟩⟩⟩⟩⟩⟩⟩
theorem ov_6 {F : jF} {G : jG} {a b c d e : Int32} (h : lK F ∧ lroom F 32 8) : okV F G 6 a b c d e := by
  obtain ⟨v0, v1, v2, v3, v4, v5⟩ := cN_v 6 a b c d e
  unfold okV okX5_act
  rw [v0, v1, v2, v3, v4, v5]
  refine ⟨fun _ => trivial, fun _ => ⟨fun _ => ?_, fun _ => trivial⟩⟩
  rw [bvd, bvd, bvd, bvd, bvd, bvd]
  exact ⟨hv6 1 (by omega), hv6 2 (by omega), hv6 3 (by omega), hv6 4 (by omega), hv6 5 (by omega), nI_in (c := 0) (by omega) (by omega), ⟨fun e => absurd e (by decide), fun _ => ⟨fun e => absurd e (by decide), fun _ => ⟨fun e => absurd e (by decide), fun _ => ⟨fun e => absurd e (by decide), fun _ => ⟨fun e => absurd e (by decide), fun _ => ⟨fun e => absurd e (by decide), fun _ => ⟨fun _ => h, fun e => absurd rfl e⟩⟩⟩⟩⟩⟩⟩⟩
theorem ov_7 {F : jF} {G : jG} {a b c d e : Int32} (h : okX10_layOutside F G a b c) : okV F G 7 a b c d e := by
  obtain ⟨v0, v1, v2, v3, v4, v5⟩ := cN_v 7 a b c d e
  unfold okV okX5_act
  rw [v0, v1, v2, v3, v4, v5]
  refine ⟨fun _ => trivial, fun _ => ⟨fun _ => ?_, fun _ => trivial⟩⟩
  rw [bvd, bvd, bvd, bvd, bvd, bvd]
  exact ⟨hv6 1 (by omega), hv6 2 (by omega), hv6 3 (by omega), hv6 4 (by omega), hv6 5 (by omega), nI_in (c := 0) (by omega) (by omega), ⟨fun e => absurd e (by decide), fun _ => ⟨fun e => absurd e (by decide), fun _ => ⟨fun e => absurd e (by decide), fun _ => ⟨fun e => absurd e (by decide), fun _ => ⟨fun e => absurd e (by decide), fun _ => ⟨fun e => absurd e (by decide), fun _ => ⟨fun e => absurd e (by decide), fun _ => ⟨fun _ => h, fun e => absurd rfl e⟩⟩⟩⟩⟩⟩⟩⟩⟩
theorem ov_8 {F : jF} {G : jG} {a b c d e : Int32} (h : okX10_tellStorm F G a b c) : okV F G 8 a b c d e := by
  obtain ⟨v0, v1, v2, v3, v4, v5⟩ := cN_v 8 a b c d e
  unfold okV okX5_act
  rw [v0, v1, v2, v3, v4, v5]
  refine ⟨fun _ => trivial, fun _ => ⟨fun _ => ?_, fun _ => trivial⟩⟩
  rw [bvd, bvd, bvd, bvd, bvd, bvd]
  exact ⟨hv6 1 (by omega), hv6 2 (by omega), hv6 3 (by omega), hv6 4 (by omega), hv6 5 (by omega), nI_in (c := 0) (by omega) (by omega), ⟨fun e => absurd e (by decide), fun _ => ⟨fun e => absurd e (by decide), fun _ => ⟨fun e => absurd e (by decide), fun _ => ⟨fun e => absurd e (by decide), fun _ => ⟨fun e => absurd e (by decide), fun _ => ⟨fun e => absurd e (by decide), fun _ => ⟨fun e => absurd e (by decide), fun _ => ⟨fun e => absurd e (by decide), fun _ => ⟨fun _ => h, fun e => absurd rfl e⟩⟩⟩⟩⟩⟩⟩⟩⟩⟩
theorem ov_9 {F : jF} {G : jG} {a b c d e : Int32} (h : lK F ∧ lroom F 44 12) : okV F G 9 a b c d e := by
  obtain ⟨v0, v1, v2, v3, v4, v5⟩ := cN_v 9 a b c d e
  unfold okV okX5_act
  rw [v0, v1, v2, v3, v4, v5]
  refine ⟨fun _ => trivial, fun _ => ⟨fun _ => ?_, fun _ => trivial⟩⟩
  rw [bvd, bvd, bvd, bvd, bvd, bvd]
  exact ⟨hv6 1 (by omega), hv6 2 (by omega), hv6 3 (by omega), hv6 4 (by omega), hv6 5 (by omega), nI_in (c := 0) (by omega) (by omega), ⟨fun e => absurd e (by decide), fun _ => ⟨fun e => absurd e (by decide), fun _ => ⟨fun e => absurd e (by decide), fun _ => ⟨fun e => absurd e (by decide), fun _ => ⟨fun e => absurd e (by decide), fun _ => ⟨fun e => absurd e (by decide), fun _ => ⟨fun e => absurd e (by decide), fun _ => ⟨fun e => absurd e (by decide), fun _ => ⟨fun e => absurd e (by decide), fun _ => ⟨fun _ => h, fun e => absurd rfl e⟩⟩⟩⟩⟩⟩⟩⟩⟩⟩⟩
theorem ov_10 {F : jF} {G : jG} {a b c d e : Int32} (h : True) : okV F G 10 a b c d e := by
  obtain ⟨v0, v1, v2, v3, v4, v5⟩ := cN_v 10 a b c d e
  unfold okV okX5_act
  rw [v0, v1, v2, v3, v4, v5]
  refine ⟨fun _ => trivial, fun _ => ⟨fun _ => ?_, fun _ => trivial⟩⟩
  rw [bvd, bvd, bvd, bvd, bvd, bvd]
  exact ⟨hv6 1 (by omega), hv6 2 (by omega), hv6 3 (by omega), hv6 4 (by omega), hv6 5 (by omega), nI_in (c := 0) (by omega) (by omega), ⟨fun e => absurd e (by decide), fun _ => ⟨fun e => absurd e (by decide), fun _ => ⟨fun e => absurd e (by decide), fun _ => ⟨fun e => absurd e (by decide), fun _ => ⟨fun e => absurd e (by decide), fun _ => ⟨fun e => absurd e (by decide), fun _ => ⟨fun e => absurd e (by decide), fun _ => ⟨fun e => absurd e (by decide), fun _ => ⟨fun e => absurd e (by decide), fun _ => ⟨fun e => absurd e (by decide), fun _ => ⟨fun _ => h, fun e => absurd rfl e⟩⟩⟩⟩⟩⟩⟩⟩⟩⟩⟩⟩
theorem ov_11 {F : jF} {G : jG} {a b c d e : Int32} (h : okX5_gateAt F G a ∧ okX5_order F G (gX5_gateAt F G a) (if b = 0 then 0 else 1) c) : okV F G 11 a b c d e := by
  obtain ⟨v0, v1, v2, v3, v4, v5⟩ := cN_v 11 a b c d e
  unfold okV okX5_act
  rw [v0, v1, v2, v3, v4, v5]
  refine ⟨fun _ => trivial, fun _ => ⟨fun _ => ?_, fun _ => trivial⟩⟩
  rw [bvd, bvd, bvd, bvd, bvd, bvd]
  exact ⟨hv6 1 (by omega), hv6 2 (by omega), hv6 3 (by omega), hv6 4 (by omega), hv6 5 (by omega), nI_in (c := 0) (by omega) (by omega), ⟨fun e => absurd e (by decide), fun _ => ⟨fun e => absurd e (by decide), fun _ => ⟨fun e => absurd e (by decide), fun _ => ⟨fun e => absurd e (by decide), fun _ => ⟨fun e => absurd e (by decide), fun _ => ⟨fun e => absurd e (by decide), fun _ => ⟨fun e => absurd e (by decide), fun _ => ⟨fun e => absurd e (by decide), fun _ => ⟨fun e => absurd e (by decide), fun _ => ⟨fun e => absurd e (by decide), fun _ => ⟨fun e => absurd e (by decide), fun _ => ⟨fun _ => h, fun e => absurd rfl e⟩⟩⟩⟩⟩⟩⟩⟩⟩⟩⟩⟩⟩
theorem ov_12 {F : jF} {G : jG} {a b c d e : Int32} (h : okX5_pumpAt F G a ∧ okX5_switchPump F G (gX5_pumpAt F G a) (if b = 0 then 0 else 1) c) : okV F G 12 a b c d e := by
  obtain ⟨v0, v1, v2, v3, v4, v5⟩ := cN_v 12 a b c d e
  unfold okV okX5_act
  rw [v0, v1, v2, v3, v4, v5]
  refine ⟨fun _ => trivial, fun _ => ⟨fun _ => ?_, fun _ => trivial⟩⟩
  rw [bvd, bvd, bvd, bvd, bvd, bvd]
  exact ⟨hv6 1 (by omega), hv6 2 (by omega), hv6 3 (by omega), hv6 4 (by omega), hv6 5 (by omega), nI_in (c := 0) (by omega) (by omega), ⟨fun e => absurd e (by decide), fun _ => ⟨fun e => absurd e (by decide), fun _ => ⟨fun e => absurd e (by decide), fun _ => ⟨fun e => absurd e (by decide), fun _ => ⟨fun e => absurd e (by decide), fun _ => ⟨fun e => absurd e (by decide), fun _ => ⟨fun e => absurd e (by decide), fun _ => ⟨fun e => absurd e (by decide), fun _ => ⟨fun e => absurd e (by decide), fun _ => ⟨fun e => absurd e (by decide), fun _ => ⟨fun e => absurd e (by decide), fun _ => ⟨fun e => absurd e (by decide), fun _ => ⟨fun _ => h, fun e => absurd rfl e⟩⟩⟩⟩⟩⟩⟩⟩⟩⟩⟩⟩⟩⟩
theorem ov_13 {F : jF} {G : jG} {a b c d e : Int32} (h : okX5_pumpAt F G a ∧ okX5_mendPump F G (gX5_pumpAt F G a)) : okV F G 13 a b c d e := by
  obtain ⟨v0, v1, v2, v3, v4, v5⟩ := cN_v 13 a b c d e
  unfold okV okX5_act
  rw [v0, v1, v2, v3, v4, v5]
  refine ⟨fun _ => trivial, fun _ => ⟨fun _ => ?_, fun _ => trivial⟩⟩
  rw [bvd, bvd, bvd, bvd, bvd, bvd]
  exact ⟨hv6 1 (by omega), hv6 2 (by omega), hv6 3 (by omega), hv6 4 (by omega), hv6 5 (by omega), nI_in (c := 0) (by omega) (by omega), ⟨fun e => absurd e (by decide), fun _ => ⟨fun e => absurd e (by decide), fun _ => ⟨fun e => absurd e (by decide), fun _ => ⟨fun e => absurd e (by decide), fun _ => ⟨fun e => absurd e (by decide), fun _ => ⟨fun e => absurd e (by decide), fun _ => ⟨fun e => absurd e (by decide), fun _ => ⟨fun e => absurd e (by decide), fun _ => ⟨fun e => absurd e (by decide), fun _ => ⟨fun e => absurd e (by decide), fun _ => ⟨fun e => absurd e (by decide), fun _ => ⟨fun e => absurd e (by decide), fun _ => ⟨fun e => absurd e (by decide), fun _ => ⟨fun _ => h, fun e => absurd rfl e⟩⟩⟩⟩⟩⟩⟩⟩⟩⟩⟩⟩⟩⟩⟩
theorem ov_14 {F : jF} {G : jG} {a b c d e : Int32} (h : okX5_crewAt F G a ∧ okX5_sendCrew F G (gX5_crewAt F G a) b c) : okV F G 14 a b c d e := by
  obtain ⟨v0, v1, v2, v3, v4, v5⟩ := cN_v 14 a b c d e
  unfold okV okX5_act
  rw [v0, v1, v2, v3, v4, v5]
  refine ⟨fun _ => trivial, fun _ => ⟨fun _ => ?_, fun _ => trivial⟩⟩
  rw [bvd, bvd, bvd, bvd, bvd, bvd]
  exact ⟨hv6 1 (by omega), hv6 2 (by omega), hv6 3 (by omega), hv6 4 (by omega), hv6 5 (by omega), nI_in (c := 0) (by omega) (by omega), ⟨fun e => absurd e (by decide), fun _ => ⟨fun e => absurd e (by decide), fun _ => ⟨fun e => absurd e (by decide), fun _ => ⟨fun e => absurd e (by decide), fun _ => ⟨fun e => absurd e (by decide), fun _ => ⟨fun e => absurd e (by decide), fun _ => ⟨fun e => absurd e (by decide), fun _ => ⟨fun e => absurd e (by decide), fun _ => ⟨fun e => absurd e (by decide), fun _ => ⟨fun e => absurd e (by decide), fun _ => ⟨fun e => absurd e (by decide), fun _ => ⟨fun e => absurd e (by decide), fun _ => ⟨fun e => absurd e (by decide), fun _ => ⟨fun e => absurd e (by decide), fun _ => ⟨fun _ => h, fun e => absurd rfl e⟩⟩⟩⟩⟩⟩⟩⟩⟩⟩⟩⟩⟩⟩⟩⟩
theorem ov_15 {F : jF} {G : jG} {a b c d e : Int32} (h : True) : okV F G 15 a b c d e := by
  obtain ⟨v0, v1, v2, v3, v4, v5⟩ := cN_v 15 a b c d e
  unfold okV okX5_act
  rw [v0, v1, v2, v3, v4, v5]
  refine ⟨fun _ => trivial, fun _ => ⟨fun _ => ?_, fun _ => trivial⟩⟩
  rw [bvd, bvd, bvd, bvd, bvd, bvd]
  exact ⟨hv6 1 (by omega), hv6 2 (by omega), hv6 3 (by omega), hv6 4 (by omega), hv6 5 (by omega), nI_in (c := 0) (by omega) (by omega), ⟨fun e => absurd e (by decide), fun _ => ⟨fun e => absurd e (by decide), fun _ => ⟨fun e => absurd e (by decide), fun _ => ⟨fun e => absurd e (by decide), fun _ => ⟨fun e => absurd e (by decide), fun _ => ⟨fun e => absurd e (by decide), fun _ => ⟨fun e => absurd e (by decide), fun _ => ⟨fun e => absurd e (by decide), fun _ => ⟨fun e => absurd e (by decide), fun _ => ⟨fun e => absurd e (by decide), fun _ => ⟨fun e => absurd e (by decide), fun _ => ⟨fun e => absurd e (by decide), fun _ => ⟨fun e => absurd e (by decide), fun _ => ⟨fun e => absurd e (by decide), fun _ => ⟨fun e => absurd e (by decide), fun _ => ⟨fun _ => h, fun e => absurd rfl e⟩⟩⟩⟩⟩⟩⟩⟩⟩⟩⟩⟩⟩⟩⟩⟩⟩
theorem ov_16 {F : jF} {G : jG} {a b c d e : Int32} (h : okX5_dykeAt F G a ∧ okX1_beginWork F G (gX5_dykeAt F G a) b c) : okV F G 16 a b c d e := by
  obtain ⟨v0, v1, v2, v3, v4, v5⟩ := cN_v 16 a b c d e
  unfold okV okX5_act
  rw [v0, v1, v2, v3, v4, v5]
  refine ⟨fun _ => trivial, fun _ => ⟨fun _ => ?_, fun _ => trivial⟩⟩
  rw [bvd, bvd, bvd, bvd, bvd, bvd]
  exact ⟨hv6 1 (by omega), hv6 2 (by omega), hv6 3 (by omega), hv6 4 (by omega), hv6 5 (by omega), nI_in (c := 0) (by omega) (by omega), ⟨fun e => absurd e (by decide), fun _ => ⟨fun e => absurd e (by decide), fun _ => ⟨fun e => absurd e (by decide), fun _ => ⟨fun e => absurd e (by decide), fun _ => ⟨fun e => absurd e (by decide), fun _ => ⟨fun e => absurd e (by decide), fun _ => ⟨fun e => absurd e (by decide), fun _ => ⟨fun e => absurd e (by decide), fun _ => ⟨fun e => absurd e (by decide), fun _ => ⟨fun e => absurd e (by decide), fun _ => ⟨fun e => absurd e (by decide), fun _ => ⟨fun e => absurd e (by decide), fun _ => ⟨fun e => absurd e (by decide), fun _ => ⟨fun e => absurd e (by decide), fun _ => ⟨fun e => absurd e (by decide), fun _ => ⟨fun e => absurd e (by decide), fun _ => ⟨fun _ => h, fun e => absurd rfl e⟩⟩⟩⟩⟩⟩⟩⟩⟩⟩⟩⟩⟩⟩⟩⟩⟩⟩
theorem ov_17 {F : jF} {G : jG} {a b c d e : Int32} (h : okX5_passHours F G a) : okV F G 17 a b c d e := by
  obtain ⟨v0, v1, v2, v3, v4, v5⟩ := cN_v 17 a b c d e
  unfold okV okX5_act
  rw [v0, v1, v2, v3, v4, v5]
  refine ⟨fun _ => trivial, fun _ => ⟨fun _ => ?_, fun _ => trivial⟩⟩
  rw [bvd, bvd, bvd, bvd, bvd, bvd]
  exact ⟨hv6 1 (by omega), hv6 2 (by omega), hv6 3 (by omega), hv6 4 (by omega), hv6 5 (by omega), nI_in (c := 0) (by omega) (by omega), ⟨fun e => absurd e (by decide), fun _ => ⟨fun e => absurd e (by decide), fun _ => ⟨fun e => absurd e (by decide), fun _ => ⟨fun e => absurd e (by decide), fun _ => ⟨fun e => absurd e (by decide), fun _ => ⟨fun e => absurd e (by decide), fun _ => ⟨fun e => absurd e (by decide), fun _ => ⟨fun e => absurd e (by decide), fun _ => ⟨fun e => absurd e (by decide), fun _ => ⟨fun e => absurd e (by decide), fun _ => ⟨fun e => absurd e (by decide), fun _ => ⟨fun e => absurd e (by decide), fun _ => ⟨fun e => absurd e (by decide), fun _ => ⟨fun e => absurd e (by decide), fun _ => ⟨fun e => absurd e (by decide), fun _ => ⟨fun e => absurd e (by decide), fun _ => ⟨fun e => absurd e (by decide), fun _ => ⟨fun _ => h, fun e => absurd rfl e⟩⟩⟩⟩⟩⟩⟩⟩⟩⟩⟩⟩⟩⟩⟩⟩⟩⟩⟩
theorem ov_18 {F : jF} {G : jG} {a b c d e : Int32} (h : okX5_closeYear F G) : okV F G 18 a b c d e := by
  obtain ⟨v0, v1, v2, v3, v4, v5⟩ := cN_v 18 a b c d e
  unfold okV okX5_act
  rw [v0, v1, v2, v3, v4, v5]
  refine ⟨fun _ => trivial, fun _ => ⟨fun _ => ?_, fun _ => trivial⟩⟩
  rw [bvd, bvd, bvd, bvd, bvd, bvd]
  exact ⟨hv6 1 (by omega), hv6 2 (by omega), hv6 3 (by omega), hv6 4 (by omega), hv6 5 (by omega), nI_in (c := 0) (by omega) (by omega), ⟨fun e => absurd e (by decide), fun _ => ⟨fun e => absurd e (by decide), fun _ => ⟨fun e => absurd e (by decide), fun _ => ⟨fun e => absurd e (by decide), fun _ => ⟨fun e => absurd e (by decide), fun _ => ⟨fun e => absurd e (by decide), fun _ => ⟨fun e => absurd e (by decide), fun _ => ⟨fun e => absurd e (by decide), fun _ => ⟨fun e => absurd e (by decide), fun _ => ⟨fun e => absurd e (by decide), fun _ => ⟨fun e => absurd e (by decide), fun _ => ⟨fun e => absurd e (by decide), fun _ => ⟨fun e => absurd e (by decide), fun _ => ⟨fun e => absurd e (by decide), fun _ => ⟨fun e => absurd e (by decide), fun _ => ⟨fun e => absurd e (by decide), fun _ => ⟨fun e => absurd e (by decide), fun _ => ⟨fun e => absurd e (by decide), fun _ => ⟨fun _ => h, fun e => absurd rfl e⟩⟩⟩⟩⟩⟩⟩⟩⟩⟩⟩⟩⟩⟩⟩⟩⟩⟩⟩⟩
