-- what is asked, in both
def rR {α β : Type} (FM : jF) (GM : jG) (cv : α → Int64) (cm : β → Int64) (w : Nat → Int32) (codes : List Nat) (gx : Nat × α) (gm : β × jS) : Prop := (∃ x x6, gx = (0, x) ∧ gm = (x6, (u2 FM 60 0 0, GM)) ∧ cv x = cm x6) ∨ ∃ k x x6 v, k ∈ codes ∧ gx = (k, x) ∧ gm = (x6, (u2 FM 60 0 v, GM)) ∧ v = w k
theorem d10 : ¬ (1 : Int32) = 0 := by decide
theorem d20 : ¬ (2 : Int32) = 0 := by decide
theorem l00 : (0 : Int32) ≤ 0 := by decide
theorem l10 : ¬ (1 : Int32) ≤ 0 := by decide
theorem l20 : ¬ (2 : Int32) ≤ 0 := by decide
theorem ne_ok {F : jF} {G : jG} (p : Int32) : okX11_needEnd F G p := ⟨fun _ => trivial, fun _ => ⟨fun _ => trivial, fun _ => ba_ok p⟩⟩
theorem ag60 {F FM : jF} (h : ag shF F FM) (v : Int32) : ag shF F (u2 FM 60 0 v) := ag_tr h (ag_off FM (by decide) 0 v)
theorem nr_n {p : Int32} {l : Nat} (hl : l < 2 ^ 31) (h0 : 0 ≤ p.toInt) (h1 : p.toInt ≤ (l : Int)) : ∃ j, j ≤ l ∧ p = nI j := by
  have y0 : (0 : Int32).toInt = 0 := rfl
  obtain ⟨j, hj, rfl⟩ := nI_of (show ¬ p < 0 by rw [i32lt, y0]; omega)
  rw [nI_toInt hj] at h1
  exact ⟨j, by omega, rfl⟩
theorem rd_hour {b : Int} {c : Nat} {F FM : jF} {G GM : jG} (h : RR b c F G FM GM) (M : jF) : gX11_hour F G M = (0, F 0 0) ∧ gX12_hour FM GM = (F 0 0, (u2 FM 60 0 0, GM)) := by
  refine ⟨rfl, ?_⟩
  unfold gX12_hour
  rw [bvd, u2_other _ (by decide : 0 ≠ 60), h.2.1.1.at 0 (by decide)]
theorem rd_money {b : Int} {c : Nat} {F FM : jF} {G GM : jG} (h : RR b c F G FM GM) (M : jF) : gX11_money F G M = (0, F 62 0) ∧ gX12_money FM GM = (F 62 0, (u2 FM 60 0 0, GM)) := by
  refine ⟨rfl, ?_⟩
  unfold gX12_money
  rw [bvd, ← h.2.2.1, ti32]
theorem rd_level {b : Int} {c : Nat} {F FM : jF} {G GM : jG} (h : RR b c F G FM GM) (M : jF) (p1 : Int32) : okX11_level F G M p1 ∧ okX12_level FM GM p1 ∧ rR FM GM (fun x : Int64 => x) (fun x : Int64 => x) (wk 1 9 9) [1] (gX11_level F G M p1) (gX12_level FM GM p1) := by
  obtain ⟨⟨hE, hY⟩, ⟨hR, hG⟩, hX⟩ := h
  have hN := hE.1
  have hR0 := ag60 hR 0
  rcases we_c G GM hN hR p1 with ⟨a1, a2, a3⟩ | ⟨a2, a3⟩
  · refine ⟨⟨ne_ok p1, ?_⟩, ⟨ib_ok _ _ _, ?_⟩, Or.inl ⟨gX10_heightOf F G p1, gX10_heightOf F G p1, ?_, ?_, rfl⟩⟩
    · rw [bvd]; exact fun _ => ho_ok p1
    · rw [bvd, a3, if_neg d10, bvd, bvd, u2_at]; exact ⟨fun _ => lom_ok hE hR0 a1, fun _ => trivial⟩
    · unfold gX11_level; rw [bvd, a2, if_pos rfl, bvd]
    · unfold gX12_level; rw [bvd, a3, if_neg d10, bvd, bvd, u2_at, if_pos rfl, bvd, bvd, lo_m hE hR0 hG a1]
  · refine ⟨⟨ne_ok p1, ?_⟩, ⟨ib_ok _ _ _, ?_⟩, Or.inr ⟨1, 0, 0, 1, by decide, ?_, ?_, rfl⟩⟩
    · rw [bvd, a2]; exact fun e => absurd e (by decide)
    · rw [bvd, a3, if_pos rfl, bvd, bvd, u2_at]; exact ⟨fun e => absurd e d10, fun _ => trivial⟩
    · unfold gX11_level; rw [bvd, a2, if_neg (by decide)]
    · unfold gX12_level; rw [bvd, a3, if_pos rfl, bvd, bvd, u2_at, if_neg d10, bvd]
theorem rd_water {b : Int} {c : Nat} {F FM : jF} {G GM : jG} (h : RR b c F G FM GM) (M : jF) (p1 : Int32) : okX11_water F G M p1 ∧ okX12_water FM GM p1 ∧ rR FM GM (fun x : Int64 => x) (fun x : Int64 => x) (wk 1 9 9) [1] (gX11_water F G M p1) (gX12_water FM GM p1) := by
  obtain ⟨⟨hE, hY⟩, ⟨hR, hG⟩, hX⟩ := h
  have hN := hE.1
  rcases bn_c G GM hN hR p1 with ⟨j, hj, hj8, rfl, e2, e3, e4⟩ | ⟨e2, e3, e4⟩
  · refine ⟨⟨nb_ok F G _, ?_⟩, ⟨ib_ok _ _ _, ?_⟩, Or.inl ⟨G 14 j, G 14 j, ?_, ?_, rfl⟩⟩
    · rw [e2, om_s]; exact hj
    · rw [bvd, e4, if_neg d10, bvd, bvd, u2_at]; exact ⟨fun _ => nI_vin hj8 (by omega), fun _ => trivial⟩
    · unfold gX11_water; rw [e2, om_s]
    · unfold gX12_water; rw [bvd, e4, if_neg d10, bvd, bvd, u2_at, if_pos rfl, bvd, nI_clamp (by omega), hG.at 14 (by decide)]
  · refine ⟨⟨nb_ok F G _, ?_⟩, ⟨ib_ok _ _ _, ?_⟩, Or.inr ⟨1, 0, 0, 1, by decide, ?_, ?_, rfl⟩⟩
    · rw [e2, om_n]; trivial
    · rw [bvd, e4, if_pos rfl, bvd, bvd, u2_at]; exact ⟨fun e => absurd e d10, fun _ => trivial⟩
    · unfold gX11_water; rw [e2, om_n]
    · unfold gX12_water; rw [bvd, e4, if_pos rfl, bvd, bvd, u2_at, if_neg d10, bvd]
theorem rd_harm {b : Int} {c : Nat} {F FM : jF} {G GM : jG} (h : RR b c F G FM GM) (M : jF) (p1 : Int32) : okX11_harm F G M p1 ∧ okX12_harm FM GM p1 ∧ rR FM GM (fun x : Int64 => x) (fun x : Int64 => x) (wk 1 9 9) [1] (gX11_harm F G M p1) (gX12_harm FM GM p1) := by
  obtain ⟨⟨hE, hY⟩, ⟨hR, hG⟩, hX⟩ := h
  have hN := hE.1
  rcases bn_c G GM hN hR p1 with ⟨j, hj, hj8, rfl, e2, e3, e4⟩ | ⟨e2, e3, e4⟩
  · refine ⟨⟨nb_ok F G _, ?_⟩, ⟨ib_ok _ _ _, ?_⟩, Or.inl ⟨G 15 j, G 15 j, ?_, ?_, rfl⟩⟩
    · rw [e2, om_s]; exact hj
    · rw [bvd, e4, if_neg d10, bvd, bvd, u2_at]; exact ⟨fun _ => nI_vin hj8 (by omega), fun _ => trivial⟩
    · unfold gX11_harm; rw [e2, om_s]
    · unfold gX12_harm; rw [bvd, e4, if_neg d10, bvd, bvd, u2_at, if_pos rfl, bvd, nI_clamp (by omega), hG.at 15 (by decide)]
  · refine ⟨⟨nb_ok F G _, ?_⟩, ⟨ib_ok _ _ _, ?_⟩, Or.inr ⟨1, 0, 0, 1, by decide, ?_, ?_, rfl⟩⟩
    · rw [e2, om_n]; trivial
    · rw [bvd, e4, if_pos rfl, bvd, bvd, u2_at]; exact ⟨fun e => absurd e d10, fun _ => trivial⟩
    · unfold gX11_harm; rw [e2, om_n]
    · unfold gX12_harm; rw [bvd, e4, if_pos rfl, bvd, bvd, u2_at, if_neg d10, bvd]
theorem rd_ledger {b : Int} {c : Nat} {F FM : jF} {G GM : jG} (h : RR b c F G FM GM) (M : jF) (p1 : Int32) : okX11_ledger F G M p1 ∧ okX12_ledger FM GM p1 ∧ rR FM GM (fun x : Int64 => x) (fun x : Int64 => x) (wk 2 9 9) [2] (gX11_ledger F G M p1) (gX12_ledger FM GM p1) := by
  have hG := h.2.1.2
  have y0 : (0 : Int32).toInt = 0 := rfl
  have y3 : (3 : Int32).toInt = 3 := rfl
  have y4 : (4 : Int32).toInt = 4 := rfl
  rcases nr_c p1 0 3 with ⟨a1, a2, a3, a4⟩ | ⟨a1, a2⟩
  · obtain ⟨j, hj, rfl⟩ := nr_n (p := p1) (l := 3) (by decide) (by omega) (by omega)
    have v4 : vp_in (nI j) 4 := nI_vin (by omega) (by omega)
    refine ⟨?_, ?_, Or.inl ⟨G 56 j, G 56 j, ?_, ?_, rfl⟩⟩
    · unfold okX11_ledger; rw [bvd]; exact fun _ => ⟨fun _ => trivial, fun _ => ⟨fun _ => v4, fun _ => trivial⟩⟩
    · unfold okX12_ledger; rw [bvd, a2, if_neg d10, bvd, bvd, u2_at]; exact ⟨fun _ => v4, fun _ => trivial⟩
    · unfold gX11_ledger gX10_came
      rw [bvd, a1, if_pos rfl, bvd, bvd, if_neg (nI_pos (by omega)), if_pos (show nI j < 4 by rw [i32lt, nI_toInt (by omega), y4]; omega), nI_clamp (by omega)]
    · unfold gX12_ledger; rw [bvd, a2, if_neg d10, bvd, bvd, u2_at, if_pos rfl, bvd, nI_clamp (by omega), hG.at 56 (by decide)]
  · refine ⟨?_, ?_, Or.inr ⟨2, 0, 0, 1, by decide, ?_, ?_, rfl⟩⟩
    · unfold okX11_ledger; rw [bvd, a1]; exact fun e => absurd e (by decide)
    · unfold okX12_ledger; rw [bvd, a2, if_pos rfl, bvd, bvd, u2_at]; exact ⟨fun e => absurd e d10, fun _ => trivial⟩
    · unfold gX11_ledger; rw [bvd, a1, if_neg (by decide)]
    · unfold gX12_ledger; rw [bvd, a2, if_pos rfl, bvd, bvd, u2_at, if_neg d10, bvd]
theorem jb_1 {x : Int32} (h : jb x) : (if x = 0 then (0 : Int32) else 1) = x ∧ ∀ {α : Type} (a : Int32 → α), (if x = 1 then a 1 else a 0) = a x := by
  rcases h with rfl | rfl
  · exact ⟨if_pos rfl, fun a => if_neg (by decide)⟩
  · exact ⟨if_neg (by decide), fun a => if_pos rfl⟩
theorem ga_ok {F : jF} {G : jG} (hN : wN F) (p : Int32) : okX5_gateAt F G p := by
  unfold okX5_gateAt
  refine ⟨fun _ => trivial, fun h => ⟨fun h8 => ?_, fun _ => trivial⟩⟩
  obtain ⟨j, hj, rfl⟩ := nI_of h
  rw [n8] at h8
  exact nI_vin ((nI_ltI hj (by omega)).mp h8) (by omega)
theorem pa_ok {F : jF} {G : jG} (hN : wN F) (p : Int32) : okX5_pumpAt F G p := by
  unfold okX5_pumpAt
  refine ⟨fun _ => trivial, fun h => ⟨fun h8 => ?_, fun _ => trivial⟩⟩
  obtain ⟨j, hj, rfl⟩ := nI_of h
  rw [n8] at h8
  exact nI_vin ((nI_ltI hj (by omega)).mp h8) (by omega)
theorem rd_isOpen {b : Int} {c : Nat} {F FM : jF} {G GM : jG} (h : RR b c F G FM GM) (M : jF) (p1 : Int32) : okX11_isOpen F G M p1 ∧ okX12_isOpen FM GM p1 ∧ rR FM GM (fun x : Int32 => if x = 0 then (0 : Int64) else 1) (fun x : Int32 => if x = 0 then (0 : Int64) else 1) (wk 1 9 9) [1] (gX11_isOpen F G M p1) (gX12_isOpen FM GM p1) := by
  obtain ⟨⟨hE, hY⟩, ⟨hR, hG⟩, hX⟩ := h
  have hN := hE.1
  have hG1 := hY.1.1
  rcases gt_c G hN hR p1 with ⟨j, hj, hj8, rfl, e2, e3, e4⟩ | ⟨e2, e3, e4⟩
  · have hb : jb (F 22 j) := (hG1 j).2.1
    refine ⟨⟨ga_ok hN _, ?_⟩, ?_, Or.inl ⟨F 22 j, F 22 j, ?_, ?_, rfl⟩⟩
    · rw [e2, om_s]; exact ⟨hj, hb⟩
    · unfold okX12_isOpen; rw [bvd, e4, if_neg d10, bvd, bvd, u2_at]; exact ⟨fun _ => nI_vin hj8 (by omega), fun _ => trivial⟩
    · unfold gX11_isOpen; rw [e2, om_s]
    · unfold gX12_isOpen
      rw [bvd, e4, if_neg d10, bvd, bvd, u2_at, if_pos rfl, nI_clamp (by omega), u2_other _ (by decide : 22 ≠ 60), hR.at 22 (by decide)]
      exact (jb_1 hb).2 (fun x => (x, (u2 FM 60 0 0, GM)))
  · refine ⟨⟨ga_ok hN _, ?_⟩, ?_, Or.inr ⟨1, 0, 0, 1, by decide, ?_, ?_, rfl⟩⟩
    · rw [e2, om_n]; trivial
    · unfold okX12_isOpen; rw [bvd, e4, if_pos rfl, bvd, bvd, u2_at]; exact ⟨fun e => absurd e d10, fun _ => trivial⟩
    · unfold gX11_isOpen; rw [e2, om_n]
    · unfold gX12_isOpen; rw [bvd, e4, if_pos rfl, bvd, bvd, u2_at, if_neg d10]
theorem ca_ok {F : jF} {G : jG} (p : Int32) : okX5_crewAt F G p := by
  unfold okX5_crewAt
  refine ⟨fun _ => trivial, fun h => ⟨fun h8 => ?_, fun _ => trivial⟩⟩
  obtain ⟨j, hj, rfl⟩ := nI_of h
  rw [n3] at h8
  exact nI_vin ((nI_ltI hj (by omega)).mp h8) (by omega)
theorem rd_pump {b : Int} {c : Nat} {F FM : jF} {G GM : jG} (h : RR b c F G FM GM) (M : jF) (p1 p2 : Int32) : okX11_pump F G M p1 p2 ∧ okX12_pump FM GM p1 p2 ∧ rR FM GM (fun x : Int32 => x.toInt64) (fun x : Int32 => x.toInt64) (wk 1 2 9) [1, 2] (gX11_pump F G M p1 p2) (gX12_pump FM GM p1 p2) := by
  obtain ⟨⟨hE, hY⟩, ⟨hR, hG⟩, hX⟩ := h
  have hN := hE.1
  rcases pu_c G hN hR p1 with ⟨j, hj, hj8, rfl, e2, e3, e4⟩ | ⟨e2, e3, e4⟩
  · have vv : vp_in (nI j) 8 := nI_vin (by omega) (by omega)
    have hb : jb (F 29 j) := (hY.1.2.1 j).2.1
    rcases nr_c p2 0 2 with ⟨a1, a2, a3, a4⟩ | ⟨a1, a2⟩
    · refine ⟨⟨pa_ok hN _, ?_⟩, ?_, Or.inl ⟨(if p2 = 0 then F 29 j else if p2 = 1 then F 30 j else F 31 j), (if p2 = 0 then F 29 j else if p2 = 1 then F 30 j else F 31 j), ?_, ?_, rfl⟩⟩
      · rw [e2, om_s, bvd]; exact fun _ => ⟨fun _ => hj, fun _ => ⟨fun _ => hj, fun _ => hj⟩⟩
      · unfold okX12_pump; rw [bvd, e4, if_neg d10, a2, bvd, bvd, bvd, if_neg d10, u2_at]; exact ⟨fun _ => ⟨fun _ => vv, fun _ => ⟨fun _ => vv, fun _ => vv⟩⟩, fun _ => trivial⟩
      · unfold gX11_pump; rw [e2, om_s, bvd, a1, if_pos rfl]
        simp only [bvd]
        rw [(jb_1 hb).1]
        by_cases q0 : p2 = 0
        · rw [if_pos q0, if_pos q0]
        · rw [if_neg q0, if_neg q0]
      · unfold gX12_pump; rw [bvd, e4, if_neg d10, a2]
        simp only [bvd]
        rw [if_neg d10, u2_at, if_pos l00, nI_clamp (by omega)]
        rw [u2_other _ (by decide : 29 ≠ 60), u2_other _ (by decide : 30 ≠ 60), u2_other _ (by decide : 31 ≠ 60), hR.at 29 (by decide), hR.at 30 (by decide), hR.at 31 (by decide)]
    · refine ⟨⟨pa_ok hN _, ?_⟩, ?_, Or.inr ⟨2, 0, 0, 2, by decide, ?_, ?_, rfl⟩⟩
      · rw [e2, om_s, bvd, a1]; exact fun e => absurd e (by decide)
      · unfold okX12_pump; rw [bvd, e4, if_neg d10, a2, bvd, bvd, bvd, if_pos rfl, u2_at]; exact ⟨fun e => absurd e l20, fun _ => trivial⟩
      · unfold gX11_pump; rw [e2, om_s, bvd, a1, if_neg (by decide)]
      · unfold gX12_pump; rw [bvd, e4, if_neg d10, a2]
        simp only [bvd]
        rw [if_pos trivial, u2_at, if_neg l20]
  · refine ⟨⟨pa_ok hN _, ?_⟩, ?_, Or.inr ⟨1, 0, 0, 1, by decide, ?_, ?_, rfl⟩⟩
    · rw [e2, om_n]; trivial
    · unfold okX12_pump; rw [bvd, e4, if_pos rfl, bvd, bvd, u2_at]; exact ⟨fun e => absurd e l10, fun _ => trivial⟩
    · unfold gX11_pump; rw [e2, om_n]
    · unfold gX12_pump; rw [bvd, e4, if_pos rfl, bvd, bvd, u2_at, if_neg l10, bvd]
theorem rd_dyke {b : Int} {c : Nat} {F FM : jF} {G GM : jG} (h : RR b c F G FM GM) (M : jF) (p1 p2 : Int32) : okX11_dyke F G M p1 p2 ∧ okX12_dyke FM GM p1 p2 ∧ rR FM GM (fun x : Int32 => x.toInt64) (fun x : Int32 => x.toInt64) (wk 1 2 9) [1, 2] (gX11_dyke F G M p1 p2) (gX12_dyke FM GM p1 p2) := by
  obtain ⟨⟨hE, hY⟩, ⟨hR, hG⟩, hX⟩ := h
  have hN := hE.1
  rcases dy_c G hN hR p1 with ⟨j, hj, hj8, rfl, e2, e3, e4⟩ | ⟨e2, e3, e4⟩
  · have vv : vp_in (nI j) 8 := nI_vin (by omega) (by omega)
    rcases nr_c p2 0 2 with ⟨a1, a2, a3, a4⟩ | ⟨a1, a2⟩
    · refine ⟨⟨da_ok _, ?_⟩, ?_, Or.inl ⟨(if p2 = 0 then F 35 j else if p2 = 1 then FM 38 j else F 39 j), (if p2 = 0 then F 35 j else if p2 = 1 then FM 38 j else F 39 j), ?_, ?_, rfl⟩⟩
      · rw [e2, om_s, bvd]; exact fun _ => ⟨fun _ => hj, fun _ => ⟨fun _ => hj, fun _ => hj⟩⟩
      · unfold okX12_dyke; rw [bvd, e4, if_neg d10, a2, bvd, bvd, bvd, if_neg d10, u2_at]; exact ⟨fun _ => ⟨fun _ => vv, fun _ => ⟨fun _ => vv, fun _ => vv⟩⟩, fun _ => trivial⟩
      · unfold gX11_dyke; rw [e2, om_s, bvd, a1, if_pos rfl]
        simp only [bvd]
        rw [← hX.2.1 j, ti32]
        by_cases q0 : p2 = 0
        · rw [if_pos q0, if_pos q0]
        · rw [if_neg q0, if_neg q0]
      · unfold gX12_dyke; rw [bvd, e4, if_neg d10, a2]
        simp only [bvd]
        rw [if_neg d10, u2_at, if_pos l00, nI_clamp (by omega)]
        rw [u2_other _ (by decide : 35 ≠ 60), u2_other _ (by decide : 38 ≠ 60), u2_other _ (by decide : 39 ≠ 60), hR.at 35 (by decide), hR.at 39 (by decide)]
    · refine ⟨⟨da_ok _, ?_⟩, ?_, Or.inr ⟨2, 0, 0, 2, by decide, ?_, ?_, rfl⟩⟩
      · rw [e2, om_s, bvd, a1]; exact fun e => absurd e (by decide)
      · unfold okX12_dyke; rw [bvd, e4, if_neg d10, a2, bvd, bvd, bvd, if_pos rfl, u2_at]; exact ⟨fun e => absurd e l20, fun _ => trivial⟩
      · unfold gX11_dyke; rw [e2, om_s, bvd, a1, if_neg (by decide)]
      · unfold gX12_dyke; rw [bvd, e4, if_neg d10, a2]
        simp only [bvd]
        rw [if_pos trivial, u2_at, if_neg l20]
  · refine ⟨⟨da_ok _, ?_⟩, ?_, Or.inr ⟨1, 0, 0, 1, by decide, ?_, ?_, rfl⟩⟩
    · rw [e2, om_n]; trivial
    · unfold okX12_dyke; rw [bvd, e4, if_pos rfl, bvd, bvd, u2_at]; exact ⟨fun e => absurd e l10, fun _ => trivial⟩
    · unfold gX11_dyke; rw [e2, om_n]
    · unfold gX12_dyke; rw [bvd, e4, if_pos rfl, bvd, bvd, u2_at, if_neg l10, bvd]
theorem rd_crew {b : Int} {c : Nat} {F FM : jF} {G GM : jG} (h : RR b c F G FM GM) (M : jF) (p1 p2 : Int32) : okX11_crew F G M p1 p2 ∧ okX12_crew FM GM p1 p2 ∧ rR FM GM (fun x : Int32 => x.toInt64) (fun x : Int32 => x.toInt64) (wk 1 2 9) [1, 2] (gX11_crew F G M p1 p2) (gX12_crew FM GM p1 p2) := by
  obtain ⟨⟨hE, hY⟩, ⟨hR, hG⟩, hX⟩ := h
  have hN := hE.1
  rcases cr_c F G p1 with ⟨j, hj, hj8, rfl, e2, e3, e4⟩ | ⟨e2, e3, e4⟩
  · have vv : vp_in (nI j) 3 := nI_vin (by omega) (by omega)
    rcases nr_c p2 0 2 with ⟨a1, a2, a3, a4⟩ | ⟨a1, a2⟩
    · refine ⟨⟨ca_ok _, ?_⟩, ?_, Or.inl ⟨(if p2 = 0 then F 49 j else if p2 = 1 then F 50 j else F 64 j), (if p2 = 0 then F 49 j else if p2 = 1 then F 50 j else F 64 j), ?_, ?_, rfl⟩⟩
      · rw [e2, om_s, bvd]; exact fun _ => ⟨fun _ => hj, fun _ => ⟨fun _ => hj, fun _ => hj⟩⟩
      · unfold okX12_crew; rw [bvd, e4, if_neg d10, a2, bvd, bvd, bvd, if_neg d10, u2_at]; exact ⟨fun _ => ⟨fun _ => vv, fun _ => ⟨fun _ => vv, fun _ => vv⟩⟩, fun _ => trivial⟩
      · unfold gX11_crew; rw [e2, om_s, bvd, a1, if_pos rfl]
        simp only [bvd]
        by_cases q0 : p2 = 0
        · rw [if_pos q0, if_pos q0]
        · rw [if_neg q0, if_neg q0]
      · unfold gX12_crew; rw [bvd, e4, if_neg d10, a2]
        simp only [bvd]
        rw [if_neg d10, u2_at, if_pos l00, nI_clamp (by omega)]
        rw [u2_other _ (by decide : 49 ≠ 60), u2_other _ (by decide : 50 ≠ 60), u2_other _ (by decide : 51 ≠ 60), hR.at 49 (by decide), (hX.2.2.1 j hj).1, (hX.2.2.1 j hj).2, Int32.add_sub_cancel]
    · refine ⟨⟨ca_ok _, ?_⟩, ?_, Or.inr ⟨2, 0, 0, 2, by decide, ?_, ?_, rfl⟩⟩
      · rw [e2, om_s, bvd, a1]; exact fun e => absurd e (by decide)
      · unfold okX12_crew; rw [bvd, e4, if_neg d10, a2, bvd, bvd, bvd, if_pos rfl, u2_at]; exact ⟨fun e => absurd e l20, fun _ => trivial⟩
      · unfold gX11_crew; rw [e2, om_s, bvd, a1, if_neg (by decide)]
      · unfold gX12_crew; rw [bvd, e4, if_neg d10, a2]
        simp only [bvd]
        rw [if_pos trivial, u2_at, if_neg l20]
  · refine ⟨⟨ca_ok _, ?_⟩, ?_, Or.inr ⟨1, 0, 0, 1, by decide, ?_, ?_, rfl⟩⟩
    · rw [e2, om_n]; trivial
    · unfold okX12_crew; rw [bvd, e4, if_pos rfl, bvd, bvd, u2_at]; exact ⟨fun e => absurd e l10, fun _ => trivial⟩
    · unfold gX11_crew; rw [e2, om_n]
    · unfold gX12_crew; rw [bvd, e4, if_pos rfl, bvd, bvd, u2_at, if_neg l10, bvd]
theorem rd_sea {b : Int} {c : Nat} {F FM : jF} {G GM : jG} (h : RR b c F G FM GM) (M : jF) (p1 : Int32) : okX11_sea F G M p1 ∧ okX12_sea FM GM p1 ∧ rR FM GM (fun x : Int64 => x) (fun x : Int64 => x) (wk 2 9 9) [2] (gX11_sea F G M p1) (gX12_sea FM GM p1) := by
  obtain ⟨⟨hE, hY⟩, ⟨hR, hG⟩, hX⟩ := h
  have hN := hE.1
  have hS := hE.2.2.2.1
  have hR0 := ag60 hR 0
  have y0 : (0 : Int32).toInt = 0 := rfl
  have y9 : (9999 : Int32).toInt = 9999 := rfl
  rcases nr_c p1 0 9999 with ⟨a1, a2, a3, a4⟩ | ⟨a1, a2⟩
  · refine ⟨?_, ?_, Or.inl ⟨gX6_seaAt F G p1, gX6_seaAt F G p1, ?_, ?_, rfl⟩⟩
    · unfold okX11_sea; rw [bvd]; exact fun _ => sea_ok hN hS (by omega) (by omega)
    · unfold okX12_sea; rw [bvd, a2, if_neg d10, bvd, bvd, u2_at]; exact ⟨fun _ => seam_ok (G := G) hN hS hR0 (by omega) (by omega), fun _ => trivial⟩
    · unfold gX11_sea; rw [bvd, a1, if_pos rfl, bvd]
    · unfold gX12_sea; rw [bvd, a2, if_neg d10, bvd, bvd, u2_at, if_pos rfl, bvd, bvd, sea_m G GM hN hS hR0 (by omega) (by omega)]
  · refine ⟨?_, ?_, Or.inr ⟨2, 0, 0, 1, by decide, ?_, ?_, rfl⟩⟩
    · unfold okX11_sea; rw [bvd, a1]; exact fun e => absurd e (by decide)
    · unfold okX12_sea; rw [bvd, a2, if_pos rfl, bvd, bvd, u2_at]; exact ⟨fun e => absurd e d10, fun _ => trivial⟩
    · unfold gX11_sea; rw [bvd, a1, if_neg (by decide)]
    · unfold gX12_sea; rw [bvd, a2, if_pos rfl, bvd, bvd, u2_at, if_neg d10, bvd]
theorem rd_forecast {b : Int} {c : Nat} {F FM : jF} {G GM : jG} (h : RR b c F G FM GM) (M : jF) (p1 : Int32) : okX11_forecast F G M p1 ∧ okX12_forecast FM GM p1 ∧ rR FM GM (fun x : Int64 => x) (fun x : Int64 => x) (wk 2 9 9) [2] (gX11_forecast F G M p1) (gX12_forecast FM GM p1) := by
  obtain ⟨⟨hE, hY⟩, ⟨hR, hG⟩, hX⟩ := h
  have hN := hE.1
  have hS := hE.2.2.2.1
  have hh := hN.hr
  have hR0 := ag60 hR 0
  have y0 : (0 : Int32).toInt = 0 := rfl
  have y1 : (1 : Int32).toInt = 1 := rfl
  have y2 : (2 : Int32).toInt = 2 := rfl
  have y48 : (48 : Int32).toInt = 48 := rfl
  rcases nr_c p1 1 48 with ⟨a1, a2, a3, a4⟩ | ⟨a1, a2⟩
  · have e1 : (F 0 0 + p1).toInt = (F 0 0).toInt + p1.toInt := i32a (by omega) (by omega)
    have e2 : (2 * p1).toInt = 2 * p1.toInt := by rw [i32m (by rw [y2]; omega) (by rw [y2]; omega), y2]
    have e3 : (2 * p1 + 1).toInt = 2 * p1.toInt + 1 := by rw [i32a (by rw [e2, y1]; omega) (by rw [e2, y1]; omega), e2, y1]
    have c1 : 0 < 2 * p1 + 1 := by rw [i32lt, e3, y0]; omega
    have c2 : ¬ 2 * p1 + 1 = 0 := by rw [i32eq, e3, y0]; omega
    have r0 : u2 FM 60 0 0 0 0 = F 0 0 := by rw [u2_other _ (by decide : 0 ≠ 60), hR.at 0 (by decide)]
    have r4 : u2 FM 60 0 0 4 0 = F 4 0 := by rw [u2_other _ (by decide : 4 ≠ 60), hR.at 4 (by decide)]
    refine ⟨?_, ?_, Or.inl ⟨gX6_foresee F G (F 0 0) p1, gX6_foresee F G (F 0 0) p1, ?_, ?_, rfl⟩⟩
    · unfold okX11_forecast; rw [bvd]
      intro _
      unfold okX6_foresee
      rw [bvd, bvd]
      refine ⟨⟨fun _ => c2, fun _ => trivial⟩, ?_⟩
      rw [bvd]
      exact sea_ok hN hS (by omega) (by omega)
    · unfold okX12_forecast; rw [bvd, a2, if_neg d10, bvd, bvd, u2_at, r0, r4]
      refine ⟨fun _ => ?_, fun _ => trivial⟩
      rw [bvd]
      refine ⟨seam_ok (G := G) hN hS hR0 (by omega) (by omega), ?_⟩
      rw [bvd]; exact c2
    · unfold gX11_forecast; rw [bvd, a1, if_pos rfl, bvd]
    · unfold gX12_forecast gX6_foresee
      rw [bvd, a2, if_neg d10, bvd, bvd, u2_at, if_pos l00, r0, r4]
      simp only [bvd]
      rw [if_pos c1, sea_m G GM hN hS hR0 (by omega) (by omega)]
  · refine ⟨?_, ?_, Or.inr ⟨2, 0, 0, 1, by decide, ?_, ?_, rfl⟩⟩
    · unfold okX11_forecast; rw [bvd, a1]; exact fun e => absurd e (by decide)
    · unfold okX12_forecast; rw [bvd, a2, if_pos rfl, bvd, bvd, u2_at]; exact ⟨fun e => absurd e l10, fun _ => trivial⟩
    · unfold gX11_forecast; rw [bvd, a1, if_neg (by decide)]
    · unfold gX12_forecast; rw [bvd, a2, if_pos rfl, bvd, bvd, u2_at, if_neg l10]
theorem gi_e {F : jF} {G : jG} {j : Nat} (hj : j < 20) : gX1_greatestIn F G (nI j) = G 57 j ∧ okX1_greatestIn F G (nI j) := by
  have y20 : (20 : Int32).toInt = 20 := rfl
  refine ⟨?_, fun _ => trivial, fun _ => ⟨fun _ => nI_vin hj (by omega), fun _ => trivial⟩⟩
  unfold gX1_greatestIn
  rw [bvd, if_neg (nI_pos (by omega)), if_pos (show nI j < 20 by rw [i32lt, nI_toInt (by omega), y20]; omega), nI_clamp (by omega)]
theorem rd_record {b : Int} {c : Nat} {F FM : jF} {G GM : jG} (h : RR b c F G FM GM) (M : jF) (p1 : Int32) : okX11_record F G M p1 ∧ okX12_record FM GM p1 ∧ rR FM GM (fun x : Int64 => x) (fun x : Int64 => x) (wk 1 9 9) [1] (gX11_record F G M p1) (gX12_record FM GM p1) := by
  obtain ⟨⟨hE, hY⟩, ⟨hR, hG⟩, hX⟩ := h
  have hN := hE.1
  have h1 := hN.2.2.2.1
  have e1 : FM 1 0 = nI (cn F 1) := by rw [hR.at 1 (by decide)]; exact h1.1
  have y1 : (1 : Int32).toInt = 1 := rfl
  have em : (nI (cn F 1) - 1).toInt = (cn F 1 : Int) - 1 := by rw [i32s (by rw [nI_toInt (by omega), y1]; omega) (by rw [nI_toInt (by omega), y1]; omega), nI_toInt (by omega), y1]
  by_cases c1 : p1 < 0
  · have e4 : gX12_in p1 0 (FM 1 0 - 1) = 0 := in_z.mpr (Or.inl c1)
    refine ⟨⟨fun _ => trivial, fun e => absurd c1 e⟩, ?_, Or.inr ⟨1, 0, 0, 1, by decide, ?_, ?_, rfl⟩⟩
    · unfold okX12_record; rw [bvd, e4, if_pos rfl, bvd, bvd, u2_at]; exact ⟨fun e => absurd e d10, fun _ => trivial⟩
    · unfold gX11_record; rw [if_pos c1]
    · unfold gX12_record; rw [bvd, e4, if_pos rfl, bvd, bvd, u2_at, if_neg d10, bvd]
  · obtain ⟨j, hj, rfl⟩ := nI_of c1
    by_cases c2 : j < cn F 1
    · have hv := gi_e (F := F) (G := G) (j := j) (by omega)
      have e4 : gX12_in (nI j) 0 (FM 1 0 - 1) = 1 := by
        unfold gX12_in
        rw [if_neg c1, if_neg (show ¬ FM 1 0 - 1 < nI j by rw [e1, i32lt, em, nI_toInt hj]; omega)]
      refine ⟨⟨fun _ => trivial, fun _ => ⟨fun _ => hv.2, fun _ => trivial⟩⟩, ?_, Or.inl ⟨G 57 j, G 57 j, ?_, ?_, rfl⟩⟩
      · unfold okX12_record; rw [bvd, e4, if_neg d10, bvd, bvd, u2_at]; exact ⟨fun _ => nI_vin (by omega) (by omega), fun _ => trivial⟩
      · unfold gX11_record; rw [if_neg c1, h1.1, if_pos (nI_lt c2 (by omega)), bvd, hv.1]
      · unfold gX12_record; rw [bvd, e4, if_neg d10, bvd, bvd, u2_at, if_pos rfl, bvd, nI_clamp hj, hG.at 57 (by decide)]
    · have e4 : gX12_in (nI j) 0 (FM 1 0 - 1) = 0 := in_z.mpr (Or.inr (by rw [e1, i32lt, em, nI_toInt hj]; omega))
      have c3 : ¬ nI j < F 1 0 := by rw [h1.1, i32lt, nI_toInt hj, nI_toInt (by omega)]; omega
      refine ⟨⟨fun _ => trivial, fun _ => ⟨fun e => absurd e c3, fun _ => trivial⟩⟩, ?_, Or.inr ⟨1, 0, 0, 1, by decide, ?_, ?_, rfl⟩⟩
      · unfold okX12_record; rw [bvd, e4, if_pos rfl, bvd, bvd, u2_at]; exact ⟨fun e => absurd e d10, fun _ => trivial⟩
      · unfold gX11_record; rw [if_neg c1, if_neg c3]
      · unfold gX12_record; rw [bvd, e4, if_pos rfl, bvd, bvd, u2_at, if_neg d10, bvd]
