-- what the reference does at the law's calls
theorem rM_go {α β : Type} {n : Nat} {F F2 : jF} {G G2 : jG} {M FM : jF} {GM : jG} {cv : α → Int64} {cm : β → Int64} {w : Nat → Int32} {codes : List Nat} {gx : Nat × (α × (jS × jF))} {gm : β × jS} (hr : rM n F G F2 G2 M FM GM cv cm w codes gx gm) {v6 : β} {FM1 : jF} {GM1 : jG} (hgm : gm = (v6, (FM1, GM1))) (h60 : FM1 60 0 = 0) (hw : ∀ k, k ∈ codes → w k ≠ 0) : ∃ x F1 G1 M1, gx = (0, (x, ((F1, G1), M1))) ∧ cv x = cm v6 ∧ Iv (n + 1) F1 G1 F2 G2 M1 FM1 GM1 := by
  rcases hr with ⟨x, F1, G1, M1, x6, FM9, GM9, e1, e2, e3, e4, e5⟩ | ⟨k, x, x6, v, e1, e2, e3, e4⟩
  · rw [hgm] at e2
    cases e2
    exact ⟨x, F1, G1, M1, e1, e4, e5⟩
  · rw [hgm] at e3
    cases e3
    rw [u2_at, e4] at h60
    exact absurd h60 (hw k e1)
theorem rM_no {α β : Type} {n : Nat} {F F2 : jF} {G G2 : jG} {M FM : jF} {GM : jG} {cv : α → Int64} {cm : β → Int64} {w : Nat → Int32} {codes : List Nat} {gx : Nat × (α × (jS × jF))} {gm : β × jS} (hr : rM n F G F2 G2 M FM GM cv cm w codes gx gm) {v6 : β} {FM1 : jF} {GM1 : jG} (hgm : gm = (v6, (FM1, GM1))) (h60 : ¬ FM1 60 0 = 0) : ∃ k x, k ∈ codes ∧ gx = (k, (x, ((F, G), M))) ∧ w k = FM1 60 0 := by
  rcases hr with ⟨x, F1, G1, M1, x6, FM9, GM9, e1, e2, e3, e4, e5⟩ | ⟨k, x, x6, v, e1, e2, e3, e4⟩
  · rw [hgm] at e2
    cases e2
    exact absurd e3 h60
  · rw [hgm] at e3
    cases e3
    exact ⟨k, x, e1, e2, by rw [u2_at]; exact e4.symm⟩
theorem rV_go {n : Nat} {F F2 : jF} {G G2 : jG} {M FM : jF} {GM : jG} {w : Nat → Int32} {codes : List Nat} {gx : Nat × (jS × jF)} {gm : jS} (hr : rV n F G F2 G2 M FM GM w codes gx gm) {FM1 : jF} {GM1 : jG} (hgm : gm = (FM1, GM1)) (h60 : FM1 60 0 = 0) (hw : ∀ k, k ∈ codes → w k ≠ 0) : ∃ F1 G1 M1, gx = (0, ((F1, G1), M1)) ∧ Iv (n + 1) F1 G1 F2 G2 M1 FM1 GM1 := by
  rcases hr with ⟨F1, G1, M1, FM9, GM9, e1, e2, e3, e5⟩ | ⟨k, v, e1, e2, e3, e4⟩
  · rw [hgm] at e2
    cases e2
    exact ⟨F1, G1, M1, e1, e5⟩
  · rw [hgm] at e3
    cases e3
    rw [u2_at, e4] at h60
    exact absurd h60 (hw k e1)
theorem wk_n {a b c : Nat} (k : Nat) (h : k = a ∨ k = b ∨ k = c) : wk a b c k ≠ 0 := by
  unfold wk
  split
  · decide
  · split
    · decide
    · split
      · decide
      · omega
theorem eo_ie {F FM : jF} (G GM : jG) (hN : wN F) (hR : ag shF F FM) {p : Int32} (h : eo F p) : gX12_isEnd FM GM p = 1 := by
  unfold gX12_isEnd
  refine bv_g (P := fun x : Int32 => x = 1) (fun x2 e2 => ?_)
  refine it_b (P := fun x : Int32 => x = 1) (fun c => ?_) (fun c => rfl)
  rcases h with rfl | rfl | ⟨j, hj, rfl⟩
  · rw [if_pos rfl]
  · rw [if_neg (by decide), if_pos rfl]
  · rw [(bn_y G GM hN hR hj).2] at e2
    rw [e2] at c
    exact absurd c d10
theorem ae_y {F FM : jF} (G GM : jG) (hN : wN F) (hR : ag shF F FM) {k : Nat} (hk : k < cn F 8) {q : Int32} (hq : eo F q) (hne : ¬ nI k = q) : gX12_areEnds FM GM (nI k) q = (1, (u2 FM 60 0 0, GM)) := by
  unfold gX12_areEnds
  rw [eo_ie G GM hN hR (Or.inr (Or.inr ⟨k, hk, rfl⟩)), bvd, if_neg d10, eo_ie G GM hN hR hq]
  refine bv_g (P := fun S : Int32 × jS => S = (1, (u2 FM 60 0 0, GM))) (fun v14 e14 => ?_)
  have e14 : v14 = 0 := by
    rw [e14, bvd, if_neg d10, if_neg hne, (bn_y G GM hN hR hk).2, bvd, if_neg d10]
  subst e14
  rw [bvd, if_pos (u2_at _ _ _ _)]
theorem nI_ps (c : Nat) : nI c + 1 - 1 = nI c := Int32.add_sub_cancel _ _
/-- an answer, the water as it was, no fault, a count, the rest the same -/
def adR (v : Int32) (GM : jG) (c : Nat) (x : Int32) (ids : List Nat) (FM : jF) (S : Int32 × jS) : Prop := S.1 = v ∧ S.2.2 = GM ∧ S.2.1 60 0 = 0 ∧ S.2.1 c 0 = x ∧ ∀ i, i ∉ ids → S.2.1 i = FM i
theorem adR_mk {v v1 : Int32} {GM : jG} {c : Nat} {x : Int32} {ids : List Nat} {FM F1 : jF} (h1 : v1 = v) (h2 : F1 60 0 = 0) (h3 : F1 c 0 = x) (h4 : ∀ i, i ∉ ids → F1 i = FM i) : adR v GM c x ids FM (v1, (F1, GM)) := ⟨h1, rfl, h2, h3, h4⟩
theorem adR_x {v : Int32} {GM : jG} {c : Nat} {x : Int32} {ids : List Nat} {FM : jF} {S : Int32 × jS} (h : adR v GM c x ids FM S) : ∃ FM1, S = (v, (FM1, GM)) ∧ FM1 60 0 = 0 ∧ FM1 c 0 = x ∧ ∀ i, i ∉ ids → FM1 i = FM i := by
  obtain ⟨s1, s2, s3⟩ := S
  obtain ⟨h1, h2, h3, h4, h5⟩ := h
  have h1 : s1 = v := h1
  have h2 : s3 = GM := h2
  subst h1; subst h2
  exact ⟨s2, rfl, h3, h4, h5⟩
theorem r_addGate {F FM : jF} (G GM : jG) (hN : wN F) (hR : ag shF F FM) {k : Nat} (hk : k < cn F 8) {q : Int32} (hq : eo F q) (hne : ¬ nI k = q) (h8 : cn F 17 < 8) {p3 : Int32} (p3a : (1 : Int32).toInt ≤ p3.toInt) (p3b : p3.toInt ≤ (9999 : Int32).toInt) {p4 : Int32} (p4a : (0 : Int32).toInt ≤ p4.toInt) (p4b : p4.toInt ≤ (3 : Int32).toInt) : adR (nI (cn F 17)) GM 17 (nI (cn F 17 + 1)) [60, 17, 18, 19, 20, 21] FM (gX12_addGate FM GM (nI k) q p3 p4) := by
  have e9 : FM 17 0 = nI (cn F 17) := by rw [hR.at 17 (by decide)]; exact hN.1.2.1.1
  have n9 : ¬ nI (cn F 17) = 8 := fun e => by rw [n8] at e; have := nI_inj2 (by omega) (by omega) e; omega
  have hae := ae_y G GM hN hR hk hq hne
  obtain ⟨P, hP⟩ : ∃ P : Int32 × jS → Prop, P = adR (nI (cn F 17)) GM 17 (nI (cn F 17 + 1)) [60, 17, 18, 19, 20, 21] FM := ⟨_, rfl⟩
  rw [← hP]
  unfold gX12_addGate
  rw [hae]
  refine br_g (P := P) (fun x5 F2 G3 e => ?_)
  cases e
  refine it_b (P := P) (fun c => absurd c d10) (fun c => ?_)
  refine bv_g (P := P) (fun x22 e22 => ?_)
  rw [in_y p3a p3b] at e22; subst e22
  refine bv_g (P := P) (fun v27 e27 => ?_)
  have e27 : v27 = 0 := by rw [e27, if_neg d10, in_y p4a p4b, bvd, if_neg d10, u2_other _ (by decide : 17 ≠ 60), e9, if_neg n9]
  subst e27
  refine bv_g (P := P) (fun f0 e0 => ?_)
  refine it_b (P := P) (fun c => ?_) (fun c => absurd (by rw [e0, u2_at]; exact l00) c)
  refine bv_g (P := P) (fun f1 e1 => ?_)
  refine bv_g (P := P) (fun f2 e2 => ?_)
  refine bv_g (P := P) (fun f3 e3 => ?_)
  refine bv_g (P := P) (fun f4 e4 => ?_)
  refine bv_g (P := P) (fun f5 e5 => ?_)
  have ko : ∀ i, i ≠ 60 → i ≠ 18 → i ≠ 19 → i ≠ 20 → i ≠ 21 → f4 i = FM i := fun i h60 h18 h19 h20 h21 => by rw [e4, u2_other _ h21, e3, u2_other _ h20, e2, u2_other _ h19, e1, u2_other _ h18, e0, u2_other _ h60, u2_other _ h60]
  have k0 : f4 60 0 = 0 := by rw [e4, u2_other _ (by decide : 60 ≠ 21), e3, u2_other _ (by decide : 60 ≠ 20), e2, u2_other _ (by decide : 60 ≠ 19), e1, u2_other _ (by decide : 60 ≠ 18), e0, u2_at]
  have kc : f4 17 0 = nI (cn F 17) := by rw [ko 17 (by decide) (by decide) (by decide) (by decide) (by decide)]; exact e9
  clear hae
  rw [hP]
  refine adR_mk ?_ ?_ ?_ (fun i hi => ?_)
  · rw [e5, u2_at, kc]; exact nI_ps _
  · rw [e5, u2_other _ (by decide : 60 ≠ 17)]; exact k0
  · rw [e5, u2_at, kc]; exact nI_add _ 1
  · have hne : ∀ z, z ∈ [60, 17, 18, 19, 20, 21] → i ≠ z := fun z hz e => hi (by rw [e]; exact hz)
    rw [e5, u2_other _ (hne 17 (by decide))]; exact ko i (hne 60 (by decide)) (hne 18 (by decide)) (hne 19 (by decide)) (hne 20 (by decide)) (hne 21 (by decide))
theorem r_addPump {F FM : jF} (G GM : jG) (hN : wN F) (hR : ag shF F FM) {k : Nat} (hk : k < cn F 8) {q : Int32} (hq : eo F q) (hne : ¬ nI k = q) (h8 : cn F 23 < 8) {p3 : Int32} (p3a : (1 : Int32).toInt ≤ p3.toInt) (p3b : p3.toInt ≤ (9999 : Int32).toInt) {p4 : Int32} (p4a : (0 : Int32).toInt ≤ p4.toInt) (p4b : p4.toInt ≤ (999 : Int32).toInt) {p5 : Int32} (p5a : (1 : Int32).toInt ≤ p5.toInt) (p5b : p5.toInt ≤ (999 : Int32).toInt) : adR (nI (cn F 23)) GM 23 (nI (cn F 23 + 1)) [60, 23, 24, 25, 26, 27, 28] FM (gX12_addPump FM GM (nI k) q p3 p4 p5) := by
  have e9 : FM 23 0 = nI (cn F 23) := by rw [hR.at 23 (by decide)]; exact hN.1.2.2.1.1
  have n9 : ¬ nI (cn F 23) = 8 := fun e => by rw [n8] at e; have := nI_inj2 (by omega) (by omega) e; omega
  have hae := ae_y G GM hN hR hk hq hne
  obtain ⟨P, hP⟩ : ∃ P : Int32 × jS → Prop, P = adR (nI (cn F 23)) GM 23 (nI (cn F 23 + 1)) [60, 23, 24, 25, 26, 27, 28] FM := ⟨_, rfl⟩
  rw [← hP]
  unfold gX12_addPump
  rw [hae]
  refine br_g (P := P) (fun x5 F2 G3 e => ?_)
  cases e
  refine it_b (P := P) (fun c => absurd c d10) (fun c => ?_)
  refine bv_g (P := P) (fun x22 e22 => ?_)
  rw [in_y p3a p3b] at e22; subst e22
  refine bv_g (P := P) (fun v27 e27 => ?_)
  have e27 : v27 = 0 := by rw [e27, if_neg d10, in_y p4a p4b, bvd, if_neg d10, in_y p5a p5b, bvd, if_neg d10, u2_other _ (by decide : 23 ≠ 60), e9, if_neg n9]
  subst e27
  refine bv_g (P := P) (fun f0 e0 => ?_)
  refine it_b (P := P) (fun c => ?_) (fun c => absurd (by rw [e0, u2_at]; exact l00) c)
  refine bv_g (P := P) (fun f1 e1 => ?_)
  refine bv_g (P := P) (fun f2 e2 => ?_)
  refine bv_g (P := P) (fun f3 e3 => ?_)
  refine bv_g (P := P) (fun f4 e4 => ?_)
  refine bv_g (P := P) (fun f5 e5 => ?_)
  refine bv_g (P := P) (fun f6 e6 => ?_)
  have ko : ∀ i, i ≠ 60 → i ≠ 24 → i ≠ 25 → i ≠ 26 → i ≠ 27 → i ≠ 28 → f5 i = FM i := fun i h60 h24 h25 h26 h27 h28 => by rw [e5, u2_other _ h28, e4, u2_other _ h27, e3, u2_other _ h26, e2, u2_other _ h25, e1, u2_other _ h24, e0, u2_other _ h60, u2_other _ h60]
  have k0 : f5 60 0 = 0 := by rw [e5, u2_other _ (by decide : 60 ≠ 28), e4, u2_other _ (by decide : 60 ≠ 27), e3, u2_other _ (by decide : 60 ≠ 26), e2, u2_other _ (by decide : 60 ≠ 25), e1, u2_other _ (by decide : 60 ≠ 24), e0, u2_at]
  have kc : f5 23 0 = nI (cn F 23) := by rw [ko 23 (by decide) (by decide) (by decide) (by decide) (by decide) (by decide)]; exact e9
  clear hae
  rw [hP]
  refine adR_mk ?_ ?_ ?_ (fun i hi => ?_)
  · rw [e6, u2_at, kc]; exact nI_ps _
  · rw [e6, u2_other _ (by decide : 60 ≠ 23)]; exact k0
  · rw [e6, u2_at, kc]; exact nI_add _ 1
  · have hne : ∀ z, z ∈ [60, 23, 24, 25, 26, 27, 28] → i ≠ z := fun z hz e => hi (by rw [e]; exact hz)
    rw [e6, u2_other _ (hne 23 (by decide))]; exact ko i (hne 60 (by decide)) (hne 24 (by decide)) (hne 25 (by decide)) (hne 26 (by decide)) (hne 27 (by decide)) (hne 28 (by decide))
theorem r_addDyke {F FM : jF} (G GM : jG) (hN : wN F) (hR : ag shF F FM) {k : Nat} (hk : k < cn F 8) {q : Int32} (hq : eo F q) (hne : ¬ nI k = q) (h8 : cn F 32 < 8) {p3 : Int32} (p3a : ((-500) : Int32).toInt ≤ p3.toInt) (p3b : p3.toInt ≤ (999 : Int32).toInt) {p4 : Int32} (p4a : (1 : Int32).toInt ≤ p4.toInt) (p4b : p4.toInt ≤ (999 : Int32).toInt) {p5 : Int32} (p5a : (0 : Int32).toInt ≤ p5.toInt) (p5b : p5.toInt ≤ (99 : Int32).toInt) : adR (nI (cn F 32)) GM 32 (nI (cn F 32 + 1)) [60, 32, 33, 34, 35, 36, 37] FM (gX12_addDyke FM GM (nI k) q p3 p4 p5) := by
  have e9 : FM 32 0 = nI (cn F 32) := by rw [hR.at 32 (by decide)]; exact hN.1.2.2.2.1
  have n9 : ¬ nI (cn F 32) = 8 := fun e => by rw [n8] at e; have := nI_inj2 (by omega) (by omega) e; omega
  have hae := ae_y G GM hN hR hk hq hne
  obtain ⟨P, hP⟩ : ∃ P : Int32 × jS → Prop, P = adR (nI (cn F 32)) GM 32 (nI (cn F 32 + 1)) [60, 32, 33, 34, 35, 36, 37] FM := ⟨_, rfl⟩
  rw [← hP]
  unfold gX12_addDyke
  rw [hae]
  refine br_g (P := P) (fun x5 F2 G3 e => ?_)
  cases e
  refine it_b (P := P) (fun c => absurd c d10) (fun c => ?_)
  refine bv_g (P := P) (fun x22 e22 => ?_)
  rw [in_y p3a p3b] at e22; subst e22
  refine bv_g (P := P) (fun v27 e27 => ?_)
  have e27 : v27 = 0 := by rw [e27, if_neg d10, in_y p4a p4b, bvd, if_neg d10, in_y p5a p5b, bvd, if_neg d10, u2_other _ (by decide : 32 ≠ 60), e9, if_neg n9]
  subst e27
  refine bv_g (P := P) (fun f0 e0 => ?_)
  refine it_b (P := P) (fun c => ?_) (fun c => absurd (by rw [e0, u2_at]; exact l00) c)
  refine bv_g (P := P) (fun f1 e1 => ?_)
  refine bv_g (P := P) (fun f2 e2 => ?_)
  refine bv_g (P := P) (fun f3 e3 => ?_)
  refine bv_g (P := P) (fun f4 e4 => ?_)
  refine bv_g (P := P) (fun f5 e5 => ?_)
  refine bv_g (P := P) (fun f6 e6 => ?_)
  have ko : ∀ i, i ≠ 60 → i ≠ 33 → i ≠ 34 → i ≠ 35 → i ≠ 36 → i ≠ 37 → f5 i = FM i := fun i h60 h33 h34 h35 h36 h37 => by rw [e5, u2_other _ h37, e4, u2_other _ h36, e3, u2_other _ h35, e2, u2_other _ h34, e1, u2_other _ h33, e0, u2_other _ h60, u2_other _ h60]
  have k0 : f5 60 0 = 0 := by rw [e5, u2_other _ (by decide : 60 ≠ 37), e4, u2_other _ (by decide : 60 ≠ 36), e3, u2_other _ (by decide : 60 ≠ 35), e2, u2_other _ (by decide : 60 ≠ 34), e1, u2_other _ (by decide : 60 ≠ 33), e0, u2_at]
  have kc : f5 32 0 = nI (cn F 32) := by rw [ko 32 (by decide) (by decide) (by decide) (by decide) (by decide) (by decide)]; exact e9
  clear hae
  rw [hP]
  refine adR_mk ?_ ?_ ?_ (fun i hi => ?_)
  · rw [e6, u2_at, kc]; exact nI_ps _
  · rw [e6, u2_other _ (by decide : 60 ≠ 32)]; exact k0
  · rw [e6, u2_at, kc]; exact nI_add _ 1
  · have hne : ∀ z, z ∈ [60, 32, 33, 34, 35, 36, 37] → i ≠ z := fun z hz e => hi (by rw [e]; exact hz)
    rw [e6, u2_other _ (hne 32 (by decide))]; exact ko i (hne 60 (by decide)) (hne 33 (by decide)) (hne 34 (by decide)) (hne 35 (by decide)) (hne 36 (by decide)) (hne 37 (by decide))
