-- what the reference does at the law's other calls
def rfR {α : Type} (Q : α → jF → jG → Prop) (ids idg : List Nat) (FM : jF) (GM : jG) (S : α × jS) : Prop := Q S.1 S.2.1 S.2.2 ∧ (∀ i, i ∉ ids → S.2.1 i = FM i) ∧ ∀ i, i ∉ idg → S.2.2 i = GM i
theorem rfR_mk {α : Type} {Q : α → jF → jG → Prop} {ids idg : List Nat} {FM : jF} {GM : jG} {v : α} {F1 : jF} {G1 : jG} (h1 : Q v F1 G1) (h2 : ∀ i, i ∉ ids → F1 i = FM i) (h3 : ∀ i, i ∉ idg → G1 i = GM i) : rfR Q ids idg FM GM (v, (F1, G1)) := ⟨h1, h2, h3⟩
theorem rfR_x {α : Type} {Q : α → jF → jG → Prop} {ids idg : List Nat} {FM : jF} {GM : jG} {S : α × jS} (h : rfR Q ids idg FM GM S) : ∃ v F1 G1, S = (v, (F1, G1)) ∧ Q v F1 G1 ∧ (∀ i, i ∉ ids → F1 i = FM i) ∧ ∀ i, i ∉ idg → G1 i = GM i := ⟨S.1, S.2.1, S.2.2, rfl, h.1, h.2.1, h.2.2⟩
def rfV (Q : jF → jG → Prop) (ids idg : List Nat) (FM : jF) (GM : jG) (S : jS) : Prop := Q S.1 S.2 ∧ (∀ i, i ∉ ids → S.1 i = FM i) ∧ ∀ i, i ∉ idg → S.2 i = GM i
theorem rfV_mk {Q : jF → jG → Prop} {ids idg : List Nat} {FM : jF} {GM : jG} {F1 : jF} {G1 : jG} (h1 : Q F1 G1) (h2 : ∀ i, i ∉ ids → F1 i = FM i) (h3 : ∀ i, i ∉ idg → G1 i = GM i) : rfV Q ids idg FM GM (F1, G1) := ⟨h1, h2, h3⟩
theorem rfV_x {Q : jF → jG → Prop} {ids idg : List Nat} {FM : jF} {GM : jG} {S : jS} (h : rfV Q ids idg FM GM S) : ∃ F1 G1, S = (F1, G1) ∧ Q F1 G1 ∧ (∀ i, i ∉ ids → F1 i = FM i) ∧ ∀ i, i ∉ idg → G1 i = GM i := ⟨S.1, S.2, rfl, h.1, h.2.1, h.2.2⟩
theorem of_r {α : Type} {ids : List Nat} (F : Nat → Nat → α) : ∀ i, i ∉ ids → F i = F i := fun _ _ => rfl
theorem of_u {α : Type} {ids : List Nat} {F FM : Nat → Nat → α} (h : ∀ i, i ∉ ids → F i = FM i) {k : Nat} (hk : k ∈ ids) (j : Nat) (v : α) : ∀ i, i ∉ ids → u2 F k j v i = FM i := fun i hi => (u2_other F (fun e => hi (by rw [e]; exact hk)) j v).trans (h i hi)
section RF
variable {F FM : jF} {G GM : jG}
theorem r_addBasin (hN : wN F) (hR : ag shF F FM) (GM : jG) (h8 : cn F 8 < 8) {p1 p2 : Int32} (a1 : (1 : Int32).toInt ≤ p1.toInt) (a2 : p1.toInt ≤ (100 : Int32).toInt) (b1 : (-500 : Int32).toInt ≤ p2.toInt) (b2 : p2.toInt ≤ (500 : Int32).toInt) : rfR (fun x F1 _ => x = nI (cn F 8) ∧ F1 60 0 = 0 ∧ F1 8 0 = nI (cn F 8 + 1)) [60, 8, 9, 10, 12] [] FM GM (gX12_addBasin FM GM p1 p2) := by
  have e9 : FM 8 0 = nI (cn F 8) := by rw [hR.at 8 (by decide)]; exact hN.1.1.1
  have n9 : ¬ nI (cn F 8) = 8 := fun e => by rw [n8] at e; have := nI_inj2 (by omega) (by omega) e; omega
  obtain ⟨P, hP⟩ : ∃ P, P = rfR (fun x F1 (_ : jG) => x = nI (cn F 8) ∧ F1 60 0 = 0 ∧ F1 8 0 = nI (cn F 8 + 1)) [60, 8, 9, 10, 12] [] FM GM := ⟨_, rfl⟩
  rw [← hP]
  unfold gX12_addBasin
  refine bv_g (P := P) (fun x1 e1 => ?_)
  rw [in_y a1 a2] at e1; subst e1
  refine bv_g (P := P) (fun v6 e6 => ?_)
  have e6 : v6 = 0 := by rw [e6, if_neg d10, in_y b1 b2, bvd, if_neg d10, e9, if_neg n9]
  subst e6
  refine bv_g (P := P) (fun f0 e0 => ?_)
  refine it_b (P := P) (fun c => ?_) (fun c => absurd (by rw [e0, u2_at]; exact l00) c)
  refine bv_g (P := P) (fun f1 e1 => ?_)
  refine bv_g (P := P) (fun f2 e2 => ?_)
  refine bv_g (P := P) (fun f3 e3 => ?_)
  refine bv_g (P := P) (fun f4 e4 => ?_)
  have k8 : f3 8 0 = nI (cn F 8) := by rw [e3, u2_other _ (by decide : 8 ≠ 12), e2, u2_other _ (by decide : 8 ≠ 10), e1, u2_other _ (by decide : 8 ≠ 9), e0, u2_other _ (by decide : 8 ≠ 60)]; exact e9
  have k0 : f3 60 0 = 0 := by rw [e3, u2_other _ (by decide : 60 ≠ 12), e2, u2_other _ (by decide : 60 ≠ 10), e1, u2_other _ (by decide : 60 ≠ 9), e0, u2_at]
  rw [hP]
  refine rfR_mk ⟨?_, ?_, ?_⟩ ?_ (of_r GM)
  · rw [e4, u2_at, k8]; exact nI_ps _
  · rw [e4, u2_other _ (by decide : 60 ≠ 8)]; exact k0
  · rw [e4, u2_at, k8]; exact nI_add _ 1
  · rw [e4, e3, e2, e1, e0]
    exact of_u (of_u (of_u (of_u (of_u (of_r FM) (by decide) _ _) (by decide) _ _) (by decide) _ _) (by decide) _ _) (by decide) _ _
theorem r_setLand (hN : wN F) (hR : ag shF F FM) (GM : jG) {k : Nat} (hk : k < cn F 8) {p2 p3 p4 : Int32} (a1 : (0 : Int32).toInt ≤ p2.toInt) (a2 : p2.toInt ≤ (20 : Int32).toInt) (b1 : (0 : Int32).toInt ≤ p3.toInt) (b2 : p3.toInt ≤ (9999 : Int32).toInt) (c1 : (0 : Int32).toInt ≤ p4.toInt) (c2 : p4.toInt ≤ (99 : Int32).toInt) : rfV (fun F1 _ => F1 60 0 = 0) [60, 11, 12, 13] [] FM GM (gX12_setLand FM GM (nI k) p2 p3 p4) := by
  obtain ⟨P, hP⟩ : ∃ P, P = rfV (fun F1 (_ : jG) => F1 60 0 = 0) [60, 11, 12, 13] [] FM GM := ⟨_, rfl⟩
  rw [← hP]
  unfold gX12_setLand
  refine bv_g (P := P) (fun x1 e1 => ?_)
  rw [(bn_y (fun _ _ => 0) GM hN hR hk).2] at e1; subst e1
  refine bv_g (P := P) (fun v6 e6 => ?_)
  have e6 : v6 = 0 := by rw [e6, if_neg d10, in_y a1 a2, bvd, if_neg d10, in_y b1 b2, bvd, if_neg d10, in_y c1 c2, bvd, if_neg d10]
  subst e6
  refine bv_g (P := P) (fun f0 e0 => ?_)
  refine it_b (P := P) (fun c => ?_) (fun c => absurd (by rw [e0, u2_at]) c)
  refine bv_g (P := P) (fun f1 e1 => ?_)
  refine bv_g (P := P) (fun f2 e2 => ?_)
  refine bv_g (P := P) (fun f3 e3 => ?_)
  rw [hP]
  refine rfV_mk ?_ ?_ (of_r GM)
  · rw [e3, u2_other _ (by decide : 60 ≠ 13), e2, u2_other _ (by decide : 60 ≠ 12), e1, u2_other _ (by decide : 60 ≠ 11), e0, u2_at]
  · rw [e3, e2, e1, e0]
    exact of_u (of_u (of_u (of_u (of_r FM) (by decide) _ _) (by decide) _ _) (by decide) _ _) (by decide) _ _
theorem r_pour (hN : wN F) (hR : ag shF F FM) (GM : jG) {k : Nat} (hk : k < cn F 8) {p2 : Int32} (a1 : (0 : Int32).toInt ≤ p2.toInt) (a2 : p2.toInt ≤ (1000000 : Int32).toInt) : rfR (fun (x : Int64) F1 G1 => x = G1 14 k ∧ F1 60 0 = 0 ∧ bal G1 = bal GM) [60] [14, 56] FM GM (gX12_pour FM GM (nI k) p2) := by
  have h8 := hN.1.1.2
  obtain ⟨P, hP⟩ : ∃ P, P = rfR (fun (x : Int64) F1 G1 => x = G1 14 k ∧ F1 60 0 = 0 ∧ bal G1 = bal GM) [60] [14, 56] FM GM := ⟨_, rfl⟩
  rw [← hP]
  unfold gX12_pour
  refine bv_g (P := P) (fun x1 e1 => ?_)
  rw [(bn_y (fun _ _ => 0) GM hN hR hk).2] at e1; subst e1
  refine bv_g (P := P) (fun v6 e6 => ?_)
  have e6 : v6 = 0 := by rw [e6, if_neg d10, in_y a1 a2, bvd, if_neg d10]
  subst e6
  refine bv_g (P := P) (fun f0 e0 => ?_)
  refine it_b (P := P) (fun c => ?_) (fun c => absurd (by rw [e0, u2_at]; exact l00) c)
  refine bv_g (P := P) (fun g1 e1 => ?_)
  refine bv_g (P := P) (fun g2 e2 => ?_)
  rw [nI_clamp (by omega)] at e1
  rw [t_0] at e2
  rw [hP, nI_clamp (by omega)]
  refine rfR_mk ⟨rfl, ?_, ?_⟩ ?_ ?_
  · rw [e0, u2_at]
  · rw [e2, b56_0, e1, b14p _ (by omega), i_mp]
  · rw [e0]; exact of_u (of_r FM) (by decide) _ _
  · rw [e2, e1]; exact of_u (of_u (of_r GM) (by decide) _ _) (by decide) _ _
theorem r_budget (FM : jF) (GM : jG) {p1 p2 : Int32} (a1 : (0 : Int32).toInt ≤ p1.toInt) (a2 : p1.toInt ≤ (9999 : Int32).toInt) (b1 : (0 : Int32).toInt ≤ p2.toInt) (b2 : p2.toInt ≤ (9999 : Int32).toInt) : rfR (fun (x : Int32) F1 _ => x = Int64.toInt32 (GM 2 0 + p2.toInt64) ∧ F1 60 0 = 0) [60, 3] [2] FM GM (gX12_budget FM GM p1 p2) := by
  obtain ⟨P, hP⟩ : ∃ P, P = rfR (fun (x : Int32) F1 (_ : jG) => x = Int64.toInt32 (GM 2 0 + p2.toInt64) ∧ F1 60 0 = 0) [60, 3] [2] FM GM := ⟨_, rfl⟩
  rw [← hP]
  unfold gX12_budget
  refine bv_g (P := P) (fun x1 e1 => ?_)
  rw [in_y a1 a2] at e1; subst e1
  refine bv_g (P := P) (fun v6 e6 => ?_)
  have e6 : v6 = 0 := by rw [e6, if_neg d10, in_y b1 b2, bvd, if_neg d10]
  subst e6
  refine bv_g (P := P) (fun f0 e0 => ?_)
  refine it_b (P := P) (fun c => ?_) (fun c => absurd (by rw [e0, u2_at]; exact l00) c)
  refine bv_g (P := P) (fun f1 e1 => ?_)
  refine bv_g (P := P) (fun g1 e2 => ?_)
  rw [hP]
  refine rfR_mk ⟨?_, ?_⟩ ?_ ?_
  · rw [e2, u2_at]
  · rw [e1, u2_other _ (by decide : 60 ≠ 3), e0, u2_at]
  · rw [e1, e0]; exact of_u (of_u (of_r FM) (by decide) _ _) (by decide) _ _
  · rw [e2]; exact of_u (of_r GM) (by decide) _ _
theorem r_setOutside (FM : jF) (GM : jG) {p1 p2 p3 : Int32} (a1 : (-99 : Int32).toInt ≤ p1.toInt) (a2 : p1.toInt ≤ (99 : Int32).toInt) (b1 : (0 : Int32).toInt ≤ p2.toInt) (b2 : p2.toInt ≤ (400 : Int32).toInt) (c1 : (-9999 : Int32).toInt ≤ p3.toInt) (c2 : p3.toInt ≤ (99999 : Int32).toInt) : rfV (fun F1 _ => F1 60 0 = 0) [60, 5, 6, 7] [] FM GM (gX12_setOutside FM GM p1 p2 p3) := by
  obtain ⟨P, hP⟩ : ∃ P, P = rfV (fun F1 (_ : jG) => F1 60 0 = 0) [60, 5, 6, 7] [] FM GM := ⟨_, rfl⟩
  rw [← hP]
  unfold gX12_setOutside
  refine bv_g (P := P) (fun x1 e1 => ?_)
  rw [in_y a1 a2] at e1; subst e1
  refine bv_g (P := P) (fun v6 e6 => ?_)
  have e6 : v6 = 0 := by rw [e6, if_neg d10, in_y b1 b2, bvd, if_neg d10, in_y c1 c2, bvd, if_neg d10]
  subst e6
  refine bv_g (P := P) (fun f0 e0 => ?_)
  refine it_b (P := P) (fun c => ?_) (fun c => absurd (by rw [e0, u2_at]) c)
  refine bv_g (P := P) (fun f1 e1 => ?_)
  refine bv_g (P := P) (fun f2 e2 => ?_)
  refine bv_g (P := P) (fun f3 e3 => ?_)
  rw [hP]
  refine rfV_mk ?_ ?_ (of_r GM)
  · rw [e3, u2_other _ (by decide : 60 ≠ 7), e2, u2_other _ (by decide : 60 ≠ 6), e1, u2_other _ (by decide : 60 ≠ 5), e0, u2_at]
  · rw [e3, e2, e1, e0]
    exact of_u (of_u (of_u (of_u (of_r FM) (by decide) _ _) (by decide) _ _) (by decide) _ _) (by decide) _ _
theorem r_road (hN : wN F) (hR : ag shF F FM) (GM : jG) {k q : Nat} (hk : k < cn F 8) (hq : q < cn F 8) (hne : k ≠ q) : rfR (fun (x : Int32) F1 _ => x = (if FM 16 (Int32.toNatClampNeg (8 * nI k + nI q)) = 1 then 1 else 0) ∧ F1 60 0 = 0 ∧ F1 16 (Int32.toNatClampNeg (8 * nI k + nI q)) = 1) [60, 16] [] FM GM (gX12_road FM GM (nI k) (nI q) 1) := by
  have h8 := hN.1.1.2
  have nn : ¬ nI k = nI q := fun e => hne (nI_inj2 (by omega) (by omega) e)
  obtain ⟨P, hP⟩ : ∃ P, P = rfR (fun (x : Int32) F1 (_ : jG) => x = (if FM 16 (Int32.toNatClampNeg (8 * nI k + nI q)) = 1 then 1 else 0) ∧ F1 60 0 = 0 ∧ F1 16 (Int32.toNatClampNeg (8 * nI k + nI q)) = 1) [60, 16] [] FM GM := ⟨_, rfl⟩
  rw [← hP]
  unfold gX12_road
  refine bv_g (P := P) (fun x1 e1 => ?_)
  rw [(bn_y (fun _ _ => 0) GM hN hR hk).2] at e1; subst e1
  refine bv_g (P := P) (fun v6 e6 => ?_)
  have e6 : v6 = 0 := by rw [e6, if_neg d10, (bn_y (fun _ _ => 0) GM hN hR hq).2, bvd, if_neg d10, if_neg nn]
  subst e6
  refine bv_g (P := P) (fun f0 e0 => ?_)
  refine it_b (P := P) (fun c => ?_) (fun c => absurd (by rw [e0, u2_at]; exact l00) c)
  refine bv_g (P := P) (fun v14 e14 => ?_)
  refine bv_g (P := P) (fun v16 e16 => ?_)
  rw [if_neg d10] at e16; subst e16
  refine bv_g (P := P) (fun f1 e1 => ?_)
  refine bv_g (P := P) (fun v21 e21 => ?_)
  rw [if_neg d10] at e21; subst e21
  refine bv_g (P := P) (fun f2 e2 => ?_)
  rw [hP]
  refine rfR_mk ⟨?_, ?_, ?_⟩ ?_ (of_r GM)
  · rw [e14, e0, u2_other _ (by decide : 16 ≠ 60)]
  · rw [e2, u2_other _ (by decide : 60 ≠ 16), e1, u2_other _ (by decide : 60 ≠ 16), e0, u2_at]
  · rw [e2, u2_same, e1, u2_same]
    split
    · rfl
    · rw [if_pos rfl]
  · rw [e2, e1, e0]
    exact of_u (of_u (of_u (of_r FM) (by decide) _ _) (by decide) _ _) (by decide) _ _
theorem r_command (hN : wN F) (hR : ag shF F FM) (GM : jG) {k : Nat} (hk : k < cn F 17) {p2 p3 : Int32} (a1 : (0 : Int32).toInt ≤ p3.toInt) (a2 : p3.toInt ≤ (3 : Int32).toInt) : rfR (fun (x : Int32) F1 _ => F1 60 0 = 0 ∧ ((x = 0 ∧ F1 22 k = (if p2 = 0 then 0 else 1)) ∨ ((x = 1 ∨ x = 2 ∨ x = 3) ∧ F1 22 = FM 22))) [60, 22] [] FM GM (gX12_command FM GM (nI k) p2 p3) := by
  have h8 := hN.1.2.1
  obtain ⟨P, hP⟩ : ∃ P, P = rfR (fun (x : Int32) F1 (_ : jG) => F1 60 0 = 0 ∧ ((x = 0 ∧ F1 22 k = (if p2 = 0 then 0 else 1)) ∨ ((x = 1 ∨ x = 2 ∨ x = 3) ∧ F1 22 = FM 22))) [60, 22] [] FM GM := ⟨_, rfl⟩
  have no : ∀ (f0 : jF) (x : Int32), f0 = u2 FM 60 0 0 → (x = 1 ∨ x = 2 ∨ x = 3) → P (x, (f0, GM)) := fun f0 x e0 hx => by
    rw [hP, e0]
    exact rfR_mk ⟨u2_at _ _ _ _, Or.inr ⟨hx, u2_other _ (by decide : 22 ≠ 60) _ _⟩⟩ (of_u (of_r FM) (by decide) _ _) (of_r GM)
  have yes : ∀ (f0 : jF), f0 = u2 FM 60 0 0 → P (bv ((if p2 = 0 then 0 else 1) : Int32) (fun v => bv (u2 f0 22 (Int32.toNatClampNeg (nI k)) v) (fun f1 => (0, (f1, GM))))) := fun f0 e0 => by
    refine bv_g (P := P) (fun v ev => ?_)
    refine bv_g (P := P) (fun f1 e1 => ?_)
    rw [nI_clamp (by omega)] at e1
    rw [hP, e1, e0]
    exact rfR_mk ⟨by rw [u2_other _ (by decide : 60 ≠ 22), u2_at], Or.inl ⟨rfl, by rw [u2_at, ev]⟩⟩ (of_u (of_u (of_r FM) (by decide) _ _) (by decide) _ _) (of_r GM)
  rw [← hP]
  unfold gX12_command
  refine bv_g (P := P) (fun x1 e1 => ?_)
  rw [(gt_y (fun _ _ => 0) hN hR hk).2] at e1; subst e1
  refine bv_g (P := P) (fun v6 e6 => ?_)
  have e6 : v6 = 0 := by rw [e6, if_neg d10, in_y a1 a2, bvd, if_neg d10]
  subst e6
  refine bv_g (P := P) (fun f0 e0 => ?_)
  refine it_b (P := P) (fun c => ?_) (fun c => absurd (by rw [e0, u2_at]; exact l00) c)
  refine it_b (P := P) (fun c => ?_) (fun c => no f0 1 e0 (Or.inl rfl))
  have five : ∀ (x14 x17 : Int64) (v23 : Int32), P (if p2 = 0 then bv ((if p2 = 0 then 0 else 1) : Int32) (fun v26 : Int32 => bv (u2 f0 22 (Int32.toNatClampNeg (nI k)) v26) (fun F28 : jF => (0, (F28, GM)))) else (if v23 = (-1) then bv ((if p2 = 0 then 0 else 1) : Int32) (fun v32 : Int32 => bv (u2 f0 22 (Int32.toNatClampNeg (nI k)) v32) (fun F34 : jF => (0, (F34, GM)))) else (if 20 ≤ v23 then bv ((if p2 = 0 then 0 else 1) : Int32) (fun v38 : Int32 => bv (u2 f0 22 (Int32.toNatClampNeg (nI k)) v38) (fun F40 : jF => (0, (F40, GM)))) else (if (f0 13 (Int32.toNatClampNeg v23)) ≤ 0 then bv ((if p2 = 0 then 0 else 1) : Int32) (fun v45 : Int32 => bv (u2 f0 22 (Int32.toNatClampNeg (nI k)) v45) (fun F47 : jF => (0, (F47, GM)))) else (if 3 ≤ p3 then bv ((if p2 = 0 then 0 else 1) : Int32) (fun v51 : Int32 => bv (u2 f0 22 (Int32.toNatClampNeg (nI k)) v51) (fun F53 : jF => (0, (F53, GM)))) else (3, (f0, GM))))))) := fun x14 x17 v23 =>
    it_b (P := P) (fun _ => yes f0 e0) (fun _ => it_b (P := P) (fun _ => yes f0 e0) (fun _ => it_b (P := P) (fun _ => yes f0 e0) (fun _ => it_b (P := P) (fun _ => yes f0 e0) (fun _ => it_b (P := P) (fun _ => yes f0 e0) (fun _ => no f0 3 e0 (Or.inr (Or.inr rfl)))))))
  refine it_b (P := P) (fun c => ?_) (fun c => ?_)
  · refine bv_g (P := P) (fun x14 _ => ?_)
    refine bv_g (P := P) (fun x17 _ => ?_)
    refine bv_g (P := P) (fun x18 _ => ?_)
    refine bv_g (P := P) (fun v23 _ => ?_)
    exact five x14 x17 v23
  · refine bv_g (P := P) (fun x56 _ => ?_)
    refine it_b (P := P) (fun c => ?_) (fun c => no f0 2 e0 (Or.inr (Or.inl rfl)))
    refine bv_g (P := P) (fun x14 _ => ?_)
    refine bv_g (P := P) (fun x17 _ => ?_)
    refine bv_g (P := P) (fun x18 _ => ?_)
    refine bv_g (P := P) (fun v23 _ => ?_)
    exact five x14 x17 v23
theorem r_drive (hN : wN F) (hR : ag shF F FM) (GM : jG) {k : Nat} (hk : k < cn F 23) {p2 p3 : Int32} (a1 : (0 : Int32).toInt ≤ p3.toInt) (a2 : p3.toInt ≤ (99 : Int32).toInt) : (p3.toInt64 ≤ GM 2 0 → rfR (fun (x : Int32) F1 G1 => x = FM 30 k + p3 ∧ F1 60 0 = 0 ∧ G1 2 0 = GM 2 0 - p3.toInt64) [60, 29, 30] [2] FM GM (gX12_drive FM GM (nI k) p2 p3)) ∧ (¬ p3.toInt64 ≤ GM 2 0 → rfR (fun (_ : Int32) F1 _ => F1 60 0 = 3) [60] [] FM GM (gX12_drive FM GM (nI k) p2 p3)) := by
  have h8 := hN.1.2.2.1
  refine ⟨fun hm => ?_, fun hm => ?_⟩
  · obtain ⟨P, hP⟩ : ∃ P, P = rfR (fun (x : Int32) F1 G1 => x = FM 30 k + p3 ∧ F1 60 0 = 0 ∧ G1 2 0 = GM 2 0 - p3.toInt64) [60, 29, 30] [2] FM GM := ⟨_, rfl⟩
    rw [← hP]
    unfold gX12_drive
    refine bv_g (P := P) (fun x1 e1 => ?_)
    rw [(pu_y (fun _ _ => 0) hN hR hk).2] at e1; subst e1
    refine bv_g (P := P) (fun v6 e6 => ?_)
    have e6 : v6 = 0 := by rw [e6, if_neg d10, in_y a1 a2, bvd, if_neg d10, if_pos hm]
    subst e6
    refine bv_g (P := P) (fun f0 e0 => ?_)
    refine it_b (P := P) (fun c => ?_) (fun c => absurd (by rw [e0, u2_at]; exact l00) c)
    refine bv_g (P := P) (fun g1 e1 => ?_)
    refine bv_g (P := P) (fun f1 e2 => ?_)
    refine bv_g (P := P) (fun v17 _ => ?_)
    refine bv_g (P := P) (fun f2 e3 => ?_)
    rw [nI_clamp (by omega)] at e2
    rw [hP, nI_clamp (by omega)]
    refine rfR_mk ⟨?_, ?_, ?_⟩ ?_ ?_
    · rw [e3, u2_other _ (by decide : 30 ≠ 29), e2, u2_at, e0, u2_other _ (by decide : 30 ≠ 60)]
    · rw [e3, u2_other _ (by decide : 60 ≠ 29), e2, u2_other _ (by decide : 60 ≠ 30), e0, u2_at]
    · rw [e1, u2_at]
    · rw [e3, e2, e0]; exact of_u (of_u (of_u (of_r FM) (by decide) _ _) (by decide) _ _) (by decide) _ _
    · rw [e1]; exact of_u (of_r GM) (by decide) _ _
  · obtain ⟨P, hP⟩ : ∃ P, P = rfR (fun (_ : Int32) F1 (_ : jG) => F1 60 0 = 3) [60] [] FM GM := ⟨_, rfl⟩
    rw [← hP]
    unfold gX12_drive
    refine bv_g (P := P) (fun x1 e1 => ?_)
    rw [(pu_y (fun _ _ => 0) hN hR hk).2] at e1; subst e1
    refine bv_g (P := P) (fun v6 e6 => ?_)
    have e6 : v6 = 3 := by rw [e6, if_neg d10, in_y a1 a2, bvd, if_neg d10, if_neg hm]
    subst e6
    refine bv_g (P := P) (fun f0 e0 => ?_)
    refine it_b (P := P) (fun c => absurd c (by rw [e0, u2_at]; decide)) (fun c => ?_)
    rw [hP]
    refine rfR_mk ?_ ?_ (of_r GM)
    · rw [e0, u2_at]
    · rw [e0]; exact of_u (of_r FM) (by decide) _ _
theorem r_mend (hN : wN F) (hR : ag shF F FM) (GM : jG) {k : Nat} (hk : k < cn F 23) : (20 ≤ GM 2 0 → rfR (fun (x : Int32) F1 _ => x = FM 31 k ∧ F1 60 0 = 0 ∧ F1 31 k = 0) [60, 31] [2] FM GM (gX12_mend FM GM (nI k))) ∧ (¬ 20 ≤ GM 2 0 → rfR (fun (_ : Int32) F1 _ => F1 60 0 = 2) [60] [] FM GM (gX12_mend FM GM (nI k))) := by
  have h8 := hN.1.2.2.1
  refine ⟨fun hm => ?_, fun hm => ?_⟩
  · obtain ⟨P, hP⟩ : ∃ P, P = rfR (fun (x : Int32) F1 (_ : jG) => x = FM 31 k ∧ F1 60 0 = 0 ∧ F1 31 k = 0) [60, 31] [2] FM GM := ⟨_, rfl⟩
    rw [← hP]
    unfold gX12_mend
    refine bv_g (P := P) (fun x1 e1 => ?_)
    rw [(pu_y (fun _ _ => 0) hN hR hk).2] at e1; subst e1
    refine bv_g (P := P) (fun v6 e6 => ?_)
    have e6 : v6 = 0 := by rw [e6, if_neg d10, if_pos hm]
    subst e6
    refine bv_g (P := P) (fun f0 e0 => ?_)
    refine it_b (P := P) (fun c => ?_) (fun c => absurd (by rw [e0, u2_at]; exact l00) c)
    refine bv_g (P := P) (fun x9 e9 => ?_)
    refine bv_g (P := P) (fun g1 e1 => ?_)
    refine bv_g (P := P) (fun f1 e2 => ?_)
    rw [nI_clamp (by omega)] at e2 e9
    rw [hP]
    refine rfR_mk ⟨?_, ?_, ?_⟩ ?_ ?_
    · rw [e9, e0, u2_other _ (by decide : 31 ≠ 60)]
    · rw [e2, u2_other _ (by decide : 60 ≠ 31), e0, u2_at]
    · rw [e2, u2_at]
    · rw [e2, e0]; exact of_u (of_u (of_r FM) (by decide) _ _) (by decide) _ _
    · rw [e1]; exact of_u (of_r GM) (by decide) _ _
  · obtain ⟨P, hP⟩ : ∃ P, P = rfR (fun (_ : Int32) F1 (_ : jG) => F1 60 0 = 2) [60] [] FM GM := ⟨_, rfl⟩
    rw [← hP]
    unfold gX12_mend
    refine bv_g (P := P) (fun x1 e1 => ?_)
    rw [(pu_y (fun _ _ => 0) hN hR hk).2] at e1; subst e1
    refine bv_g (P := P) (fun v6 e6 => ?_)
    have e6 : v6 = 2 := by rw [e6, if_neg d10, if_neg hm]
    subst e6
    refine bv_g (P := P) (fun f0 e0 => ?_)
    refine it_b (P := P) (fun c => absurd c (by rw [e0, u2_at]; decide)) (fun c => ?_)
    rw [hP]
    refine rfR_mk ?_ ?_ (of_r GM)
    · rw [e0, u2_at]
    · rw [e0]; exact of_u (of_r FM) (by decide) _ _
theorem r_send (hN : wN F) (hR : ag shF F FM) (GM : jG) {k d : Nat} (hk : k < 3) (hd : d < cn F 32) {p3 : Int32} (a1 : (0 : Int32).toInt ≤ p3.toInt) (a2 : p3.toInt ≤ (99 : Int32).toInt) : (p3.toInt64 ≤ GM 2 0 → rfR (fun (x : Int32) F1 _ => x = F1 50 k ∧ F1 60 0 = 0 ∧ F1 51 k = nI d + 1) [60, 50, 51] [2] FM GM (gX12_send FM GM (nI k) (nI d) p3)) ∧ (¬ p3.toInt64 ≤ GM 2 0 → rfR (fun (_ : Int32) F1 _ => F1 60 0 = 3) [60] [] FM GM (gX12_send FM GM (nI k) (nI d) p3)) := by
  have h8 := hN.1.2.2.2
  have hin : gX12_in (nI d) (-1) (FM 32 0 - 1) = 1 := by
    have y1 : (1 : Int32).toInt = 1 := rfl
    rw [hR.at 32 (by decide), h8.1]
    have em : (nI (cn F 32) - 1).toInt = (cn F 32 : Int) - 1 := by rw [i32s (by rw [nI_toInt (by omega), y1]; omega) (by rw [nI_toInt (by omega), y1]; omega), nI_toInt (by omega), y1]
    exact in_y (by rw [nI_toInt (by omega), show (-1 : Int32).toInt = -1 from rfl]; omega) (by rw [em, nI_toInt (by omega)]; omega)
  refine ⟨fun hm => ?_, fun hm => ?_⟩
  · obtain ⟨P, hP⟩ : ∃ P, P = rfR (fun (x : Int32) F1 (_ : jG) => x = F1 50 k ∧ F1 60 0 = 0 ∧ F1 51 k = nI d + 1) [60, 50, 51] [2] FM GM := ⟨_, rfl⟩
    rw [← hP]
    unfold gX12_send
    refine bv_g (P := P) (fun x1 e1 => ?_)
    rw [(cr_y F (fun _ _ => 0) hk).2] at e1; subst e1
    refine bv_g (P := P) (fun v6 e6 => ?_)
    have e6 : v6 = 0 := by rw [e6, if_neg d10, hin, bvd, if_neg d10, in_y a1 a2, bvd, if_neg d10, if_pos hm]
    subst e6
    refine bv_g (P := P) (fun f0 e0 => ?_)
    refine it_b (P := P) (fun c => ?_) (fun c => absurd (by rw [e0, u2_at]; exact l00) c)
    refine bv_g (P := P) (fun g1 e1 => ?_)
    refine bv_g (P := P) (fun f1 e2 => ?_)
    refine bv_g (P := P) (fun f2 e3 => ?_)
    rw [nI_clamp (by omega)] at e3
    rw [hP, nI_clamp (by omega)]
    refine rfR_mk ⟨rfl, ?_, ?_⟩ ?_ ?_
    · rw [e3, u2_other _ (by decide : 60 ≠ 51), e2, u2_other _ (by decide : 60 ≠ 50), e0, u2_at]
    · rw [e3, u2_at]
    · rw [e3, e2, e0]; exact of_u (of_u (of_u (of_r FM) (by decide) _ _) (by decide) _ _) (by decide) _ _
    · rw [e1]; exact of_u (of_r GM) (by decide) _ _
  · obtain ⟨P, hP⟩ : ∃ P, P = rfR (fun (_ : Int32) F1 (_ : jG) => F1 60 0 = 3) [60] [] FM GM := ⟨_, rfl⟩
    rw [← hP]
    unfold gX12_send
    refine bv_g (P := P) (fun x1 e1 => ?_)
    rw [(cr_y F (fun _ _ => 0) hk).2] at e1; subst e1
    refine bv_g (P := P) (fun v6 e6 => ?_)
    have e6 : v6 = 3 := by rw [e6, if_neg d10, hin, bvd, if_neg d10, in_y a1 a2, bvd, if_neg d10, if_neg hm]
    subst e6
    refine bv_g (P := P) (fun f0 e0 => ?_)
    refine it_b (P := P) (fun c => absurd c (by rw [e0, u2_at]; decide)) (fun c => ?_)
    rw [hP]
    refine rfR_mk ?_ ?_ (of_r GM)
    · rw [e0, u2_at]
    · rw [e0]; exact of_u (of_r FM) (by decide) _ _
theorem r_raise (hN : wN F) (hR : ag shF F FM) (GM : jG) {k : Nat} (hk : k < cn F 32) {p2 p3 : Int32} (a1 : (1 : Int32).toInt ≤ p2.toInt) (a2 : p2.toInt ≤ (99 : Int32).toInt) (b1 : (1 : Int32).toInt ≤ p3.toInt) (b2 : p3.toInt ≤ (9 : Int32).toInt) : rfR (fun (x : Int32) F1 G1 => x = Int64.toInt32 (G1 2 0) ∧ F1 60 0 = 0) [60, 52, 53, 54, 55] [2] FM GM (gX12_raise FM GM (nI k) p2 p3) ∨ rfR (fun (_ : Int32) F1 _ => F1 60 0 = 3) [60] [] FM GM (gX12_raise FM GM (nI k) p2 p3) := by
  have h8 := hN.1.2.2.2
  have no : ∀ v9 : Int32, v9 = 3 → (if GM 2 0 < 10 * Int32.toInt64 p2 then 3 else (if FM 52 0 = 6 then 3 else 0) : Int32) = v9 → rfR (fun (_ : Int32) F1 (_ : jG) => F1 60 0 = 3) [60] [] FM GM (gX12_raise FM GM (nI k) p2 p3) := fun v9 h9 hv => by
    obtain ⟨P, hP⟩ : ∃ P, P = rfR (fun (_ : Int32) F1 (_ : jG) => F1 60 0 = 3) [60] [] FM GM := ⟨_, rfl⟩
    rw [← hP]
    unfold gX12_raise
    refine bv_g (P := P) (fun x1 e1 => ?_)
    rw [(dy_y (fun _ _ => 0) hN hR hk).2] at e1; subst e1
    refine bv_g (P := P) (fun v6 e6 => ?_)
    have e6 : v6 = 3 := by rw [e6, if_neg d10, in_y a1 a2, bvd, if_neg d10, in_y b1 b2, bvd, if_neg d10, hv, h9]
    subst e6
    refine bv_g (P := P) (fun f0 e0 => ?_)
    refine it_b (P := P) (fun c => absurd c (by rw [e0, u2_at]; decide)) (fun c => ?_)
    rw [hP]
    refine rfR_mk ?_ ?_ (of_r GM)
    · rw [e0, u2_at]
    · rw [e0]; exact of_u (of_r FM) (by decide) _ _
  by_cases m1 : GM 2 0 < 10 * Int32.toInt64 p2
  · exact Or.inr (no 3 rfl (if_pos m1))
  · by_cases m2 : FM 52 0 = 6
    · exact Or.inr (no 3 rfl (by rw [if_neg m1, if_pos m2]))
    · left
      obtain ⟨P, hP⟩ : ∃ P, P = rfR (fun (x : Int32) F1 G1 => x = Int64.toInt32 (G1 2 0) ∧ F1 60 0 = 0) [60, 52, 53, 54, 55] [2] FM GM := ⟨_, rfl⟩
      rw [← hP]
      unfold gX12_raise
      refine bv_g (P := P) (fun x1 e1 => ?_)
      rw [(dy_y (fun _ _ => 0) hN hR hk).2] at e1; subst e1
      refine bv_g (P := P) (fun v6 e6 => ?_)
      have e6 : v6 = 0 := by rw [e6, if_neg d10, in_y a1 a2, bvd, if_neg d10, in_y b1 b2, bvd, if_neg d10, if_neg m1, if_neg m2]
      subst e6
      refine bv_g (P := P) (fun f0 e0 => ?_)
      refine it_b (P := P) (fun c => ?_) (fun c => absurd (by rw [e0, u2_at]; exact l00) c)
      refine bv_g (P := P) (fun g1 e1 => ?_)
      refine bv_g (P := P) (fun f1 e2 => ?_)
      refine bv_g (P := P) (fun f2 e3 => ?_)
      refine bv_g (P := P) (fun f3 e4 => ?_)
      refine bv_g (P := P) (fun f4 e5 => ?_)
      rw [hP]
      refine rfR_mk ⟨rfl, ?_⟩ ?_ ?_
      · rw [e5, u2_other _ (by decide : 60 ≠ 52), e4, u2_other _ (by decide : 60 ≠ 55), e3, u2_other _ (by decide : 60 ≠ 54), e2, u2_other _ (by decide : 60 ≠ 53), e0, u2_at]
      · rw [e5, e4, e3, e2, e0]; exact of_u (of_u (of_u (of_u (of_u (of_r FM) (by decide) _ _) (by decide) _ _) (by decide) _ _) (by decide) _ _) (by decide) _ _
      · rw [e1]; exact of_u (of_r GM) (by decide) _ _
end RF
