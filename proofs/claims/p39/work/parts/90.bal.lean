-- the water is what was poured, rained and came, less what went: the reference keeps it
def bal (G : jG) : Int64 := sW (G 14) 8 - (G 56 0 + G 56 1 + G 56 2 - G 56 3)
theorem i_1 (a b v c : Int64) : a - b + v + c = a + c - b + v := by grind
theorem i_2 (a b c d e x : Int64) : a - b + (b + x) - (c + d + e) = a - (c + d + e) + x := by grind
theorem sW_e {W W1 : Nat → Int64} : ∀ n, (∀ j, j < n → W1 j = W j) → sW W1 n = sW W n := by
  intro n
  induction n with
  | zero => intro _; rfl
  | succ n ih => intro h; show sW W1 n + W1 n = sW W n + W n; rw [ih (fun j hj => h j (by omega)), h n (by omega)]
theorem sW_u {W W1 : Nat → Int64} {k : Nat} {v : Int64} (h : ∀ j, W1 j = if j = k then v else W j) : ∀ n, k < n → sW W1 n = sW W n - W k + v := by
  intro n
  induction n with
  | zero => intro h; omega
  | succ n ih =>
    intro hk
    show sW W1 n + W1 n = sW W n + W n - W k + v
    by_cases e : k = n
    · subst e
      rw [sW_e k (fun j hj => by rw [h j, if_neg (by omega)]), h k, if_pos rfl]
      grind
    · rw [ih (by omega), h n, if_neg (by omega)]
      grind
theorem b14 (G : jG) {k : Nat} (hk : k < 8) (v : Int64) : bal (u2 G 14 k v) = bal G - G 14 k + v := by
  unfold bal
  rw [sW_u (W := G 14) (k := k) (v := v) (fun j => u2_same G 14 k v j) 8 hk, u2_other G (by decide : 56 ≠ 14)]
  grind
theorem b14p (G : jG) {k : Nat} (hk : k < 8) (x : Int64) : bal (u2 G 14 k (G 14 k + x)) = bal G + x := by
  rw [b14 G hk]; grind
theorem b14m (G : jG) {k : Nat} (hk : k < 8) (x : Int64) : bal (u2 G 14 k (G 14 k - x)) = bal G - x := by
  rw [b14 G hk]; grind
theorem b56_0 (G : jG) (x : Int64) : bal (u2 G 56 0 (G 56 0 + x)) = bal G - x := by
  unfold bal
  rw [u2_other G (by decide : 14 ≠ 56), u2_same, u2_same, u2_same, u2_same, if_pos rfl, if_neg (by decide), if_neg (by decide), if_neg (by decide)]
  grind
theorem b56_1 (G : jG) (x : Int64) : bal (u2 G 56 1 (G 56 1 + x)) = bal G - x := by
  unfold bal
  rw [u2_other G (by decide : 14 ≠ 56), u2_same, u2_same, u2_same, u2_same, if_pos rfl, if_neg (by decide), if_neg (by decide), if_neg (by decide)]
  grind
theorem b56_2 (G : jG) (x : Int64) : bal (u2 G 56 2 (G 56 2 + x)) = bal G - x := by
  unfold bal
  rw [u2_other G (by decide : 14 ≠ 56), u2_same, u2_same, u2_same, u2_same, if_pos rfl, if_neg (by decide), if_neg (by decide), if_neg (by decide)]
  grind
theorem b56_3 (G : jG) (x : Int64) : bal (u2 G 56 3 (G 56 3 + x)) = bal G + x := by
  unfold bal
  rw [u2_other G (by decide : 14 ≠ 56), u2_same, u2_same, u2_same, u2_same, if_pos rfl, if_neg (by decide), if_neg (by decide), if_neg (by decide)]
  grind
theorem b_o (G : jG) {k : Nat} (h1 : k ≠ 14) (h2 : k ≠ 56) (i : Nat) (v : Int64) : bal (u2 G k i v) = bal G := by
  unfold bal
  rw [u2_other G (fun e => h1 e.symm), u2_other G (fun e => h2 e.symm)]
theorem vin8 {p : Int32} {n : Nat} (h : vp_in p n) : p.toNatClampNeg < n := Nat.not_le.mp fun q => h (Or.inr q)
theorem t_0 : Int32.toNatClampNeg 0 = 0 := rfl
theorem t_1 : Int32.toNatClampNeg 1 = 1 := rfl
theorem t_2 : Int32.toNatClampNeg 2 = 2 := rfl
theorem t_3 : Int32.toNatClampNeg 3 = 3 := rfl
theorem i_pm (a x : Int64) : a - x + x = a := by grind
theorem i_mp (a x : Int64) : a + x - x = a := by grind
-- what stays the same: the counts, the water's sum
def kzK : List Nat := [0, 1, 8, 13, 17, 23, 32, 60]
def kz (F : jF) (G : jG) (F1 : jF) (G1 : jG) : Prop := ag kzK F F1 ∧ bal G1 = bal G ∧ G1 15 = G 15
theorem kz_rf (F : jF) (G : jG) : kz F G F G := ⟨ag_rf _ _, rfl, rfl⟩
theorem kz_tr {F F1 F2 : jF} {G G1 G2 : jG} (h : kz F G F1 G1) (h2 : kz F1 G1 F2 G2) : kz F G F2 G2 := ⟨ag_tr h.1 h2.1, h2.2.1.trans h.2.1, h2.2.2.trans h.2.2⟩
theorem kz_u {F F1 : jF} {G G1 : jG} (h : kz F G F1 G1) {k : Nat} (hk : k ∉ kzK) (i : Nat) (v : Int32) : kz F G (u2 F1 k i v) G1 := ⟨ag_tr h.1 (ag_off F1 hk i v), h.2⟩
theorem kz_g {F F1 : jF} {G G1 : jG} (h : kz F G F1 G1) {k : Nat} (h1 : k ≠ 14) (h2 : k ≠ 56) (h3 : k ≠ 15) (i : Nat) (v : Int64) : kz F G F1 (u2 G1 k i v) := ⟨h.1, (b_o G1 h1 h2 i v).trans h.2.1, (u2_other G1 (fun e => h3 e.symm) i v).trans h.2.2⟩
theorem kz_b {F F1 : jF} {G G1 G2 : jG} (h : kz F G F1 G1) (h2 : bal G2 = bal G1) (h3 : G2 15 = G1 15) : kz F G F1 G2 := ⟨h.1, h2.trans h.2.1, h3.trans h.2.2⟩
theorem bal_goes {F : jF} {G : jG} {p q : Int32} {x : Int64} (h : okX12_goes F G p q x) : bal (gX12_goes F G p q x).2 = bal G := by
  unfold okX12_goes at h
  unfold gX12_goes
  simp only [bvd, t_2, t_3] at h ⊢
  by_cases c1 : 20 ≤ p
  · have h := h.1 c1
    rw [if_pos c1]
    by_cases c2 : 20 ≤ q
    · rw [if_pos c2, b56_3, b56_2, i_pm]
    · rw [if_neg c2, b14p _ (vin8 (h.2 c2).1), b56_2, i_pm]
  · have h := h.2 c1
    rw [if_neg c1]
    by_cases c2 : 20 ≤ q
    · rw [if_pos c2, b56_3, b14m _ (vin8 h.1), i_pm]
    · rw [if_neg c2, b14p _ (vin8 (h.2.2.2 c2).1), b14m _ (vin8 h.1), i_pm]
theorem goes_15 (F : jF) (G : jG) (p q : Int32) (x : Int64) : (gX12_goes F G p q x).2 15 = G 15 := by
  unfold gX12_goes
  simp only [bvd]
  split
  · split
    · dsimp only; rw [u2_other _ (by decide : 15 ≠ 56), u2_other _ (by decide : 15 ≠ 56)]
    · dsimp only; rw [u2_other _ (by decide : 15 ≠ 14), u2_other _ (by decide : 15 ≠ 56)]
  · split
    · dsimp only; rw [u2_other _ (by decide : 15 ≠ 56), u2_other _ (by decide : 15 ≠ 14)]
    · dsimp only; rw [u2_other _ (by decide : 15 ≠ 14), u2_other _ (by decide : 15 ≠ 14)]
-- step by step through both, the lets shut
theorem bv_b {α β : Type} {e : α} {o : α → Prop} {k : α → β} {P : β → Prop} (h : bv e o) (hk : ∀ y, o y → P (k y)) : P (bv e k) := hk e h
theorem bv_g {α β : Type} {e : α} {k : α → β} {P : β → Prop} (hk : ∀ y, y = e → P (k y)) : P (bv e k) := hk e rfl
theorem br_b {α β : Type} {x : α × jS} {o : α → jF → jG → Prop} {k : α → jF → jG → β} {P : β → Prop} (h : br x o) (hk : ∀ y F G, x = (y, (F, G)) → o y F G → P (k y F G)) : P (br x k) := hk x.1 x.2.1 x.2.2 rfl h
theorem br_g {α β : Type} {x : α × jS} {k : α → jF → jG → β} {P : β → Prop} (hk : ∀ y F G, x = (y, (F, G)) → P (k y F G)) : P (br x k) := hk x.1 x.2.1 x.2.2 rfl
theorem bs_b {β : Type} {x : jS} {o : jF → jG → Prop} {k : jF → jG → β} {P : β → Prop} (h : bs x o) (hk : ∀ F G, x = (F, G) → o F G → P (k F G)) : P (bs x k) := hk x.1 x.2 rfl h
theorem bs_g {β : Type} {x : jS} {k : jF → jG → β} {P : β → Prop} (hk : ∀ F G, x = (F, G) → P (k F G)) : P (bs x k) := hk x.1 x.2 rfl
theorem it_b {c : Prop} [Decidable c] {β : Type} {a b : β} {P : β → Prop} (h1 : c → P a) (h2 : ¬ c → P b) : P (if c then a else b) := by
  by_cases h : c
  · rw [if_pos h]; exact h1 h
  · rw [if_neg h]; exact h2 h
def kzS (F : jF) (G : jG) (S : jS) : Prop := kz F G S.1 S.2
def kzT {α : Type} (F : jF) (G : jG) (S : α × jS) : Prop := kz F G S.2.1 S.2.2
theorem kzS_rf (F : jF) (G : jG) : kzS F G (F, G) := kz_rf F G
theorem kzS_of {F F1 : jF} {G G1 : jG} {S : jS} (h : kzS F G S) (e : S = (F1, G1)) : kz F G F1 G1 := by subst e; exact h
theorem kzT_of {α : Type} {F F1 : jF} {G G1 : jG} {S : α × jS} {y : α} (h : kzT F G S) (e : S = (y, (F1, G1))) : kz F G F1 G1 := by subst e; exact h
theorem kz_goes {F : jF} {G : jG} {p q : Int32} {x : Int64} (h : okX12_goes F G p q x) : kzS F G (gX12_goes F G p q x) := ⟨by rw [goes_F]; exact ag_rf _ _, bal_goes h, goes_15 F G p q x⟩
theorem kz_flows {F : jF} {G : jG} {p q : Int32} {x : Int64} (h : okX12_flows F G p q x) : kzT F G (gX12_flows F G p q x) := by
  unfold okX12_flows at h
  unfold gX12_flows
  refine bv_b h.2 (fun x2 h => ?_)
  refine bv_b h.2 (fun x4 h => ?_)
  refine bv_b h (fun v6 h => ?_)
  refine bv_b h (fun v8 h => ?_)
  refine bv_b h (fun v10 h => ?_)
  refine bv_b h.2 (fun x12 h => ?_)
  refine bv_b h (fun v14 h => ?_)
  exact bs_g (fun F1 G1 e => kzS_of (kz_goes h) e)
theorem kz_fo {F : jF} {G : jG} {p : Int32} (h : okX12_flowsOver F G p) : kzT F G (gX12_flowsOver F G p) := by
  unfold okX12_flowsOver at h
  unfold gX12_flowsOver
  refine bv_b h.2 (fun x2 h => ?_)
  refine bv_b h.2 (fun x4 h => ?_)
  refine bv_b h.2 (fun x6 h => ?_)
  refine bv_b h.2 (fun x8 h => ?_)
  refine bv_b h (fun v10 h => ?_)
  refine bv_b h.2 (fun x12 h => ?_)
  refine bv_b h.2 (fun x14 h => ?_)
  refine it_b (fun c => ?_) (fun c => kz_rf _ _)
  refine bv_b (h.1 c).2 (fun v18 h => ?_)
  refine bv_b h (fun v20 h => ?_)
  exact br_g (fun y F1 G1 e => kzT_of (kz_flows h) e)
theorem kz_pumps {F : jF} {G : jG} {p : Int32} (h : okX12_pumps F G p) : kzS F G (gX12_pumps F G p) := by
  unfold okX12_pumps at h
  unfold gX12_pumps
  refine bv_b h.2.2 (fun v8 h => ?_)
  refine bv_b h.2.2 (fun v14 h => ?_)
  refine it_b (fun c => kz_rf _ _) (fun c1 => ?_)
  refine it_b (fun c => kz_rf _ _) (fun c2 => ?_)
  have h := (h.2 c1).2 c2
  refine bv_b h.2.2 (fun x19 h => ?_)
  refine bv_b h.2.2 (fun x22 h => ?_)
  refine it_b (fun c => kz_rf _ _) (fun c3 => ?_)
  have h := h.2.2 c3
  refine bv_b h.2.2.2.2 (fun v30 h => ?_)
  refine bs_g (fun F1 G1 e => ?_)
  have h9 := kzS_of (kz_goes h.1) e
  refine bv_g (fun F2 e2 => ?_)
  refine bv_g (fun F3 e3 => ?_)
  subst e2; subst e3
  exact kz_u (kz_u h9 (by decide) _ _) (by decide) _ _
theorem kz_holds {F : jF} {G : jG} {p : Int32} (h : okX12_holds F G p) : kzS F G (gX12_holds F G p) := by
  unfold okX12_holds at h
  unfold gX12_holds
  have h := h.2
  refine it_b (fun c1 => ?_) (fun c1 => ?_)
  · have h := h.1 c1
    refine bv_b h.2.2 (fun x5 h => ?_)
    refine bv_b h.2.2 (fun x8 h => ?_)
    refine bv_b h (fun x9 h => ?_)
    refine bv_b h (fun v11 h => ?_)
    have h := h.2.2.2
    have k1 := kz_flows h.1
    refine br_b h.2 (fun y F1 G1 e h => ?_)
    have k1 := kzT_of k1 e
    have k2 := kz_fo h.1
    refine br_g (fun y2 F2 G2 e => ?_)
    have k2 := kzT_of k2 e
    refine bv_g (fun v27 _ => ?_)
    refine bv_g (fun v29 _ => ?_)
    refine bv_g (fun x30 _ => ?_)
    refine bv_g (fun v32 _ => ?_)
    refine bv_g (fun F3 e3 => ?_)
    refine bv_g (fun v39 _ => ?_)
    refine bv_g (fun F4 e4 => ?_)
    subst e3; subst e4
    exact kz_u (kz_u (kz_tr k1 k2) (by decide) _ _) (by decide) _ _
  · have h := h.2 c1
    have k1 := kz_flows h.2.2.2.1
    refine br_g (fun y F1 G1 e => ?_)
    have k1 := kzT_of k1 e
    refine bv_g (fun v54 _ => ?_)
    refine bv_g (fun F4 e4 => ?_)
    subst e4
    exact kz_u k1 (by decide) _ _
