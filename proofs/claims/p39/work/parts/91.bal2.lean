-- the loops keep it
theorem bv_be {α β : Type} {e : α} {o : α → Prop} {k : α → β} {P : β → Prop} (h : bv e o) (hk : ∀ y, y = e → o y → P (k y)) : P (bv e k) := hk e rfl h
section LZ
variable {β : Type} {P : β → Prop} {F0 : jF} {G0 : jG}
theorem lz_rains {o : Int32 → jF → jG → Prop} {K : Int32 → jF → jG → jS} {P : jS → Prop} (hK : ∀ v F1 G1, kz F0 G0 F1 G1 → o v F1 G1 → P (K v F1 G1)) : ∀ n v F G, kz F0 G0 F G → okX12_rains_L2 o n v F G → P (gX12_rains_L2 K n v F G) := by
  intro n
  induction n with
  | zero => intro v F G _ h; rw [okX12_rains_L2] at h; exact h.elim
  | succ n ih =>
    intro v F G hz h
    rw [okX12_rains_L2] at h
    rw [gX12_rains_L2]
    refine it_b (fun c => hK _ _ _ hz (h.1 c)) (fun c => ?_)
    have h := (h.2 c).2.2
    refine bv_b h (fun x4 h => ?_)
    refine it_b (fun c2 => ih _ _ _ hz (h.1 c2)) (fun c2 => ?_)
    have h := h.2 c2
    have i8 := vin8 h.2.1
    refine bv_be h.2.2.2.2 (fun G1 e1 h => ?_)
    refine bv_be h.2 (fun G2 e2 h => ?_)
    refine ih _ _ _ (kz_b hz ?_) h
    rw [e2, t_1, b56_1, e1, b14p _ i8, i_mp]
theorem kz_rains {F : jF} {G : jG} (h : okX12_rains F G) : kzS F G (gX12_rains F G) := by
  unfold okX12_rains at h
  unfold gX12_rains
  refine lz_rains (P := kzS F G) (F0 := F) (G0 := G) (fun v F9 G9 hz _ => ?_) 80 0 F G (kz_rf _ _) h
  exact hz
theorem lz_harms {o : Int32 → jF → jG → Prop} {K : Int32 → jF → jG → jS} {P : jS → Prop} (hK : ∀ v F1 G1, kz F0 G0 F1 G1 → o v F1 G1 → P (K v F1 G1)) : ∀ n v F G, kz F0 G0 F G → okX12_harms_L2 o n v F G → P (gX12_harms_L2 K n v F G) := by
  intro n
  induction n with
  | zero => intro v F G _ h; rw [okX12_harms_L2] at h; exact h.elim
  | succ n ih =>
    intro v F G hz h
    rw [okX12_harms_L2] at h
    rw [gX12_harms_L2]
    refine it_b (fun c => hK _ _ _ hz (h.1 c)) (fun c => ?_)
    have h := h.2 c
    refine bv_b h.2 (fun x3 h => ?_)
    refine bv_b h.2 (fun x5 h => ?_)
    refine bv_b h (fun x6 h => ?_)
    refine it_b (fun c2 => ih _ _ _ hz (h.2.1 c2)) (fun c2 => ?_)
    refine it_b (fun c3 => ih _ _ _ hz ((h.2.2 c2).1 c3)) (fun c3 => ?_)
    have h := ((h.2.2 c2).2 c3).2.2
    refine bv_b h (fun v13 h => ?_)
    refine bv_be h.2 (fun G2 e2 h => ?_)
    refine ih _ _ _ ?_ h
    rw [e2]
    exact kz_g hz (by decide) (by decide) _ _
theorem kz_harms {F : jF} {G : jG} (h : okX12_harms F G) : kzS F G (gX12_harms F G) := by
  unfold okX12_harms at h
  unfold gX12_harms
  refine lz_harms (P := kzS F G) (F0 := F) (G0 := G) (fun v F9 G9 hz _ => ?_) 80 0 F G (kz_rf _ _) h
  exact hz
theorem lz_m2 {f1 : Int32} {o : Int32 → jF → jG → Prop} {K : Int32 → jF → jG → jS} {P : jS → Prop} (hK : ∀ v F1 G1, kz F0 G0 F1 G1 → o v F1 G1 → P (K v F1 G1)) : ∀ n v F G, kz F0 G0 F G → okX12_measures_L2 f1 o n v F G → P (gX12_measures_L2 f1 K n v F G) := by
  intro n
  induction n with
  | zero => intro v F G _ h; rw [okX12_measures_L2] at h; exact h.elim
  | succ n ih =>
    intro v F G hz h
    rw [okX12_measures_L2] at h
    rw [gX12_measures_L2]
    refine it_b (fun c => hK _ _ _ hz (h.1 c)) (fun c => ?_)
    refine bv_b (h.2 c) (fun v3 h => ?_)
    refine bv_be h.2 (fun F5 e h => ?_)
    refine ih _ _ _ ?_ h
    rw [e]
    exact kz_u hz (by decide) _ _
theorem lz_m52 {f3 f2 : Int32} {o : Int32 → jF → jG → Prop} {K : Int32 → jF → jG → jS} {P : jS → Prop} (hK : ∀ v F1 G1, kz F0 G0 F1 G1 → o v F1 G1 → P (K v F1 G1)) : ∀ n v F G, kz F0 G0 F G → okX12_measures_L52 f3 f2 o n v F G → P (gX12_measures_L52 f3 f2 K n v F G) := by
  intro n
  induction n with
  | zero => intro v F G _ h; rw [okX12_measures_L52] at h; exact h.elim
  | succ n ih =>
    intro v F G hz h
    rw [okX12_measures_L52] at h
    rw [gX12_measures_L52]
    refine it_b (fun c => hK _ _ _ hz (h.1 c)) (fun c => ?_)
    have h := (h.2 c).2.2
    refine bv_b h (fun v21 h => ?_)
    refine bv_b h.2 (fun v29 h => ?_)
    refine bv_be h.2 (fun F5 e h => ?_)
    refine ih _ _ _ ?_ h
    rw [e]
    exact kz_u hz (by decide) _ _
theorem lz_m41 {f2 : Int32} {o : Int32 → jF → jG → Prop} {K : Int32 → jF → jG → jS} {P : jS → Prop} (hK : ∀ v F1 G1, kz F0 G0 F1 G1 → o v F1 G1 → P (K v F1 G1)) : ∀ n v F G, kz F0 G0 F G → okX12_measures_L41 f2 o n v F G → P (gX12_measures_L41 f2 K n v F G) := by
  intro n
  induction n with
  | zero => intro v F G _ h; rw [okX12_measures_L41] at h; exact h.elim
  | succ n ih =>
    intro v F G hz h
    rw [okX12_measures_L41] at h
    rw [gX12_measures_L41]
    refine it_b (fun c => hK _ _ _ hz (h.1 c)) (fun c => ?_)
    exact lz_m52 (fun v1 F1 G1 hz h => ih _ _ _ hz h) 80 0 F G hz (h.2 c)
theorem lz_m33 {o : Int32 → jF → jG → Prop} {K : Int32 → jF → jG → jS} {P : jS → Prop} (hK : ∀ v F1 G1, kz F0 G0 F1 G1 → o v F1 G1 → P (K v F1 G1)) : ∀ n v F G, kz F0 G0 F G → okX12_measures_L33 o n v F G → P (gX12_measures_L33 K n v F G) := by
  intro n
  induction n with
  | zero => intro v F G _ h; rw [okX12_measures_L33] at h; exact h.elim
  | succ n ih =>
    intro v F G hz h
    rw [okX12_measures_L33] at h
    rw [gX12_measures_L33]
    refine it_b (fun c => hK _ _ _ hz (h.1 c)) (fun c => ?_)
    exact lz_m41 (fun v1 F1 G1 hz h => ih _ _ _ hz h) 80 0 F G hz (h.2 c)
theorem kz_measures {F : jF} {G : jG} {p : Int32} (h : okX12_measures F G p) : kzS F G (gX12_measures F G p) := by
  unfold okX12_measures at h
  unfold gX12_measures
  refine lz_m2 (P := kzS F G) (F0 := F) (G0 := G) (fun v F1 G1 hz h => ?_) 80 0 F G (kz_rf _ _) h
  refine lz_m33 (P := kzS F G) (F0 := F) (G0 := G) (fun v F9 G9 hz _ => ?_) 80 0 F1 G1 hz h
  exact hz
theorem kz_works {F : jF} {G : jG} {p q : Int32} : kzS F G (gX12_works F G p q) := by
  unfold gX12_works
  refine it_b (fun c => kz_rf _ _) (fun c => ?_)
  refine it_b (fun c => it_b (fun c => kz_rf _ _) (fun c => ?_)) (fun c => ?_)
  · refine bv_g (fun F1 e1 => ?_)
    subst e1
    refine it_b (fun c => ?_) (fun c => ?_)
    · refine bv_g (fun v _ => ?_)
      refine bv_g (fun F2 e2 => ?_)
      subst e2
      exact kz_u (kz_u (kz_rf _ _) (by decide) _ _) (by decide) _ _
    · refine bv_g (fun v _ => ?_)
      refine bv_g (fun F2 e2 => ?_)
      refine bv_g (fun v _ => ?_)
      refine bv_g (fun F3 e3 => ?_)
      subst e3; subst e2
      exact kz_u (kz_u (kz_u (kz_rf _ _) (by decide) _ _) (by decide) _ _) (by decide) _ _
  · refine bv_g (fun F1 e1 => ?_)
    subst e1
    refine it_b (fun c => ?_) (fun c => ?_)
    · refine bv_g (fun v _ => ?_)
      refine bv_g (fun F2 e2 => ?_)
      subst e2
      exact kz_u (kz_u (kz_rf _ _) (by decide) _ _) (by decide) _ _
    · refine bv_g (fun v _ => ?_)
      refine bv_g (fun F2 e2 => ?_)
      refine bv_g (fun v _ => ?_)
      refine bv_g (fun F3 e3 => ?_)
      subst e3; subst e2
      exact kz_u (kz_u (kz_u (kz_rf _ _) (by decide) _ _) (by decide) _ _) (by decide) _ _
theorem lz_c80 {f4 f1 : Int32} {o : Int32 → jF → jG → Prop} {K : Int32 → jF → jG → jS} {P : jS → Prop} (hK : ∀ v F1 G1, kz F0 G0 F1 G1 → o v F1 G1 → P (K v F1 G1)) : ∀ n v F G, kz F0 G0 F G → okX12_crews_L80 f4 f1 o n v F G → P (gX12_crews_L80 f4 f1 K n v F G) := by
  intro n
  induction n with
  | zero => intro v F G _ h; rw [okX12_crews_L80] at h; exact h.elim
  | succ n ih =>
    intro v F G hz h
    rw [okX12_crews_L80] at h
    rw [gX12_crews_L80]
    refine it_b (fun c => hK _ _ _ hz (h.1 c)) (fun c => ?_)
    have h := (h.2 c).2
    refine it_b (fun c2 => hK _ _ _ hz (h.1 c2)) (fun c2 => ?_)
    have h := (h.2 c2).2.2
    refine bv_b h (fun v32 h => ?_)
    refine bv_b h.2 (fun v35 h => ?_)
    refine bv_be h.2 (fun F5 e h => ?_)
    refine ih _ _ _ ?_ h
    rw [e]
    exact kz_u hz (by decide) _ _
theorem kz_crews {F : jF} {G : jG} {p : Int32} (h : okX12_crews F G p) : kzS F G (gX12_crews F G p) := by
  unfold okX12_crews at h
  unfold gX12_crews
  refine bv_b h.2 (fun x2 h => ?_)
  refine it_b (fun c => kz_rf _ _) (fun c => ?_)
  have h := (h.2 c).2.2
  refine bv_b h (fun v8 h => ?_)
  refine it_b (fun c1 => ?_) (fun c1 => ?_)
  · exact bs_g (fun F1 G1 e => kzS_of kz_works e)
  · have h := h.2.2 c1
    refine bs_b h.2 (fun F1 G1 e h9 => ?_)
    have k1 := kzS_of (kz_measures h.1) e
    refine bv_b h9.2 (fun x16 h => ?_)
    refine bv_b h (fun x17 h => ?_)
    refine lz_c80 (P := kzS F G) (F0 := F) (G0 := G) (fun v F9 G9 hz _ => ?_) 80 _ F1 G1 k1 h
    exact hz
theorem lz_g6 {o : Int32 → jF → jG → Prop} {K : Int32 → jF → jG → jS} {P : jS → Prop} (hK : ∀ v F1 G1, kz F0 G0 F1 G1 → o v F1 G1 → P (K v F1 G1)) : ∀ n v F G, kz F0 G0 F G → okX12_goesOn_L6 o n v F G → P (gX12_goesOn_L6 K n v F G) := by
  intro n
  induction n with
  | zero => intro v F G _ h; rw [okX12_goesOn_L6] at h; exact h.elim
  | succ n ih =>
    intro v F G hz h
    rw [okX12_goesOn_L6] at h
    rw [gX12_goesOn_L6]
    refine it_b (fun c => hK _ _ _ hz (h.1 c)) (fun c => ?_)
    have h := (h.2 c).2
    refine bv_b h (fun x7 h => ?_)
    refine bv_b h.2 (fun v10 h => ?_)
    refine bv_be h.2 (fun F12 e12 h => ?_)
    have hz : kz F0 G0 F12 G := by rw [e12]; exact kz_u hz (by decide) _ _
    refine it_b (fun c2 => ?_) (fun c2 => ih _ _ _ hz (h.2.2 c2))
    have h := (h.2.1 c2).2.2.2
    have k1 := kz_flows h.1
    refine br_b h.2 (fun y F1 G1 e h => ?_)
    exact ih _ _ _ (kz_tr hz (kzT_of k1 e)) h
theorem lz_g80 {o : Int32 → jF → jG → Prop} {K : Int32 → jF → jG → jS} {P : jS → Prop} (hK : ∀ v F1 G1, kz F0 G0 F1 G1 → o v F1 G1 → P (K v F1 G1)) : ∀ n v F G, kz F0 G0 F G → okX12_goesOn_L80 o n v F G → P (gX12_goesOn_L80 K n v F G) := by
  intro n
  induction n with
  | zero => intro v F G _ h; rw [okX12_goesOn_L80] at h; exact h.elim
  | succ n ih =>
    intro v F G hz h
    rw [okX12_goesOn_L80] at h
    rw [gX12_goesOn_L80]
    refine it_b (fun c => hK _ _ _ hz (h.1 c)) (fun c => ?_)
    have h := h.2 c
    have k1 := kz_pumps h.1
    exact bs_b h.2 (fun F1 G1 e h => ih _ _ _ (kz_tr hz (kzS_of k1 e)) h)
theorem lz_g101 {o : Int32 → jF → jG → Prop} {K : Int32 → jF → jG → jS} {P : jS → Prop} (hK : ∀ v F1 G1, kz F0 G0 F1 G1 → o v F1 G1 → P (K v F1 G1)) : ∀ n v F G, kz F0 G0 F G → okX12_goesOn_L101 o n v F G → P (gX12_goesOn_L101 K n v F G) := by
  intro n
  induction n with
  | zero => intro v F G _ h; rw [okX12_goesOn_L101] at h; exact h.elim
  | succ n ih =>
    intro v F G hz h
    rw [okX12_goesOn_L101] at h
    rw [gX12_goesOn_L101]
    refine it_b (fun c => hK _ _ _ hz (h.1 c)) (fun c => ?_)
    have h := h.2 c
    have k1 := kz_holds h.1
    exact bs_b h.2 (fun F1 G1 e h => ih _ _ _ (kz_tr hz (kzS_of k1 e)) h)
theorem lz_g126 {o : Int32 → jF → jG → Prop} {K : Int32 → jF → jG → jS} {P : jS → Prop} (hK : ∀ v F1 G1, kz F0 G0 F1 G1 → o v F1 G1 → P (K v F1 G1)) : ∀ n v F G, kz F0 G0 F G → okX12_goesOn_L126 o n v F G → P (gX12_goesOn_L126 K n v F G) := by
  intro n
  induction n with
  | zero => intro v F G _ h; rw [okX12_goesOn_L126] at h; exact h.elim
  | succ n ih =>
    intro v F G hz h
    rw [okX12_goesOn_L126] at h
    rw [gX12_goesOn_L126]
    refine it_b (fun c => hK _ _ _ hz (h.1 c)) (fun c => ?_)
    have h := h.2 c
    have k1 := kz_crews h.1
    exact bs_b h.2 (fun F1 G1 e h => ih _ _ _ (kz_tr hz (kzS_of k1 e)) h)
end LZ
/-- n hours later -/
def kzN (n : Nat) (F : jF) (G : jG) (F1 : jF) (G1 : jG) : Prop := ag [1, 8, 17, 23, 32, 60] F F1 ∧ F1 0 0 = F 0 0 + nI n ∧ bal G1 = bal G
theorem kz_hour {F : jF} {G : jG} (h : okX12_goesOn F G) : kzN 1 F G (gX12_goesOn F G).1 (gX12_goesOn F G).2 := by
  unfold okX12_goesOn at h
  unfold gX12_goesOn
  have k0 := kz_rains h.1
  refine bs_b (P := fun S : jS => kzN 1 F G S.1 S.2) h.2 (fun F2 G2 e h => ?_)
  have k0 := kzS_of k0 e
  refine lz_g6 (P := fun S : jS => kzN 1 F G S.1 S.2) (fun v F3 G3 k0 h => ?_) 80 0 F2 G2 k0 h
  refine lz_g80 (P := fun S : jS => kzN 1 F G S.1 S.2) (fun v F4 G4 k0 h => ?_) 80 0 F3 G3 k0 h
  refine lz_g101 (P := fun S : jS => kzN 1 F G S.1 S.2) (fun v F5 G5 k0 h => ?_) 80 0 F4 G4 k0 h
  have k1 := kz_harms h.1
  refine bs_b (P := fun S : jS => kzN 1 F G S.1 S.2) h.2 (fun F6 G6 e h => ?_)
  have k0 := kz_tr k0 (kzS_of k1 e)
  refine lz_g126 (P := fun S : jS => kzN 1 F G S.1 S.2) (fun v F7 G7 k0 h => ?_) 80 0 F6 G6 k0 h
  refine bv_g (P := fun S : jS => kzN 1 F G S.1 S.2) (fun x56 _ => ?_)
  refine bv_g (P := fun S : jS => kzN 1 F G S.1 S.2) (fun v60 _ => ?_)
  refine bv_g (P := fun S : jS => kzN 1 F G S.1 S.2) (fun G8 e8 => ?_)
  refine bv_g (P := fun S : jS => kzN 1 F G S.1 S.2) (fun F8 e9 => ?_)
  subst e8; subst e9
  refine ⟨fun k hk => ?_, ?_, ?_⟩
  · show u2 F7 0 0 (F7 0 0 + 1) k = F k
    rw [u2_other F7 (show k ≠ 0 from fun e => by rw [e] at hk; revert hk; decide)]
    exact k0.1 k (by revert hk; unfold kzK; simp; omega)
  · show u2 F7 0 0 (F7 0 0 + 1) 0 0 = F 0 0 + nI 1
    rw [u2_at, k0.1.at 0 (by decide)]
    rfl
  · show bal (u2 G7 58 0 v60) = bal G
    rw [b_o G7 (by decide) (by decide)]
    exact k0.2
theorem kz_runL {p : Nat} (hp : p ≤ 50) {F0 : jF} {G0 : jG} {o : Int32 → jF → jG → Prop} {K : Int32 → jF → jG → Int32 × jS} {P : Int32 × jS → Prop} (h60 : F0 60 0 = 0) (hK : ∀ v F1 G1, kzN p F0 G0 F1 G1 → P (K v F1 G1)) : ∀ n (i : Nat) F G, i ≤ p → kzN i F0 G0 F G → okX12_run_L37 (nI p) o n (nI i) F G → P (gX12_run_L37 (nI p) K n (nI i) F G) := by
  intro n
  induction n with
  | zero => intro i F G _ _ h; rw [okX12_run_L37] at h; exact h.elim
  | succ n ih =>
    intro i F G hi hz h
    rw [okX12_run_L37] at h
    rw [gX12_run_L37]
    refine it_b (fun c => ?_) (fun c => ?_)
    · rw [i32le, nI_toInt (by omega), nI_toInt (by omega)] at c
      have e : i = p := by omega
      subst e
      exact hK _ _ _ hz
    · have h := h.2 c
      have c2 : F 60 0 = 0 := by rw [hz.1 60 (by decide)]; exact h60
      rw [if_pos c2]
      rw [i32le, nI_toInt (by omega), nI_toInt (by omega)] at c
      have h := h.1 c2
      have k1 := kz_hour h.1
      refine bs_b h.2 (fun F1 G1 e h => ?_)
      have k1 : kzN 1 F G F1 G1 := by rw [e] at k1; exact k1
      have e1 : (nI i + 1 : Int32) = nI (i + 1) := nI_add i 1
      rw [e1] at h ⊢
      refine ih (i + 1) F1 G1 (by omega) ⟨ag_tr hz.1 k1.1, ?_, k1.2.2.trans hz.2.2⟩ h
      rw [k1.2.1, hz.2.1, Int32.add_assoc, nI_add]
/-- the run of some hours -/
theorem rf_run {F : jF} {G : jG} {p : Nat} (hp : p ≤ 50) (hp1 : 1 ≤ p) (hh : F 0 0 + nI p ≤ 9999) (h : okX12_run F G (nI p)) : ∃ F1 G1, gX12_run F G (nI p) = (F 0 0 + nI p, (F1, G1)) ∧ F1 60 0 = 0 ∧ ag [1, 8, 17, 23, 32] F F1 ∧ F1 0 0 = F 0 0 + nI p ∧ bal G1 = bal G := by
  have e1 : gX12_in (nI p) 1 50 = 1 := by
    unfold gX12_in
    rw [if_neg (by rw [i32lt, nI_toInt (by omega), show (1 : Int32).toInt = 1 from rfl]; omega), if_neg (by rw [i32lt, nI_toInt (by omega), show (50 : Int32).toInt = 50 from rfl]; omega)]
  unfold okX12_run at h
  unfold gX12_run
  rw [bvd, e1, if_neg (by decide), if_pos hh, bvd, bvd] at h
  rw [bvd, e1, if_neg (by decide), if_pos hh, bvd, bvd]
  have k := kz_runL hp (F0 := u2 F 60 0 0) (G0 := G) (K := fun (y13 : Int32) (F14 : jF) (G15 : jG) => bv ((if (F14 60 0) = 0 then (F14 0 0) else 0) : Int32) (fun v17 : Int32 => (v17, (F14, G15)))) (P := fun S : Int32 × jS => S.1 = S.2.1 0 0 ∧ kzN p (u2 F 60 0 0) G S.2.1 S.2.2) (u2_at _ _ _ _) (fun v F1 G1 hz => by
    have c : F1 60 0 = 0 := by rw [hz.1 60 (by decide)]; exact u2_at _ _ _ _
    rw [if_pos c, bvd]
    exact ⟨rfl, hz⟩) 80 0 (u2 F 60 0 0) G (by omega) ⟨ag_rf _ _, (Int32.add_zero _).symm, rfl⟩ h
  obtain ⟨k1, k2, k3, k4⟩ := k
  refine ⟨_, _, Prod.ext ?_ rfl, ?_, fun i hi => ?_, ?_, k4⟩
  · refine k1.trans (k3.trans ?_)
    rw [u2_other F (by decide : 0 ≠ 60)]
  · exact (congrFun (k2 60 (by decide)) 0).trans (u2_at _ _ _ _)
  · exact (k2 i (by revert hi; simp; omega)).trans (u2_other F (fun e => by rw [e] at hi; revert hi; decide) 0 0)
  · refine k3.trans ?_
    rw [u2_other F (by decide : 0 ≠ 60)]
