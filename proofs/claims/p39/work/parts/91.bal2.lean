-- the loops keep it
theorem bv_be {α β : Type} {e : α} {o : α → Prop} {k : α → β} {P : β → Prop} (h : bv e o) (hk : ∀ y, y = e → o y → P (k y)) : P (bv e k) := hk e rfl h
section LZ
variable {β : Type} {P : β → Prop} {F0 : jF} {G0 : jG}
theorem lz_rains {o : Int32 → jF → jG → Prop} {K : Int32 → jF → jG → jS} {P : jS → Prop} (hK : ∀ v F1 G1, kz F0 G0 F1 G1 → o v F1 G1 → P (K v F1 G1)) : ∀ n v F G, kz F0 G0 F G → okX12_rains_L2 o n v F G → P (gX12_rains_L2 K n v F G) := by
  intro n
  induction n with
  | zero => intro v F G _ h; rw [okX12_rains_L2] at h; exact h.elim
  | succ n ih =>
    intro v F G hz h
    rw [okX12_rains_L2] at h
    rw [gX12_rains_L2]
    refine it_b (fun c => hK _ _ _ hz (h.1 c)) (fun c => ?_)
    have h := (h.2 c).2.2
    refine bv_b h (fun x4 h => ?_)
    refine it_b (fun c2 => ih _ _ _ hz (h.1 c2)) (fun c2 => ?_)
    have h := h.2 c2
    have i8 := vin8 h.2.1
    refine bv_be h.2.2.2.2 (fun G1 e1 h => ?_)
    refine bv_be h.2 (fun G2 e2 h => ?_)
    refine ih _ _ _ (kz_b hz ?_ ?_) h
    · rw [e2, t_1, b56_1, e1, b14p _ i8, i_mp]
    · rw [e2, u2_other _ (by decide : 15 ≠ 56), e1, u2_other _ (by decide : 15 ≠ 14)]
theorem kz_rains {F : jF} {G : jG} (h : okX12_rains F G) : kzS F G (gX12_rains F G) := by
  unfold okX12_rains at h
  unfold gX12_rains
  refine lz_rains (P := kzS F G) (F0 := F) (G0 := G) (fun v F9 G9 hz _ => ?_) 80 0 F G (kz_rf _ _) h
  exact hz
/-- harms so great at most -/
def hb (B : Int) (G : jG) : Prop := ∀ k, 0 ≤ (G 15 k).toInt ∧ (G 15 k).toInt ≤ B
def wo (F : jF) : Prop := ∀ k, 0 ≤ (F 13 k).toInt ∧ (F 13 k).toInt ≤ 99
theorem hb_mono {B B1 : Int} {G : jG} (h : hb B G) (h1 : B ≤ B1) : hb B1 G := fun k => ⟨(h k).1, by have := (h k).2; omega⟩
/-- the counts and the water's sum, the harms left out -/
def kh (F : jF) (G : jG) (F1 : jF) (G1 : jG) : Prop := ag kzK F F1 ∧ bal G1 = bal G
theorem hm_a {w : Int32} {x : Int64} (hw0 : 0 ≤ w.toInt) (hw : w.toInt ≤ 99) (hx : ¬ x ≤ 0) : 0 ≤ (w.toInt64 * ((if (9 : Int64) ≤ x / 50 then 9 else x / 50) + 1)).toInt ∧ (w.toInt64 * ((if (9 : Int64) ≤ x / 50 then 9 else x / 50) + 1)).toInt ≤ 990 := by
  have z0 : (0 : Int64).toInt = 0 := rfl
  have z1 : (1 : Int64).toInt = 1 := rfl
  have z9 : (9 : Int64).toInt = 9 := rfl
  have z50 : (50 : Int64).toInt = 50 := rfl
  rw [i64le, z0] at hx
  have hd := @i64d x 50 (by omega) (by rw [z50]; omega)
  rw [z50] at hd
  obtain ⟨v, hv⟩ : ∃ v : Int64, v = (if (9 : Int64) ≤ x / 50 then 9 else x / 50) := ⟨_, rfl⟩
  have hvb : 0 ≤ v.toInt ∧ v.toInt ≤ 9 := by
    rw [hv]
    by_cases c : (9 : Int64) ≤ x / 50
    · rw [if_pos c, z9]; omega
    · rw [if_neg c]
      rw [i64le, z9, hd] at c
      rw [hd]
      omega
  rw [← hv]
  have e1 : (v + 1).toInt = v.toInt + 1 := by rw [i64a (by rw [z1]; omega) (by rw [z1]; omega), z1]
  have hp : 0 ≤ w.toInt * (v.toInt + 1) := Int.mul_nonneg hw0 (by omega)
  have hq : w.toInt * (v.toInt + 1) ≤ 99 * 10 := Int.mul_le_mul hw (by omega) (by omega) (by omega)
  have e2 : (w.toInt64 * (v + 1)).toInt = w.toInt * (v.toInt + 1) := by rw [i64m (by rw [i3264, e1]; omega) (by rw [i3264, e1]; omega), i3264, e1]
  rw [e2]
  omega
theorem lz_harms {B : Int} (hB : B ≤ 1000000000000000) {o : Int32 → jF → jG → Prop} {K : Int32 → jF → jG → jS} {P : jS → Prop} (hK : ∀ v F1 G1, kh F0 G0 F1 G1 → hb B G1 → o v F1 G1 → P (K v F1 G1)) (hw : wo F0) : ∀ (n : Nat) v F G, kh F0 G0 F G → hb (B - 990 * (n : Int)) G → okX12_harms_L2 o n v F G → P (gX12_harms_L2 K n v F G) := by
  intro n
  induction n with
  | zero => intro v F G _ _ h; rw [okX12_harms_L2] at h; exact h.elim
  | succ n ih =>
    intro v F G hz hh h
    have hh1 : hb (B - 990 * (n : Int)) G := hb_mono hh (by omega)
    rw [okX12_harms_L2] at h
    rw [gX12_harms_L2]
    refine it_b (fun c => hK _ _ _ hz (hb_mono hh (by omega)) (h.1 c)) (fun c => ?_)
    have h := h.2 c
    refine bv_b h.2 (fun x3 h => ?_)
    refine bv_b h.2 (fun x5 h => ?_)
    refine bv_b h (fun x6 h => ?_)
    refine it_b (fun c2 => ih _ _ _ hz hh1 (h.2.1 c2)) (fun c2 => ?_)
    refine it_b (fun c3 => ih _ _ _ hz hh1 ((h.2.2 c2).1 c3)) (fun c3 => ?_)
    have h := ((h.2.2 c2).2 c3).2.2
    refine bv_be h (fun v13 e13 h => ?_)
    refine bv_be h.2 (fun G2 e2 h => ?_)
    refine ih _ _ _ ?_ ?_ h
    · rw [e2]
      exact ⟨hz.1, (b_o G (by decide) (by decide) _ _).trans hz.2⟩
    · have hw := hw (Int32.toNatClampNeg v)
      rw [← hz.1.at 13 (by decide)] at hw
      have ha := hm_a hw.1 hw.2 c3
      rw [← e13] at ha
      intro k
      rw [e2, u2_same]
      have hk := hh k
      by_cases e : k = Int32.toNatClampNeg v
      · rw [if_pos e, ← e]
        rw [← e] at ha
        rw [i64a (by omega) (by omega)]
        omega
      · rw [if_neg e]; omega
theorem lz_m2 {f1 : Int32} {o : Int32 → jF → jG → Prop} {K : Int32 → jF → jG → jS} {P : jS → Prop} (hK : ∀ v F1 G1, kz F0 G0 F1 G1 → o v F1 G1 → P (K v F1 G1)) : ∀ n v F G, kz F0 G0 F G → okX12_measures_L2 f1 o n v F G → P (gX12_measures_L2 f1 K n v F G) := by
  intro n
  induction n with
  | zero => intro v F G _ h; rw [okX12_measures_L2] at h; exact h.elim
  | succ n ih =>
    intro v F G hz h
    rw [okX12_measures_L2] at h
    rw [gX12_measures_L2]
    refine it_b (fun c => hK _ _ _ hz (h.1 c)) (fun c => ?_)
    refine bv_b (h.2 c) (fun v3 h => ?_)
    refine bv_be h.2 (fun F5 e h => ?_)
    refine ih _ _ _ ?_ h
    rw [e]
    exact kz_u hz (by decide) _ _
theorem lz_m52 {f3 f2 : Int32} {o : Int32 → jF → jG → Prop} {K : Int32 → jF → jG → jS} {P : jS → Prop} (hK : ∀ v F1 G1, kz F0 G0 F1 G1 → o v F1 G1 → P (K v F1 G1)) : ∀ n v F G, kz F0 G0 F G → okX12_measures_L52 f3 f2 o n v F G → P (gX12_measures_L52 f3 f2 K n v F G) := by
  intro n
  induction n with
  | zero => intro v F G _ h; rw [okX12_measures_L52] at h; exact h.elim
  | succ n ih =>
    intro v F G hz h
    rw [okX12_measures_L52] at h
    rw [gX12_measures_L52]
    refine it_b (fun c => hK _ _ _ hz (h.1 c)) (fun c => ?_)
    have h := (h.2 c).2.2
    refine bv_b h (fun v21 h => ?_)
    refine bv_b h.2 (fun v29 h => ?_)
    refine bv_be h.2 (fun F5 e h => ?_)
    refine ih _ _ _ ?_ h
    rw [e]
    exact kz_u hz (by decide) _ _
theorem lz_m41 {f2 : Int32} {o : Int32 → jF → jG → Prop} {K : Int32 → jF → jG → jS} {P : jS → Prop} (hK : ∀ v F1 G1, kz F0 G0 F1 G1 → o v F1 G1 → P (K v F1 G1)) : ∀ n v F G, kz F0 G0 F G → okX12_measures_L41 f2 o n v F G → P (gX12_measures_L41 f2 K n v F G) := by
  intro n
  induction n with
  | zero => intro v F G _ h; rw [okX12_measures_L41] at h; exact h.elim
  | succ n ih =>
    intro v F G hz h
    rw [okX12_measures_L41] at h
    rw [gX12_measures_L41]
    refine it_b (fun c => hK _ _ _ hz (h.1 c)) (fun c => ?_)
    exact lz_m52 (fun v1 F1 G1 hz h => ih _ _ _ hz h) 80 0 F G hz (h.2 c)
theorem lz_m33 {o : Int32 → jF → jG → Prop} {K : Int32 → jF → jG → jS} {P : jS → Prop} (hK : ∀ v F1 G1, kz F0 G0 F1 G1 → o v F1 G1 → P (K v F1 G1)) : ∀ n v F G, kz F0 G0 F G → okX12_measures_L33 o n v F G → P (gX12_measures_L33 K n v F G) := by
  intro n
  induction n with
  | zero => intro v F G _ h; rw [okX12_measures_L33] at h; exact h.elim
  | succ n ih =>
    intro v F G hz h
    rw [okX12_measures_L33] at h
    rw [gX12_measures_L33]
    refine it_b (fun c => hK _ _ _ hz (h.1 c)) (fun c => ?_)
    exact lz_m41 (fun v1 F1 G1 hz h => ih _ _ _ hz h) 80 0 F G hz (h.2 c)
theorem kz_measures {F : jF} {G : jG} {p : Int32} (h : okX12_measures F G p) : kzS F G (gX12_measures F G p) := by
  unfold okX12_measures at h
  unfold gX12_measures
  refine lz_m2 (P := kzS F G) (F0 := F) (G0 := G) (fun v F1 G1 hz h => ?_) 80 0 F G (kz_rf _ _) h
  refine lz_m33 (P := kzS F G) (F0 := F) (G0 := G) (fun v F9 G9 hz _ => ?_) 80 0 F1 G1 hz h
  exact hz
theorem kz_works {F : jF} {G : jG} {p q : Int32} : kzS F G (gX12_works F G p q) := by
  unfold gX12_works
  refine it_b (fun c => kz_rf _ _) (fun c => ?_)
  refine it_b (fun c => it_b (fun c => kz_rf _ _) (fun c => ?_)) (fun c => ?_)
  · refine bv_g (fun F1 e1 => ?_)
    subst e1
    refine it_b (fun c => ?_) (fun c => ?_)
    · refine bv_g (fun v _ => ?_)
      refine bv_g (fun F2 e2 => ?_)
      subst e2
      exact kz_u (kz_u (kz_rf _ _) (by decide) _ _) (by decide) _ _
    · refine bv_g (fun v _ => ?_)
      refine bv_g (fun F2 e2 => ?_)
      refine bv_g (fun v _ => ?_)
      refine bv_g (fun F3 e3 => ?_)
      subst e3; subst e2
      exact kz_u (kz_u (kz_u (kz_rf _ _) (by decide) _ _) (by decide) _ _) (by decide) _ _
  · refine bv_g (fun F1 e1 => ?_)
    subst e1
    refine it_b (fun c => ?_) (fun c => ?_)
    · refine bv_g (fun v _ => ?_)
      refine bv_g (fun F2 e2 => ?_)
      subst e2
      exact kz_u (kz_u (kz_rf _ _) (by decide) _ _) (by decide) _ _
    · refine bv_g (fun v _ => ?_)
      refine bv_g (fun F2 e2 => ?_)
      refine bv_g (fun v _ => ?_)
      refine bv_g (fun F3 e3 => ?_)
      subst e3; subst e2
      exact kz_u (kz_u (kz_u (kz_rf _ _) (by decide) _ _) (by decide) _ _) (by decide) _ _
theorem lz_c80 {f4 f1 : Int32} {o : Int32 → jF → jG → Prop} {K : Int32 → jF → jG → jS} {P : jS → Prop} (hK : ∀ v F1 G1, kz F0 G0 F1 G1 → o v F1 G1 → P (K v F1 G1)) : ∀ n v F G, kz F0 G0 F G → okX12_crews_L80 f4 f1 o n v F G → P (gX12_crews_L80 f4 f1 K n v F G) := by
  intro n
  induction n with
  | zero => intro v F G _ h; rw [okX12_crews_L80] at h; exact h.elim
  | succ n ih =>
    intro v F G hz h
    rw [okX12_crews_L80] at h
    rw [gX12_crews_L80]
    refine it_b (fun c => hK _ _ _ hz (h.1 c)) (fun c => ?_)
    have h := (h.2 c).2
    refine it_b (fun c2 => hK _ _ _ hz (h.1 c2)) (fun c2 => ?_)
    have h := (h.2 c2).2.2
    refine bv_b h (fun v32 h => ?_)
    refine bv_b h.2 (fun v35 h => ?_)
    refine bv_be h.2 (fun F5 e h => ?_)
    refine ih _ _ _ ?_ h
    rw [e]
    exact kz_u hz (by decide) _ _
theorem kz_crews {F : jF} {G : jG} {p : Int32} (h : okX12_crews F G p) : kzS F G (gX12_crews F G p) := by
  unfold okX12_crews at h
  unfold gX12_crews
  refine bv_b h.2 (fun x2 h => ?_)
  refine it_b (fun c => kz_rf _ _) (fun c => ?_)
  have h := (h.2 c).2.2
  refine bv_b h (fun v8 h => ?_)
  refine it_b (fun c1 => ?_) (fun c1 => ?_)
  · exact bs_g (fun F1 G1 e => kzS_of kz_works e)
  · have h := h.2.2 c1
    refine bs_b h.2 (fun F1 G1 e h9 => ?_)
    have k1 := kzS_of (kz_measures h.1) e
    refine bv_b h9.2 (fun x16 h => ?_)
    refine bv_b h (fun x17 h => ?_)
    refine lz_c80 (P := kzS F G) (F0 := F) (G0 := G) (fun v F9 G9 hz _ => ?_) 80 _ F1 G1 k1 h
    exact hz
theorem lz_g6 {o : Int32 → jF → jG → Prop} {K : Int32 → jF → jG → jS} {P : jS → Prop} (hK : ∀ v F1 G1, kz F0 G0 F1 G1 → o v F1 G1 → P (K v F1 G1)) : ∀ n v F G, kz F0 G0 F G → okX12_goesOn_L6 o n v F G → P (gX12_goesOn_L6 K n v F G) := by
  intro n
  induction n with
  | zero => intro v F G _ h; rw [okX12_goesOn_L6] at h; exact h.elim
  | succ n ih =>
    intro v F G hz h
    rw [okX12_goesOn_L6] at h
    rw [gX12_goesOn_L6]
    refine it_b (fun c => hK _ _ _ hz (h.1 c)) (fun c => ?_)
    have h := (h.2 c).2
    refine bv_b h (fun x7 h => ?_)
    refine bv_b h.2 (fun v10 h => ?_)
    refine bv_be h.2 (fun F12 e12 h => ?_)
    have hz : kz F0 G0 F12 G := by rw [e12]; exact kz_u hz (by decide) _ _
    refine it_b (fun c2 => ?_) (fun c2 => ih _ _ _ hz (h.2.2 c2))
    have h := (h.2.1 c2).2.2.2
    have k1 := kz_flows h.1
    refine br_b h.2 (fun y F1 G1 e h => ?_)
    exact ih _ _ _ (kz_tr hz (kzT_of k1 e)) h
theorem lz_g80 {o : Int32 → jF → jG → Prop} {K : Int32 → jF → jG → jS} {P : jS → Prop} (hK : ∀ v F1 G1, kz F0 G0 F1 G1 → o v F1 G1 → P (K v F1 G1)) : ∀ n v F G, kz F0 G0 F G → okX12_goesOn_L80 o n v F G → P (gX12_goesOn_L80 K n v F G) := by
  intro n
  induction n with
  | zero => intro v F G _ h; rw [okX12_goesOn_L80] at h; exact h.elim
  | succ n ih =>
    intro v F G hz h
    rw [okX12_goesOn_L80] at h
    rw [gX12_goesOn_L80]
    refine it_b (fun c => hK _ _ _ hz (h.1 c)) (fun c => ?_)
    have h := h.2 c
    have k1 := kz_pumps h.1
    exact bs_b h.2 (fun F1 G1 e h => ih _ _ _ (kz_tr hz (kzS_of k1 e)) h)
theorem lz_g101 {o : Int32 → jF → jG → Prop} {K : Int32 → jF → jG → jS} {P : jS → Prop} (hK : ∀ v F1 G1, kz F0 G0 F1 G1 → o v F1 G1 → P (K v F1 G1)) : ∀ n v F G, kz F0 G0 F G → okX12_goesOn_L101 o n v F G → P (gX12_goesOn_L101 K n v F G) := by
  intro n
  induction n with
  | zero => intro v F G _ h; rw [okX12_goesOn_L101] at h; exact h.elim
  | succ n ih =>
    intro v F G hz h
    rw [okX12_goesOn_L101] at h
    rw [gX12_goesOn_L101]
    refine it_b (fun c => hK _ _ _ hz (h.1 c)) (fun c => ?_)
    have h := h.2 c
    have k1 := kz_holds h.1
    exact bs_b h.2 (fun F1 G1 e h => ih _ _ _ (kz_tr hz (kzS_of k1 e)) h)
theorem lz_g126 {o : Int32 → jF → jG → Prop} {K : Int32 → jF → jG → jS} {P : jS → Prop} (hK : ∀ v F1 G1, kz F0 G0 F1 G1 → o v F1 G1 → P (K v F1 G1)) : ∀ n v F G, kz F0 G0 F G → okX12_goesOn_L126 o n v F G → P (gX12_goesOn_L126 K n v F G) := by
  intro n
  induction n with
  | zero => intro v F G _ h; rw [okX12_goesOn_L126] at h; exact h.elim
  | succ n ih =>
    intro v F G hz h
    rw [okX12_goesOn_L126] at h
    rw [gX12_goesOn_L126]
    refine it_b (fun c => hK _ _ _ hz (h.1 c)) (fun c => ?_)
    have h := h.2 c
    have k1 := kz_crews h.1
    exact bs_b h.2 (fun F1 G1 e h => ih _ _ _ (kz_tr hz (kzS_of k1 e)) h)
end LZ
/-- n hours later -/
def kzN (B : Int) (n : Nat) (F : jF) (G : jG) (F1 : jF) (G1 : jG) : Prop := (ag [1, 8, 13, 17, 23, 32, 60] F F1 ∧ F1 0 0 = F 0 0 + nI n ∧ bal G1 = bal G) ∧ hb (B + 79200 * (n : Int)) G1
def kzH (F : jF) (G : jG) (B : Int) (S : jS) : Prop := (ag [1, 8, 13, 17, 23, 32, 60] F S.1 ∧ S.1 0 0 = F 0 0 + nI 1 ∧ bal S.2 = bal G) ∧ hb (B + 79200) S.2
theorem kz_hour {F : jF} {G : jG} {B : Int} (hB : B + 79200 ≤ 1000000000000000) (hw : wo F) (hh : hb B G) (h : okX12_goesOn F G) : kzH F G B (gX12_goesOn F G) := by
  unfold okX12_goesOn at h
  unfold gX12_goesOn
  obtain ⟨P, hP⟩ : ∃ P : jS → Prop, P = kzH F G B := ⟨_, rfl⟩
  rw [← hP]
  have k0 := kz_rains h.1
  refine bs_b (P := P) h.2 (fun F2 G2 e h => ?_)
  have k0 := kzS_of k0 e
  refine lz_g6 (P := P) (fun v F3 G3 k0 h => ?_) 80 0 F2 G2 k0 h
  refine lz_g80 (P := P) (fun v F4 G4 k0 h => ?_) 80 0 F3 G3 k0 h
  refine lz_g101 (P := P) (fun v F5 G5 k0 h => ?_) 80 0 F4 G4 k0 h
  have hh5 : hb B G5 := fun k => by rw [k0.2.2]; exact hh k
  have hw5 : wo F5 := fun k => by rw [k0.1.at 13 (by decide)]; exact hw k
  have o1 := h.1
  have k1 : (fun S : jS => kh F5 G5 S.1 S.2 ∧ hb (B + 79200) S.2) (gX12_harms F5 G5) := by
    unfold okX12_harms at o1
    unfold gX12_harms
    refine lz_harms (P := fun S : jS => kh F5 G5 S.1 S.2 ∧ hb (B + 79200) S.2) (F0 := F5) (G0 := G5) (B := B + 79200) hB (fun v F9 G9 hz h9 _ => ?_) hw5 80 0 F5 G5 ⟨ag_rf _ _, rfl⟩ (hb_mono hh5 (by omega)) o1
    exact ⟨hz, h9⟩
  refine bs_b (P := P) h.2 (fun F6 G6 e h => ?_)
  rw [e] at k1
  have k2 : ag kzK F F6 := ag_tr k0.1 k1.1.1
  have k3 : bal G6 = bal G := k1.1.2.trans k0.2.1
  have k4 : hb (B + 79200) G6 := k1.2
  refine lz_g126 (P := P) (F0 := F6) (G0 := G6) (fun v F7 G7 k0 h => ?_) 80 0 F6 G6 (kz_rf _ _) h
  refine bv_g (P := P) (fun x56 _ => ?_)
  refine bv_g (P := P) (fun v60 _ => ?_)
  refine bv_g (P := P) (fun G8 e8 => ?_)
  refine bv_g (P := P) (fun F8 e9 => ?_)
  subst e8; subst e9
  rw [hP]
  unfold kzH
  have k2 := ag_tr k2 k0.1
  refine ⟨⟨fun k hk => ?_, ?_, ?_⟩, fun k => ?_⟩
  · show u2 F7 0 0 (F7 0 0 + 1) k = F k
    rw [u2_other F7 (show k ≠ 0 from fun e => by rw [e] at hk; revert hk; decide)]
    exact k2 k (by revert hk; unfold kzK; simp; omega)
  · show u2 F7 0 0 (F7 0 0 + 1) 0 0 = F 0 0 + nI 1
    rw [u2_at, k2.at 0 (by decide)]
    rfl
  · show bal (u2 G7 58 0 v60) = bal G
    rw [b_o G7 (by decide) (by decide)]
    exact k0.2.1.trans k3
  · show 0 ≤ ((u2 G7 58 0 v60) 15 k).toInt ∧ ((u2 G7 58 0 v60) 15 k).toInt ≤ B + 79200
    rw [u2_other G7 (by decide : 15 ≠ 58), k0.2.2]
    exact k4 k
theorem kz_runL {p : Nat} (hp : p ≤ 50) {B : Int} (hB : B + 79200 * 51 ≤ 1000000000000000) {F0 : jF} {G0 : jG} (hw : wo F0) {o : Int32 → jF → jG → Prop} {K : Int32 → jF → jG → Int32 × jS} {P : Int32 × jS → Prop} (h60 : F0 60 0 = 0) (hK : ∀ v F1 G1, kzN B p F0 G0 F1 G1 → P (K v F1 G1)) : ∀ n (i : Nat) F G, i ≤ p → kzN B i F0 G0 F G → okX12_run_L37 (nI p) o n (nI i) F G → P (gX12_run_L37 (nI p) K n (nI i) F G) := by
  intro n
  induction n with
  | zero => intro i F G _ _ h; rw [okX12_run_L37] at h; exact h.elim
  | succ n ih =>
    intro i F G hi hz h
    rw [okX12_run_L37] at h
    rw [gX12_run_L37]
    refine it_b (fun c => ?_) (fun c => ?_)
    · rw [i32le, nI_toInt (by omega), nI_toInt (by omega)] at c
      have e : i = p := by omega
      subst e
      exact hK _ _ _ hz
    · have h := h.2 c
      have c2 : F 60 0 = 0 := by rw [hz.1.1 60 (by decide)]; exact h60
      rw [if_pos c2]
      rw [i32le, nI_toInt (by omega), nI_toInt (by omega)] at c
      have h := h.1 c2
      have hw1 : wo F := fun k => by rw [hz.1.1 13 (by decide)]; exact hw k
      have k1 := kz_hour (by omega) hw1 hz.2 h.1
      refine bs_b h.2 (fun F1 G1 e h => ?_)
      rw [e] at k1
      obtain ⟨⟨q1, q2, q3⟩, q4⟩ := k1
      have e1 : (nI i + 1 : Int32) = nI (i + 1) := nI_add i 1
      rw [e1] at h ⊢
      refine ih (i + 1) F1 G1 (by omega) ⟨⟨ag_tr hz.1.1 q1, ?_, q3.trans hz.1.2.2⟩, hb_mono q4 (by omega)⟩ h
      have q2 : F1 0 0 = F 0 0 + nI 1 := q2
      rw [q2, hz.1.2.1, Int32.add_assoc, nI_add]
/-- the run of some hours -/
theorem rf_run {F : jF} {G : jG} {p : Nat} (hp : p ≤ 50) (hp1 : 1 ≤ p) {B : Int} (hB : B + 79200 * 51 ≤ 1000000000000000) (hw : wo F) (hh9 : hb B G) (hh : F 0 0 + nI p ≤ 9999) (h : okX12_run F G (nI p)) : ∃ F1 G1, gX12_run F G (nI p) = (F 0 0 + nI p, (F1, G1)) ∧ F1 60 0 = 0 ∧ ag [1, 8, 13, 17, 23, 32] F F1 ∧ F1 0 0 = F 0 0 + nI p ∧ bal G1 = bal G ∧ hb (B + 79200 * (p : Int)) G1 := by
  have e1 : gX12_in (nI p) 1 50 = 1 := by
    unfold gX12_in
    rw [if_neg (by rw [i32lt, nI_toInt (by omega), show (1 : Int32).toInt = 1 from rfl]; omega), if_neg (by rw [i32lt, nI_toInt (by omega), show (50 : Int32).toInt = 50 from rfl]; omega)]
  unfold okX12_run at h
  unfold gX12_run
  rw [bvd, e1, if_neg (by decide), if_pos hh, bvd, bvd] at h
  rw [bvd, e1, if_neg (by decide), if_pos hh, bvd, bvd]
  have hw1 : wo (u2 F 60 0 0) := fun k => by rw [u2_other F (by decide : 13 ≠ 60)]; exact hw k
  have k := kz_runL hp hB (F0 := u2 F 60 0 0) (G0 := G) hw1 (K := fun (y13 : Int32) (F14 : jF) (G15 : jG) => bv ((if (F14 60 0) = 0 then (F14 0 0) else 0) : Int32) (fun v17 : Int32 => (v17, (F14, G15)))) (P := fun S : Int32 × jS => S.1 = S.2.1 0 0 ∧ kzN B p (u2 F 60 0 0) G S.2.1 S.2.2) (u2_at _ _ _ _) (fun v F1 G1 hz => by
    have c : F1 60 0 = 0 := by rw [hz.1.1 60 (by decide)]; exact u2_at _ _ _ _
    rw [if_pos c, bvd]
    exact ⟨rfl, hz⟩) 80 0 (u2 F 60 0 0) G (by omega) ⟨⟨ag_rf _ _, (Int32.add_zero _).symm, rfl⟩, hb_mono hh9 (by omega)⟩ h
  obtain ⟨k1, ⟨k2, k3, k4⟩, k5⟩ := k
  refine ⟨_, _, Prod.ext ?_ rfl, ?_, fun i hi => ?_, ?_, k4, k5⟩
  · refine k1.trans (k3.trans ?_)
    rw [u2_other F (by decide : 0 ≠ 60)]
  · exact (congrFun (k2 60 (by decide)) 0).trans (u2_at _ _ _ _)
  · exact (k2 i (by revert hi; simp; omega)).trans (u2_other F (fun e => by rw [e] at hi; revert hi; decide) 0 0)
  · refine k3.trans ?_
    rw [u2_other F (by decide : 0 ≠ 60)]
