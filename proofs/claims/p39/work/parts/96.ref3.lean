-- the end of a year, in the reference
section LY
variable {F0 : jF} {G0 : jG}
theorem lz_y29 {o : Int32 → jF → jG → Prop} {K : Int32 → jF → jG → Int32 × jS} {P : Int32 × jS → Prop} (hK : ∀ v F1 G1, kz F0 G0 F1 G1 → o v F1 G1 → P (K v F1 G1)) : ∀ n v F G, kz F0 G0 F G → okX12_endYear_L29 o n v F G → P (gX12_endYear_L29 K n v F G) := by
  intro n
  induction n with
  | zero => intro v F G _ h; rw [okX12_endYear_L29] at h; exact h.elim
  | succ n ih =>
    intro v F G hz h
    rw [okX12_endYear_L29] at h
    rw [gX12_endYear_L29]
    refine it_b (fun c => hK _ _ _ hz (h.1 c)) (fun c => ?_)
    refine bv_be (h.2 c).2.2.2 (fun F5 e h => ?_)
    refine ih _ _ _ ?_ h
    rw [e]
    exact kz_u hz (by decide) _ _
theorem lz_y76 {o : Int32 → Int32 → jF → jG → Prop} {K : Int32 → Int32 → jF → jG → Int32 × jS} {P : Int32 × jS → Prop} (hK : ∀ v w F1 G1, kz F0 G0 F1 G1 → o v w F1 G1 → P (K v w F1 G1)) : ∀ n v w F G, kz F0 G0 F G → okX12_endYear_L76 o n v w F G → P (gX12_endYear_L76 K n v w F G) := by
  intro n
  induction n with
  | zero => intro v w F G _ h; rw [okX12_endYear_L76] at h; exact h.elim
  | succ n ih =>
    intro v w F G hz h
    rw [okX12_endYear_L76] at h
    rw [gX12_endYear_L76]
    refine it_b (fun c => hK _ _ _ _ hz (h.1 c)) (fun c => ?_)
    refine bv_be (h.2 c).2.2 (fun f1 e1 h => ?_)
    refine bv_be h.2.2.2.2 (fun v27 _ h => ?_)
    refine bv_be h.2 (fun f2 e2 h => ?_)
    refine bv_be h.2.2 (fun f3 e3 h => ?_)
    refine bv_be h.2.2 (fun f4 e4 h => ?_)
    refine bv_be h.2.2 (fun f5 e5 h => ?_)
    refine bv_be h.2 (fun v45 _ h => ?_)
    refine bv_be h (fun x46 _ h => ?_)
    refine ih _ _ _ _ ?_ h
    rw [e5, e4, e3, e2, e1]
    exact kz_u (kz_u (kz_u (kz_u (kz_u hz (by decide) _ _) (by decide) _ _) (by decide) _ _) (by decide) _ _) (by decide) _ _
end LY
def yrR (FM : jF) (GM : jG) (S : Int32 × jS) : Prop := (S.1 = FM 1 0 + 1 ∧ S.2.1 60 0 = 0 ∧ S.2.1 1 0 = FM 1 0 + 1) ∧ ag [0, 8, 13, 17, 23, 32] FM S.2.1 ∧ bal S.2.2 = bal GM ∧ S.2.2 15 = GM 15
theorem r_endYear {FM : jF} {GM : jG} (h1 : ¬ FM 1 0 = 20) (h : okX12_endYear FM GM) : yrR FM GM (gX12_endYear FM GM) := by
  unfold okX12_endYear at h
  unfold gX12_endYear
  obtain ⟨P, hP⟩ : ∃ P, P = yrR FM GM := ⟨_, rfl⟩
  rw [← hP]
  refine bv_be h (fun v2 e2 h => ?_)
  rw [if_neg h1] at e2; subst e2
  refine bv_be h (fun f0 e0 h => ?_)
  have k0 : kz FM GM (u2 FM 60 0 0) GM → True := fun _ => trivial
  refine it_b (P := P) (fun c => ?_) (fun c => absurd (by rw [e0, u2_at]; exact l00) c)
  have h := h.1 c
  refine lz_y29 (P := P) (F0 := f0) (G0 := GM) (fun v f1 g1 hz h => ?_) 80 0 f0 GM (kz_rf _ _) h
  refine bv_be h (fun g2 e2 h => ?_)
  have hz : kz f0 GM f1 g2 := by rw [e2]; exact kz_g hz (by decide) (by decide) (by decide) _ _
  refine lz_y76 (P := P) (F0 := f0) (G0 := GM) (fun v w f2 g3 hz h => ?_) 80 0 0 f1 g2 hz h
  refine bv_be h (fun f3 e3 h => ?_)
  refine bv_g (P := P) (fun g4 e4 => ?_)
  refine bv_g (P := P) (fun g5 e5 => ?_)
  refine bv_g (P := P) (fun f4 e6 => ?_)
  have a1 : f3 1 = FM 1 := by rw [e3, u2_other _ (by decide : 1 ≠ 52), hz.1.at 1 (by decide), e0, u2_other _ (by decide : 1 ≠ 60)]
  have b1 : bal g5 = bal GM := by rw [e5, b_o _ (by decide) (by decide), e4, b_o _ (by decide) (by decide)]; exact hz.2.1
  have b2 : g5 15 = GM 15 := by rw [e5, u2_other _ (by decide : 15 ≠ 58), e4, u2_other _ (by decide : 15 ≠ 57)]; exact hz.2.2
  have a4 : f4 1 0 = FM 1 0 + 1 := by rw [e6, u2_at, a1]
  have a6 : f4 60 0 = 0 := by rw [e6, u2_other _ (by decide : 60 ≠ 1), e3, u2_other _ (by decide : 60 ≠ 52), hz.1.at 60 (by decide), e0, u2_at]
  have ak : ag [0, 8, 13, 17, 23, 32] FM f4 := fun i hi => by
    have q1 : i ≠ 1 := fun e => by rw [e] at hi; revert hi; decide
    have q2 : i ≠ 52 := fun e => by rw [e] at hi; revert hi; decide
    have q3 : i ≠ 60 := fun e => by rw [e] at hi; revert hi; decide
    rw [e6, u2_other _ q1, e3, u2_other _ q2, hz.1 i (by revert hi; unfold kzK; simp; omega), e0, u2_other _ q3]
  rw [hP]
  exact ⟨⟨a4, a6, a4⟩, ak, b1, b2⟩
theorem r_endYear_no {FM : jF} {GM : jG} (h1 : FM 1 0 = 20) : gX12_endYear FM GM = (0, (u2 FM 60 0 1, GM)) := by
  unfold gX12_endYear
  rw [bvd, if_pos h1, bvd, if_neg (by rw [u2_at]; decide)]
