-- the hours of a call
theorem hrs_m {c p : Nat} (hp : p ≤ 50) : ∀ (m i : Nat) (F FM : jF) (G GM : jG) (b : Int), i + m = p → RR b c F G FM GM → b + 119988 * (m : Int) ≤ 1719000000 → cn F 0 + m ≤ 9999 → FM 60 0 = 0 → ∃ S T : jS, RR (b + 119988 * (m : Int)) c S.1 S.2 T.1 T.2 ∧ cn S.1 0 = cn F 0 + m ∧ T.1 60 0 = 0 ∧ (∀ (K : Int32 → jF → jG → Int32 × jS) (fuel : Nat), m < fuel → gX5_passHours_L2 (nI p) K fuel (nI i) F G = K (nI p) S.1 S.2) ∧ (∀ (K : Int32 → jF → jG → Int32 × jS) (fuel : Nat), m < fuel → gX12_run_L37 (nI p) K fuel (nI i) FM GM = K (nI p) T.1 T.2) ∧ (∀ (K : Int32 → jF → jG → Prop) (fuel : Nat), m < fuel → K (nI p) S.1 S.2 → okX5_passHours_L2 (nI p) K fuel (nI i) F G) ∧ (∀ (K : Int32 → jF → jG → Prop) (fuel : Nat), m < fuel → K (nI p) T.1 T.2 → okX12_run_L37 (nI p) K fuel (nI i) FM GM) := by
  intro m
  induction m with
  | zero =>
    intro i F FM G GM b hi h hb hh h60
    have hi : i = p := hi
    subst hi
    have hle : nI i ≤ nI i := nI_le (Nat.le_refl _) (by omega)
    refine ⟨(F, G), (FM, GM), by rw [show b + 119988 * ((0 : Nat) : Int) = b by omega]; exact h, rfl, h60, ?_, ?_, ?_, ?_⟩
    · intro K fuel hf
      obtain ⟨n, rfl⟩ : ∃ n, fuel = n + 1 := ⟨fuel - 1, by omega⟩
      rw [gX5_passHours_L2, if_pos hle]
    · intro K fuel hf
      obtain ⟨n, rfl⟩ : ∃ n, fuel = n + 1 := ⟨fuel - 1, by omega⟩
      rw [gX12_run_L37, if_pos hle]
    · intro K fuel hf hk
      obtain ⟨n, rfl⟩ : ∃ n, fuel = n + 1 := ⟨fuel - 1, by omega⟩
      rw [okX5_passHours_L2]
      exact ⟨fun _ => hk, fun e => absurd hle e⟩
    · intro K fuel hf hk
      obtain ⟨n, rfl⟩ : ∃ n, fuel = n + 1 := ⟨fuel - 1, by omega⟩
      rw [okX12_run_L37]
      exact ⟨fun _ => hk, fun e => absurd hle e⟩
  | succ m ih =>
    intro i F FM G GM b hi h hb hh h60
    obtain ⟨S, T, s1, s2, s3, s4, s5, s6, s7⟩ := hour_m h (by omega) (by omega)
    have hlt : ¬ nI p ≤ nI i := nI_ge (by omega) (by omega)
    obtain ⟨S2, T2, t1, t2, t3, t4, t5, t6, t7⟩ := ih (i + 1) S.1 T.1 S.2 T.2 (b + 119988) (by omega) s1 (by omega) (by omega) (by rw [s3]; exact h60)
    refine ⟨S2, T2, by rw [show b + 119988 * ((m + 1 : Nat) : Int) = b + 119988 + 119988 * (m : Int) by omega]; exact t1, by omega, t3, ?_, ?_, ?_, ?_⟩
    · intro K fuel hf
      obtain ⟨n, rfl⟩ : ∃ n, fuel = n + 1 := ⟨fuel - 1, by omega⟩
      rw [s4 _ _ K n hlt, nI_1]
      exact t4 K n (by omega)
    · intro K fuel hf
      obtain ⟨n, rfl⟩ : ∃ n, fuel = n + 1 := ⟨fuel - 1, by omega⟩
      rw [gX12_run_L37, if_neg hlt, if_pos h60, s5, bsd, nI_1]
      exact t5 K n (by omega)
    · intro K fuel hf hk
      obtain ⟨n, rfl⟩ : ∃ n, fuel = n + 1 := ⟨fuel - 1, by omega⟩
      refine s6 _ _ K n hlt ?_
      rw [nI_1]
      exact t6 K n (by omega) hk
    · intro K fuel hf hk
      obtain ⟨n, rfl⟩ : ∃ n, fuel = n + 1 := ⟨fuel - 1, by omega⟩
      rw [okX12_run_L37]
      refine ⟨fun e => absurd e hlt, fun _ => ⟨fun _ => ⟨s7, ?_⟩, fun e => absurd h60 e⟩⟩
      rw [s5, bsd, nI_1]
      exact t7 K n (by omega) hk
-- the noted calls
def ntM (M : jF) (q : Nat) (k a b c d e : Int32) : jF := u2 (u2 (u2 (u2 (u2 (u2 (u2 M 82 (6 * q) k) 82 (6 * q + 1) a) 82 (6 * q + 2) b) 82 (6 * q + 3) c) 82 (6 * q + 4) d) 82 (6 * q + 5) e) 80 0 (nI (q + 1))
theorem nt_e {M : jF} {q : Nat} (h : M 80 0 = nI q) (hq : q < 512) (k a b c d e : Int32) (G : jG) : gX11_note M G k a b c d e = (nI (6 * q), (ntM M q k a b c d e, G)) ∧ okX11_note M G k a b c d e := by
  have e6 : nI q * 6 = nI (6 * q) := by
    have h1 : nI q * nI 6 = nI (q * 6) := (Int32.ofNat_mul q 6).symm
    rw [Nat.mul_comm] at h1
    exact h1
  have ea : ∀ j : Nat, nI (6 * q) + nI j = nI (6 * q + j) := fun j => nI_add _ _
  have l1 : nI (6 * q) + 1 = nI (6 * q + 1) := ea 1
  have l2 : nI (6 * q) + 2 = nI (6 * q + 2) := ea 2
  have l3 : nI (6 * q) + 3 = nI (6 * q + 3) := ea 3
  have l4 : nI (6 * q) + 4 = nI (6 * q + 4) := ea 4
  have l5 : nI (6 * q) + 5 = nI (6 * q + 5) := ea 5
  have l6 : nI (6 * q) + 6 = nI (6 * q + 6) := ea 6
  have c0 : ¬ nI (6 * q) < 0 := nI_pos (by omega)
  have c1 : nI (6 * q + 6) ≤ 3078 := nI_le (a := 6 * q + 6) (b := 3078) (by omega) (by omega)
  have c2 : ¬ (512 : Int32) ≤ nI q := nI_ge (a := q) (b := 512) hq (by omega)
  constructor
  · unfold gX11_note
    rw [h, bvd, e6, if_neg c0, l6, if_pos c1]
    simp only [bvd, l1, l2, l3, l4, l5]
    rw [nI_clamp (show 6 * q < 2 ^ 31 by omega), nI_clamp (show 6 * q + 1 < 2 ^ 31 by omega), nI_clamp (show 6 * q + 2 < 2 ^ 31 by omega), nI_clamp (show 6 * q + 3 < 2 ^ 31 by omega), nI_clamp (show 6 * q + 4 < 2 ^ 31 by omega), nI_clamp (show 6 * q + 5 < 2 ^ 31 by omega)]
    simp only [u2_other _ (show 80 ≠ 82 by decide)]
    rw [h, if_neg c2, nI_1]
    rfl
  · unfold okX11_note
    rw [h, bvd, e6, l6]
    have hv : ∀ j, j < 6 → vp_in (nI (6 * q + j)) 3078 := fun j hj => nI_in (by omega) (by omega)
    have hv0 : vp_in (nI (6 * q)) 3078 := hv 0 (by omega)
    refine ⟨fun _ => trivial, fun _ => ⟨fun _ => ?_, fun e => absurd c1 e⟩⟩
    simp only [bvd, l1, l2, l3, l4, l5]
    exact ⟨hv0, hv 1 (by omega), hv 2 (by omega), hv 3 (by omega), hv 4 (by omega), hv 5 (by omega)⟩
theorem nt_82 (M : jF) (q : Nat) (k a b c d e : Int32) : (∀ j, j < 6 * q → ntM M q k a b c d e 82 j = M 82 j) ∧ ntM M q k a b c d e 82 (6 * q) = k ∧ ntM M q k a b c d e 82 (6 * q + 1) = a ∧ ntM M q k a b c d e 82 (6 * q + 2) = b ∧ ntM M q k a b c d e 82 (6 * q + 3) = c ∧ ntM M q k a b c d e 82 (6 * q + 4) = d ∧ ntM M q k a b c d e 82 (6 * q + 5) = e := by
  unfold ntM
  simp only [u2_other _ (show 82 ≠ 80 by decide), u2_same]
  refine ⟨fun j hj => ?_, ?_, ?_, ?_, ?_, ?_, ?_⟩
  · rw [if_neg (by omega), if_neg (by omega), if_neg (by omega), if_neg (by omega), if_neg (by omega), if_neg (by omega)]
  · rw [if_neg (by omega), if_neg (by omega), if_neg (by omega), if_neg (by omega), if_neg (by omega), if_pos trivial]
  · rw [if_neg (by omega), if_neg (by omega), if_neg (by omega), if_neg (by omega), if_pos trivial]
  · rw [if_neg (by omega), if_neg (by omega), if_neg (by omega), if_pos trivial]
  · rw [if_neg (by omega), if_neg (by omega), if_pos trivial]
  · rw [if_neg (by omega), if_pos trivial]
  · rw [if_pos trivial]
theorem nt_o (M : jF) (q : Nat) (k a b c d e : Int32) : ntM M q k a b c d e 80 0 = nI (q + 1) ∧ ntM M q k a b c d e 81 = M 81 := by
  unfold ntM
  refine ⟨u2_at _ _ _ _, ?_⟩
  simp only [u2_other _ (show 81 ≠ 80 by decide), u2_other _ (show 81 ≠ 82 by decide)]
