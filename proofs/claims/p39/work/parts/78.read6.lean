-- shares, in both
theorem itr_idb {σ : Type} (st : Nat → σ → σ) (S : σ) : ∀ d i, (∀ j, i ≤ j → j < i + d → st j S = S) → itr st i d S = S := by
  intro d
  induction d with
  | zero => intro i h; rfl
  | succ d ih => intro i h; show itr st (i + 1) d (st i S) = S; rw [h i (Nat.le_refl i) (by omega)]; exact ih (i + 1) (fun j hj hj2 => h j (by omega) (by omega))
theorem itr_cutb {σ : Type} (st : Nat → σ → σ) (N m : Nat) (hm : m ≤ N) (S : σ) (h : ∀ j, m ≤ j → j < N → st j (itr st 0 m S) = itr st 0 m S) : itr st 0 N S = itr st 0 m S := by
  obtain ⟨e, rfl⟩ : ∃ e, N = m + e := ⟨N - m, by omega⟩
  rw [itr_add, Nat.zero_add]
  exact itr_idb st _ e m (fun j h1 h2 => h j h1 h2)
theorem itr_pair {σ τ : Type} (f : Nat → σ → σ) (g : Nat → τ → τ) : ∀ d i a b, itr (fun i (S : σ × τ) => (f i S.1, g i S.2)) i d (a, b) = (itr f i d a, itr g i d b) := by
  intro d
  induction d with
  | zero => intro i a b; rfl
  | succ d ih => intro i a b; exact ih (i + 1) (f i a) (g i b)
theorem zd {A : Int64} (hA : 0 < A.toInt) : (0 : Int64) / A = 0 := by
  have z0 : (0 : Int64).toInt = 0 := rfl
  rw [i64eq, i64d (by rw [z0]; omega) hA, z0, Int.zero_ediv]
theorem pf_e {F : jF} {G : jG} {w : Nat → Int64} {n b : Nat} (hn : n ≤ 8) (hb : b < n) (hw : ∀ i, i < 8 → gX5_keptDry F G (nI i) = w i ∧ okX5_keptDry F G (nI i)) (h0 : ∀ i, n ≤ i → w i = 0) (c : Int64) (hx : 0 ≤ (c * w b).toInt) {A : Int64} (hA : A = itr (sh1 w) 0 n 0) : gX5_partOf F G c (nI b) = (if 0 < A then c * w b / A + Int32.toInt64 (if itr (sh2 w c A) 0 n c ≤ itr (sh3 w c A (c * w b) b) 0 n 0 then 0 else 1) else 0) ∧ okX5_partOf F G c (nI b) := by
  have z0 : (0 : Int64).toInt = 0 := rfl
  have u1 : itr (sh1 w) 0 8 0 = A := by
    rw [hA]
    exact itr_cutb _ 8 n hn _ (fun j h1 _ => by unfold sh1; rw [h0 j h1, Int64.add_zero])
  have u2 : 0 < A → itr (sh2 w c A) 0 8 c = itr (sh2 w c A) 0 n c := fun h => itr_cutb _ 8 n hn _ (fun j h1 _ => by
    rw [i64lt, z0] at h
    unfold sh2
    rw [h0 j h1, Int64.mul_zero, zd h, Int64.sub_zero])
  have u3 : 0 < A → itr (sh3 w c A (c * w b) b) 0 8 0 = itr (sh3 w c A (c * w b) b) 0 n 0 := fun h => itr_cutb _ 8 n hn _ (fun j h1 h2 => by
    rw [i64lt, z0] at h
    have hm := md_e hx h
    have hp := Int.emod_nonneg (c * w b).toInt (Int.ne_of_gt h)
    unfold sh3
    rw [h0 j h1, Int64.mul_zero, zd h, Int64.zero_mul, Int64.sub_zero, if_neg (by rw [i64lt, hm, z0]; omega), if_pos (nI_le (show b ≤ j by omega) (by omega))]
    split <;> rfl)
  have g6 : ∀ K : Int32 → Int64 → Int64, gX5_partOf_L6 F G c (nI b) K 80 0 0 = K (nI 8) A := fun K => by
    have h := lpE (fun n i (v : Int64) => gX5_partOf_L6 F G c (nI b) K n i v) K (sh1 w) 8 (fun _ _ => True) (fun n i v hi _ => by
      show gX5_partOf_L6 F G c (nI b) K (n + 1) (nI i) v = _
      rw [gX5_partOf_L6, n8, if_neg (nI_ge hi (by omega)), ← nI_1, bvd, bvd, (hw i hi).1]
      rfl) (fun _ _ _ _ => trivial) (fun n v _ => by
      show gX5_partOf_L6 F G c (nI b) K (n + 1) (nI 8) v = _
      rw [gX5_partOf_L6, n8, if_pos (nI_le (Nat.le_refl _) (by omega))]) 8 0 80 0 (by omega) (by omega) trivial
    rw [nI_0] at h
    rw [h, u1]
  have o6 : ∀ K : Int32 → Int64 → Prop, K (nI 8) A → okX5_partOf_L6 F G c (nI b) K 80 0 0 := fun K hK => by
    have h := lpO (fun n i (v : Int64) => okX5_partOf_L6 F G c (nI b) K n i v) K (sh1 w) 8 (fun _ _ => True) (fun n i v hi _ hq => by
      show okX5_partOf_L6 F G c (nI b) K (n + 1) (nI i) v
      rw [← nI_1] at hq
      rw [okX5_partOf_L6, n8]
      refine ⟨fun h => absurd h (nI_ge hi (by omega)), fun _ => ⟨(hw i hi).2, ?_⟩⟩
      rw [bvd, bvd, (hw i hi).1]
      exact hq) (fun _ _ _ _ => trivial) (fun n v _ hq => by
      show okX5_partOf_L6 F G c (nI b) K (n + 1) (nI 8) v
      rw [okX5_partOf_L6, n8]
      exact ⟨fun _ => hq, fun h => absurd (nI_le (Nat.le_refl _) (by omega)) h⟩) 8 0 80 0 (by omega) (by omega) trivial (by rw [u1]; exact hK)
    rw [nI_0] at h
    exact h
  have g45 : 0 < A → ∀ K : Int32 → Int64 → Int64, gX5_partOf_L45 F G A c (nI b) K 80 0 c = K (nI 8) (itr (sh2 w c A) 0 n c) := fun hA0 K => by
    have h := lpE (fun n i (v : Int64) => gX5_partOf_L45 F G A c (nI b) K n i v) K (sh2 w c A) 8 (fun _ _ => True) (fun n i v hi _ => by
      show gX5_partOf_L45 F G A c (nI b) K (n + 1) (nI i) v = _
      rw [gX5_partOf_L45, n8, if_neg (nI_ge hi (by omega)), ← nI_1, bvd, bvd, (hw i hi).1]
      rfl) (fun _ _ _ _ => trivial) (fun n v _ => by
      show gX5_partOf_L45 F G A c (nI b) K (n + 1) (nI 8) v = _
      rw [gX5_partOf_L45, n8, if_pos (nI_le (Nat.le_refl _) (by omega))]) 8 0 80 c (by omega) (by omega) trivial
    rw [nI_0] at h
    rw [h, u2 hA0]
  have nz : 0 < A → ¬ A = 0 := fun h e => by rw [e, i64lt] at h; omega
  have o45 : 0 < A → ∀ K : Int32 → Int64 → Prop, K (nI 8) (itr (sh2 w c A) 0 n c) → okX5_partOf_L45 F G A c (nI b) K 80 0 c := fun hA0 K hK => by
    have h := lpO (fun n i (v : Int64) => okX5_partOf_L45 F G A c (nI b) K n i v) K (sh2 w c A) 8 (fun _ _ => True) (fun n i v hi _ hq => by
      show okX5_partOf_L45 F G A c (nI b) K (n + 1) (nI i) v
      rw [← nI_1] at hq
      rw [okX5_partOf_L45, n8]
      refine ⟨fun h => absurd h (nI_ge hi (by omega)), fun _ => ⟨(hw i hi).2, ?_⟩⟩
      rw [bvd, (hw i hi).1]
      refine ⟨nz hA0, ?_⟩
      rw [bvd]
      exact hq) (fun _ _ _ _ => trivial) (fun n v _ hq => by
      show okX5_partOf_L45 F G A c (nI b) K (n + 1) (nI 8) v
      rw [okX5_partOf_L45, n8]
      exact ⟨fun _ => hq, fun h => absurd (nI_le (Nat.le_refl _) (by omega)) h⟩) 8 0 80 c (by omega) (by omega) trivial (by rw [u2 hA0]; exact hK)
    rw [nI_0] at h
    exact h
  have g89 : 0 < A → ∀ (f6 : Int64) (K : Int32 → Int64 → Int64), gX5_partOf_L89 F G (c * w b) f6 A c (nI b) K 80 0 0 = K (nI 8) (itr (sh3 w c A (c * w b) b) 0 n 0) := fun hA0 f6 K => by
    have h := lpE (fun n i (v : Int64) => gX5_partOf_L89 F G (c * w b) f6 A c (nI b) K n i v) K (sh3 w c A (c * w b) b) 8 (fun _ _ => True) (fun n i v hi _ => by
      show gX5_partOf_L89 F G (c * w b) f6 A c (nI b) K (n + 1) (nI i) v = _
      rw [gX5_partOf_L89, n8, if_neg (nI_ge hi (by omega)), ← nI_1, bvd, bvd, (hw i hi).1]
      unfold sh3
      by_cases c1 : c * w b - c * w b / A * A < c * w i - c * w i / A * A
      · rw [if_pos c1, if_pos c1, bvd]
      · rw [if_neg c1, if_neg c1]
        by_cases c2 : c * w i - c * w i / A * A = c * w b - c * w b / A * A
        · rw [if_pos c2, if_pos c2]
          by_cases c3 : nI b ≤ nI i
          · rw [if_pos c3, if_pos c3]
          · rw [if_neg c3, if_neg c3, bvd]
        · rw [if_neg c2, if_neg c2]) (fun _ _ _ _ => trivial) (fun n v _ => by
      show gX5_partOf_L89 F G (c * w b) f6 A c (nI b) K (n + 1) (nI 8) v = _
      rw [gX5_partOf_L89, n8, if_pos (nI_le (Nat.le_refl _) (by omega))]) 8 0 80 0 (by omega) (by omega) trivial
    rw [nI_0] at h
    rw [h, u3 hA0]
  have o89 : 0 < A → ∀ (f6 : Int64) (K : Int32 → Int64 → Prop), (∀ i v, K i v) → okX5_partOf_L89 F G (c * w b) f6 A c (nI b) K 80 0 0 := fun hA0 f6 K hK => by
    have h := lpO (fun n i (v : Int64) => okX5_partOf_L89 F G (c * w b) f6 A c (nI b) K n i v) K (sh3 w c A (c * w b) b) 8 (fun _ _ => True) (fun n i v hi _ hq => by
      show okX5_partOf_L89 F G (c * w b) f6 A c (nI b) K (n + 1) (nI i) v
      rw [← nI_1] at hq
      unfold sh3 at hq
      rw [okX5_partOf_L89, n8]
      refine ⟨fun h => absurd h (nI_ge hi (by omega)), fun _ => ⟨(hw i hi).2, ?_⟩⟩
      rw [bvd, (hw i hi).1]
      refine ⟨nz hA0, ?_⟩
      rw [bvd]
      refine ⟨nz hA0, fun c1 => ?_, fun c1 => ⟨nz hA0, fun c2 => ⟨fun c3 => ?_, fun c3 => ?_⟩, fun c2 => ?_⟩⟩
      · rw [if_pos c1] at hq; rw [bvd]; exact hq
      · rw [if_neg c1, if_pos c2, if_pos c3] at hq; exact hq
      · rw [if_neg c1, if_pos c2, if_neg c3] at hq; rw [bvd]; exact hq
      · rw [if_neg c1, if_neg c2] at hq; exact hq) (fun _ _ _ _ => trivial) (fun n v _ hq => by
      show okX5_partOf_L89 F G (c * w b) f6 A c (nI b) K (n + 1) (nI 8) v
      rw [okX5_partOf_L89, n8]
      exact ⟨fun _ => hq, fun h => absurd (nI_le (Nat.le_refl _) (by omega)) h⟩) 8 0 80 0 (by omega) (by omega) trivial (hK _ _)
    rw [nI_0] at h
    exact h
  have hwb := hw b (by omega)
  refine ⟨?_, ?_⟩
  · unfold gX5_partOf
    rw [g6]
    by_cases c0 : 0 < A
    · rw [if_pos c0, if_pos c0, g45 c0, bvd, bvd, hwb.1, g89 c0, bvd]
    · rw [if_neg c0, if_neg c0]
  · unfold okX5_partOf
    refine o6 _ ⟨fun c0 => o45 c0 _ ⟨hwb.2, ?_⟩, fun _ => trivial⟩
    rw [bvd, bvd, hwb.1]
    exact o89 c0 _ _ (fun _ _ => nz c0)
theorem msh_e {FM : jF} {GM : jG} {w : Nat → Int64} {n b : Nat} (hn : n ≤ 8) (hb : b < n) (h8 : FM 8 0 = nI n) (hw : ∀ i, i < n → gX12_weightOf FM GM (nI i) = w i ∧ okX12_weightOf FM GM (nI i)) (p : Int32) {A : Int64} (hA : A = itr (sh1 w) 0 n 0) : (∀ K : Int32 → Int64 → Int32 × jS, gX12_share_L56 FM GM p (nI b) K 80 0 0 = K (nI n) A) ∧ (∀ K : Int32 → Int64 → Prop, K (nI n) A → okX12_share_L56 FM GM p (nI b) K 80 0 0) ∧ (∀ K : Int32 → Int32 → Int64 → Int32 × jS, gX12_share_L102 FM GM (p.toInt64 * w b - p.toInt64 * w b / A * A) A p (nI b) K 80 0 0 p.toInt64 = K (nI n) (itr (sh4 w p.toInt64 A (p.toInt64 * w b) b) 0 n 0) (itr (sh2 w p.toInt64 A) 0 n p.toInt64)) ∧ (¬ A = 0 → ∀ K : Int32 → Int32 → Int64 → Prop, (∀ i u v, K i u v) → okX12_share_L102 FM GM (p.toInt64 * w b - p.toInt64 * w b / A * A) A p (nI b) K 80 0 0 p.toInt64) := by
  refine ⟨fun K => ?_, fun K hK => ?_, fun K => ?_, fun hA0 K hK => ?_⟩
  · have h := lpE (fun n i (v : Int64) => gX12_share_L56 FM GM p (nI b) K n i v) K (sh1 w) n (fun _ _ => True) (fun m i v hi _ => by
      show gX12_share_L56 FM GM p (nI b) K (m + 1) (nI i) v = _
      rw [gX12_share_L56, h8, if_neg (nI_ge hi (by omega)), ← nI_1, bvd, bvd, (hw i hi).1]
      rfl) (fun _ _ _ _ => trivial) (fun m v _ => by
      show gX12_share_L56 FM GM p (nI b) K (m + 1) (nI n) v = _
      rw [gX12_share_L56, h8, if_pos (nI_le (Nat.le_refl _) (by omega))]) n 0 80 0 (by omega) (by omega) trivial
    rw [nI_0] at h
    rw [h, hA]
  · have h := lpO (fun n i (v : Int64) => okX12_share_L56 FM GM p (nI b) K n i v) K (sh1 w) n (fun _ _ => True) (fun m i v hi _ hq => by
      show okX12_share_L56 FM GM p (nI b) K (m + 1) (nI i) v
      rw [← nI_1] at hq
      rw [okX12_share_L56, h8]
      refine ⟨fun h => absurd h (nI_ge hi (by omega)), fun _ => ⟨(hw i hi).2, ?_⟩⟩
      rw [bvd, bvd, (hw i hi).1]
      exact hq) (fun _ _ _ _ => trivial) (fun m v _ hq => by
      show okX12_share_L56 FM GM p (nI b) K (m + 1) (nI n) v
      rw [okX12_share_L56, h8]
      exact ⟨fun _ => hq, fun h => absurd (nI_le (Nat.le_refl _) (by omega)) h⟩) n 0 80 0 (by omega) (by omega) trivial (by rw [← hA]; exact hK)
    rw [nI_0] at h
    exact h
  · have h := lpE (fun n i (S : Int32 × Int64) => gX12_share_L102 FM GM (p.toInt64 * w b - p.toInt64 * w b / A * A) A p (nI b) K n i S.1 S.2) (fun i S => K i S.1 S.2) (fun i (S : Int32 × Int64) => (sh4 w p.toInt64 A (p.toInt64 * w b) b i S.1, sh2 w p.toInt64 A i S.2)) n (fun _ _ => True) (fun m i S hi _ => by
      show gX12_share_L102 FM GM (p.toInt64 * w b - p.toInt64 * w b / A * A) A p (nI b) K (m + 1) (nI i) S.1 S.2 = gX12_share_L102 FM GM (p.toInt64 * w b - p.toInt64 * w b / A * A) A p (nI b) K m (nI (i + 1)) (sh4 w p.toInt64 A (p.toInt64 * w b) b i S.1) (sh2 w p.toInt64 A i S.2)
      rw [gX12_share_L102, h8, if_neg (nI_ge hi (by omega)), ← nI_1]
      simp only [bvd, (hw i hi).1]
      rfl) (fun _ _ _ _ => trivial) (fun m S _ => by
      show gX12_share_L102 FM GM (p.toInt64 * w b - p.toInt64 * w b / A * A) A p (nI b) K (m + 1) (nI n) S.1 S.2 = _
      rw [gX12_share_L102, h8, if_pos (nI_le (Nat.le_refl _) (by omega))]) n 0 80 (0, p.toInt64) (by omega) (by omega) trivial
    rw [nI_0, itr_pair] at h
    exact h
  · have h := lpO (fun n i (S : Int32 × Int64) => okX12_share_L102 FM GM (p.toInt64 * w b - p.toInt64 * w b / A * A) A p (nI b) K n i S.1 S.2) (fun i S => K i S.1 S.2) (fun i (S : Int32 × Int64) => (sh4 w p.toInt64 A (p.toInt64 * w b) b i S.1, sh2 w p.toInt64 A i S.2)) n (fun _ _ => True) (fun m i S hi _ hq => by
      show okX12_share_L102 FM GM (p.toInt64 * w b - p.toInt64 * w b / A * A) A p (nI b) K (m + 1) (nI i) S.1 S.2
      have hq : okX12_share_L102 FM GM (p.toInt64 * w b - p.toInt64 * w b / A * A) A p (nI b) K m (nI (i + 1)) (sh4 w p.toInt64 A (p.toInt64 * w b) b i S.1) (sh2 w p.toInt64 A i S.2) := hq
      rw [← nI_1] at hq
      rw [okX12_share_L102, h8]
      refine ⟨fun h => absurd h (nI_ge hi (by omega)), fun _ => ⟨(hw i hi).2, ?_⟩⟩
      rw [bvd, (hw i hi).1]
      refine ⟨hA0, ?_⟩
      rw [bvd]
      refine ⟨(hw i hi).2, ?_⟩
      rw [bvd]
      refine ⟨hA0, ?_⟩
      rw [bvd]
      refine ⟨(hw i hi).2, ?_⟩
      rw [bvd, bvd, bvd]
      exact hq) (fun _ _ _ _ => trivial) (fun m S _ hq => by
      show okX12_share_L102 FM GM (p.toInt64 * w b - p.toInt64 * w b / A * A) A p (nI b) K (m + 1) (nI n) S.1 S.2
      rw [okX12_share_L102, h8]
      exact ⟨fun _ => hq, fun h => absurd (nI_le (Nat.le_refl _) (by omega)) h⟩) n 0 80 (0, p.toInt64) (by omega) (by omega) trivial (hK _ _ _)
    rw [nI_0] at h
    exact h
theorem rd_share {b : Int} {c : Nat} {F FM : jF} {G GM : jG} (h : RR b c F G FM GM) (M : jF) (p1 p2 : Int32) : okX11_share F G M p1 p2 ∧ okX12_share FM GM p1 p2 ∧ rR FM GM (fun x : Int32 => x.toInt64) (fun x : Int32 => x.toInt64) (wk 1 2 9) [1, 2] (gX11_share F G M p1 p2) (gX12_share FM GM p1 p2) := by
  obtain ⟨⟨hE, hY⟩, ⟨hR, hG⟩, hX⟩ := h
  have hN := hE.1
  have h8 := hN.1.1
  have hR0 := ag60 hR 0
  have y0 : (0 : Int32).toInt = 0 := rfl
  have z0 : (0 : Int64).toInt = 0 := rfl
  have y9 : (999999 : Int32).toInt = 999999 := rfl
  have lt00 : ¬ (0 : Int32) < 0 := by decide
  have lt02 : (0 : Int32) < 2 := by decide
  have lt01 : (0 : Int32) < 1 := by decide
  rcases bn_c G GM hN hR p2 with ⟨j, hj, hj8, rfl, e2, e3, e4⟩ | ⟨e2, e3, e4⟩
  · rcases nr_c p1 0 999999 with ⟨a1, a2, a3, a4⟩ | ⟨a1, a2⟩
    · obtain ⟨w, hwd⟩ : ∃ w : Nat → Int64, w = fun i => if i < cn F 8 then gX5_keptDry F G (nI i) else 0 := ⟨_, rfl⟩
      obtain ⟨F7, hF7⟩ : ∃ F7, F7 = u2 FM 60 0 0 := ⟨_, rfl⟩
      rw [← hF7] at hR0
      have hwi : ∀ i, i < cn F 8 → w i = gX5_keptDry F G (nI i) := fun i hi => by rw [hwd]; exact if_pos hi
      have hw0 : ∀ i, cn F 8 ≤ i → w i = 0 := fun i hi => by rw [hwd]; exact if_neg (by omega)
      have hw1 : ∀ i, i < 8 → gX5_keptDry F G (nI i) = w i ∧ okX5_keptDry F G (nI i) := fun i hi => by
        by_cases ci : i < cn F 8
        · obtain ⟨x, x1, x2, x3, x4, x5⟩ := wt_m hE hR0 hG ci
          exact ⟨(hwi i ci).symm, x4⟩
        · have := wt_0 (F := F) (G := G) h8.2 ci hi
          exact ⟨by rw [this.1, hw0 i (by omega)], this.2⟩
      have hw2 : ∀ i, i < cn F 8 → gX12_weightOf F7 GM (nI i) = w i ∧ okX12_weightOf F7 GM (nI i) := fun i ci => by
        obtain ⟨x, x1, x2, x3, x4, x5⟩ := wt_m hE hR0 hG ci
        exact ⟨by rw [x2, hwi i ci, x1], x5⟩
      have hw3 : ∀ i, i < cn F 8 → 0 ≤ (w i).toInt ∧ (w i).toInt ≤ 310000 := fun i ci => by
        obtain ⟨x, x1, x2, x3, x4, x5⟩ := wt_m hE hR0 hG ci
        rw [hwi i ci, x1]; exact x3
      have r8 : F7 8 0 = nI (cn F 8) := by rw [hR0.at 8 (by decide)]; exact h8.1
      have hc : 0 ≤ p1.toInt64.toInt ∧ p1.toInt64.toInt ≤ 999999 := by rw [i3264]; omega
      obtain ⟨A, hA⟩ : ∃ A, A = itr (sh1 w) 0 (cn F 8) 0 := ⟨_, rfl⟩
      obtain ⟨⟨v1, v2, v3⟩, ⟨v4, v5⟩, v6⟩ := sh_v h8.2 hj hw3 hc hA
      obtain ⟨g1, g2⟩ := pf_e h8.2 hj hw1 hw0 p1.toInt64 v5 hA
      obtain ⟨m1, m2, m3, m4⟩ := msh_e h8.2 hj r8 hw2 p1 hA
      have ok1 : okX11_share F G M p1 (nI j) := by
        refine ⟨nb_ok F G _, ?_⟩
        rw [e2, om_s, bvd]
        exact fun _ => g2
      have ok2 : okX12_share FM GM p1 (nI j) := by
        refine ⟨ib_ok _ _ _, ?_⟩
        rw [bvd, e4, if_neg d10, a2, bvd, bvd, bvd, if_neg d10, u2_at, ← hF7]
        refine ⟨fun _ => trivial, fun _ => ⟨(hw2 j hj).2, ?_⟩⟩
        rw [bvd, (hw2 j hj).1]
        refine ⟨fun _ => trivial, fun hne => m2 _ ?_⟩
        have hA0 : ¬ A = 0 := fun e => hne (by
          rw [i64eq, z0]
          rw [e, z0] at v3
          have := (hw3 j hj).1
          omega)
        rw [bvd]
        refine ⟨(hw2 j hj).2, ?_⟩
        rw [bvd]
        refine ⟨hA0, ?_⟩
        rw [bvd]
        refine m4 hA0 _ (fun _ _ _ => ⟨(hw2 j hj).2, ?_⟩)
        rw [bvd]
        exact hA0
      have q1 : gX11_share F G M p1 (nI j) = (0, Int64.toInt32 (gX5_partOf F G p1.toInt64 (nI j))) := by
        unfold gX11_share
        rw [e2, om_s, bvd, a1, if_pos rfl, bvd]
      have q2 : gX12_share FM GM p1 (nI j) = (if w j = 0 then 0 else Int64.toInt32 (p1.toInt64 * w j / A) + (if itr (sh2 w p1.toInt64 A) 0 (cn F 8) p1.toInt64 ≤ Int32.toInt64 (itr (sh4 w p1.toInt64 A (p1.toInt64 * w j) j) 0 (cn F 8) 0) then 0 else 1), (u2 FM 60 0 0, GM)) := by
        unfold gX12_share
        rw [bvd, e4, if_neg d10, a2, bvd, bvd, bvd, if_neg d10, u2_at, if_neg lt00, ← hF7, bvd, (hw2 j hj).1]
        by_cases cw : w j = 0
        · rw [if_pos cw, if_pos cw]
        · rw [if_neg cw, if_neg cw, m1, bvd, bvd, bvd, m3, bvd, bvd]
      have qq : Int64.toInt32 (gX5_partOf F G p1.toInt64 (nI j)) = (if w j = 0 then 0 else Int64.toInt32 (p1.toInt64 * w j / A) + (if itr (sh2 w p1.toInt64 A) 0 (cn F 8) p1.toInt64 ≤ Int32.toInt64 (itr (sh4 w p1.toInt64 A (p1.toInt64 * w j) j) 0 (cn F 8) 0) then 0 else 1)) := by
        rw [g1]
        by_cases c0 : 0 < A
        · rw [if_pos c0]
          rw [i64lt, z0] at c0
          obtain ⟨f1, f2, f3⟩ := v6 c0
          obtain ⟨s1, s2⟩ := share_eq (C := p1.toInt64.toInt) (W := fun i => (w i).toInt) (n := cn F 8) (b := j) hc.1 (fun i hi => (hw3 i hi).1) v1 c0 hj f1
          have hdv : (p1.toInt64 * w j / A).toInt = p1.toInt64.toInt * (w j).toInt / A.toInt := by rw [i64d v5 c0, v4]
          by_cases cw : w j = 0
          · rw [if_pos cw]
            obtain ⟨t1, t2⟩ := s1 (by show (w j).toInt = 0; rw [cw]; rfl)
            have e0 : p1.toInt64 * w j / A = 0 := by rw [i64eq, hdv, z0]; exact t1
            rw [e0, if_pos (by rw [i64le, f2]; exact t2)]
            rfl
          · rw [if_neg cw]
            have hwp : 0 < (w j).toInt := by
              have h1 := (hw3 j hj).1
              have h2 : ¬ (w j).toInt = 0 := fun e => cw (by rw [i64eq, z0]; exact e)
              omega
            have hiff := s2 hwp
            rw [← f2, ← f3] at hiff
            by_cases ca : itr (sh2 w p1.toInt64 A) 0 (cn F 8) p1.toInt64 ≤ itr (sh3 w p1.toInt64 A (p1.toInt64 * w j) j) 0 (cn F 8) 0
            · have cb : itr (sh2 w p1.toInt64 A) 0 (cn F 8) p1.toInt64 ≤ Int32.toInt64 (itr (sh4 w p1.toInt64 A (p1.toInt64 * w j) j) 0 (cn F 8) 0) := by
                rw [i64le, i3264]; rw [i64le] at ca; exact hiff.mp ca
              rw [if_pos ca, if_pos cb, Int64.toInt32_add, ti32]
            · have cb : ¬ itr (sh2 w p1.toInt64 A) 0 (cn F 8) p1.toInt64 ≤ Int32.toInt64 (itr (sh4 w p1.toInt64 A (p1.toInt64 * w j) j) 0 (cn F 8) 0) := by
                rw [i64le, i3264]; rw [i64le] at ca; exact fun e => ca (hiff.mpr e)
              rw [if_neg ca, if_neg cb, Int64.toInt32_add, ti32]
        · rw [if_neg c0]
          rw [i64lt, z0] at c0
          have h1 := (hw3 j hj).1
          rw [if_pos (by rw [i64eq, z0]; omega)]
          rfl
      rw [qq] at q1
      exact ⟨ok1, ok2, Or.inl ⟨_, _, q1, q2, rfl⟩⟩
    · refine ⟨⟨nb_ok F G _, ?_⟩, ⟨ib_ok _ _ _, ?_⟩, Or.inr ⟨2, 0, 0, 2, by decide, ?_, ?_, rfl⟩⟩
      · rw [e2, om_s, bvd, a1]; exact fun e => absurd e (by decide)
      · rw [bvd, e4, if_neg d10, a2, bvd, bvd, bvd, if_pos rfl, u2_at]; exact ⟨fun _ => trivial, fun e => absurd lt02 e⟩
      · unfold gX11_share; rw [e2, om_s, bvd, a1, if_neg (by decide)]
      · unfold gX12_share; rw [bvd, e4, if_neg d10, a2, bvd, bvd, bvd, if_pos rfl, u2_at, if_pos lt02]
  · refine ⟨⟨nb_ok F G _, ?_⟩, ⟨ib_ok _ _ _, ?_⟩, Or.inr ⟨1, 0, 0, 1, by decide, ?_, ?_, rfl⟩⟩
    · rw [e2, om_n]; trivial
    · rw [bvd, e4, if_pos rfl, bvd, bvd, u2_at]; exact ⟨fun _ => trivial, fun e => absurd lt01 e⟩
    · unfold gX11_share; rw [e2, om_n]
    · unfold gX12_share; rw [bvd, e4, if_pos rfl, bvd, bvd, u2_at, if_pos lt01]
