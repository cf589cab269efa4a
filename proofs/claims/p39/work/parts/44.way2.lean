-- the reference's ways
theorem cut_e (F : jF) (G : jG) {k : Nat} (hk : k < 8) : gX12_isCut F G (nI k) = if (100 * (F 10 k).toInt64 + 100 * G 14 k / (F 9 k).toInt64) - (100 * (F 10 k).toInt64 + (F 12 k).toInt64) < 100 then 0 else 1 := by
  unfold gX12_isCut gX12_floorOf
  simp only [bvd]
  rw [lo_in F G (by omega), nI_clamp (by omega)]
theorem cut_fa (F : jF) (G : jG) (f : Nat → Int32) {k : Nat} (hk : k < 8) : gX12_isCut (fa F 59 f) G (nI k) = gX12_isCut F G (nI k) := by
  rw [cut_e _ _ hk, cut_e _ _ hk, fa_o F f (by decide : 10 ≠ 59), fa_o F f (by decide : 9 ≠ 59), fa_o F f (by decide : 12 ≠ 59)]
theorem cut_ok {F : jF} {G : jG} {k : Nat} (hk : k < 8) (h : ¬ (F 9 k).toInt64 = (0 : Int64)) : okX12_isCut F G (nI k) := by
  have hv : vp_in (nI k) 8 := nI_vin hk (by omega)
  unfold okX12_isCut
  rw [bvd]
  refine ⟨?_, fl_ok hk⟩
  unfold okX12_levelOf
  refine ⟨fun e => absurd e (nI_n20 (by omega)), fun _ => ⟨fun _ => trivial, fun _ => ⟨hv, hv, hv, ?_⟩⟩⟩
  rw [nI_clamp (by omega)]
  exact h
section WAYM
variable {F : jF} {G : jG} {E : Nat → Nat → Bool} {nb : Nat}
/-- E says which roads the reference can go -/
def mEq (F : jF) (G : jG) (E : Nat → Nat → Bool) (nb : Nat) : Prop := nb ≤ 8 ∧ F 8 0 = nI nb ∧ (∀ a b, a < nb → b < nb → (E a b = true ↔ (F 16 (8 * a + b) = 1 ∧ gX12_isCut F G (nI a) = 0 ∧ gX12_isCut F G (nI b) = 0))) ∧ ∀ k, k < nb → ¬ (F 9 k).toInt64 = (0 : Int64)
theorem n52_e (h : mEq F G E nb) {k r : Nat} (hk : k < nb) (K : Int32 → jF → jG → jS) (f : Nat → Int32) : gX12_measures_L52 (nI k) (nI r) K 80 0 (fa F 59 f) G = K (nI nb) (fa F 59 (s41 E nb k f)) G := by
  obtain ⟨h8, h0, hE, h9⟩ := h
  have hl := lpE (fun n i (f : Nat → Int32) => gX12_measures_L52 (nI k) (nI r) K n i (fa F 59 f) G) (fun v f => K v (fa F 59 f) G) (s52 E k) nb (fun _ _ => True) (fun n i f hi _ => by
    show gX12_measures_L52 (nI k) (nI r) K (n + 1) (nI i) (fa F 59 f) G = _
    rw [gX12_measures_L52, fa_o F f (by decide : 8 ≠ 59), h0, if_neg (nI_ge hi (by omega)), ← nI_1]
    simp only [bvd]
    rw [nI_8mul, nI_clamp (show 8 * k + i < 2 ^ 31 by omega), nI_clamp (show k < 2 ^ 31 by omega), nI_clamp (show i < 2 ^ 31 by omega), fa_at, fa_o F f (by decide : 16 ≠ 59), cut_fa F G f (by omega), cut_fa F G f (by omega), fa_u]
    unfold s52
    have hh := hE k i hk hi
    have e : (if (if F 16 (8 * k + i) = 1 then (if gX12_isCut F G (nI k) = 0 then (if gX12_isCut F G (nI i) = 0 then (1 : Int32) else 0) else 0) else 0) = 0 then f k else (if f k ≤ f i + 1 then f k else f i + 1)) = (if E k i = true then (if f k ≤ f i + 1 then f k else f i + 1) else f k) := by
      by_cases c : E k i = true
      · obtain ⟨c1, c2, c3⟩ := hh.mp c
        rw [if_pos c, if_pos c1, if_pos c2, if_pos c3, if_neg (show ¬ (1 : Int32) = 0 by decide)]
      · rw [if_neg c]
        by_cases c1 : F 16 (8 * k + i) = 1
        · rw [if_pos c1]
          by_cases c2 : gX12_isCut F G (nI k) = 0
          · rw [if_pos c2]
            by_cases c3 : gX12_isCut F G (nI i) = 0
            · exact absurd (hh.mpr ⟨c1, c2, c3⟩) c
            · rw [if_neg c3, if_pos rfl]
          · rw [if_neg c2, if_pos rfl]
        · rw [if_neg c1, if_pos rfl]
    rw [e]) (fun _ _ _ _ => trivial) (fun n f _ => by
    show gX12_measures_L52 (nI k) (nI r) K (n + 1) (nI nb) (fa F 59 f) G = _
    rw [gX12_measures_L52, fa_o F f (by decide : 8 ≠ 59), h0, if_pos (nI_le (Nat.le_refl _) (by omega))]) nb 0 80 f (by omega) (by omega) trivial
  rw [nI_0] at hl
  exact hl
theorem n52_o (h : mEq F G E nb) {k r : Nat} (hk : k < nb) (K : Int32 → jF → jG → Prop) (f : Nat → Int32) (hK : K (nI nb) (fa F 59 (s41 E nb k f)) G) : okX12_measures_L52 (nI k) (nI r) K 80 0 (fa F 59 f) G := by
  obtain ⟨h8, h0, hE, h9⟩ := h
  have hvk : vp_in (nI k) 8 := nI_vin (by omega) (by omega)
  have ok9 : ∀ (f : Nat → Int32) i, i < nb → okX12_isCut (fa F 59 f) G (nI i) := fun f i hi => cut_ok (by omega) (by rw [fa_o F f (by decide : 9 ≠ 59)]; exact h9 i hi)
  have hl := lpO (fun n i (f : Nat → Int32) => okX12_measures_L52 (nI k) (nI r) K n i (fa F 59 f) G) (fun v f => K v (fa F 59 f) G) (s52 E k) nb (fun _ _ => True) (fun n i f hi _ hk2 => by
    show okX12_measures_L52 (nI k) (nI r) K (n + 1) (nI i) (fa F 59 f) G
    rw [okX12_measures_L52, fa_o F f (by decide : 8 ≠ 59), h0]
    simp only [bvd]
    rw [nI_8mul, nI_clamp (show 8 * k + i < 2 ^ 31 by omega), nI_clamp (show k < 2 ^ 31 by omega), nI_clamp (show i < 2 ^ 31 by omega), fa_at, fa_o F f (by decide : 16 ≠ 59), cut_fa F G f (by omega), cut_fa F G f (by omega), fa_u]
    rw [← nI_1] at hk2
    unfold s52 at hk2
    have hvi : vp_in (nI i) 8 := nI_vin (by omega) (by omega)
    have hh := hE k i hk hi
    have e : (if (if F 16 (8 * k + i) = 1 then (if gX12_isCut F G (nI k) = 0 then (if gX12_isCut F G (nI i) = 0 then (1 : Int32) else 0) else 0) else 0) = 0 then f k else (if f k ≤ f i + 1 then f k else f i + 1)) = (if E k i = true then (if f k ≤ f i + 1 then f k else f i + 1) else f k) := by
      by_cases c : E k i = true
      · obtain ⟨c1, c2, c3⟩ := hh.mp c
        rw [if_pos c, if_pos c1, if_pos c2, if_pos c3, if_neg (show ¬ (1 : Int32) = 0 by decide)]
      · rw [if_neg c]
        by_cases c1 : F 16 (8 * k + i) = 1
        · rw [if_pos c1]
          by_cases c2 : gX12_isCut F G (nI k) = 0
          · rw [if_pos c2]
            by_cases c3 : gX12_isCut F G (nI i) = 0
            · exact absurd (hh.mpr ⟨c1, c2, c3⟩) c
            · rw [if_neg c3, if_pos rfl]
          · rw [if_neg c2, if_pos rfl]
        · rw [if_neg c1, if_pos rfl]
    refine ⟨fun e => absurd e (nI_ge hi (by omega)), fun _ => ⟨nI_vin (by omega) (by omega), ⟨fun _ => ⟨ok9 f k hk, fun _ => ok9 f i hi, fun _ => trivial⟩, fun _ => trivial⟩, ⟨fun _ => hvk, fun _ => ⟨hvi, hvk, fun _ => hvk, fun _ => hvi⟩⟩, hvk, ?_⟩⟩
    rw [e]
    exact hk2) (fun _ _ _ _ => trivial) (fun n f _ hk2 => by
    show okX12_measures_L52 (nI k) (nI r) K (n + 1) (nI nb) (fa F 59 f) G
    rw [okX12_measures_L52, fa_o F f (by decide : 8 ≠ 59), h0]
    exact ⟨fun _ => hk2, fun e => absurd (nI_le (Nat.le_refl _) (by omega)) e⟩) nb 0 80 f (by omega) (by omega) trivial hK
  rw [nI_0] at hl
  exact hl
theorem n41_e (h : mEq F G E nb) {r : Nat} (K : Int32 → jF → jG → jS) (f : Nat → Int32) : gX12_measures_L41 (nI r) K 80 0 (fa F 59 f) G = K (nI nb) (fa F 59 (s33 E nb r f)) G := by
  have h8 := h.1
  have h0 := h.2.1
  have hl := lpE (fun n i (f : Nat → Int32) => gX12_measures_L41 (nI r) K n i (fa F 59 f) G) (fun v f => K v (fa F 59 f) G) (s41 E nb) nb (fun _ _ => True) (fun n i f hi _ => by
    show gX12_measures_L41 (nI r) K (n + 1) (nI i) (fa F 59 f) G = _
    rw [gX12_measures_L41, fa_o F f (by decide : 8 ≠ 59), h0, if_neg (nI_ge hi (by omega)), ← nI_1]
    exact n52_e h hi _ f) (fun _ _ _ _ => trivial) (fun n f _ => by
    show gX12_measures_L41 (nI r) K (n + 1) (nI nb) (fa F 59 f) G = _
    rw [gX12_measures_L41, fa_o F f (by decide : 8 ≠ 59), h0, if_pos (nI_le (Nat.le_refl _) (by omega))]) nb 0 80 f (by omega) (by omega) trivial
  rw [nI_0] at hl
  exact hl
theorem n41_o (h : mEq F G E nb) {r : Nat} (K : Int32 → jF → jG → Prop) (f : Nat → Int32) (hK : K (nI nb) (fa F 59 (s33 E nb r f)) G) : okX12_measures_L41 (nI r) K 80 0 (fa F 59 f) G := by
  have h8 := h.1
  have h0 := h.2.1
  have hl := lpO (fun n i (f : Nat → Int32) => okX12_measures_L41 (nI r) K n i (fa F 59 f) G) (fun v f => K v (fa F 59 f) G) (s41 E nb) nb (fun _ _ => True) (fun n i f hi _ hk2 => by
    show okX12_measures_L41 (nI r) K (n + 1) (nI i) (fa F 59 f) G
    rw [okX12_measures_L41, fa_o F f (by decide : 8 ≠ 59), h0]
    rw [← nI_1] at hk2
    exact ⟨fun e => absurd e (nI_ge hi (by omega)), fun _ => n52_o h hi _ f hk2⟩) (fun _ _ _ _ => trivial) (fun n f _ hk2 => by
    show okX12_measures_L41 (nI r) K (n + 1) (nI nb) (fa F 59 f) G
    rw [okX12_measures_L41, fa_o F f (by decide : 8 ≠ 59), h0]
    exact ⟨fun _ => hk2, fun e => absurd (nI_le (Nat.le_refl _) (by omega)) e⟩) nb 0 80 f (by omega) (by omega) trivial hK
  rw [nI_0] at hl
  exact hl
def mFar (F : jF) (E : Nat → Nat → Bool) (nb g : Nat) : Nat → Int32 := itr (s33 E nb) 0 8 (itr (s0 g 100) 0 8 (F 59))
theorem nms_e (h : mEq F G E nb) {g : Nat} (hg : g < 8) : gX12_measures F G (nI g) = (fa F 59 (mFar F E nb g), G) := by
  unfold gX12_measures
  have hl := lpE (fun n i (f : Nat → Int32) => gX12_measures_L2 (nI g) (fun (_ : Int32) (F8 : jF) (G9 : jG) => (gX12_measures_L33 (fun (_ : Int32) (F40 : jF) (G41 : jG) => (F40, G41)) 80 0 F8 G9)) n i (fa F 59 f) G) (fun _ f => gX12_measures_L33 (fun (_ : Int32) (F40 : jF) (G41 : jG) => (F40, G41)) 80 0 (fa F 59 f) G) (s0 g 100) 8 (fun _ _ => True) (fun n i f hi _ => by
    show gX12_measures_L2 (nI g) _ (n + 1) (nI i) (fa F 59 f) G = _
    rw [gX12_measures_L2, n8, if_neg (nI_ge hi (by omega)), ← nI_1]
    simp only [bvd]
    rw [nI_clamp (by omega), fa_u]
    unfold s0
    by_cases e : i = g
    · rw [if_pos e, if_pos (by rw [e])]
    · rw [if_neg e, if_neg (fun h => e ((nI_eq (by omega) (by omega)).mp h))]) (fun _ _ _ _ => trivial) (fun n f _ => by
    show gX12_measures_L2 (nI g) _ (n + 1) (nI 8) (fa F 59 f) G = _
    rw [gX12_measures_L2, n8, if_pos (nI_le (Nat.le_refl _) (by omega))]) 8 0 80 (F 59) (by omega) (by omega) trivial
  rw [nI_0, fa_id] at hl
  rw [hl]
  have hl2 := lpE (fun n i (f : Nat → Int32) => gX12_measures_L33 (fun (_ : Int32) (F40 : jF) (G41 : jG) => (F40, G41)) n i (fa F 59 f) G) (fun _ f => (fa F 59 f, G)) (s33 E nb) 8 (fun _ _ => True) (fun n i f hi _ => by
    show gX12_measures_L33 _ (n + 1) (nI i) (fa F 59 f) G = _
    rw [gX12_measures_L33, n8, if_neg (nI_ge hi (by omega)), ← nI_1]
    exact n41_e h _ f) (fun _ _ _ _ => trivial) (fun n f _ => by
    show gX12_measures_L33 _ (n + 1) (nI 8) (fa F 59 f) G = _
    rw [gX12_measures_L33, n8, if_pos (nI_le (Nat.le_refl _) (by omega))]) 8 0 80 (itr (s0 g 100) 0 8 (F 59)) (by omega) (by omega) trivial
  rw [nI_0] at hl2
  exact hl2
theorem nms_o (h : mEq F G E nb) {g : Nat} (hg : g < 8) : okX12_measures F G (nI g) := by
  unfold okX12_measures
  have hl2 := lpO (fun n i (f : Nat → Int32) => okX12_measures_L33 (fun _ _ _ => True) n i (fa F 59 f) G) (fun _ _ => True) (s33 E nb) 8 (fun _ _ => True) (fun n i f hi _ hk => by
    show okX12_measures_L33 _ (n + 1) (nI i) (fa F 59 f) G
    rw [okX12_measures_L33, n8]
    rw [← nI_1] at hk
    exact ⟨fun e => absurd e (nI_ge hi (by omega)), fun _ => n41_o h _ f hk⟩) (fun _ _ _ _ => trivial) (fun n f _ hk => by
    show okX12_measures_L33 _ (n + 1) (nI 8) (fa F 59 f) G
    rw [okX12_measures_L33, n8]
    exact ⟨fun _ => trivial, fun e => absurd (nI_le (Nat.le_refl _) (by omega)) e⟩) 8 0 80 (itr (s0 g 100) 0 8 (F 59)) (by omega) (by omega) trivial trivial
  rw [nI_0] at hl2
  have hl := lpO (fun n i (f : Nat → Int32) => okX12_measures_L2 (nI g) (fun (_ : Int32) (F8 : jF) (G9 : jG) => (okX12_measures_L33 (fun _ _ _ => True) 80 0 F8 G9)) n i (fa F 59 f) G) (fun _ f => okX12_measures_L33 (fun _ _ _ => True) 80 0 (fa F 59 f) G) (s0 g 100) 8 (fun _ _ => True) (fun n i f hi _ hk => by
    show okX12_measures_L2 (nI g) _ (n + 1) (nI i) (fa F 59 f) G
    rw [okX12_measures_L2, n8]
    simp only [bvd]
    rw [nI_clamp (by omega), fa_u]
    rw [← nI_1] at hk
    unfold s0 at hk
    refine ⟨fun e => absurd e (nI_ge hi (by omega)), fun _ => ⟨nI_vin hi (by omega), ?_⟩⟩
    by_cases e : i = g
    · rw [if_pos e] at hk; rw [if_pos (by rw [e])]; exact hk
    · rw [if_neg e] at hk; rw [if_neg (fun h => e ((nI_eq (by omega) (by omega)).mp h))]; exact hk) (fun _ _ _ _ => trivial) (fun n f _ hk => by
    show okX12_measures_L2 (nI g) _ (n + 1) (nI 8) (fa F 59 f) G
    rw [okX12_measures_L2, n8]
    exact ⟨fun _ => hk, fun e => absurd (nI_le (Nat.le_refl _) (by omega)) e⟩) 8 0 80 (F 59) (by omega) (by omega) trivial hl2
  rw [nI_0, fa_id] at hl
  exact hl
end WAYM
