-- the ways of an hour, in class and reference
/-- which roads are free, by the class's own notes -/
def cE (F : jF) (G : jG) (a b : Nat) : Bool := decide (a < 8 ∧ b < 8 ∧ gX8_isFree F G (nI a) (nI b) ≠ 0)
def mE (FM : jF) (GM : jG) (a b : Nat) : Bool := decide (FM 16 (8 * a + b) = 1 ∧ gX12_isCut FM GM (nI a) = 0 ∧ gX12_isCut FM GM (nI b) = 0)
theorem nI_mul8 (a b : Nat) : nI a * 8 + nI b = nI (8 * a + b) := by
  have e : nI a * 8 = nI (a * 8) := by
    have := (Int32.ofNat_mul a 8).symm
    exact this
  rw [e, nI_add, Nat.mul_comm]
theorem nI_8mul (a b : Nat) : 8 * nI a + nI b = nI (8 * a + b) := by rw [Int32.mul_comm, nI_mul8]
theorem fr_e (F : jF) (G : jG) {a b : Nat} (ha : a < 8) (hb : b < 8) : gX8_isFree F G (nI a) (nI b) = if F 70 a = 0 then 0 else if F 70 b = 0 then 0 else if F 16 (8 * a + b) = 0 then 0 else 1 := by
  unfold gX8_isFree gX8_isBuilt
  rw [if_neg (nI_pos (by omega)), n8, if_neg (nI_ge ha (by omega)), if_neg (nI_pos (by omega)), if_pos (nI_lt hb (by omega))]
  simp only [bvd]
  rw [nI_clamp (by omega), nI_clamp (by omega), show nI a * nI 8 + nI b = nI (8 * a + b) from nI_mul8 a b, if_neg (nI_pos (by omega)), show (64 : Int32) = nI 64 from rfl, if_neg (nI_ge (by omega) (by omega)), nI_clamp (by omega)]
  by_cases c : F 16 (8 * a + b) = 0
  · rw [if_pos c, if_pos rfl]
  · rw [if_neg c, if_neg (show ¬ (1 : Int32) = 0 by decide)]
theorem fr_ok (F : jF) (G : jG) (p q : Int32) : okX8_isFree F G p q := by
  unfold okX8_isFree
  refine ⟨fun _ => trivial, fun h1 => ⟨fun _ => trivial, fun h2 => ⟨fun _ => trivial, fun h3 => ⟨fun h4 => ?_, fun _ => trivial⟩⟩⟩⟩
  obtain ⟨a, ha, rfl⟩ := nI_of h1
  obtain ⟨b, hb, rfl⟩ := nI_of h3
  rw [n8, nI_leI (by omega) ha] at h2
  rw [n8, nI_ltI hb (by omega)] at h4
  refine ⟨nI_vin (by omega) (by omega), fun _ => trivial, fun _ => ⟨nI_vin h4 (by omega), fun _ => trivial, fun _ => ?_⟩⟩
  unfold okX8_isBuilt
  rw [bvd, show nI a * 8 + nI b = nI (8 * a + b) from nI_mul8 a b]
  refine ⟨fun _ => trivial, fun _ => ⟨fun _ => trivial, fun h => ?_⟩⟩
  rw [show (64 : Int32) = nI 64 from rfl, nI_leI (by omega) (by omega)] at h
  exact nI_vin (by omega) (by omega)
-- arrays in a state
def fa (F : jF) (k : Nat) (f : Nat → Int32) : jF := va_up F k f
theorem fa_at (F : jF) (k : Nat) (f : Nat → Int32) : fa F k f k = f := by unfold fa; rw [va_u, if_pos rfl]
theorem fa_o (F : jF) {k j : Nat} (f : Nat → Int32) (h : j ≠ k) : fa F k f j = F j := by unfold fa; rw [va_u, if_neg h]
theorem fa_u (F : jF) (k : Nat) (f : Nat → Int32) (i : Nat) (v : Int32) : u2 (fa F k f) k i v = fa F k (va_up f i v) := by
  funext a
  by_cases h : a = k
  · subst h; funext j; rw [u2_same, fa_at, fa_at, va_u]
  · rw [u2_other _ h, fa_o _ _ h, fa_o _ _ h]
theorem fa_id (F : jF) (k : Nat) : fa F k (F k) = F := by
  funext a
  by_cases h : a = k
  · subst h; rw [fa_at]
  · rw [fa_o _ _ h]
theorem fr_fa (F : jF) (G : jG) (f : Nat → Int32) (p q : Int32) : gX8_isFree (fa F 68 f) G p q = gX8_isFree F G p q := by
  unfold gX8_isFree gX8_isBuilt
  rw [fa_o F f (by decide : 70 ≠ 68), fa_o F f (by decide : 16 ≠ 68)]
section WAY
variable {F : jF} {G : jG}
-- the class's loops
theorem m58_e {a r : Nat} (ha : a < 8) (K : Int32 → jF → jG → jS) (f : Nat → Int32) : gX8_measure_L58 (nI a) (nI r) K 80 0 (fa F 68 f) G = K 8 (fa F 68 (itr (s58 (cE F G) r a) 0 8 f)) G := by
  have hl := lpE (fun n i (f : Nat → Int32) => gX8_measure_L58 (nI a) (nI r) K n i (fa F 68 f) G) (fun v f => K v (fa F 68 f) G) (s58 (cE F G) r a) 8 (fun _ _ => True) (fun n i f hi _ => by
    show gX8_measure_L58 (nI a) (nI r) K (n + 1) (nI i) (fa F 68 f) G = _
    rw [gX8_measure_L58, n8, if_neg (nI_ge hi (by omega)), ← nI_1, nI_clamp (by omega), nI_clamp (by omega), fa_at]
    simp only [bvd]
    rw [fr_fa, fa_u]
    unfold s58 cE
    by_cases c1 : f a = nI r
    · rw [if_pos c1, if_pos c1]
      by_cases c2 : 0 ≤ f i
      · rw [if_pos c2, if_pos c2]
      · rw [if_neg c2, if_neg c2]
        by_cases c3 : gX8_isFree F G (nI a) (nI i) = 0
        · rw [if_pos c3, if_neg (by rw [decide_eq_true_iff]; exact fun h => h.2.2 c3)]
        · rw [if_neg c3, if_pos (decide_eq_true ⟨ha, hi, c3⟩)]
    · rw [if_neg c1, if_neg c1]) (fun _ _ _ _ => trivial) (fun n f _ => by
    show gX8_measure_L58 (nI a) (nI r) K (n + 1) (nI 8) (fa F 68 f) G = _
    rw [gX8_measure_L58, n8, if_pos (nI_le (Nat.le_refl _) (by omega))]) 8 0 80 f (by omega) (by omega) trivial
  rw [nI_0] at hl
  exact hl
theorem m58_o {a r : Nat} (ha : a < 8) (K : Int32 → jF → jG → Prop) (f : Nat → Int32) (h : K 8 (fa F 68 (itr (s58 (cE F G) r a) 0 8 f)) G) : okX8_measure_L58 (nI a) (nI r) K 80 0 (fa F 68 f) G := by
  have hl := lpO (fun n i (f : Nat → Int32) => okX8_measure_L58 (nI a) (nI r) K n i (fa F 68 f) G) (fun v f => K v (fa F 68 f) G) (s58 (cE F G) r a) 8 (fun _ _ => True) (fun n i f hi _ hk => by
    show okX8_measure_L58 (nI a) (nI r) K (n + 1) (nI i) (fa F 68 f) G
    rw [okX8_measure_L58, n8, nI_clamp (by omega), nI_clamp (by omega), fa_at]
    simp only [bvd]
    rw [fr_fa, fa_u]
    rw [← nI_1] at hk
    unfold s58 cE at hk
    have hva : vp_in (nI a) 8 := nI_vin ha (by omega)
    have hvi : vp_in (nI i) 8 := nI_vin hi (by omega)
    refine ⟨fun e => absurd e (nI_ge hi (by omega)), fun _ => ⟨hva, fun c1 => ⟨hvi, fun c2 => ?_, fun c2 => ⟨fr_ok _ _ _ _, fun c3 => ?_, fun c3 => ⟨hvi, ?_⟩⟩⟩, fun c1 => ?_⟩⟩
    · rw [if_pos c1, if_pos c2] at hk; exact hk
    · rw [if_pos c1, if_neg c2, if_neg (by rw [decide_eq_true_iff]; exact fun h => h.2.2 c3)] at hk; exact hk
    · rw [if_pos c1, if_neg c2, if_pos (decide_eq_true ⟨ha, hi, c3⟩)] at hk; exact hk
    · rw [if_neg c1] at hk; exact hk) (fun _ _ _ _ => trivial) (fun n f _ hk => by
    show okX8_measure_L58 (nI a) (nI r) K (n + 1) (nI 8) (fa F 68 f) G
    rw [okX8_measure_L58, n8]
    exact ⟨fun _ => hk, fun e => absurd (nI_le (Nat.le_refl _) (by omega)) e⟩) 8 0 80 f (by omega) (by omega) trivial h
  rw [nI_0] at hl
  exact hl
theorem m46_e {r : Nat} (K : Int32 → jF → jG → jS) (f : Nat → Int32) : gX8_measure_L46 (nI r) K 80 0 (fa F 68 f) G = K 8 (fa F 68 (s35 (cE F G) r f)) G := by
  have hl := lpE (fun n i (f : Nat → Int32) => gX8_measure_L46 (nI r) K n i (fa F 68 f) G) (fun v f => K v (fa F 68 f) G) (s46 (cE F G) r) 8 (fun _ _ => True) (fun n i f hi _ => by
    show gX8_measure_L46 (nI r) K (n + 1) (nI i) (fa F 68 f) G = _
    rw [gX8_measure_L46, n8, if_neg (nI_ge hi (by omega)), ← nI_1]
    exact m58_e hi _ f) (fun _ _ _ _ => trivial) (fun n f _ => by
    show gX8_measure_L46 (nI r) K (n + 1) (nI 8) (fa F 68 f) G = _
    rw [gX8_measure_L46, n8, if_pos (nI_le (Nat.le_refl _) (by omega))]) 8 0 80 f (by omega) (by omega) trivial
  rw [nI_0] at hl
  exact hl
theorem m46_o {r : Nat} (K : Int32 → jF → jG → Prop) (f : Nat → Int32) (h : K 8 (fa F 68 (s35 (cE F G) r f)) G) : okX8_measure_L46 (nI r) K 80 0 (fa F 68 f) G := by
  have hl := lpO (fun n i (f : Nat → Int32) => okX8_measure_L46 (nI r) K n i (fa F 68 f) G) (fun v f => K v (fa F 68 f) G) (s46 (cE F G) r) 8 (fun _ _ => True) (fun n i f hi _ hk => by
    show okX8_measure_L46 (nI r) K (n + 1) (nI i) (fa F 68 f) G
    rw [okX8_measure_L46, n8]
    rw [← nI_1] at hk
    exact ⟨fun e => absurd e (nI_ge hi (by omega)), fun _ => m58_o hi _ f hk⟩) (fun _ _ _ _ => trivial) (fun n f _ hk => by
    show okX8_measure_L46 (nI r) K (n + 1) (nI 8) (fa F 68 f) G
    rw [okX8_measure_L46, n8]
    exact ⟨fun _ => hk, fun e => absurd (nI_le (Nat.le_refl _) (by omega)) e⟩) 8 0 80 f (by omega) (by omega) trivial h
  rw [nI_0] at hl
  exact hl
theorem m35_e (K : Int32 → jF → jG → jS) (f : Nat → Int32) : gX8_measure_L35 K 80 0 (fa F 68 f) G = K 8 (fa F 68 (itr (s35 (cE F G)) 0 8 f)) G := by
  have hl := lpE (fun n i (f : Nat → Int32) => gX8_measure_L35 K n i (fa F 68 f) G) (fun v f => K v (fa F 68 f) G) (s35 (cE F G)) 8 (fun _ _ => True) (fun n i f hi _ => by
    show gX8_measure_L35 K (n + 1) (nI i) (fa F 68 f) G = _
    rw [gX8_measure_L35, n8, if_neg (nI_ge hi (by omega)), ← nI_1]
    exact m46_e _ f) (fun _ _ _ _ => trivial) (fun n f _ => by
    show gX8_measure_L35 K (n + 1) (nI 8) (fa F 68 f) G = _
    rw [gX8_measure_L35, n8, if_pos (nI_le (Nat.le_refl _) (by omega))]) 8 0 80 f (by omega) (by omega) trivial
  rw [nI_0] at hl
  exact hl
theorem m35_o (K : Int32 → jF → jG → Prop) (f : Nat → Int32) (h : K 8 (fa F 68 (itr (s35 (cE F G)) 0 8 f)) G) : okX8_measure_L35 K 80 0 (fa F 68 f) G := by
  have hl := lpO (fun n i (f : Nat → Int32) => okX8_measure_L35 K n i (fa F 68 f) G) (fun v f => K v (fa F 68 f) G) (s35 (cE F G)) 8 (fun _ _ => True) (fun n i f hi _ hk => by
    show okX8_measure_L35 K (n + 1) (nI i) (fa F 68 f) G
    rw [okX8_measure_L35, n8]
    rw [← nI_1] at hk
    exact ⟨fun e => absurd e (nI_ge hi (by omega)), fun _ => m46_o _ f hk⟩) (fun _ _ _ _ => trivial) (fun n f _ hk => by
    show okX8_measure_L35 K (n + 1) (nI 8) (fa F 68 f) G
    rw [okX8_measure_L35, n8]
    exact ⟨fun _ => hk, fun e => absurd (nI_le (Nat.le_refl _) (by omega)) e⟩) 8 0 80 f (by omega) (by omega) trivial h
  rw [nI_0] at hl
  exact hl
/-- the start of the measuring -/
def s0 (g : Nat) (x : Int32) (i : Nat) (f : Nat → Int32) : Nat → Int32 := va_up f i (if i = g then 0 else x)
theorem s0_v (g : Nat) (x : Int32) (f : Nat → Int32) : ∀ i, i < 8 → itr (s0 g x) 0 8 f i = if i = g then 0 else x := by
  have h := itrP (s0 g x) 8 (fun n f1 => ∀ i, i < n → f1 i = if i = g then 0 else x) (fun n f1 hn h i hi => by
    unfold s0
    rw [va_u]
    by_cases e : i = n
    · rw [if_pos e, e]
    · rw [if_neg e]; exact h i (by omega)) 8 0 f (by omega) (fun i hi => absurd hi (by omega))
  exact h
def cF (F : jF) (G : jG) (g : Nat) : Nat → Int32 := itr (s35 (cE F G)) 0 8 (itr (s0 g (-1)) 0 8 (F 68))
theorem ms_e {g : Nat} (hg : g < 8) : gX8_measure F G (nI g) = (fa F 68 (cF F G g), G) := by
  unfold gX8_measure
  have hl := lpE (fun n i (f : Nat → Int32) => gX8_measure_L2 (nI g) (fun (_ : Int32) (F8 : jF) (G9 : jG) => (gX8_measure_L35 (fun (_ : Int32) (F30 : jF) (G31 : jG) => (F30, G31)) 80 0 F8 G9)) n i (fa F 68 f) G) (fun _ f => gX8_measure_L35 (fun (_ : Int32) (F30 : jF) (G31 : jG) => (F30, G31)) 80 0 (fa F 68 f) G) (s0 g (-1)) 8 (fun _ _ => True) (fun n i f hi _ => by
    show gX8_measure_L2 (nI g) _ (n + 1) (nI i) (fa F 68 f) G = _
    rw [gX8_measure_L2, n8, if_neg (nI_ge hi (by omega)), ← nI_1]
    simp only [bvd]
    rw [nI_clamp (by omega), fa_u]
    unfold s0
    by_cases e : i = g
    · rw [if_pos e, if_pos (by rw [e])]
    · rw [if_neg e, if_neg (fun h => e ((nI_eq (by omega) (by omega)).mp h))]) (fun _ _ _ _ => trivial) (fun n f _ => by
    show gX8_measure_L2 (nI g) _ (n + 1) (nI 8) (fa F 68 f) G = _
    rw [gX8_measure_L2, n8, if_pos (nI_le (Nat.le_refl _) (by omega))]) 8 0 80 (F 68) (by omega) (by omega) trivial
  rw [nI_0, fa_id] at hl
  rw [hl, m35_e]
  rfl
theorem ms_o {g : Nat} (hg : g < 8) : okX8_measure F G (nI g) := by
  unfold okX8_measure
  have hl := lpO (fun n i (f : Nat → Int32) => okX8_measure_L2 (nI g) (fun (_ : Int32) (F8 : jF) (G9 : jG) => (okX8_measure_L35 (fun _ _ _ => True) 80 0 F8 G9)) n i (fa F 68 f) G) (fun _ f => okX8_measure_L35 (fun _ _ _ => True) 80 0 (fa F 68 f) G) (s0 g (-1)) 8 (fun _ _ => True) (fun n i f hi _ hk => by
    show okX8_measure_L2 (nI g) _ (n + 1) (nI i) (fa F 68 f) G
    rw [okX8_measure_L2, n8]
    simp only [bvd]
    rw [nI_clamp (by omega), fa_u]
    rw [← nI_1] at hk
    unfold s0 at hk
    refine ⟨fun e => absurd e (nI_ge hi (by omega)), fun _ => ⟨nI_vin hi (by omega), ?_⟩⟩
    by_cases e : i = g
    · rw [if_pos e] at hk; rw [if_pos (by rw [e])]; exact hk
    · rw [if_neg e] at hk; rw [if_neg (fun h => e ((nI_eq (by omega) (by omega)).mp h))]; exact hk) (fun _ _ _ _ => trivial) (fun n f _ hk => by
    show okX8_measure_L2 (nI g) _ (n + 1) (nI 8) (fa F 68 f) G
    rw [okX8_measure_L2, n8]
    exact ⟨fun _ => hk, fun e => absurd (nI_le (Nat.le_refl _) (by omega)) e⟩) 8 0 80 (F 68) (by omega) (by omega) trivial (m35_o _ _ trivial)
  rw [nI_0, fa_id] at hl
  exact hl
end WAY
