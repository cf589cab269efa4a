-- shares: the sums, in numbers
def sm (f : Nat → Int) : Nat → Int
  | 0 => 0
  | i + 1 => sm f i + f i
theorem sm_b {f : Nat → Int} {M : Int} {n : Nat} (h : ∀ j, j < n → 0 ≤ f j ∧ f j ≤ M) : ∀ i, i ≤ n → 0 ≤ sm f i ∧ sm f i ≤ M * (i : Int) := by
  intro i
  induction i with
  | zero => intro _; exact ⟨Int.le_refl _, by show (0 : Int) ≤ M * ((0 : Nat) : Int); simp⟩
  | succ i ih =>
    intro hi
    obtain ⟨h1, h2⟩ := ih (by omega)
    obtain ⟨h3, h4⟩ := h i (by omega)
    have e : M * ((i + 1 : Nat) : Int) = M * (i : Int) + M := by rw [Int.natCast_add, Int.mul_add]; simp
    show 0 ≤ sm f i + f i ∧ sm f i + f i ≤ M * ((i + 1 : Nat) : Int)
    rw [e]
    exact ⟨by omega, by omega⟩
theorem sm_one {f : Nat → Int} {n : Nat} (h : ∀ j, j < n → 0 ≤ f j) : ∀ i, i ≤ n → 0 ≤ sm f i ∧ ∀ j, j < i → f j ≤ sm f i := by
  intro i
  induction i with
  | zero => intro _; exact ⟨Int.le_refl _, fun j hj => by omega⟩
  | succ i ih =>
    intro hi
    obtain ⟨h1, h2⟩ := ih (by omega)
    have h3 := h i (by omega)
    refine ⟨by show 0 ≤ sm f i + f i; omega, fun j hj => ?_⟩
    show f j ≤ sm f i + f i
    by_cases e : j = i
    · rw [e]; omega
    · have := h2 j (by omega); omega
theorem cnt_sn (p : Nat → Bool) : ∀ d i, cnt p i (d + 1) = cnt p i d + (if p (i + d) = true then 1 else 0) := by
  intro d
  induction d with
  | zero => intro i; show (if p i = true then 1 else 0) + 0 = 0 + (if p (i + 0) = true then 1 else 0); rw [Nat.add_zero, Nat.add_zero, Nat.zero_add]
  | succ d ih =>
    intro i
    have h := ih (i + 1)
    rw [show i + 1 + d = i + (d + 1) by omega] at h
    show (if p i = true then 1 else 0) + cnt p (i + 1) (d + 1) = (if p i = true then 1 else 0) + cnt p (i + 1) d + (if p (i + (d + 1)) = true then 1 else 0)
    omega
/-- what is left is at most as many as have rests -/
theorem left_le (C A : Int) (W : Nat → Int) (hA : 0 < A) : ∀ n, (∀ j, j < n → 0 ≤ C * W j) → C * sm W n - A * sm (fun i => C * W i / A) n ≤ A * (cnt (fun i => decide (0 < C * W i % A)) 0 n : Int) := by
  intro n
  induction n with
  | zero => intro _; show C * 0 - A * 0 ≤ A * ((0 : Nat) : Int); simp
  | succ n ih =>
    intro h
    have h1 := ih (fun j hj => h j (by omega))
    have h2 := Int.emod_def (C * W n) A
    have h3 := Int.emod_lt_of_pos (C * W n) hA
    have h4 := Int.emod_nonneg (C * W n) (Int.ne_of_gt hA)
    rw [cnt_sn, Nat.zero_add]
    have e1 : C * sm W (n + 1) = C * sm W n + C * W n := by show C * (sm W n + W n) = _; rw [Int.mul_add]
    have e2 : A * sm (fun i => C * W i / A) (n + 1) = A * sm (fun i => C * W i / A) n + A * (C * W n / A) := by show A * (sm (fun i => C * W i / A) n + C * W n / A) = _; rw [Int.mul_add]
    rw [e1, e2]
    by_cases c : decide (0 < C * W n % A) = true
    · rw [if_pos c, Int.natCast_add, Int.mul_add]
      have : A * ((1 : Nat) : Int) = A := by simp
      rw [this]
      omega
    · rw [if_neg c, Nat.add_zero]
      have c : ¬ 0 < C * W n % A := fun e => c (decide_eq_true e)
      omega
def pC (C A : Int) (W : Nat → Int) (b i : Nat) : Bool := decide (C * W b % A < C * W i % A ∨ (C * W i % A = C * W b % A ∧ i < b))
def pM (C A : Int) (W : Nat → Int) (b i : Nat) : Bool := decide (0 < W i ∧ (C * W b % A < C * W i % A ∨ (C * W i % A = C * W b % A ∧ i < b)))
/-- both answer the same -/
theorem share_eq {C A : Int} {W : Nat → Int} {n b : Nat} (hC : 0 ≤ C) (hW : ∀ j, j < n → 0 ≤ W j) (hA : A = sm W n) (hA0 : 0 < A) (hb : b < n) {L : Int} (hL : L = C - sm (fun i => C * W i / A) n) : (W b = 0 → C * W b / A = 0 ∧ L ≤ (cnt (pC C A W b) 0 n : Int)) ∧ (0 < W b → (L ≤ (cnt (pC C A W b) 0 n : Int) ↔ L ≤ (cnt (pM C A W b) 0 n : Int))) := by
  have hp : ∀ j, j < n → 0 ≤ C * W j := fun j hj => Int.mul_nonneg hC (hW j hj)
  have h1 := left_le C A W hA0 n hp
  rw [← hA] at h1
  have h2 : L ≤ (cnt (fun i => decide (0 < C * W i % A)) 0 n : Int) := by
    refine Int.le_of_mul_le_mul_left ?_ hA0
    rw [hL, Int.mul_sub, Int.mul_comm A C]
    exact h1
  have up : C * W b % A = 0 → ∀ p : Nat → Bool, (∀ j, j < n → 0 < C * W j % A → p j = true) → L ≤ (cnt p 0 n : Int) := fun _ p hpp => by
    have : cnt (fun i => decide (0 < C * W i % A)) 0 n ≤ cnt p 0 n := cnt_le _ _ n 0 (fun j _ hj e => hpp j (by omega) (of_decide_eq_true e))
    omega
  have hpos : ∀ j, j < n → 0 < C * W j % A → 0 < W j := fun j hj h => by
    by_cases c : W j = 0
    · rw [c, Int.mul_zero, Int.zero_emod] at h; omega
    · have := hW j hj; omega
  refine ⟨fun h0 => ?_, fun h0 => ?_⟩
  · have e : C * W b % A = 0 := by rw [h0, Int.mul_zero, Int.zero_emod]
    refine ⟨by rw [h0, Int.mul_zero, Int.zero_ediv], up e _ (fun j hj h => decide_eq_true (Or.inl (by rw [e]; exact h)))⟩
  · by_cases e : C * W b % A = 0
    · have a1 := up e (pC C A W b) (fun j hj h => decide_eq_true (Or.inl (by rw [e]; exact h)))
      have a2 := up e (pM C A W b) (fun j hj h => decide_eq_true ⟨hpos j hj h, Or.inl (by rw [e]; exact h)⟩)
      exact ⟨fun _ => a2, fun _ => a1⟩
    · have h4 := Int.emod_nonneg (C * W b) (Int.ne_of_gt hA0)
      have e1 : cnt (pC C A W b) 0 n = cnt (pM C A W b) 0 n := by
        refine Nat.le_antisymm (cnt_le _ _ n 0 (fun j _ hj h => ?_)) (cnt_le _ _ n 0 (fun j _ hj h => ?_))
        · have h := of_decide_eq_true h
          exact decide_eq_true ⟨hpos j (by omega) (by omega), h⟩
        · have h := of_decide_eq_true h
          exact decide_eq_true h.2
      rw [e1]
-- the same, in the machine's numbers
theorem md_e {x A : Int64} (h0 : 0 ≤ x.toInt) (hA : 0 < A.toInt) : (x - x / A * A).toInt = x.toInt % A.toInt := by
  have e1 := i64d h0 hA
  have hx := Int64.toInt_lt x
  have q0 : 0 ≤ x.toInt / A.toInt := Int.ediv_nonneg h0 (by omega)
  have q1 : x.toInt / A.toInt * A.toInt ≤ x.toInt := Int.ediv_mul_le _ (by omega)
  have q2 : 0 ≤ x.toInt / A.toInt * A.toInt := Int.mul_nonneg q0 (by omega)
  have e2 : (x / A * A).toInt = x.toInt / A.toInt * A.toInt := by rw [i64m (by rw [e1]; omega) (by rw [e1]; omega), e1]
  rw [i64s (by rw [e2]; omega) (by rw [e2]; omega), e2, Int.emod_def, Int.mul_comm A.toInt]
def sh1 (w : Nat → Int64) (i : Nat) (v : Int64) : Int64 := v + w i
def sh2 (w : Nat → Int64) (c A : Int64) (i : Nat) (v : Int64) : Int64 := v - c * w i / A
def sh3 (w : Nat → Int64) (c A x : Int64) (b i : Nat) (v : Int64) : Int64 := if x - x / A * A < c * w i - c * w i / A * A then v + 1 else if c * w i - c * w i / A * A = x - x / A * A then (if nI b ≤ nI i then v else v + 1) else v
def sh4 (w : Nat → Int64) (c A x : Int64) (b i : Nat) (v : Int32) : Int32 := v + (if w i ≤ 0 then 0 else if x - x / A * A < c * w i - c * w i / A * A then 1 else if c * w i - c * w i / A * A = x - x / A * A then (if nI b ≤ nI i then 0 else 1) else 0)
theorem sh_v {w : Nat → Int64} {c : Int64} {n b : Nat} (hn : n ≤ 8) (hb : b < n) (hw : ∀ i, i < n → 0 ≤ (w i).toInt ∧ (w i).toInt ≤ 310000) (hc : 0 ≤ c.toInt ∧ c.toInt ≤ 999999) {A : Int64} (hA : A = itr (sh1 w) 0 n 0) : (A.toInt = sm (fun i => (w i).toInt) n ∧ 0 ≤ A.toInt ∧ (w b).toInt ≤ A.toInt) ∧ ((c * w b).toInt = c.toInt * (w b).toInt ∧ 0 ≤ (c * w b).toInt) ∧ (0 < A.toInt → (itr (sh2 w c A) 0 n c).toInt = c.toInt - sm (fun i => c.toInt * (w i).toInt / A.toInt) n ∧ (itr (sh3 w c A (c * w b) b) 0 n 0).toInt = (cnt (pC c.toInt A.toInt (fun i => (w i).toInt) b) 0 n : Int) ∧ (itr (sh4 w c A (c * w b) b) 0 n 0).toInt = (cnt (pM c.toInt A.toInt (fun i => (w i).toInt) b) 0 n : Int)) := by
  have z0 : (0 : Int64).toInt = 0 := rfl
  have y0 : (0 : Int32).toInt = 0 := rfl
  have z1 : (1 : Int64).toInt = 1 := rfl
  have y1 : (1 : Int32).toInt = 1 := rfl
  have hsb := sm_b (f := fun i => (w i).toInt) (M := 310000) (n := n) (fun j hj => hw j hj)
  have hs1 := sm_one (f := fun i => (w i).toInt) (n := n) (fun j hj => (hw j hj).1)
  have hpb : ∀ i, i < n → 0 ≤ c.toInt * (w i).toInt ∧ c.toInt * (w i).toInt ≤ 999999 * 310000 := fun i hi => ⟨Int.mul_nonneg hc.1 (hw i hi).1, Int.mul_le_mul hc.2 (hw i hi).2 (hw i hi).1 (by omega)⟩
  have hpe : ∀ i, i < n → (c * w i).toInt = c.toInt * (w i).toInt := fun i hi => by
    have := hpb i hi
    exact i64m (by omega) (by omega)
  have a1 : A.toInt = sm (fun i => (w i).toInt) n := by
    rw [hA]
    exact itrP (sh1 w) n (fun i v => v.toInt = sm (fun i => (w i).toInt) i) (fun i v hi hv => by
      have h1 := hsb i (by omega)
      have h2 := hw i hi
      unfold sh1
      rw [i64a (by omega) (by omega), hv]
      rfl) n 0 0 (by omega) z0
  refine ⟨⟨a1, by rw [a1]; exact (hsb n (Nat.le_refl _)).1, by rw [a1]; exact (hs1 n (Nat.le_refl _)).2 b hb⟩, ⟨hpe b hb, by rw [hpe b hb]; exact (hpb b hb).1⟩, fun hA0 => ?_⟩
  have hq : ∀ i, i < n → 0 ≤ c.toInt * (w i).toInt / A.toInt ∧ c.toInt * (w i).toInt / A.toInt ≤ 310000000000 := fun i hi => by
    have h1 := hpb i hi
    have h2 := Int.ediv_le_self A.toInt h1.1
    exact ⟨Int.ediv_nonneg h1.1 (by omega), by omega⟩
  have hqb := sm_b (f := fun i => c.toInt * (w i).toInt / A.toInt) (M := 310000000000) (n := n) hq
  have hd : ∀ i, i < n → (c * w i / A).toInt = c.toInt * (w i).toInt / A.toInt := fun i hi => by
    rw [i64d (by rw [hpe i hi]; exact (hpb i hi).1) hA0, hpe i hi]
  have hmd : ∀ i, i < n → (c * w i - c * w i / A * A).toInt = c.toInt * (w i).toInt % A.toInt := fun i hi => by
    rw [md_e (by rw [hpe i hi]; exact (hpb i hi).1) hA0, hpe i hi]
  refine ⟨?_, ?_, ?_⟩
  · exact itrP (sh2 w c A) n (fun i v => v.toInt = c.toInt - sm (fun i => c.toInt * (w i).toInt / A.toInt) i) (fun i v hi hv => by
      have h1 := hqb i (by omega)
      have h2 := hq i hi
      have h3 : (i : Int) ≤ 8 := by omega
      unfold sh2
      rw [i64s (by rw [hd i hi]; omega) (by rw [hd i hi]; omega), hd i hi, hv]
      show c.toInt - sm (fun i => c.toInt * (w i).toInt / A.toInt) i - c.toInt * (w i).toInt / A.toInt = c.toInt - (sm (fun i => c.toInt * (w i).toInt / A.toInt) i + c.toInt * (w i).toInt / A.toInt)
      omega) n 0 c (by omega) (by show c.toInt = c.toInt - 0; omega)
  · exact itrP (sh3 w c A (c * w b) b) n (fun i v => v.toInt = (cnt (pC c.toInt A.toInt (fun i => (w i).toInt) b) 0 i : Int)) (fun i v hi hv => by
      have h1 := cnt_b (pC c.toInt A.toInt (fun i => (w i).toInt) b) i 0
      have hi1 : (v + 1).toInt = v.toInt + 1 := by rw [i64a (by rw [z1]; omega) (by rw [z1]; omega), z1]
      rw [cnt_sn, Nat.zero_add, Int.natCast_add, ← hv]
      unfold sh3 pC
      by_cases c1 : c * w b - c * w b / A * A < c * w i - c * w i / A * A
      · rw [if_pos c1, hi1]
        rw [i64lt, hmd b hb, hmd i hi] at c1
        rw [if_pos (decide_eq_true (Or.inl c1))]
        rfl
      · rw [if_neg c1]
        rw [i64lt, hmd b hb, hmd i hi] at c1
        by_cases c2 : c * w i - c * w i / A * A = c * w b - c * w b / A * A
        · rw [if_pos c2]
          rw [i64eq, hmd b hb, hmd i hi] at c2
          by_cases c3 : b ≤ i
          · rw [if_pos (nI_le c3 (by omega)), if_neg (fun e => by have e := of_decide_eq_true e; dsimp only at e; omega)]
            show v.toInt = v.toInt + ((0 : Nat) : Int)
            omega
          · rw [if_neg (nI_ge (by omega) (by omega)), hi1, if_pos (decide_eq_true (Or.inr ⟨c2, by omega⟩))]
            rfl
        · rw [if_neg c2]
          rw [i64eq, hmd b hb, hmd i hi] at c2
          rw [if_neg (fun e => by have e := of_decide_eq_true e; dsimp only at e; omega)]
          show v.toInt = v.toInt + ((0 : Nat) : Int)
          omega) n 0 0 (by omega) rfl
  · exact itrP (sh4 w c A (c * w b) b) n (fun i v => v.toInt = (cnt (pM c.toInt A.toInt (fun i => (w i).toInt) b) 0 i : Int)) (fun i v hi hv => by
      have h1 := cnt_b (pM c.toInt A.toInt (fun i => (w i).toInt) b) i 0
      have hi1 : (v + 1).toInt = v.toInt + 1 := by rw [i32a (by rw [y1]; omega) (by rw [y1]; omega), y1]
      rw [cnt_sn, Nat.zero_add, Int.natCast_add, ← hv]
      unfold sh4 pM
      by_cases c0 : w i ≤ 0
      · rw [if_pos c0, Int32.add_zero]
        rw [i64le, z0] at c0
        rw [if_neg (fun e => by have e := of_decide_eq_true e; dsimp only at e; omega)]
        show v.toInt = v.toInt + ((0 : Nat) : Int)
        omega
      · rw [if_neg c0]
        rw [i64le, z0] at c0
        by_cases c1 : c * w b - c * w b / A * A < c * w i - c * w i / A * A
        · rw [if_pos c1, hi1]
          rw [i64lt, hmd b hb, hmd i hi] at c1
          rw [if_pos (decide_eq_true ⟨(by show 0 < (w i).toInt; omega), Or.inl c1⟩)]
          rfl
        · rw [if_neg c1]
          rw [i64lt, hmd b hb, hmd i hi] at c1
          by_cases c2 : c * w i - c * w i / A * A = c * w b - c * w b / A * A
          · rw [if_pos c2]
            rw [i64eq, hmd b hb, hmd i hi] at c2
            by_cases c3 : b ≤ i
            · rw [if_pos (nI_le c3 (by omega)), Int32.add_zero, if_neg (fun e => by have e := of_decide_eq_true e; dsimp only at e; omega)]
              show v.toInt = v.toInt + ((0 : Nat) : Int)
              omega
            · rw [if_neg (nI_ge (by omega) (by omega)), hi1, if_pos (decide_eq_true ⟨(by show 0 < (w i).toInt; omega), Or.inr ⟨c2, by omega⟩⟩)]
              rfl
          · rw [if_neg c2, Int32.add_zero]
            rw [i64eq, hmd b hb, hmd i hi] at c2
            rw [if_neg (fun e => by have e := of_decide_eq_true e; dsimp only at e; omega)]
            show v.toInt = v.toInt + ((0 : Nat) : Int)
            omega) n 0 0 (by omega) rfl
