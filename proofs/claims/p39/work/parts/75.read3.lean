-- the next height: the one of a rank, in both
def cnt (p : Nat → Bool) : Nat → Nat → Nat
  | _, 0 => 0
  | i, d + 1 => (if p i = true then 1 else 0) + cnt p (i + 1) d
theorem cnt_le (p q : Nat → Bool) : ∀ d i, (∀ j, i ≤ j → j < i + d → p j = true → q j = true) → cnt p i d ≤ cnt q i d := by
  intro d
  induction d with
  | zero => intro i _; exact Nat.le_refl _
  | succ d ih =>
    intro i h
    have h1 := ih (i + 1) (fun j a b => h j (by omega) (by omega))
    have h2 := h i (Nat.le_refl _) (by omega)
    show (if p i = true then 1 else 0) + cnt p (i + 1) d ≤ (if q i = true then 1 else 0) + cnt q (i + 1) d
    by_cases c : p i = true
    · rw [if_pos c, if_pos (h2 c)]; omega
    · rw [if_neg c]; split <;> omega
theorem cnt_b (p : Nat → Bool) : ∀ d i, cnt p i d ≤ d := by
  intro d
  induction d with
  | zero => intro i; exact Nat.le_refl _
  | succ d ih =>
    intro i
    have h1 := ih (i + 1)
    show (if p i = true then 1 else 0) + cnt p (i + 1) d ≤ d + 1
    split <;> omega
theorem cnt_all (p : Nat → Bool) : ∀ d i, (∀ j, i ≤ j → j < i + d → p j = true) → cnt p i d = d := by
  intro d
  induction d with
  | zero => intro i _; rfl
  | succ d ih =>
    intro i h
    have h1 := ih (i + 1) (fun j a b => h j (by omega) (by omega))
    show (if p i = true then 1 else 0) + cnt p (i + 1) d = d + 1
    rw [if_pos (h i (Nat.le_refl _) (by omega)), h1]; omega
theorem cnt_none (p : Nat → Bool) : ∀ d i, (∀ j, i ≤ j → j < i + d → ¬ p j = true) → cnt p i d = 0 := by
  intro d
  induction d with
  | zero => intro i _; rfl
  | succ d ih =>
    intro i h
    have h1 := ih (i + 1) (fun j a b => h j (by omega) (by omega))
    show (if p i = true then 1 else 0) + cnt p (i + 1) d = 0
    rw [if_neg (h i (Nat.le_refl _) (by omega)), h1]
theorem cnt_add (p q s : Nat → Bool) (h : ∀ j, (if p j = true then 1 else 0) + (if q j = true then 1 else 0) = (if s j = true then (1 : Nat) else 0)) : ∀ d i, cnt p i d + cnt q i d = cnt s i d := by
  intro d
  induction d with
  | zero => intro i; rfl
  | succ d ih =>
    intro i
    have h1 := ih (i + 1)
    have h2 := h i
    show (if p i = true then 1 else 0) + cnt p (i + 1) d + ((if q i = true then 1 else 0) + cnt q (i + 1) d) = (if s i = true then 1 else 0) + cnt s (i + 1) d
    omega
/-- the least one above x -/
theorem cnt_min (r : Nat → Int) (x : Int) : ∀ d i, (∀ j, i ≤ j → j < i + d → ¬ x < r j) ∨ ∃ j, (i ≤ j ∧ j < i + d) ∧ x < r j ∧ ∀ m, i ≤ m → m < i + d → x < r m → r j ≤ r m := by
  intro d
  induction d with
  | zero => intro i; exact Or.inl (fun j a b => by omega)
  | succ d ih =>
    intro i
    rcases ih (i + 1) with h | ⟨j, ⟨h1, h2⟩, h3, h4⟩
    · by_cases c : x < r i
      · refine Or.inr ⟨i, ⟨by omega, by omega⟩, c, fun m a b e => ?_⟩
        by_cases em : m = i
        · rw [em]; omega
        · exact absurd e (h m (by omega) (by omega))
      · refine Or.inl (fun j a b => ?_)
        by_cases em : j = i
        · rw [em]; exact c
        · exact h j (by omega) (by omega)
    · by_cases c : x < r i ∧ r i ≤ r j
      · refine Or.inr ⟨i, ⟨by omega, by omega⟩, c.1, fun m a b e => ?_⟩
        by_cases em : m = i
        · rw [em]; omega
        · have := h4 m (by omega) (by omega) e
          omega
      · refine Or.inr ⟨j, ⟨by omega, by omega⟩, h3, fun m a b e => ?_⟩
        by_cases em : m = i
        · rw [em] at e ⊢
          have : ¬ r i ≤ r j := fun e2 => c ⟨e, e2⟩
          omega
        · exact h4 m (by omega) (by omega) e
def cGt (r : Nat → Int) (i0 a : Nat) (x : Int) : Nat := cnt (fun j => decide (x < r j)) i0 a
def cEq (r : Nat → Int) (i0 a : Nat) (x : Int) : Nat := cnt (fun j => decide (r j = x)) i0 a
def cGe (r : Nat → Int) (i0 a : Nat) (x : Int) : Nat := cnt (fun j => decide (x ≤ r j)) i0 a
theorem cGtE (r : Nat → Int) (i0 a : Nat) (x : Int) : cGt r i0 a x + cEq r i0 a x = cGe r i0 a x := by
  refine cnt_add _ _ _ (fun j => ?_) a i0
  simp only [decide_eq_true_eq]
  split <;> split <;> split <;> omega
theorem kth_lt (r : Nat → Int) (i0 a k : Nat) (hk : 1 ≤ k) (v : Int) (h : ∀ j, i0 ≤ j → j < i0 + a → k ≤ cGe r i0 a (r j) → r j ≤ v) : cGt r i0 a v < k := by
  rcases cnt_min r v a i0 with h0 | ⟨j, ⟨h1, h2⟩, h3, h4⟩
  · have : cGt r i0 a v = 0 := cnt_none _ a i0 (fun j a b e => h0 j a b (of_decide_eq_true e))
    omega
  · by_cases c : cGt r i0 a v < k
    · exact c
    · have h5 : cGt r i0 a v ≤ cGe r i0 a (r j) := cnt_le _ _ a i0 (fun m a b e => decide_eq_true (h4 m a b (of_decide_eq_true e)))
      have := h j h1 h2 (by omega)
      omega
theorem kth_un (r : Nat → Int) (i0 a k : Nat) {v x : Int} (h1 : cGt r i0 a v < k) (h2 : k ≤ cGe r i0 a v) (h3 : cGt r i0 a x < k) (h4 : k ≤ cGe r i0 a x) : x = v := by
  have up : ∀ {p q : Int}, p < q → cGe r i0 a q ≤ cGt r i0 a p := fun {p q} h => cnt_le _ _ a i0 (fun m _ _ e => by
    have e := of_decide_eq_true e
    exact decide_eq_true (by omega))
  rcases Int.lt_trichotomy x v with h | h | h
  · have := up h; omega
  · exact h
  · have := up h; omega
theorem itr_c (p : Nat → Bool) : ∀ d i c, itr (fun i (v : Int32) => if p i = true then v + 1 else v) i d (nI c) = nI (c + cnt p i d) := by
  intro d
  induction d with
  | zero => intro i c; rfl
  | succ d ih =>
    intro i c
    show itr (fun i (v : Int32) => if p i = true then v + 1 else v) (i + 1) d (if p i = true then nI c + 1 else nI c) = nI (c + ((if p i = true then 1 else 0) + cnt p (i + 1) d))
    by_cases h : p i = true
    · rw [if_pos h, if_pos h, nI_1, ih]; congr 1; omega
    · rw [if_neg h, if_neg h, ih]; congr 1; omega
def rI (G : jG) (j : Nat) : Int := (G 57 j).toInt
theorem nI_sub {y a : Nat} (h : a ≤ y) (hy : y < 1000) : nI y - nI a = nI (y - a) := by
  rw [i32eq, i32s (by rw [nI_toInt (by omega), nI_toInt (by omega)]; omega) (by rw [nI_toInt (by omega), nI_toInt (by omega)]; omega), nI_toInt (by omega), nI_toInt (by omega), nI_toInt (by omega)]
  omega
theorem cl_e {F : jF} {G : jG} {y a : Nat} (hy : F 1 0 = nI y) (hy20 : y ≤ 20) (ha : a ≤ y) (x : Int64) : gX1_countLast F G (nI a) x = nI (cGe (rI G) (y - a) a x.toInt) ∧ okX1_countLast F G (nI a) x := by
  have h := lpE (fun n i (v : Int32) => gX1_countLast_L11 F G x (fun (_ : Int32) (y : Int32) => y) n i v) (fun _ v => v) (fun i v => if decide (x.toInt ≤ rI G i) = true then v + 1 else v) y (fun _ _ => True) (fun n i v hi _ => by
    show gX1_countLast_L11 F G x (fun (_ : Int32) (y : Int32) => y) (n + 1) (nI i) v = _
    rw [gX1_countLast_L11, hy, if_neg (nI_ge hi (by omega)), ← nI_1, bvd, (gi_e (F := F) (G := G) (j := i) (by omega)).1]
    by_cases hc : G 57 i < x
    · rw [if_pos hc, if_neg (fun e => by have e := of_decide_eq_true e; rw [i64lt] at hc; unfold rI at e; omega)]
    · rw [if_neg hc, if_pos (decide_eq_true (by rw [i64lt] at hc; unfold rI; omega))]) (fun _ _ _ _ => trivial) (fun n v _ => by
    show gX1_countLast_L11 F G x (fun (_ : Int32) (y : Int32) => y) (n + 1) (nI y) v = _
    rw [gX1_countLast_L11, hy, if_pos (nI_le (Nat.le_refl _) (by omega))]) a (y - a) 80 0 (by omega) (by omega) trivial
  have h2 := lpO (fun n i (v : Int32) => okX1_countLast_L11 F G x (fun (_ : Int32) (_ : Int32) => True) n i v) (fun _ _ => True) (fun i v => if G 57 i < x then v else v + 1) y (fun _ _ => True) (fun n i v hi _ hk => by
    show okX1_countLast_L11 F G x (fun (_ : Int32) (_ : Int32) => True) (n + 1) (nI i) v
    have hg := gi_e (F := F) (G := G) (j := i) (by omega)
    rw [okX1_countLast_L11, hy]
    rw [← nI_1] at hk
    refine ⟨fun h => absurd h (nI_ge hi (by omega)), fun _ => ⟨hg.2, ?_⟩⟩
    rw [bvd, hg.1]
    exact ⟨fun hc => by rw [if_pos hc] at hk; exact hk, fun hc => by rw [if_neg hc] at hk; exact hk⟩) (fun _ _ _ _ => trivial) (fun n v _ _ => by
    show okX1_countLast_L11 F G x (fun (_ : Int32) (_ : Int32) => True) (n + 1) (nI y) v
    rw [okX1_countLast_L11, hy]
    exact ⟨fun _ => trivial, fun h => absurd (nI_le (Nat.le_refl _) (by omega)) h⟩) a (y - a) 80 0 (by omega) (by omega) trivial trivial
  refine ⟨?_, ?_⟩
  · unfold gX1_countLast
    rw [bvd, hy, nI_sub ha (by omega), h, ← nI_0, itr_c]
    unfold cGe
    rw [Nat.zero_add]
  · unfold okX1_countLast
    rw [bvd, hy, nI_sub ha (by omega)]
    exact h2
def stR (G : jG) (i0 a k i : Nat) (v : Int64) : Int64 := if G 57 i ≤ v then v else if cGe (rI G) i0 a (rI G i) < k then v else G 57 i
theorem rk_e {F : jF} {G : jG} {y a k : Nat} (hy : F 1 0 = nI y) (hy20 : y ≤ 20) (ha : a ≤ y) (hk : k ≤ 20) : gX1_rankedOf F G (nI a) (nI k) = itr (stR G (y - a) a k) (y - a) a (-9223372036854775808) ∧ okX1_rankedOf F G (nI a) (nI k) := by
  have hb : ∀ x, cGe (rI G) (y - a) a x ≤ a := fun x => cnt_b _ _ _
  have h := lpE (fun n i (v : Int64) => gX1_rankedOf_L12 F G (nI a) (nI k) (fun (_ : Int32) (y : Int64) => y) n i v) (fun _ v => v) (stR G (y - a) a k) y (fun _ _ => True) (fun n i v hi _ => by
    show gX1_rankedOf_L12 F G (nI a) (nI k) (fun (_ : Int32) (y : Int64) => y) (n + 1) (nI i) v = _
    have hg := gi_e (F := F) (G := G) (j := i) (by omega)
    rw [gX1_rankedOf_L12, hy, if_neg (nI_ge hi (by omega)), ← nI_1]
    simp only [bvd, hg.1, (cl_e (G := G) hy hy20 ha (G 57 i)).1]
    unfold stR
    by_cases c1 : G 57 i ≤ v
    · rw [if_pos c1, if_pos c1]
    · rw [if_neg c1, if_neg c1]
      have hb1 := hb (G 57 i).toInt
      have er : rI G i = (G 57 i).toInt := rfl
      rw [er]
      by_cases c2 : cGe (rI G) (y - a) a (G 57 i).toInt < k
      · rw [if_pos c2, if_pos (nI_lt c2 (by omega))]
      · rw [if_neg c2, if_neg (nI_nlt (by omega) (by omega))]) (fun _ _ _ _ => trivial) (fun n v _ => by
    show gX1_rankedOf_L12 F G (nI a) (nI k) (fun (_ : Int32) (y : Int64) => y) (n + 1) (nI y) v = _
    rw [gX1_rankedOf_L12, hy, if_pos (nI_le (Nat.le_refl _) (by omega))]) a (y - a) 80 (-9223372036854775808) (by omega) (by omega) trivial
  have h2 := lpO (fun n i (v : Int64) => okX1_rankedOf_L12 F G (nI a) (nI k) (fun (_ : Int32) (_ : Int64) => True) n i v) (fun _ _ => True) (fun i v => if G 57 i ≤ v then v else if gX1_countLast F G (nI a) (G 57 i) < nI k then v else G 57 i) y (fun _ _ => True) (fun n i v hi _ hq => by
    show okX1_rankedOf_L12 F G (nI a) (nI k) (fun (_ : Int32) (_ : Int64) => True) (n + 1) (nI i) v
    have hg := gi_e (F := F) (G := G) (j := i) (by omega)
    rw [okX1_rankedOf_L12, hy]
    rw [← nI_1] at hq
    refine ⟨fun h => absurd h (nI_ge hi (by omega)), fun _ => ⟨hg.2, ?_⟩⟩
    rw [bvd, hg.1]
    refine ⟨fun c1 => by rw [if_pos c1] at hq; exact hq, fun c1 => ?_⟩
    rw [if_neg c1] at hq
    refine ⟨hg.2, ?_⟩
    rw [bvd]
    refine ⟨(cl_e (G := G) hy hy20 ha (G 57 i)).2, ?_⟩
    rw [bvd]
    refine ⟨fun c2 => by rw [if_pos c2] at hq; exact hq, fun c2 => ?_⟩
    rw [if_neg c2] at hq
    refine ⟨hg.2, ?_⟩
    rw [bvd]
    exact hq) (fun _ _ _ _ => trivial) (fun n v _ _ => by
    show okX1_rankedOf_L12 F G (nI a) (nI k) (fun (_ : Int32) (_ : Int64) => True) (n + 1) (nI y) v
    rw [okX1_rankedOf_L12, hy]
    exact ⟨fun _ => trivial, fun h => absurd (nI_le (Nat.le_refl _) (by omega)) h⟩) a (y - a) 80 (-9223372036854775808) (by omega) (by omega) trivial trivial
  refine ⟨?_, ?_⟩
  · unfold gX1_rankedOf
    rw [bvd, hy, nI_sub ha (by omega)]
    exact h
  · unfold okX1_rankedOf
    rw [bvd, hy, nI_sub ha (by omega)]
    exact h2
theorem zmin : (-9223372036854775808 : Int64).toInt = -9223372036854775808 := rfl
/-- what the class finds -/
theorem rk_v (G : jG) {y a k : Nat} (ha : a ≤ y) (hk : k ≤ a) {v : Int64} (hv : v = itr (stR G (y - a) a k) (y - a) a (-9223372036854775808)) : k ≤ cGe (rI G) (y - a) a v.toInt ∧ (v = -9223372036854775808 ∨ ∃ j, y - a ≤ j ∧ j < y ∧ G 57 j = v) ∧ ∀ j, y - a ≤ j → j < y - a + a → k ≤ cGe (rI G) (y - a) a (rI G j) → rI G j ≤ v.toInt := by
  have h := itrP (stR G (y - a) a k) y (fun i v => y - a ≤ i ∧ k ≤ cGe (rI G) (y - a) a v.toInt ∧ (v = -9223372036854775808 ∨ ∃ j, y - a ≤ j ∧ j < y ∧ G 57 j = v) ∧ ∀ j, y - a ≤ j → j < i → k ≤ cGe (rI G) (y - a) a (rI G j) → rI G j ≤ v.toInt) (fun i v hi ⟨h0, h1, h2, h3⟩ => by
    unfold stR
    by_cases c1 : G 57 i ≤ v
    · rw [if_pos c1]
      refine ⟨by omega, h1, h2, fun j a b e => ?_⟩
      by_cases ej : j = i
      · rw [ej]; rw [i64le] at c1; exact c1
      · exact h3 j a (by omega) e
    · rw [if_neg c1]
      rw [i64le] at c1
      by_cases c2 : cGe (rI G) (y - a) a (rI G i) < k
      · rw [if_pos c2]
        refine ⟨by omega, h1, h2, fun j a b e => ?_⟩
        by_cases ej : j = i
        · rw [ej] at e; omega
        · exact h3 j a (by omega) e
      · rw [if_neg c2]
        refine ⟨by omega, by show k ≤ cGe (rI G) (y - a) a (rI G i); omega, Or.inr ⟨i, h0, hi, rfl⟩, fun j a b e => ?_⟩
        by_cases ej : j = i
        · rw [ej]; exact Int.le_refl _
        · have := h3 j a (by omega) e
          show rI G j ≤ (G 57 i).toInt
          omega) a (y - a) (-9223372036854775808) (by omega) ⟨Nat.le_refl _, by
      have : cGe (rI G) (y - a) a (-9223372036854775808 : Int64).toInt = a := cnt_all _ a (y - a) (fun j _ _ => decide_eq_true (by rw [zmin]; unfold rI; have := Int64.le_toInt (G 57 j); omega))
      omega, Or.inl rfl, fun j a b => by omega⟩
  rw [← hv] at h
  obtain ⟨-, h1, h2, h3⟩ := h
  exact ⟨h1, h2, fun j a b e => h3 j a (by omega) e⟩
def stS (G : jG) (k i : Nat) (S : Int32 × Int32) : Int32 × Int32 := (S.1 + (if G 57 i = G 57 k then 1 else 0), S.2 + (if G 57 i ≤ G 57 k then 0 else 1))
theorem itr_s (G : jG) (k : Nat) : ∀ d i a b, itr (stS G k) i d (nI a, nI b) = (nI (a + cEq (rI G) i d (rI G k)), nI (b + cGt (rI G) i d (rI G k))) := by
  intro d
  induction d with
  | zero => intro i a b; rfl
  | succ d ih =>
    intro i a b
    show itr (stS G k) (i + 1) d (nI a + (if G 57 i = G 57 k then 1 else 0), nI b + (if G 57 i ≤ G 57 k then 0 else 1)) = (nI (a + ((if decide (rI G i = rI G k) = true then 1 else 0) + cEq (rI G) (i + 1) d (rI G k))), nI (b + ((if decide (rI G k < rI G i) = true then 1 else 0) + cGt (rI G) (i + 1) d (rI G k))))
    have e1 : nI a + (if G 57 i = G 57 k then (1 : Int32) else 0) = nI (a + (if decide (rI G i = rI G k) = true then 1 else 0)) := by
      by_cases c : G 57 i = G 57 k
      · rw [if_pos c, if_pos (decide_eq_true (by unfold rI; rw [c])), nI_1]
      · rw [if_neg c, if_neg (fun e : decide (rI G i = rI G k) = true => c (i64eq.mpr (of_decide_eq_true e))), Int32.add_zero, Nat.add_zero]
    have e2 : nI b + (if G 57 i ≤ G 57 k then (0 : Int32) else 1) = nI (b + (if decide (rI G k < rI G i) = true then 1 else 0)) := by
      by_cases c : G 57 i ≤ G 57 k
      · rw [if_pos c, if_neg (fun e => by have e := of_decide_eq_true e; rw [i64le] at c; unfold rI at e; omega), Int32.add_zero, Nat.add_zero]
      · rw [if_neg c, if_pos (decide_eq_true (by rw [i64le] at c; unfold rI; omega)), nI_1]
    rw [e1, e2, ih, Nat.add_assoc, Nat.add_assoc]
theorem ml84 {FM : jF} {GM : jG} {y a k : Nat} (hy : FM 1 0 = nI y) (hy20 : y ≤ 20) (ha : a ≤ y) (hk : k < 20) (f3 : Int64) (f1 f2 : Int32) : (∀ K : Int32 → Int32 → Int32 → Int64 × jS, gX12_nextHeight_L84 FM GM (nI k) f3 f1 f2 K 80 (nI (y - a)) 0 0 = K (nI y) (nI (cEq (rI GM) (y - a) a (rI GM k))) (nI (cGt (rI GM) (y - a) a (rI GM k)))) ∧ ∀ K : Int32 → Int32 → Int32 → Prop, K (nI y) (nI (cEq (rI GM) (y - a) a (rI GM k))) (nI (cGt (rI GM) (y - a) a (rI GM k))) → okX12_nextHeight_L84 FM GM (nI k) f3 f1 f2 K 80 (nI (y - a)) 0 0 := by
  have es := itr_s GM k a (y - a) 0 0
  rw [Nat.zero_add, Nat.zero_add] at es
  have z0 : nI 0 = 0 := nI_0
  rw [z0] at es
  refine ⟨fun K => ?_, fun K hK => ?_⟩
  · have h := lpE (fun n i (S : Int32 × Int32) => gX12_nextHeight_L84 FM GM (nI k) f3 f1 f2 K n i S.1 S.2) (fun i S => K i S.1 S.2) (stS GM k) y (fun _ _ => True) (fun n i S hi _ => by
      show gX12_nextHeight_L84 FM GM (nI k) f3 f1 f2 K (n + 1) (nI i) S.1 S.2 = gX12_nextHeight_L84 FM GM (nI k) f3 f1 f2 K n (nI (i + 1)) (S.1 + (if GM 57 i = GM 57 k then 1 else 0)) (S.2 + (if GM 57 i ≤ GM 57 k then 0 else 1))
      rw [gX12_nextHeight_L84, hy, if_neg (nI_ge hi (by omega)), ← nI_1]
      simp only [bvd, nI_clamp (show i < 2 ^ 31 by omega), nI_clamp (show k < 2 ^ 31 by omega)]) (fun _ _ _ _ => trivial) (fun n S _ => by
      show gX12_nextHeight_L84 FM GM (nI k) f3 f1 f2 K (n + 1) (nI y) S.1 S.2 = _
      rw [gX12_nextHeight_L84, hy, if_pos (nI_le (Nat.le_refl _) (by omega))]) a (y - a) 80 (0, 0) (by omega) (by omega) trivial
    have h : gX12_nextHeight_L84 FM GM (nI k) f3 f1 f2 K 80 (nI (y - a)) 0 0 = K (nI y) (itr (stS GM k) (y - a) a (0, 0)).1 (itr (stS GM k) (y - a) a (0, 0)).2 := h
    rw [h, es]
  · have h := lpO (fun n i (S : Int32 × Int32) => okX12_nextHeight_L84 FM GM (nI k) f3 f1 f2 K n i S.1 S.2) (fun i S => K i S.1 S.2) (stS GM k) y (fun _ _ => True) (fun n i S hi _ hq => by
      show okX12_nextHeight_L84 FM GM (nI k) f3 f1 f2 K (n + 1) (nI i) S.1 S.2
      have hq : okX12_nextHeight_L84 FM GM (nI k) f3 f1 f2 K n (nI (i + 1)) (S.1 + (if GM 57 i = GM 57 k then 1 else 0)) (S.2 + (if GM 57 i ≤ GM 57 k then 0 else 1)) := hq
      have v1 : vp_in (nI i) 20 := nI_vin (by omega) (by omega)
      have v2 : vp_in (nI k) 20 := nI_vin (by omega) (by omega)
      rw [← nI_1] at hq
      rw [okX12_nextHeight_L84, hy]
      refine ⟨fun h => absurd h (nI_ge hi (by omega)), fun _ => ⟨v1, v2, ?_⟩⟩
      rw [bvd, bvd]
      refine ⟨v1, v2, ?_⟩
      rw [bvd, bvd, nI_clamp (show i < 2 ^ 31 by omega), nI_clamp (show k < 2 ^ 31 by omega)]
      exact hq) (fun _ _ _ _ => trivial) (fun n S _ hq => by
      show okX12_nextHeight_L84 FM GM (nI k) f3 f1 f2 K (n + 1) (nI y) S.1 S.2
      rw [okX12_nextHeight_L84, hy]
      exact ⟨fun _ => hq, fun h => absurd (nI_le (Nat.le_refl _) (by omega)) h⟩) a (y - a) 80 (0, 0) (by omega) (by omega) trivial (by
      show K (nI y) (itr (stS GM k) (y - a) a (0, 0)).1 (itr (stS GM k) (y - a) a (0, 0)).2
      rw [es]; exact hK)
    exact h
def stF (G : jG) (i0 a k i : Nat) (v : Int64) : Int64 := if k ≤ cGt (rI G) i0 a (rI G i) then v else if cGe (rI G) i0 a (rI G i) < k then v else G 57 i
theorem ml61 {FM : jF} {GM : jG} {y a k : Nat} (hy : FM 1 0 = nI y) (hy20 : y ≤ 20) (ha : a ≤ y) (hk : k ≤ 20) : (∀ K : Int32 → Int64 → Int64 × jS, gX12_nextHeight_L61 FM GM (nI a) (nI k) K 80 (nI (y - a)) (-9223372036854775808) = K (nI y) (itr (stF GM (y - a) a k) (y - a) a (-9223372036854775808))) ∧ okX12_nextHeight_L61 FM GM (nI a) (nI k) (fun _ _ => True) 80 (nI (y - a)) (-9223372036854775808) := by
  have hb : ∀ x, cGt (rI GM) (y - a) a x ≤ a := fun x => cnt_b _ _ _
  have hb2 : ∀ x, cGe (rI GM) (y - a) a x ≤ a := fun x => cnt_b _ _ _
  have es : nI y - nI a = nI (y - a) := nI_sub ha (by omega)
  have ec : ∀ (i : Nat) (v : Int64), i < 20 → (if nI k ≤ nI (cGt (rI GM) (y - a) a (rI GM i)) then v else if nI (cGt (rI GM) (y - a) a (rI GM i)) + nI (cEq (rI GM) (y - a) a (rI GM i)) < nI k then v else GM 57 (nI i).toNatClampNeg) = stF GM (y - a) a k i v := fun i v hi => by
    have b1 := hb (rI GM i)
    have b2 := hb2 (rI GM i)
    rw [nI_add, cGtE, nI_clamp (by omega)]
    unfold stF
    by_cases c1 : k ≤ cGt (rI GM) (y - a) a (rI GM i)
    · rw [if_pos c1, if_pos (nI_le c1 (by omega))]
    · rw [if_neg c1, if_neg (nI_ge (by omega) (by omega))]
      by_cases c2 : cGe (rI GM) (y - a) a (rI GM i) < k
      · rw [if_pos c2, if_pos (nI_lt c2 (by omega))]
      · rw [if_neg c2, if_neg (nI_nlt (by omega) (by omega))]
  refine ⟨fun K => ?_, ?_⟩
  · exact lpE (fun n i (v : Int64) => gX12_nextHeight_L61 FM GM (nI a) (nI k) K n i v) K (stF GM (y - a) a k) y (fun _ _ => True) (fun n i v hi _ => by
      show gX12_nextHeight_L61 FM GM (nI a) (nI k) K (n + 1) (nI i) v = _
      rw [gX12_nextHeight_L61, hy, if_neg (nI_ge hi (by omega)), bvd, es, (ml84 hy hy20 ha (show i < 20 by omega) v (nI a) (nI k)).1, bvd, ec i v (by omega), nI_1]) (fun _ _ _ _ => trivial) (fun n v _ => by
      show gX12_nextHeight_L61 FM GM (nI a) (nI k) K (n + 1) (nI y) v = _
      rw [gX12_nextHeight_L61, hy, if_pos (nI_le (Nat.le_refl _) (by omega))]) a (y - a) 80 (-9223372036854775808) (by omega) (by omega) trivial
  · exact lpO (fun n i (v : Int64) => okX12_nextHeight_L61 FM GM (nI a) (nI k) (fun _ _ => True) n i v) (fun _ _ => True) (stF GM (y - a) a k) y (fun _ _ => True) (fun n i v hi _ hq => by
      show okX12_nextHeight_L61 FM GM (nI a) (nI k) (fun _ _ => True) (n + 1) (nI i) v
      rw [okX12_nextHeight_L61, hy]
      refine ⟨fun h => absurd h (nI_ge hi (by omega)), fun _ => ?_⟩
      rw [bvd, es]
      refine (ml84 hy hy20 ha (show i < 20 by omega) v (nI a) (nI k)).2 _ ?_
      refine ⟨⟨fun _ => trivial, fun _ => ⟨fun _ => trivial, fun _ => nI_vin (by omega) (by omega)⟩⟩, ?_⟩
      rw [bvd, ec i v (by omega), nI_1]
      exact hq) (fun _ _ _ _ => trivial) (fun n v _ _ => by
      show okX12_nextHeight_L61 FM GM (nI a) (nI k) (fun _ _ => True) (n + 1) (nI y) v
      rw [okX12_nextHeight_L61, hy]
      exact ⟨fun _ => trivial, fun h => absurd (nI_le (Nat.le_refl _) (by omega)) h⟩) a (y - a) 80 (-9223372036854775808) (by omega) (by omega) trivial trivial
/-- the reference finds the same -/
theorem mf_v (G : jG) {y a k : Nat} (ha : a ≤ y) (hk : k ≤ a) (hk1 : 1 ≤ k) : itr (stF G (y - a) a k) (y - a) a (-9223372036854775808) = itr (stR G (y - a) a k) (y - a) a (-9223372036854775808) := by
  obtain ⟨v, hv⟩ : ∃ v, v = itr (stR G (y - a) a k) (y - a) a (-9223372036854775808) := ⟨_, rfl⟩
  obtain ⟨h1, h2, h3⟩ := rk_v G ha hk hv
  have h4 := kth_lt (rI G) (y - a) a k hk1 v.toInt h3
  rw [← hv]
  have h := itrP (stF G (y - a) a k) y (fun i f => y - a ≤ i ∧ (f = v ∨ (f = -9223372036854775808 ∧ ∀ j, y - a ≤ j → j < i → G 57 j ≠ v))) (fun i f hi ⟨g0, g1⟩ => by
    have keep : G 57 i ≠ v → y - a ≤ i + 1 ∧ (f = v ∨ (f = -9223372036854775808 ∧ ∀ j, y - a ≤ j → j < i + 1 → G 57 j ≠ v)) := fun hne => ⟨by omega, g1.imp id (fun ⟨x1, x2⟩ => ⟨x1, fun j p q => by
      by_cases ej : j = i
      · rw [ej]; exact hne
      · exact x2 j p (by omega)⟩)⟩
    unfold stF
    by_cases c1 : k ≤ cGt (rI G) (y - a) a (rI G i)
    · rw [if_pos c1]
      exact keep (fun e => by
        have : rI G i = v.toInt := by unfold rI; rw [e]
        rw [this] at c1; omega)
    · rw [if_neg c1]
      by_cases c2 : cGe (rI G) (y - a) a (rI G i) < k
      · rw [if_pos c2]
        exact keep (fun e => by
          have : rI G i = v.toInt := by unfold rI; rw [e]
          rw [this] at c2; omega)
      · rw [if_neg c2]
        exact ⟨by omega, Or.inl (i64eq.mpr (show rI G i = v.toInt from kth_un (rI G) (y - a) a k (x := rI G i) h4 h1 (by omega) (by omega)))⟩) a (y - a) (-9223372036854775808) (by omega) ⟨Nat.le_refl _, Or.inr ⟨rfl, fun j p q => by omega⟩⟩
  rcases h.2 with h | ⟨e1, e2⟩
  · exact h
  · rcases h2 with h2 | ⟨j, j1, j2, j3⟩
    · rw [e1, h2]
    · exact absurd j3 (e2 j j1 j2)
-- whole ones, rounded down
theorem xor_s (x : Int64) : (0 ≤ x ^^^ 100) ↔ 0 ≤ x.toInt := by
  have z0 : (0 : Int64).toInt = 0 := rfl
  rw [i64le, z0]
  have h1 := BitVec.msb_eq_toInt (x := (x ^^^ 100).toBitVec)
  have h2 := BitVec.msb_eq_toInt (x := x.toBitVec)
  have h3 : (100 : Int64).toBitVec.msb = false := rfl
  have h0 : (x ^^^ 100).toBitVec.msb = x.toBitVec.msb := by rw [Int64.toBitVec_xor, BitVec.msb_xor, h3, Bool.xor_false]
  rw [h0, h2] at h1
  have h4 := decide_eq_decide.mp h1
  have e1 : (x ^^^ 100).toInt = (x ^^^ 100).toBitVec.toInt := rfl
  have e2 : x.toInt = x.toBitVec.toInt := rfl
  rw [e1, e2]
  omega
theorem fd_w {x : Int64} (h1 : -1000000 ≤ x.toInt) (h2 : x.toInt ≤ 1000000) : gJ9_floorDiv_f86c9 x 100 = gX12_wholes x ∧ (gX12_wholes x).toInt = x.toInt / 100 := by
  have z1 : (1 : Int64).toInt = 1 := rfl
  have e : (x / 100).toInt = x.toInt.tdiv 100 := by rw [Int64.toInt_div_of_ne_right _ _ (by decide), c100]
  have hb : -1000000 ≤ (x / 100).toInt ∧ (x / 100).toInt ≤ 1000000 ∧ (0 ≤ x.toInt → (x / 100).toInt = x.toInt / 100) ∧ (x.toInt < 0 → (x / 100).toInt = -((-x.toInt) / 100)) := by
    by_cases c : 0 ≤ x.toInt
    · rw [e, Int.tdiv_eq_ediv_of_nonneg c]
      exact ⟨by omega, by omega, fun _ => rfl, fun h => by omega⟩
    · have e3 : x.toInt = -(-x.toInt) := by omega
      have e4 : x.toInt.tdiv 100 = -((-x.toInt) / 100) := by
        rw [e3, Int.neg_tdiv, Int.tdiv_eq_ediv_of_nonneg (by omega)]
        omega
      rw [e, e4]
      exact ⟨by omega, by omega, fun h => absurd h c, fun _ => rfl⟩
  obtain ⟨b1, b2, b3, b4⟩ := hb
  have em : (x / 100 * 100).toInt = (x / 100).toInt * 100 := by rw [i64m (by rw [c100]; omega) (by rw [c100]; omega), c100]
  have es : (x / 100 - 1).toInt = (x / 100).toInt - 1 := by rw [i64s (by rw [z1]; omega) (by rw [z1]; omega), z1]
  unfold gJ9_floorDiv_f86c9 gX12_wholes
  simp only [bvd]
  by_cases c : 0 ≤ x.toInt
  · have := b3 c
    rw [if_pos ((xor_s x).mpr c), if_pos (by rw [i64le, em]; omega)]
    exact ⟨rfl, this⟩
  · have := b4 (by omega)
    rw [if_neg (fun h => c ((xor_s x).mp h))]
    by_cases c2 : x / 100 * 100 = x
    · rw [if_pos c2]
      rw [i64eq, em] at c2
      rw [if_pos (by rw [i64le, em]; omega)]
      exact ⟨rfl, by omega⟩
    · rw [if_neg c2]
      rw [i64eq, em] at c2
      rw [if_neg (by rw [i64le, em]; omega)]
      exact ⟨rfl, by rw [es]; omega⟩
theorem ns1 : gX11_needState 1 = 0 := if_neg d10
theorem ns0 : gX11_needState 0 = 3 := if_pos rfl
theorem rd_nextHeight {b : Int} {c : Nat} {F FM : jF} {G GM : jG} (h : RR b c F G FM GM) (M : jF) (p1 p2 : Int32) : okX11_nextHeight F G M p1 p2 ∧ okX12_nextHeight FM GM p1 p2 ∧ rR FM GM (fun x : Int64 => x) (fun x : Int64 => x) (wk 2 3 9) [2, 3] (gX11_nextHeight F G M p1 p2) (gX12_nextHeight FM GM p1 p2) := by
  obtain ⟨⟨hE, hY⟩, ⟨hR, hG⟩, hX⟩ := h
  have hN := hE.1
  have hZ := hE.2.2.2.2.2
  have h1 := hN.2.2.2.1
  have r57 : GM 57 = G 57 := hG.at 57 (by decide)
  have e1 : FM 1 0 = nI (cn F 1) := by rw [hR.at 1 (by decide)]; exact h1.1
  have y1 : (1 : Int32).toInt = 1 := rfl
  have y20 : (20 : Int32).toInt = 20 := rfl
  rcases nr_c p1 1 20 with ⟨a1, a2, a3, a4⟩ | ⟨a1, a2⟩
  · obtain ⟨a, ha, rfl⟩ := nr_n (p := p1) (l := 20) (by decide) (by omega) (by omega)
    rw [nI_toInt (by omega), y1] at a3
    rcases nr_c p2 1 (nI a) with ⟨b1, b2, b3, b4⟩ | ⟨b1, b2⟩
    · rw [nI_toInt (by omega)] at b4
      obtain ⟨k, hk, rfl⟩ := nr_n (p := p2) (l := a) (by omega) (by omega) b4
      rw [nI_toInt (by omega), y1] at b3
      by_cases c3 : a ≤ cn F 1
      · have g3 : ¬ F 1 0 < nI a := by rw [h1.1]; exact nI_nlt c3 (by omega)
        have m3 : nI a ≤ FM 1 0 := by rw [e1]; exact nI_le c3 (by omega)
        have m1 : u2 FM 60 0 0 1 0 = nI (cn F 1) := by rw [u2_other _ (by decide : 1 ≠ 60)]; exact e1
        have hk1 := rk_e (F := F) (G := G) (k := k) h1.1 h1.2 c3 (by omega)
        have hk2 := ml61 (FM := u2 FM 60 0 0) (GM := GM) (k := k) m1 h1.2 c3 (by omega)
        have hk3 : itr (stF GM (cn F 1 - a) a k) (cn F 1 - a) a (-9223372036854775808) = itr (stR G (cn F 1 - a) a k) (cn F 1 - a) a (-9223372036854775808) := by
          have es : stF GM (cn F 1 - a) a k = stF G (cn F 1 - a) a k := by
            funext i v
            unfold stF rI
            rw [r57]
          rw [es]
          exact mf_v G c3 hk (by omega)
        have hsub : nI (cn F 1) - nI a = nI (cn F 1 - a) := nI_sub c3 (by omega)
        obtain ⟨v, hv⟩ : ∃ v, v = itr (stR G (cn F 1 - a) a k) (cn F 1 - a) a (-9223372036854775808) := ⟨_, rfl⟩
        rw [hk3, ← hv] at hk2
        rw [← hv] at hk1
        obtain ⟨-, v2, -⟩ := rk_v G c3 hk hv
        have ho2 : okX12_nextHeight FM GM (nI a) (nI k) := by
          unfold okX12_nextHeight
          rw [bvd, a2, if_neg d10, b2, bvd, bvd, bvd, if_neg d10, if_pos m3, u2_at]
          refine ⟨fun _ => ?_, fun _ => trivial⟩
          rw [bvd, m1, hsub]
          exact hk2.2
        by_cases cm : v = -9223372036854775808
        · refine ⟨?_, ho2, Or.inr ⟨3, 0, 0, 2, by decide, ?_, ?_, rfl⟩⟩
          · unfold okX11_nextHeight
            rw [bvd]; intro _; rw [bvd]; intro _; rw [bvd, bvd]; intro _
            refine ⟨hk1.2, ?_⟩
            rw [bvd, hk1.1, bvd, if_pos cm, bvd, ns0]
            exact fun e => absurd e (by decide)
          · unfold gX11_nextHeight
            rw [bvd, a1, if_pos rfl, bvd, b1, if_pos rfl, bvd, if_neg g3, bvd, ns1, if_pos rfl, bvd, hk1.1, bvd, if_pos cm, bvd, ns0, if_neg (by decide)]
          · unfold gX12_nextHeight
            rw [bvd, a2, if_neg d10, b2, bvd, bvd, bvd, if_neg d10, if_pos m3, u2_at, if_pos l00, bvd, m1, hsub, hk2.1]
            rw [bvd, bvd, bvd, if_pos cm, u2_at, if_neg l20, u2_u2]
        · have hvb : -200000 ≤ v.toInt ∧ v.toInt ≤ 200000 := by
            rcases v2 with e | ⟨j, -, -, ej⟩
            · exact absurd e cm
            · rcases hZ.2.2.1 j with w | w
              · exact absurd (ej.symm.trans w) cm
              · rw [ej] at w; exact w
          have hn : (-v).toInt = -v.toInt := i64n (by omega)
          have hf := fd_w (x := -v) (by omega) (by omega)
          refine ⟨?_, ho2, Or.inl ⟨50 - gX12_wholes (-v), 50 - gX12_wholes (-v), ?_, ?_, rfl⟩⟩
          · unfold okX11_nextHeight
            rw [bvd]; intro _; rw [bvd]; intro _; rw [bvd, bvd]; intro _
            refine ⟨hk1.2, ?_⟩
            rw [bvd, hk1.1, bvd, bvd]
            exact fun _ => (by decide : ¬ (100 : Int64) = 0)
          · unfold gX11_nextHeight
            rw [bvd, a1, if_pos rfl, bvd, b1, if_pos rfl, bvd, if_neg g3, bvd, ns1, if_pos rfl, bvd, hk1.1, bvd, if_neg cm, bvd, ns1, if_pos rfl, bvd, hf.1]
          · unfold gX12_nextHeight
            rw [bvd, a2, if_neg d10, b2, bvd, bvd, bvd, if_neg d10, if_pos m3, u2_at, if_pos l00, bvd, m1, hsub, hk2.1]
            rw [bvd, bvd, bvd, if_neg cm, u2_at, if_pos l00, u2_u2, bvd]
      · have g3 : F 1 0 < nI a := by rw [h1.1]; exact nI_lt (by omega) (by omega)
        have m3 : ¬ nI a ≤ FM 1 0 := by rw [e1]; exact nI_ge (by omega) (by omega)
        refine ⟨?_, ?_, Or.inr ⟨3, 0, 0, 2, by decide, ?_, ?_, rfl⟩⟩
        · unfold okX11_nextHeight
          rw [bvd]; intro _; rw [bvd]; intro _; rw [bvd, if_pos g3, bvd, ns0]
          exact fun e => absurd e (by decide)
        · unfold okX12_nextHeight
          rw [bvd, a2, if_neg d10, b2, bvd, bvd, bvd, if_neg d10, if_neg m3, u2_at]
          exact ⟨fun e => absurd e l20, fun _ => trivial⟩
        · unfold gX11_nextHeight
          rw [bvd, a1, if_pos rfl, bvd, b1, if_pos rfl, bvd, if_pos g3, bvd, ns0, if_neg (by decide)]
        · unfold gX12_nextHeight
          rw [bvd, a2, if_neg d10, b2, bvd, bvd, bvd, if_neg d10, if_neg m3, u2_at, if_neg l20]
    · refine ⟨?_, ?_, Or.inr ⟨2, 0, 0, 1, by decide, ?_, ?_, rfl⟩⟩
      · unfold okX11_nextHeight
        rw [bvd]; intro _; rw [bvd, b1]
        exact fun e => absurd e (by decide)
      · unfold okX12_nextHeight
        rw [bvd, a2, if_neg d10, b2, bvd, bvd, bvd, if_pos rfl, u2_at]
        exact ⟨fun e => absurd e l10, fun _ => trivial⟩
      · unfold gX11_nextHeight
        rw [bvd, a1, if_pos rfl, bvd, b1, if_neg (by decide)]
      · unfold gX12_nextHeight
        rw [bvd, a2, if_neg d10, b2, bvd, bvd, bvd, if_pos rfl, u2_at, if_neg l10]
  · refine ⟨?_, ?_, Or.inr ⟨2, 0, 0, 1, by decide, ?_, ?_, rfl⟩⟩
    · unfold okX11_nextHeight
      rw [bvd, a1]
      exact fun e => absurd e (by decide)
    · unfold okX12_nextHeight
      rw [bvd, a2, if_pos rfl, bvd, bvd, u2_at]
      exact ⟨fun e => absurd e l10, fun _ => trivial⟩
    · unfold gX11_nextHeight
      rw [bvd, a1, if_neg (by decide)]
    · unfold gX12_nextHeight
      rw [bvd, a2, if_pos rfl, bvd, bvd, u2_at, if_neg l10]
