-- numbers
theorem i64a {x y : Int64} (h1 : -9223372036854775808 ≤ x.toInt + y.toInt) (h2 : x.toInt + y.toInt ≤ 9223372036854775807) : (x + y).toInt = x.toInt + y.toInt := by
  rw [Int64.toInt_add]; exact Int.bmod_eq_of_le (by omega) (by omega)
theorem i64s {x y : Int64} (h1 : -9223372036854775808 ≤ x.toInt - y.toInt) (h2 : x.toInt - y.toInt ≤ 9223372036854775807) : (x - y).toInt = x.toInt - y.toInt := by
  rw [Int64.toInt_sub]; exact Int.bmod_eq_of_le (by omega) (by omega)
theorem i64m {x y : Int64} (h1 : -9223372036854775808 ≤ x.toInt * y.toInt) (h2 : x.toInt * y.toInt ≤ 9223372036854775807) : (x * y).toInt = x.toInt * y.toInt := by
  rw [Int64.toInt_mul]; exact Int.bmod_eq_of_le (by omega) (by omega)
theorem i64n {x : Int64} (h1 : -9223372036854775807 ≤ x.toInt) : (-x).toInt = -x.toInt := by
  have := Int64.toInt_lt x
  rw [Int64.toInt_neg]; exact Int.bmod_eq_of_le (by omega) (by omega)
theorem i64d {x y : Int64} (h1 : 0 ≤ x.toInt) (h2 : 0 < y.toInt) : (x / y).toInt = x.toInt / y.toInt := by
  rw [Int64.toInt_div_of_ne_right _ _ (by intro h; rw [h] at h2; exact absurd h2 (by decide)), Int.tdiv_eq_ediv_of_nonneg h1]
theorem i32a {x y : Int32} (h1 : -2147483648 ≤ x.toInt + y.toInt) (h2 : x.toInt + y.toInt ≤ 2147483647) : (x + y).toInt = x.toInt + y.toInt := by
  rw [Int32.toInt_add]; exact Int.bmod_eq_of_le (by omega) (by omega)
theorem i32s {x y : Int32} (h1 : -2147483648 ≤ x.toInt - y.toInt) (h2 : x.toInt - y.toInt ≤ 2147483647) : (x - y).toInt = x.toInt - y.toInt := by
  rw [Int32.toInt_sub]; exact Int.bmod_eq_of_le (by omega) (by omega)
theorem i32m {x y : Int32} (h1 : -2147483648 ≤ x.toInt * y.toInt) (h2 : x.toInt * y.toInt ≤ 2147483647) : (x * y).toInt = x.toInt * y.toInt := by
  rw [Int32.toInt_mul]; exact Int.bmod_eq_of_le (by omega) (by omega)
theorem i32lt {x y : Int32} : x < y ↔ x.toInt < y.toInt := Int32.lt_iff_toInt_lt
theorem i32le {x y : Int32} : x ≤ y ↔ x.toInt ≤ y.toInt := Int32.le_iff_toInt_le
theorem i64lt {x y : Int64} : x < y ↔ x.toInt < y.toInt := Int64.lt_iff_toInt_lt
theorem i64le {x y : Int64} : x ≤ y ↔ x.toInt ≤ y.toInt := Int64.le_iff_toInt_le
theorem i32eq {x y : Int32} : x = y ↔ x.toInt = y.toInt := Int32.toInt_inj.symm
theorem i64eq {x y : Int64} : x = y ↔ x.toInt = y.toInt := Int64.toInt_inj.symm
theorem i3264 (x : Int32) : x.toInt64.toInt = x.toInt := Int32.toInt_toInt64 x
-- heights: 100 * w / a
theorem lv_up {w x a d : Int} (ha : 0 < a) (h : 100 * x ≤ d * a) : (100 * (w + x)) / a ≤ (100 * w) / a + d := by
  have h1 : 100 * (w + x) ≤ 100 * w + d * a := by omega
  have h2 := Int.ediv_le_ediv ha h1
  rwa [Int.add_mul_ediv_right _ _ (by omega)] at h2
theorem lv_dn {w x a : Int} (ha : 0 < a) (h : 0 ≤ x) : (100 * (w - x)) / a ≤ (100 * w) / a := Int.ediv_le_ediv ha (by omega)
theorem lv_w {w a q : Int} (ha : 0 < a) (ha2 : a ≤ 100) (h : (100 * w) / a ≤ q) (hq : 0 ≤ q) : w ≤ q + 1 := by
  have h1 : 100 * w < (q + 1) * a := Int.lt_mul_of_ediv_lt ha (by omega)
  have h2 : (q + 1) * a ≤ (q + 1) * 100 := Int.mul_le_mul_of_nonneg_left ha2 (by omega)
  omega
theorem lv_0 {w a : Int} (ha : 0 < a) (h : 0 ≤ w) : 0 ≤ (100 * w) / a := Int.ediv_nonneg (by omega) (by omega)
-- what may flow
theorem fl_out {d a x : Int} (h : x ≤ (d * a) / 100) : 100 * x ≤ d * a := by
  have := Int.mul_ediv_self_le (x := d * a) (k := 100) (by omega)
  omega
theorem fl_in {d a b x : Int} (ha : 0 < a) (hb : 0 < b) (hd : 0 ≤ d) (h : x ≤ (d * a * b) / ((a + b) * 100)) : 100 * x ≤ d * b := by
  have hk : 0 < (a + b) * 100 := by omega
  have h0 := Int.mul_ediv_self_le (x := d * a * b) (k := (a + b) * 100) (by omega)
  have h1 : (a + b) * 100 * x ≤ (a + b) * 100 * ((d * a * b) / ((a + b) * 100)) := Int.mul_le_mul_of_nonneg_left h (by omega)
  have h2 : (a + b) * (100 * x) ≤ (a + b) * (d * b) := by
    have e1 : (a + b) * (100 * x) = (a + b) * 100 * x := by rw [Int.mul_assoc]
    have e2 : (a + b) * (d * b) = d * a * b + b * (d * b) := by rw [Int.add_mul, Int.mul_comm d a, Int.mul_assoc]
    have e3 : 0 ≤ b * (d * b) := Int.mul_nonneg (by omega) (Int.mul_nonneg hd (by omega))
    omega
  exact Int.le_of_mul_le_mul_left h2 (by omega)
theorem fl_eq {d a b : Int} (ha : 0 < a) (hb : 0 < b) : (d * a * b) / (a + b) / 100 = (d * a * b) / ((a + b) * 100) := Int.ediv_ediv_of_nonneg (by omega)
-- named lets, taken away (no proof by evaluation: big functions stay shut)
theorem bvd {α β : Sort _} (x : α) (k : α → β) : bv x k = k x := congrFun (congrFun (show @bv α β = fun x k => k x from rfl) x) k
theorem brd {α : Type} {β : Sort _} (x : α × jS) (k : α → jF → jG → β) : br x k = k x.1 x.2.1 x.2.2 := congrFun (congrFun (show @br α β = fun x k => k x.1 x.2.1 x.2.2 from rfl) x) k
theorem bsd {β : Sort _} (x : jS) (k : jF → jG → β) : bs x k = k x.1 x.2 := congrFun (congrFun (show @bs β = fun x k => k x.1 x.2 from rfl) x) k
theorem om_s {β : Sort _} (j : Nat) (a : β) (k : Nat → β) : om (some j) a k = k j := congrFun (congrFun (show @om β (some j) = fun a k => k j from rfl) a) k
theorem om_n {β : Sort _} (a : β) (k : Nat → β) : om none a k = a := congrFun (congrFun (show @om β none = fun a k => a from rfl) a) k
-- counted loops
def itr {σ : Type} (st : Nat → σ → σ) : Nat → Nat → σ → σ
  | _, 0, S => S
  | i, d + 1, S => itr st (i + 1) d (st i S)
theorem lpE {σ : Type} {β : Sort _} (L : Nat → Int32 → σ → β) (K : Int32 → σ → β) (st : Nat → σ → σ) (N : Nat) (P : Nat → σ → Prop) (hs : ∀ n i S, i < N → P i S → L (n + 1) (nI i) S = L n (nI (i + 1)) (st i S)) (hp : ∀ i S, i < N → P i S → P (i + 1) (st i S)) (h0 : ∀ n S, P N S → L (n + 1) (nI N) S = K (nI N) S) : ∀ d i fuel S, i + d = N → d < fuel → P i S → L fuel (nI i) S = K (nI N) (itr st i d S) := by
  intro d
  induction d with
  | zero =>
    intro i fuel S hi hf hP
    obtain ⟨f, rfl⟩ : ∃ f, fuel = f + 1 := ⟨fuel - 1, by omega⟩
    have hi : i = N := hi
    subst hi
    exact h0 f S hP
  | succ d ih =>
    intro i fuel S hi hf hP
    obtain ⟨f, rfl⟩ : ∃ f, fuel = f + 1 := ⟨fuel - 1, by omega⟩
    rw [hs f i S (by omega) hP]
    exact ih (i + 1) f (st i S) (by omega) (by omega) (hp i S (by omega) hP)
theorem lpO {σ : Type} (L : Nat → Int32 → σ → Prop) (K : Int32 → σ → Prop) (st : Nat → σ → σ) (N : Nat) (P : Nat → σ → Prop) (hs : ∀ n i S, i < N → P i S → L n (nI (i + 1)) (st i S) → L (n + 1) (nI i) S) (hp : ∀ i S, i < N → P i S → P (i + 1) (st i S)) (h0 : ∀ n S, P N S → K (nI N) S → L (n + 1) (nI N) S) : ∀ d i fuel S, i + d = N → d < fuel → P i S → K (nI N) (itr st i d S) → L fuel (nI i) S := by
  intro d
  induction d with
  | zero =>
    intro i fuel S hi hf hP hK
    obtain ⟨f, rfl⟩ : ∃ f, fuel = f + 1 := ⟨fuel - 1, by omega⟩
    have hi : i = N := hi
    subst hi
    exact h0 f S hP hK
  | succ d ih =>
    intro i fuel S hi hf hP hK
    obtain ⟨f, rfl⟩ : ∃ f, fuel = f + 1 := ⟨fuel - 1, by omega⟩
    exact hs f i S (by omega) hP (ih (i + 1) f (st i S) (by omega) (by omega) (hp i S (by omega) hP) hK)
theorem itrP {σ : Type} (st : Nat → σ → σ) (N : Nat) (P : Nat → σ → Prop) (hp : ∀ i S, i < N → P i S → P (i + 1) (st i S)) : ∀ d i S, i + d = N → P i S → P N (itr st i d S) := by
  intro d
  induction d with
  | zero => intro i S hi hP; have hi : i = N := hi; subst hi; exact hP
  | succ d ih => intro i S hi hP; exact ih (i + 1) (st i S) (by omega) (hp i S (by omega) hP)
theorem itrR {σ τ : Type} (st : Nat → σ → σ) (st' : Nat → τ → τ) (N : Nat) (P : Nat → σ → τ → Prop) (hp : ∀ i S T, i < N → P i S T → P (i + 1) (st i S) (st' i T)) : ∀ d i S T, i + d = N → P i S T → P N (itr st i d S) (itr st' i d T) := by
  intro d
  induction d with
  | zero => intro i S T hi hP; have hi : i = N := hi; subst hi; exact hP
  | succ d ih => intro i S T hi hP; exact ih (i + 1) (st i S) (st' i T) (by omega) (hp i S T (by omega) hP)
theorem itr_id {σ : Type} (st : Nat → σ → σ) (S : σ) : ∀ d i, (∀ j, i ≤ j → st j S = S) → itr st i d S = S := by
  intro d
  induction d with
  | zero => intro i h; rfl
  | succ d ih => intro i h; show itr st (i + 1) d (st i S) = S; rw [h i (Nat.le_refl i)]; exact ih (i + 1) (fun j hj => h j (by omega))
theorem itr_add {σ : Type} (st : Nat → σ → σ) : ∀ d e i S, itr st i (d + e) S = itr st (i + d) e (itr st i d S) := by
  intro d
  induction d with
  | zero => intro e i S; rw [Nat.zero_add]; rfl
  | succ d ih => intro e i S; rw [show d + 1 + e = (d + e) + 1 by omega]; show itr st (i + 1) (d + e) (st i S) = _; rw [ih e (i + 1) (st i S), show i + 1 + d = i + (d + 1) by omega]; rfl
/-- the steps from m on do nothing -/
theorem itr_cut {σ : Type} (st : Nat → σ → σ) (N m : Nat) (hm : m ≤ N) (S : σ) (h : ∀ j, m ≤ j → st j (itr st 0 m S) = itr st 0 m S) : itr st 0 N S = itr st 0 m S := by
  obtain ⟨e, rfl⟩ : ∃ e, N = m + e := ⟨N - m, by omega⟩
  rw [itr_add, Nat.zero_add]
  exact itr_id st _ e m h
theorem u2_id {α : Type} (F : Nat → Nat → α) (k i : Nat) : u2 F k i (F k i) = F := by
  funext a b
  by_cases h : a = k
  · subst h; rw [u2_same]; by_cases h2 : b = i
    · rw [if_pos h2, h2]
    · rw [if_neg h2]
  · rw [u2_other _ h]
theorem u2_at {α : Type} (F : Nat → Nat → α) (k i : Nat) (v : α) : u2 F k i v k i = v := by simp [u2_same]
theorem u2_off {α : Type} (F : Nat → Nat → α) (k i : Nat) (v : α) {j : Nat} (h : j ≠ i) : u2 F k i v k j = F k j := by simp [u2_same, h]
