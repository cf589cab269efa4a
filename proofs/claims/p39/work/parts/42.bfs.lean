-- ways
def rd (E : Nat → Nat → Bool) (g : Nat) : Nat → Nat → Bool
  | 0, i => decide (i = g)
  | d + 1, i => rd E g d i || (List.range 8).any (fun j => rd E g d j && E j i)
section RD
variable {E : Nat → Nat → Bool} {g : Nat}
theorem rd_up {d i : Nat} (h : rd E g d i = true) : rd E g (d + 1) i = true := by
  show (rd E g d i || (List.range 8).any (fun j => rd E g d j && E j i)) = true
  rw [h]; rfl
theorem rd_st {d i j : Nat} (hj : j < 8) (h : rd E g d j = true) (he : E j i = true) : rd E g (d + 1) i = true := by
  show (rd E g d i || (List.range 8).any (fun j => rd E g d j && E j i)) = true
  rw [Bool.or_eq_true]
  right
  rw [List.any_eq_true]
  exact ⟨j, List.mem_range.mpr hj, by rw [h, he]; rfl⟩
theorem rd_in {d i : Nat} (h : rd E g (d + 1) i = true) : rd E g d i = true ∨ ∃ j, j < 8 ∧ rd E g d j = true ∧ E j i = true := by
  have h : (rd E g d i || (List.range 8).any (fun j => rd E g d j && E j i)) = true := h
  rw [Bool.or_eq_true] at h
  rcases h with h | h
  · exact Or.inl h
  · rw [List.any_eq_true] at h
    obtain ⟨j, hj, h⟩ := h
    rw [Bool.and_eq_true] at h
    exact Or.inr ⟨j, List.mem_range.mp hj, h.1, h.2⟩
theorem rd_le {i : Nat} : ∀ {d e : Nat}, d ≤ e → rd E g d i = true → rd E g e i = true := by
  intro d e h hd
  obtain ⟨k, rfl⟩ : ∃ k, e = d + k := ⟨e - d, by omega⟩
  clear h
  induction k with
  | zero => exact hd
  | succ k ih => exact rd_up ih
theorem rd_sb {d : Nat} (h : ∀ i, i < 8 → rd E g (d + 1) i = true → rd E g d i = true) : ∀ n i, i < 8 → rd E g (d + n) i = true → rd E g d i = true := by
  intro n
  induction n with
  | zero => intro i _ hi; exact hi
  | succ n ih =>
    intro i hi h1
    rcases rd_in h1 with h2 | ⟨j, hj, h2, h3⟩
    · exact ih i hi h2
    · exact h i hi (rd_st hj (ih j hj h2) h3)
def rn (b : Bool) : Nat := if b = true then 1 else 0
def rc (E : Nat → Nat → Bool) (g d : Nat) : Nat := rn (rd E g d 0) + rn (rd E g d 1) + rn (rd E g d 2) + rn (rd E g d 3) + rn (rd E g d 4) + rn (rd E g d 5) + rn (rd E g d 6) + rn (rd E g d 7)
theorem rn_le {a b : Bool} (h : a = true → b = true) : rn a ≤ rn b := by
  cases a <;> cases b <;> first | decide | exact absurd (h rfl) (by decide)
theorem rn_1 (b : Bool) : rn b ≤ 1 := by cases b <;> decide
theorem rc_up {d i : Nat} (hi : i < 8) (h1 : rd E g (d + 1) i = true) (h0 : rd E g d i = false) : rc E g d + 1 ≤ rc E g (d + 1) := by
  have m := fun j => rn_le (a := rd E g d j) (b := rd E g (d + 1) j) rd_up
  have m0 := m 0; have m1 := m 1; have m2 := m 2; have m3 := m 3; have m4 := m 4; have m5 := m 5; have m6 := m 6; have m7 := m 7
  have s : rn (rd E g d i) + 1 ≤ rn (rd E g (d + 1) i) := by rw [h1, h0]; decide
  unfold rc
  have e : i = 0 ∨ i = 1 ∨ i = 2 ∨ i = 3 ∨ i = 4 ∨ i = 5 ∨ i = 6 ∨ i = 7 := by omega
  rcases e with rfl | rfl | rfl | rfl | rfl | rfl | rfl | rfl <;> omega
theorem rc_8 (d : Nat) : rc E g d ≤ 8 := by
  have m := fun j => rn_1 (rd E g d j)
  have m0 := m 0; have m1 := m 1; have m2 := m 2; have m3 := m 3; have m4 := m 4; have m5 := m 5; have m6 := m 6; have m7 := m 7
  unfold rc; omega
theorem rd_gr : ∀ d, (∃ e, e < d ∧ ∀ i, i < 8 → rd E g (e + 1) i = true → rd E g e i = true) ∨ d ≤ rc E g d := by
  intro d
  induction d with
  | zero => exact Or.inr (Nat.zero_le _)
  | succ d ih =>
    rcases ih with ⟨e, he, h⟩ | ih
    · exact Or.inl ⟨e, by omega, h⟩
    · by_cases hs : ∀ i, i < 8 → rd E g (d + 1) i = true → rd E g d i = true
      · exact Or.inl ⟨d, by omega, hs⟩
      · right
        have hs : ∃ i, i < 8 ∧ rd E g (d + 1) i = true ∧ rd E g d i = false := by
          refine Classical.byContradiction fun hn => hs fun i hi h1 => ?_
          cases h2 : rd E g d i with
          | true => rfl
          | false => exact absurd ⟨i, hi, h1, h2⟩ hn
        obtain ⟨i, hi, h1, h2⟩ := hs
        have := rc_up hi h1 h2
        omega
/-- whoever is reached is reached by at most 8 roads -/
theorem rd_8 {n i : Nat} (hi : i < 8) (h : rd E g n i = true) : rd E g 8 i = true := by
  rcases rd_gr (E := E) (g := g) 9 with ⟨e, he, hs⟩ | h9
  · have h1 := rd_sb hs n i hi (rd_le (by omega) h)
    exact rd_le (by omega) h1
  · have := rc_8 (E := E) (g := g) 9; omega
-- the class's way
def s58 (E : Nat → Nat → Bool) (r a i : Nat) (f : Nat → Int32) : Nat → Int32 := if f a = nI r then (if 0 ≤ f i then f else if E a i = true then va_up f i (nI r + 1) else f) else f
def s46 (E : Nat → Nat → Bool) (r a : Nat) (f : Nat → Int32) : Nat → Int32 := itr (s58 E r a) 0 8 f
def s35 (E : Nat → Nat → Bool) (r : Nat) (f : Nat → Int32) : Nat → Int32 := itr (s46 E r) 0 8 f
def cD (E : Nat → Nat → Bool) (g r : Nat) (f : Nat → Int32) : Prop := ∀ i, i < 8 → ((f i).toInt = -1 ∧ rd E g r i = false) ∨ ∃ d : Nat, d ≤ r ∧ (f i).toInt = (d : Int) ∧ rd E g d i = true ∧ ∀ e, e < d → rd E g e i = false
/-- within a round, over the rows before a and the row a up to n -/
def cQ (E : Nat → Nat → Bool) (r : Nat) (f : Nat → Int32) (a n : Nat) (f1 : Nat → Int32) : Prop := ∀ i, i < 8 → (0 ≤ (f i).toInt → f1 i = f i) ∧ ((f i).toInt = -1 → (f1 i = f i ∧ (∀ b, b < a → ¬ ((f b).toInt = (r : Int) ∧ E b i = true)) ∧ (i < n → ¬ ((f a).toInt = (r : Int) ∧ E a i = true))) ∨ ((f1 i).toInt = (r : Int) + 1 ∧ ∃ b, b < 8 ∧ (f b).toInt = (r : Int) ∧ E b i = true))
theorem va_u {α : Type} (f : Nat → α) (k : Nat) (v : α) (j : Nat) : va_up f k v j = if j = k then v else f j := rfl
theorem cQ_st {r : Nat} (hr : r < 8) {f : Nat → Int32} (hf : ∀ i, i < 8 → -1 ≤ (f i).toInt) {a n : Nat} (ha : a < 8) (hn : n < 8) {f1 : Nat → Int32} (h : cQ E r f a n f1) : cQ E r f a (n + 1) (s58 E r a n f1) := by
  have z0 : (0 : Int32).toInt = 0 := rfl
  have er : (nI r).toInt = (r : Int) := nI_toInt (by omega)
  have er1 : (nI r + 1).toInt = (r : Int) + 1 := by rw [nI_1, nI_toInt (by omega)]; omega
  -- the row a stands for round r in f1 as in f
  have hra : f1 a = nI r ↔ (f a).toInt = (r : Int) := by
    obtain ⟨h1, h2⟩ := h a ha
    have hfa := hf a ha
    constructor
    · intro e
      by_cases c : 0 ≤ (f a).toInt
      · rw [← h1 c, e, er]
      · rcases h2 (by omega) with ⟨h3, -⟩ | ⟨h3, -⟩
        · have : (f a).toInt = (r : Int) := by rw [← h3, e, er]
          exact this
        · rw [e, er] at h3; omega
    · intro e
      rw [i32eq, er, h1 (by omega), e]
  intro i hi
  obtain ⟨h1, h2⟩ := h i hi
  obtain ⟨g1, g2⟩ := h n hn
  unfold s58
  by_cases c1 : f1 a = nI r
  · rw [if_pos c1]
    by_cases c2 : 0 ≤ f1 n
    · rw [if_pos c2]
      refine ⟨h1, fun e => ?_⟩
      rcases h2 e with ⟨h3, h4, h5⟩ | h3
      · refine Or.inl ⟨h3, h4, fun hin => ?_⟩
        by_cases e2 : i = n
        · subst e2
          rw [h3, i32le, z0] at c2; omega
        · exact h5 (by omega)
      · exact Or.inr h3
    · rw [if_neg c2]
      by_cases c3 : E a n = true
      · rw [if_pos c3]
        refine ⟨fun e => ?_, fun e => ?_⟩
        · rw [va_u]
          by_cases e2 : i = n
          · subst e2
            rw [h1 e, i32le, z0] at c2; omega
          · rw [if_neg e2]; exact h1 e
        · rw [va_u]
          by_cases e2 : i = n
          · subst e2
            rw [if_pos rfl]
            exact Or.inr ⟨er1, a, ha, hra.mp c1, c3⟩
          · rw [if_neg e2]
            rcases h2 e with ⟨h3, h4, h5⟩ | h3
            · exact Or.inl ⟨h3, h4, fun hin => h5 (by omega)⟩
            · exact Or.inr h3
      · rw [if_neg c3]
        refine ⟨h1, fun e => ?_⟩
        rcases h2 e with ⟨h3, h4, h5⟩ | h3
        · refine Or.inl ⟨h3, h4, fun hin => ?_⟩
          by_cases e2 : i = n
          · subst e2; exact fun hh => c3 hh.2
          · exact h5 (by omega)
        · exact Or.inr h3
  · rw [if_neg c1]
    refine ⟨h1, fun e => ?_⟩
    rcases h2 e with ⟨h3, h4, h5⟩ | h3
    · exact Or.inl ⟨h3, h4, fun hin hh => c1 (hra.mpr hh.1)⟩
    · exact Or.inr h3
theorem cQ_nx {r : Nat} {f : Nat → Int32} {a : Nat} {f1 : Nat → Int32} (h : cQ E r f a 8 f1) : cQ E r f (a + 1) 0 f1 := by
  intro i hi
  obtain ⟨h1, h2⟩ := h i hi
  refine ⟨h1, fun e => ?_⟩
  rcases h2 e with ⟨h3, h4, h5⟩ | h3
  · refine Or.inl ⟨h3, fun b hb => ?_, fun hin => absurd hin (by omega)⟩
    by_cases e2 : b = a
    · rw [e2]; exact h5 hi
    · exact h4 b (by omega)
  · exact Or.inr h3
theorem s35_Q {r : Nat} (hr : r < 8) {f : Nat → Int32} (hf : ∀ i, i < 8 → -1 ≤ (f i).toInt) : cQ E r f 8 0 (s35 E r f) := by
  unfold s35
  refine itrP (s46 E r) 8 (fun a f1 => cQ E r f a 0 f1) (fun a f1 ha h => ?_) 8 0 f (by omega) (fun i hi => ⟨fun _ => rfl, fun e => Or.inl ⟨rfl, fun b hb => absurd hb (by omega), fun hin => absurd hin (by omega)⟩⟩)
  refine cQ_nx ?_
  unfold s46
  exact itrP (s58 E r a) 8 (fun n f1 => cQ E r f a n f1) (fun n f1 hn h => cQ_st hr hf ha hn h) 8 0 f1 (by omega) h
theorem cD_st {r : Nat} (hr : r < 8) {f : Nat → Int32} (h : cD E g r f) : cD E g (r + 1) (s35 E r f) := by
  have hf : ∀ i, i < 8 → -1 ≤ (f i).toInt := fun i hi => by
    rcases h i hi with ⟨h1, -⟩ | ⟨d, -, h1, -⟩ <;> omega
  have hQ := s35_Q (E := E) hr hf
  intro i hi
  obtain ⟨q1, q2⟩ := hQ i hi
  rcases h i hi with ⟨h1, h2⟩ | ⟨d, h1, h2, h3, h4⟩
  · rcases q2 h1 with ⟨q3, q4, -⟩ | ⟨q3, b, hb, q4, q5⟩
    · refine Or.inl ⟨by rw [q3, h1], ?_⟩
      cases h5 : rd E g (r + 1) i with
      | false => rfl
      | true =>
        exfalso
        rcases rd_in h5 with h6 | ⟨j, hj, h6, h7⟩
        · rw [h2] at h6; exact absurd h6 (by decide)
        · rcases h j hj with ⟨-, g2⟩ | ⟨d, g1, g2, g3, g4⟩
          · rw [g2] at h6; exact absurd h6 (by decide)
          · by_cases e : d = r
            · exact q4 j hj ⟨by rw [g2, e], h7⟩
            · have := rd_le (show d + 1 ≤ r by omega) (rd_st hj g3 h7)
              rw [h2] at this; exact absurd this (by decide)
    · refine Or.inr ⟨r + 1, by omega, by rw [q3]; omega, ?_, fun e he => ?_⟩
      · rcases h b hb with ⟨g1, -⟩ | ⟨d, g1, g2, g3, -⟩
        · omega
        · have : d = r := by omega
          subst this
          exact rd_st hb g3 q5
      · cases h5 : rd E g e i with
        | false => rfl
        | true =>
          have := rd_le (show e ≤ r by omega) h5
          rw [h2] at this; exact absurd this (by decide)
  · exact Or.inr ⟨d, by omega, by rw [q1 (by omega)]; exact h2, h3, h4⟩
-- the reference's way
def s52 (E : Nat → Nat → Bool) (k j : Nat) (f : Nat → Int32) : Nat → Int32 := va_up f k (if E k j = true then (if f k ≤ f j + 1 then f k else f j + 1) else f k)
def s41 (E : Nat → Nat → Bool) (nb k : Nat) (f : Nat → Int32) : Nat → Int32 := itr (s52 E k) 0 nb f
def s33 (E : Nat → Nat → Bool) (nb : Nat) (_ : Nat) (f : Nat → Int32) : Nat → Int32 := itr (s41 E nb) 0 nb f
def mM (E : Nat → Nat → Bool) (g : Nat) (f : Nat → Int32) : Prop := ∀ i, i < 8 → (f i).toInt = 100 ∨ ∃ d : Nat, d < 100 ∧ (f i).toInt = (d : Int) ∧ rd E g d i = true
def mT (E : Nat → Nat → Bool) (g r : Nat) (f : Nat → Int32) : Prop := ∀ i, i < 8 → ∀ d, d ≤ r → rd E g d i = true → (f i).toInt ≤ (d : Int)
theorem mM_b {f : Nat → Int32} (h : mM E g f) {i : Nat} (hi : i < 8) : 0 ≤ (f i).toInt ∧ (f i).toInt ≤ 100 := by
  rcases h i hi with h1 | ⟨d, h1, h2, -⟩ <;> omega
/-- a step: what it leaves -/
theorem s52_f {f : Nat → Int32} (h : mM E g f) (hs : ∀ a b, E a b = E b a) {k j : Nat} (hk : k < 8) (hj : j < 8) : mM E g (s52 E k j f) ∧ (∀ i, i < 8 → (s52 E k j f i).toInt ≤ (f i).toInt) ∧ (E k j = true → (s52 E k j f k).toInt ≤ (f j).toInt + 1) := by
  have y1 : (1 : Int32).toInt = 1 := rfl
  have bj := mM_b h hj
  have bk := mM_b h hk
  have e1 : (f j + 1).toInt = (f j).toInt + 1 := by rw [i32a (by rw [y1]; omega) (by rw [y1]; omega), y1]
  unfold s52
  by_cases c : E k j = true
  · rw [if_pos c]
    by_cases c2 : f k ≤ f j + 1
    · have e : va_up f k (f k) = f := by
        funext i; rw [va_u]; split
        · rename_i e; rw [e]
        · rfl
      rw [if_pos c2, e]
      refine ⟨h, fun i _ => Int.le_refl _, fun _ => ?_⟩
      rw [i32le, e1] at c2; exact c2
    · rw [if_neg c2]
      rw [i32le, e1] at c2
      refine ⟨fun i hi => ?_, fun i hi => ?_, fun _ => ?_⟩
      · rw [va_u]
        by_cases e : i = k
        · rw [if_pos e, e1]
          rcases h j hj with g1 | ⟨d, g1, g2, g3⟩
          · omega
          · right
            refine ⟨d + 1, by omega, by omega, ?_⟩
            rw [e]
            exact rd_st hj g3 (by rw [hs]; exact c)
        · rw [if_neg e]; exact h i hi
      · rw [va_u]
        by_cases e : i = k
        · rw [if_pos e, e1, e]; omega
        · rw [if_neg e]; exact Int.le_refl _
      · rw [va_u, if_pos rfl, e1]; exact Int.le_refl _
  · rw [if_neg c]
    have e : va_up f k (f k) = f := by
      funext i; rw [va_u]; split
      · rename_i e; rw [e]
      · rfl
    rw [e]
    exact ⟨h, fun i _ => Int.le_refl _, fun h1 => absurd h1 c⟩
theorem s33_T {nb : Nat} (hnb : nb ≤ 8) (hs : ∀ a b, E a b = E b a) (hE : ∀ a b, E a b = true → a < nb ∧ b < nb) {r : Nat} {f : Nat → Int32} (h : mM E g f) (hT : mT E g r f) (x : Nat) : mM E g (s33 E nb x f) ∧ mT E g (r + 1) (s33 E nb x f) := by
  have hP : (fun (a : Nat) (f1 : Nat → Int32) => mM E g f1 ∧ (∀ i, i < 8 → (f1 i).toInt ≤ (f i).toInt) ∧ ∀ k, k < a → ∀ j, j < nb → E k j = true → (f1 k).toInt ≤ (f j).toInt + 1) nb (s33 E nb x f) := by
    unfold s33
    refine itrP (s41 E nb) nb (fun a f1 => mM E g f1 ∧ (∀ i, i < 8 → (f1 i).toInt ≤ (f i).toInt) ∧ ∀ k, k < a → ∀ j, j < nb → E k j = true → (f1 k).toInt ≤ (f j).toInt + 1) (fun a f1 ha hp => ?_) nb 0 f (by omega) ⟨h, fun i _ => Int.le_refl _, fun k hk => absurd hk (by omega)⟩
    have hq : (fun (n : Nat) (f2 : Nat → Int32) => mM E g f2 ∧ (∀ i, i < 8 → (f2 i).toInt ≤ (f i).toInt) ∧ (∀ k, k < a → ∀ j, j < nb → E k j = true → (f2 k).toInt ≤ (f j).toInt + 1) ∧ ∀ j, j < n → E a j = true → (f2 a).toInt ≤ (f j).toInt + 1) nb (s41 E nb a f1) := by
      unfold s41
      refine itrP (s52 E a) nb (fun n f2 => mM E g f2 ∧ (∀ i, i < 8 → (f2 i).toInt ≤ (f i).toInt) ∧ (∀ k, k < a → ∀ j, j < nb → E k j = true → (f2 k).toInt ≤ (f j).toInt + 1) ∧ ∀ j, j < n → E a j = true → (f2 a).toInt ≤ (f j).toInt + 1) (fun n f2 hn hq => ?_) nb 0 f1 (by omega) ⟨hp.1, hp.2.1, hp.2.2, fun j hj => absurd hj (by omega)⟩
      obtain ⟨q1, q2, q3, q4⟩ := hq
      obtain ⟨t1, t2, t3⟩ := s52_f q1 hs (k := a) (j := n) (by omega) (by omega)
      refine ⟨t1, fun i hi => Int.le_trans (t2 i hi) (q2 i hi), fun k hk j hj he => Int.le_trans (t2 k (by omega)) (q3 k hk j hj he), fun j hj he => ?_⟩
      by_cases e : j = n
      · rw [e] at he ⊢
        have := t3 he
        have := q2 n (by omega)
        omega
      · exact Int.le_trans (t2 a (by omega)) (q4 j (by omega) he)
    obtain ⟨q1, q2, q3, q4⟩ := hq
    refine ⟨q1, q2, fun k hk j hj he => ?_⟩
    by_cases e : k = a
    · rw [e] at he ⊢; exact q4 j hj he
    · exact q3 k (by omega) j hj he
  obtain ⟨p1, p2, p3⟩ := hP
  refine ⟨p1, fun i hi d hd hr => ?_⟩
  by_cases e : d ≤ r
  · exact Int.le_trans (p2 i hi) (hT i hi d e hr)
  · have : d = r + 1 := by omega
    subst this
    rcases rd_in hr with h1 | ⟨j, hj, h1, h2⟩
    · have := hT i hi r (Nat.le_refl _) h1
      have := p2 i hi
      omega
    · have h3 := hE _ _ h2
      have := p3 i h3.2 j h3.1 (by rw [hs]; exact h2)
      have := hT j hj r (Nat.le_refl _) h1
      omega
/-- both ways tell the same -/
theorem far_eq {nb : Nat} (hnb : nb ≤ 8) (hs : ∀ a b, E a b = E b a) (hE : ∀ a b, E a b = true → a < nb ∧ b < nb) {fc fm : Nat → Int32} (hc0 : ∀ i, i < 8 → (fc i).toInt = if i = g then 0 else -1) (hm0 : ∀ i, i < 8 → (fm i).toInt = if i = g then 0 else 100) : ∀ i, i < 8 → ((itr (s33 E nb) 0 8 fm i).toInt < 100 ∧ (itr (s35 E) 0 8 fc i).toInt = (itr (s33 E nb) 0 8 fm i).toInt ∧ 0 ≤ (itr (s33 E nb) 0 8 fm i).toInt) ∨ ((itr (s33 E nb) 0 8 fm i).toInt = 100 ∧ (itr (s35 E) 0 8 fc i).toInt = -1) := by
  have hC : cD E g 8 (itr (s35 E) 0 8 fc) := itrP (s35 E) 8 (fun r f => cD E g r f) (fun r f hr h => cD_st hr h) 8 0 fc (by omega) (fun i hi => by
    by_cases e : i = g
    · exact Or.inr ⟨0, Nat.le_refl _, by rw [hc0 i hi, if_pos e]; rfl, decide_eq_true e, fun d hd => absurd hd (by omega)⟩
    · exact Or.inl ⟨by rw [hc0 i hi, if_neg e], decide_eq_false e⟩)
  have hM : mM E g (itr (s33 E nb) 0 8 fm) ∧ mT E g 8 (itr (s33 E nb) 0 8 fm) := itrP (s33 E nb) 8 (fun r f => mM E g f ∧ mT E g r f) (fun r f hr h => s33_T hnb hs hE h.1 h.2 r) 8 0 fm (by omega) ⟨fun i hi => by
    by_cases e : i = g
    · exact Or.inr ⟨0, by omega, by rw [hm0 i hi, if_pos e]; rfl, decide_eq_true e⟩
    · exact Or.inl (by rw [hm0 i hi, if_neg e]), fun i hi d hd hr => by
    have : d = 0 := by omega
    subst this
    have e : i = g := of_decide_eq_true hr
    rw [hm0 i hi, if_pos e]; decide⟩
  intro i hi
  rcases hC i hi with ⟨h1, h2⟩ | ⟨d, h1, h2, h3, h4⟩
  · rcases hM.1 i hi with h5 | ⟨e, h5, h6, h7⟩
    · exact Or.inr ⟨h5, h1⟩
    · have := rd_8 hi h7
      rw [h2] at this; exact absurd this (by decide)
  · have h5 := hM.2 i hi d h1 h3
    rcases hM.1 i hi with h6 | ⟨e, h6, h7, h8⟩
    · omega
    · have : ¬ e < d := fun h => by rw [h4 e h] at h8; exact absurd h8 (by decide)
      exact Or.inl ⟨by omega, by omega, by omega⟩
end RD
