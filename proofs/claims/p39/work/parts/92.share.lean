-- the shares are the cost or nothing together
theorem cnt_lt (p q : Nat → Bool) {b : Nat} (hp : ¬ p b = true) (hq : q b = true) : ∀ n, b < n → (∀ j, j < n → p j = true → q j = true) → cnt p 0 n + 1 ≤ cnt q 0 n := by
  intro n
  induction n with
  | zero => intro h; omega
  | succ n ih =>
    intro hb h
    rw [cnt_sn, cnt_sn, Nat.zero_add]
    by_cases e : b = n
    · subst e
      have h1 := cnt_le p q b 0 (fun j _ hj => h j (by omega))
      rw [if_neg hp, if_pos hq]
      omega
    · have h1 := ih (by omega) (fun j hj => h j (by omega))
      have h2 := h n (by omega)
      by_cases c : p n = true
      · rw [if_pos c, if_pos (h2 c)]; omega
      · rw [if_neg c]; split <;> omega
/-- how many stand before -/
def rkb (k : Nat → Int) (n b : Nat) : Nat := cnt (fun i => decide (k b < k i)) 0 n
theorem cnt_ext {p q : Nat → Bool} {n : Nat} (h : ∀ j, j < n → p j = q j) : cnt p 0 n = cnt q 0 n :=
  Nat.le_antisymm (cnt_le p q n 0 (fun j _ hj e => by rw [← h j (by omega)]; exact e)) (cnt_le q p n 0 (fun j _ hj e => by rw [h j (by omega)]; exact e))
/-- so many have a rank below L -/
theorem rk_cnt (k : Nat → Int) : ∀ n, (∀ i j, i < n → j < n → k i = k j → i = j) → ∀ L, L ≤ n → cnt (fun b => decide (rkb k n b < L)) 0 n = L := by
  intro n
  induction n with
  | zero => intro _ L hL; have : L = 0 := by omega
            subst this; rfl
  | succ n ih =>
    intro hi L hL
    have hi' : ∀ i j, i < n → j < n → k i = k j → i = j := fun i j a b => hi i j (by omega) (by omega)
    obtain ⟨p, hp⟩ : ∃ p, p = rkb k n n := ⟨_, rfl⟩
    have hpn : p ≤ n := by rw [hp]; exact cnt_b _ n 0
    have e1 : ∀ b, rkb k (n + 1) b = rkb k n b + (if k b < k n then 1 else 0) := fun b => by
      unfold rkb
      rw [cnt_sn, Nat.zero_add]
      by_cases c : k b < k n
      · rw [if_pos (decide_eq_true c), if_pos c]
      · rw [if_neg (fun e => c (of_decide_eq_true e)), if_neg c]
    have e2 : rkb k (n + 1) n = p := by rw [e1, if_neg (by omega), hp, Nat.add_zero]
    have up : ∀ b, b < n → (k n < k b → rkb k n b < p) ∧ (¬ k n < k b → p ≤ rkb k n b ∧ k b < k n) := fun b hb => by
      refine ⟨fun h => ?_, fun h => ?_⟩
      · have := cnt_lt (fun i => decide (k b < k i)) (fun i => decide (k n < k i)) (b := b) (fun e => by have := of_decide_eq_true e; omega) (decide_eq_true h) n hb (fun j _ e => by
          have := of_decide_eq_true e
          exact decide_eq_true (by omega))
        rw [hp]
        unfold rkb
        omega
      · have hne : ¬ k b = k n := fun e => by have := hi b n (by omega) (by omega) e; omega
        refine ⟨?_, by omega⟩
        rw [hp]
        exact cnt_le _ _ n 0 (fun j _ _ e => by
          have := of_decide_eq_true e
          exact decide_eq_true (by omega))
    rw [cnt_sn, Nat.zero_add, e2]
    by_cases c : p < L
    · rw [if_pos (decide_eq_true c), cnt_ext (q := fun b => decide (rkb k n b < L - 1)) (fun b hb => ?_), ih hi' (L - 1) (by omega)]
      · omega
      · obtain ⟨u1, u2⟩ := up b hb
        rw [e1]
        by_cases d : k n < k b
        · have := u1 d
          rw [if_neg (by omega), Nat.add_zero]
          exact decide_eq_decide.mpr (by omega)
        · have := u2 d
          rw [if_pos this.2]
          exact decide_eq_decide.mpr (by omega)
    · rw [if_neg (fun e => c (of_decide_eq_true e)), cnt_ext (q := fun b => decide (rkb k n b < L)) (fun b hb => ?_), ih hi' L (by omega)]
      · exact Nat.add_zero L
      · obtain ⟨u1, u2⟩ := up b hb
        rw [e1]
        by_cases d : k n < k b
        · rw [if_neg (by omega), Nat.add_zero]
        · have := u2 d
          rw [if_pos this.2]
          exact decide_eq_decide.mpr (by omega)
theorem rk_pC {C A : Int} {W : Nat → Int} {n : Nat} (hn : n ≤ 8) {b : Nat} (hb : b < n) : cnt (pC C A W b) 0 n = rkb (fun i => 16 * (C * W i % A) - (i : Int)) n b := by
  unfold rkb
  refine cnt_ext (fun j hj => ?_)
  show decide (C * W b % A < C * W j % A ∨ (C * W j % A = C * W b % A ∧ j < b)) = decide (16 * (C * W b % A) - (b : Int) < 16 * (C * W j % A) - (j : Int))
  exact decide_eq_decide.mpr (by omega)
/-- the shares' sum, in numbers -/
theorem sh_sum {C A : Int} {W : Nat → Int} {n : Nat} (hn : n ≤ 8) {L : Nat} (hL : L ≤ n) : sm (fun b => C * W b / A + (if (L : Int) ≤ (cnt (pC C A W b) 0 n : Int) then 0 else 1)) n = sm (fun b => C * W b / A) n + (L : Int) := by
  have h : ∀ m, m ≤ n → sm (fun b => C * W b / A + (if (L : Int) ≤ (cnt (pC C A W b) 0 n : Int) then 0 else 1)) m = sm (fun b => C * W b / A) m + (cnt (fun b => decide (rkb (fun i => 16 * (C * W i % A) - (i : Int)) n b < L)) 0 m : Int) := by
    intro m
    induction m with
    | zero => intro _; rfl
    | succ m ih =>
      intro hm
      have h1 := ih (by omega)
      rw [cnt_sn, Nat.zero_add]
      show sm (fun b => C * W b / A + (if (L : Int) ≤ (cnt (pC C A W b) 0 n : Int) then 0 else 1)) m + (C * W m / A + (if (L : Int) ≤ (cnt (pC C A W m) 0 n : Int) then 0 else 1)) = sm (fun b => C * W b / A) m + C * W m / A + _
      rw [h1, rk_pC hn (show m < n by omega)]
      by_cases c : rkb (fun i => 16 * (C * W i % A) - (i : Int)) n m < L
      · rw [if_neg (by omega), if_pos (decide_eq_true c)]; omega
      · rw [if_pos (by omega), if_neg (fun e => c (of_decide_eq_true e))]; omega
  rw [h n (Nat.le_refl _), rk_cnt _ n (fun i j hi hj e => by
    have h1 : 16 * (C * W i % A) - (i : Int) = 16 * (C * W j % A) - (j : Int) := e
    omega) L hL]
theorem sI_sm {Sh : Nat → Int32} {f : Nat → Int} {n : Nat} (h : ∀ j, j < n → (Sh j).toInt = f j) (h0 : ∀ j, j < n → 0 ≤ f j ∧ f j ≤ 100000000) (hn : n ≤ 8) : ∀ m, m ≤ n → (sI Sh m).toInt = sm f m ∧ 0 ≤ sm f m ∧ sm f m ≤ 100000000 * (m : Int) := by
  intro m
  induction m with
  | zero => intro _; exact ⟨rfl, Int.le_refl _, by show (0 : Int) ≤ _; omega⟩
  | succ m ih =>
    intro hm
    obtain ⟨a1, a2, a3⟩ := ih (by omega)
    have b1 := h m (by omega)
    have b2 := h0 m (by omega)
    show (sI Sh m + Sh m).toInt = sm f m + f m ∧ 0 ≤ sm f m + f m ∧ sm f m + f m ≤ _
    rw [i32a (by rw [a1, b1]; omega) (by rw [a1, b1]; omega), a1, b1]
    omega
theorem fx_share {b : Int} {c : Nat} {F FM : jF} {G GM : jG} (h : RR b c F G FM GM) (M : jF) {p : Int32} (hp0 : 0 ≤ p.toInt) (hp1 : p.toInt ≤ 999999) : ∃ Sh : Nat → Int32, (∀ k, k < cn F 8 → okX11_share F G M p (nI k) ∧ gX11_share F G M p (nI k) = (0, Sh k)) ∧ (sI Sh (cn F 8) = 0 ∨ sI Sh (cn F 8) = p) := by
  have hrd := fun k => (rd_share h M p (nI k)).1
  obtain ⟨⟨hE, hY⟩, ⟨hR, hG⟩, hX⟩ := h
  have hN := hE.1
  have h8 := hN.1.1
  have y0 : (0 : Int32).toInt = 0 := rfl
  have z0 : (0 : Int64).toInt = 0 := rfl
  have z1 : (1 : Int32).toInt = 1 := rfl
  have y9 : (999999 : Int32).toInt = 999999 := rfl
  have hR0 := ag60 hR 0
  have a1 : gX11_needRange p 0 999999 = 0 := by
    rcases nr_c p 0 999999 with ⟨a1, -⟩ | ⟨a1, a2⟩
    · exact a1
    · exfalso
      unfold gX12_in at a2
      rw [if_neg (by rw [i32lt, y0]; omega), if_neg (by rw [i32lt, y9]; omega)] at a2
      exact absurd a2 (by decide)
  obtain ⟨w, hwd⟩ : ∃ w : Nat → Int64, w = fun i => if i < cn F 8 then gX5_keptDry F G (nI i) else 0 := ⟨_, rfl⟩
  have hwi : ∀ i, i < cn F 8 → w i = gX5_keptDry F G (nI i) := fun i hi => by rw [hwd]; exact if_pos hi
  have hw0 : ∀ i, cn F 8 ≤ i → w i = 0 := fun i hi => by rw [hwd]; exact if_neg (by omega)
  have hw1 : ∀ i, i < 8 → gX5_keptDry F G (nI i) = w i ∧ okX5_keptDry F G (nI i) := fun i hi => by
    by_cases ci : i < cn F 8
    · obtain ⟨x, x1, x2, x3, x4, x5⟩ := wt_m hE hR0 hG ci
      exact ⟨(hwi i ci).symm, x4⟩
    · have := wt_0 (F := F) (G := G) h8.2 ci hi
      exact ⟨by rw [this.1, hw0 i (by omega)], this.2⟩
  have hw3 : ∀ i, i < cn F 8 → 0 ≤ (w i).toInt ∧ (w i).toInt ≤ 310000 := fun i ci => by
    obtain ⟨x, x1, x2, x3, x4, x5⟩ := wt_m hE hR0 hG ci
    rw [hwi i ci, x1]; exact x3
  have hc : 0 ≤ p.toInt64.toInt ∧ p.toInt64.toInt ≤ 999999 := by rw [i3264]; omega
  obtain ⟨A, hA⟩ : ∃ A, A = itr (sh1 w) 0 (cn F 8) 0 := ⟨_, rfl⟩
  refine ⟨fun k => Int64.toInt32 (gX5_partOf F G p.toInt64 (nI k)), fun k hk => ⟨hrd k, ?_⟩, ?_⟩
  · rcases bn_c G GM hN hR (nI k) with ⟨j, hj, hj8, ej, e2, e3, e4⟩ | ⟨e2, e3, e4⟩
    · unfold gX11_share
      rw [e2, om_s, bvd, a1, if_pos rfl, bvd]
    · rw [ba_in G h8.2 hk] at e3
      exact absurd e3 (by simp)
  · by_cases c0 : 0 < A
    · right
      have c1 := c0
      rw [i64lt, z0] at c1
      by_cases hn0 : cn F 8 = 0
      · rw [hn0] at hA
        rw [hA] at c1
        exact absurd c1 (by show ¬ (0 : Int) < (0 : Int64).toInt; rw [z0]; omega)
      have hj : 0 < cn F 8 := by omega
      obtain ⟨⟨v1, v2, v3⟩, -, v6⟩ := sh_v h8.2 hj hw3 hc hA
      obtain ⟨f1, -, -⟩ := v6 c1
      have hl := left_le p.toInt64.toInt A.toInt (fun i => (w i).toInt) c1 (cn F 8) (fun j hj => Int.mul_nonneg hc.1 (hw3 j hj).1)
      rw [← v1] at hl
      have hcb := cnt_b (fun i => decide (0 < p.toInt64.toInt * (w i).toInt % A.toInt)) (cn F 8) 0
      obtain ⟨L, hLd⟩ : ∃ L : Int, L = p.toInt64.toInt - sm (fun i => p.toInt64.toInt * (w i).toInt / A.toInt) (cn F 8) := ⟨_, rfl⟩
      have hL1 : L ≤ (cnt (fun i => decide (0 < p.toInt64.toInt * (w i).toInt % A.toInt)) 0 (cn F 8) : Int) := by
        refine Int.le_of_mul_le_mul_left ?_ c1
        rw [hLd, Int.mul_sub, Int.mul_comm A.toInt]
        exact hl
      have hfl : ∀ m, A.toInt * sm (fun i => p.toInt64.toInt * (w i).toInt / A.toInt) m ≤ p.toInt64.toInt * sm (fun i => (w i).toInt) m := by
        intro m
        induction m with
        | zero => show A.toInt * 0 ≤ p.toInt64.toInt * 0; simp
        | succ m ih =>
          have := Int.mul_ediv_self_le (x := p.toInt64.toInt * (w m).toInt) (k := A.toInt) (by omega)
          show A.toInt * (sm (fun i => p.toInt64.toInt * (w i).toInt / A.toInt) m + p.toInt64.toInt * (w m).toInt / A.toInt) ≤ p.toInt64.toInt * (sm (fun i => (w i).toInt) m + (w m).toInt)
          rw [Int.mul_add, Int.mul_add]
          omega
      have hL0 : 0 ≤ L := by
        have h1 := hfl (cn F 8)
        rw [← v1, Int.mul_comm p.toInt64.toInt] at h1
        have h2 := Int.le_of_mul_le_mul_left h1 c1
        omega
      obtain ⟨l, hl9⟩ : ∃ l : Nat, L = (l : Int) := ⟨L.toNat, by omega⟩
      have hsum := sh_sum (C := p.toInt64.toInt) (A := A.toInt) (W := fun i => (w i).toInt) (n := cn F 8) h8.2 (L := l) (by omega)
      have hq : ∀ i, i < cn F 8 → 0 ≤ p.toInt64.toInt * (w i).toInt / A.toInt ∧ p.toInt64.toInt * (w i).toInt / A.toInt ≤ 999999 := fun i hi => by
        obtain ⟨⟨-, -, u3⟩, -, -⟩ := sh_v h8.2 hi hw3 hc hA
        have h1 : 0 ≤ p.toInt64.toInt * (w i).toInt := Int.mul_nonneg hc.1 (hw3 i hi).1
        refine ⟨Int.ediv_nonneg h1 (by omega), ?_⟩
        refine Int.ediv_le_of_le_mul c1 ?_
        exact Int.mul_le_mul hc.2 u3 (hw3 i hi).1 (by omega)
      have hv : ∀ j, j < cn F 8 → (Int64.toInt32 (gX5_partOf F G p.toInt64 (nI j))).toInt = p.toInt64.toInt * (w j).toInt / A.toInt + (if (l : Int) ≤ (cnt (pC p.toInt64.toInt A.toInt (fun i => (w i).toInt) j) 0 (cn F 8) : Int) then 0 else 1) := fun j hj => by
        obtain ⟨⟨u1, u2, u3⟩, ⟨u4, u5⟩, u6⟩ := sh_v h8.2 hj hw3 hc hA
        obtain ⟨g1, -⟩ := pf_e h8.2 hj hw1 hw0 p.toInt64 u5 hA
        obtain ⟨f1, f2, -⟩ := u6 c1
        have hdv : (p.toInt64 * w j / A).toInt = p.toInt64.toInt * (w j).toInt / A.toInt := by rw [i64d u5 c1, u4]
        have hqj := hq j hj
        rw [g1, if_pos c0]
        have hle : itr (sh2 w p.toInt64 A) 0 (cn F 8) p.toInt64 ≤ itr (sh3 w p.toInt64 A (p.toInt64 * w j) j) 0 (cn F 8) 0 ↔ (l : Int) ≤ (cnt (pC p.toInt64.toInt A.toInt (fun i => (w i).toInt) j) 0 (cn F 8) : Int) := by
          rw [i64le, f1, f2, ← hLd, hl9]
        have ht : ∀ x : Int64, 0 ≤ x.toInt → x.toInt ≤ 2000000 → (Int64.toInt32 x).toInt = x.toInt := fun x h1 h2 => by
          rw [Int64.toInt_toInt32]; exact Int.bmod_eq_of_le (by omega) (by omega)
        have z10 : (Int32.toInt64 1).toInt = 1 := rfl
        have z00 : (Int32.toInt64 0).toInt = 0 := rfl
        by_cases ca : itr (sh2 w p.toInt64 A) 0 (cn F 8) p.toInt64 ≤ itr (sh3 w p.toInt64 A (p.toInt64 * w j) j) 0 (cn F 8) 0
        · rw [if_pos ca, if_pos (hle.mp ca)]
          have e1 : (p.toInt64 * w j / A + Int32.toInt64 0).toInt = p.toInt64.toInt * (w j).toInt / A.toInt + 0 := by rw [i64a (by rw [hdv, z00]; omega) (by rw [hdv, z00]; omega), hdv, z00]
          rw [ht _ (by rw [e1]; omega) (by rw [e1]; omega), e1]
        · rw [if_neg ca, if_neg (fun e => ca (hle.mpr e))]
          have e1 : (p.toInt64 * w j / A + Int32.toInt64 1).toInt = p.toInt64.toInt * (w j).toInt / A.toInt + 1 := by rw [i64a (by rw [hdv, z10]; omega) (by rw [hdv, z10]; omega), hdv, z10]
          rw [ht _ (by rw [e1]; omega) (by rw [e1]; omega), e1]
      obtain ⟨s1, -, -⟩ := sI_sm (Sh := fun k => Int64.toInt32 (gX5_partOf F G p.toInt64 (nI k))) hv (fun j hj => by
        have := hq j hj
        split <;> omega) h8.2 (cn F 8) (Nat.le_refl _)
      rw [i32eq, s1, hsum]
      rw [i3264] at hLd
      rw [i3264]
      omega
    · left
      have hz : ∀ j, j < cn F 8 → (Int64.toInt32 (gX5_partOf F G p.toInt64 (nI j))).toInt = 0 := fun j hj => by
        obtain ⟨-, ⟨u4, u5⟩, -⟩ := sh_v h8.2 hj hw3 hc hA
        obtain ⟨g1, -⟩ := pf_e h8.2 hj hw1 hw0 p.toInt64 u5 hA
        rw [g1, if_neg c0]
        rfl
      obtain ⟨s1, -, -⟩ := sI_sm (Sh := fun k => Int64.toInt32 (gX5_partOf F G p.toInt64 (nI k))) (f := fun _ => 0) hz (fun j hj => by omega) h8.2 (cn F 8) (Nat.le_refl _)
      have : ∀ m, sm (fun _ => 0) m = 0 := by
        intro m
        induction m with
        | zero => rfl
        | succ m ih => show sm (fun _ => 0) m + 0 = 0; omega
      rw [i32eq, s1, this, y0]
