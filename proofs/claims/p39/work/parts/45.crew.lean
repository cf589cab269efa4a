-- crews in an hour
def dr (F : jF) (G : jG) (i : Nat) : Int32 := if i < cn F 8 then (if 100 ≤ gX0_aboveFloor F G i then 0 else 1) else 0
def DR (F : jF) (G : jG) : Prop := ∀ i, i < 8 → F 70 i = dr F G i
theorem af_c {F F1 : jF} {G G1 : jG} (h : ag [9, 10, 12] F F1) (hg : G1 14 = G 14) (i : Nat) : gX0_aboveFloor F1 G1 i = gX0_aboveFloor F G i := by
  unfold gX0_aboveFloor gX0_height
  rw [h.at 9 (by decide), h.at 10 (by decide), h.at 12 (by decide), hg]
theorem dr_c {F F1 : jF} {G G1 : jG} (h : ag [8, 9, 10, 12] F F1) (hg : G1 14 = G 14) (i : Nat) : dr F1 G1 i = dr F G i := by
  unfold dr
  rw [cn_of (h.at 8 (by decide)), af_c (fun k hk => h k (by revert hk; simp; omega)) hg]
theorem DR_c {F F1 : jF} {G G1 : jG} (h : ag [8, 9, 10, 12, 70] F F1) (hg : G1 14 = G 14) (hd : DR F G) : DR F1 G1 := by
  intro i hi
  rw [h.at 70 (by decide), dr_c (fun k hk => h k (by revert hk; simp; omega)) hg]
  exact hd i hi
/-- a part of the class's state that says nothing to the reference -/
theorem RR_fa {b : Int} {c : Nat} {F FM : jF} {G GM : jG} {k k2 : Nat} (hk : k = 68 ∨ k = 70) (f : Nat → Int32) (h : RR b c F G FM GM) : RR b c (fa F k f) G FM GM := by
  have ha : ∀ {ks : List Nat}, 68 ∉ ks → 70 ∉ ks → ag ks F (fa F k f) := fun h1 h2 j hj => fa_o F f (fun e => by subst e; rcases hk with e | e <;> subst e <;> first | exact h1 hj | exact h2 hj)
  obtain ⟨⟨⟨a1, a2, a3, a4, a5, a6⟩, h2⟩, ⟨h3, h4⟩, h5⟩ := h
  obtain ⟨⟨g1, g2, g3⟩, ⟨g4, g5, g6⟩, g7, g8⟩ := h2
  have n1 : wN (fa F k f) := wN_c (ha (by decide) (by decide)) a1
  refine ⟨⟨⟨n1, wB_c (ha (by decide) (by decide)) rfl (fun _ _ => rfl) a2, wL_c (ha (by decide) (by decide)) a3, wS_c (ha (by decide) (by decide)) a4, wO_c (ha (by decide) (by decide)) a5, wZ_c a1 n1 (ha (by decide) (by decide)) (ag_rf _ G) a6⟩, ⟨⟨wG_c (ha (by decide) (by decide)) g1, wP_c (ha (by decide) (by decide)) g2, wD_c (ha (by decide) (by decide)) rfl g3⟩, ⟨wR_c (ha (by decide) (by decide)) g4, wC_c (ha (by decide) (by decide)) g5, wWk_c (ha (by decide) (by decide)) g6⟩, wM_c (ha (by decide) (by decide)) g7, wT_c (ha (ks := [16]) (by decide) (by decide) 16 (by decide)) g8⟩⟩, ⟨fun j hj => ?_, h4⟩, rX_c (ha (by decide) (by decide)) (ag_rf _ FM) rfl rfl h5⟩
  rw [ha (ks := shF) (by decide) (by decide) j hj]
  exact h3 j hj
theorem RR_fm {b : Int} {c : Nat} {F FM : jF} {G GM : jG} (f : Nat → Int32) (h : RR b c F G FM GM) : RR b c F G (fa FM 59 f) GM := by
  have ha : ∀ {ks : List Nat}, 59 ∉ ks → ag ks FM (fa FM 59 f) := fun h1 j hj => fa_o FM f (fun e => by subst e; exact h1 hj)
  exact ⟨h.1, ⟨ag_tr h.2.1.1 (ha (by decide)), h.2.1.2⟩, rX_c (ag_rf _ F) (ha (by decide)) rfl rfl h.2.2⟩
theorem lk_f {b : Int} {c : Nat} {F FM : jF} {G GM : jG} (h : RR b c F G FM GM) : gX8_lookAt F G = (fa F 70 (itr (fun i f => va_up f i (dr F G i)) 0 8 (F 70)), G) := by
  have hn8 := h.1.1.1.1.1.2
  have hb : ∀ (f : Nat → Int32) i, i < 8 → gX10_basinAt (fa F 70 f) G (nI i) = op (cn F 8) i := fun f i hi => by
    unfold gX10_basinAt
    rw [if_neg (nI_pos (by omega)), n8, if_pos (nI_lt hi (by omega)), bvd, nI_clamp (by omega), cn_of (fa_o F f (by decide : 8 ≠ 70))]
  have hav : ∀ (f : Nat → Int32) i, gX0_aboveFloor (fa F 70 f) G i = gX0_aboveFloor F G i := fun f i => af_c (fun k hk => fa_o F f (fun e => by subst e; revert hk; decide)) rfl i
  have e : gX8_lookAt F G = (fa F 70 (itr (fun i f => va_up f i (dr F G i)) 0 8 (F 70)), G) := by
    unfold gX8_lookAt
    have hl := lpE (fun n i (f : Nat → Int32) => gX8_lookAt_L2 (fun (_ : Int32) (F18 : jF) (G19 : jG) => (F18, G19)) n i (fa F 70 f) G) (fun _ f => (fa F 70 f, G)) (fun i f => va_up f i (dr F G i)) 8 (fun _ _ => True) (fun n i f hi _ => by
      show gX8_lookAt_L2 _ (n + 1) (nI i) (fa F 70 f) G = _
      rw [gX8_lookAt_L2, n8, if_neg (nI_ge hi (by omega)), ← nI_1, hb f i hi]
      simp only [bvd]
      rw [nI_clamp (by omega), fa_u]
      unfold dr
      by_cases c : i < cn F 8
      · rw [op_in c, om_s, fa_u, hav, if_pos c]
      · rw [op_no c, om_n, if_neg c]) (fun _ _ _ _ => trivial) (fun n f _ => by
      show gX8_lookAt_L2 _ (n + 1) (nI 8) (fa F 70 f) G = _
      rw [gX8_lookAt_L2, n8, if_pos (nI_le (Nat.le_refl _) (by omega))]) 8 0 80 (F 70) (by omega) (by omega) trivial
    rw [nI_0, fa_id] at hl
    exact hl
  exact e
/-- sees what is cut -/
theorem lk_e {b : Int} {c : Nat} {F FM : jF} {G GM : jG} (h : RR b c F G FM GM) : RR b c (gX8_lookAt F G).1 (gX8_lookAt F G).2 FM GM ∧ DR (gX8_lookAt F G).1 (gX8_lookAt F G).2 ∧ okX8_lookAt F G := by
  have hn8 := h.1.1.1.1.1.2
  have hb : ∀ (f : Nat → Int32) i, i < 8 → gX10_basinAt (fa F 70 f) G (nI i) = op (cn F 8) i := fun f i hi => by
    unfold gX10_basinAt
    rw [if_neg (nI_pos (by omega)), n8, if_pos (nI_lt hi (by omega)), bvd, nI_clamp (by omega), cn_of (fa_o F f (by decide : 8 ≠ 70))]
  have hav : ∀ (f : Nat → Int32) i, gX0_aboveFloor (fa F 70 f) G i = gX0_aboveFloor F G i := fun f i => af_c (fun k hk => fa_o F f (fun e => by subst e; revert hk; decide)) rfl i
  have e := lk_f h
  have hv := itrP (fun i f => va_up f i (dr F G i)) 8 (fun n f1 => ∀ i, i < n → f1 i = dr F G i) (fun n f1 hn hh i hi => by
    show va_up f1 n (dr F G n) i = _
    rw [va_u]
    by_cases e : i = n
    · rw [if_pos e, e]
    · rw [if_neg e]; exact hh i (by omega)) 8 0 (F 70) (by omega) (fun i hi => absurd hi (by omega))
  refine ⟨by rw [e]; exact RR_fa (k2 := 0) (Or.inr rfl) _ h, ?_, ?_⟩
  · rw [e]
    intro i hi
    show fa F 70 (itr (fun i f => va_up f i (dr F G i)) 0 8 (F 70)) 70 i = dr (fa F 70 (itr (fun i f => va_up f i (dr F G i)) 0 8 (F 70))) G i
    rw [fa_at, hv i hi, dr_c (fun k hk => fa_o F _ (fun e => by subst e; revert hk; decide)) rfl]
  · unfold okX8_lookAt
    have hl := lpO (fun n i (f : Nat → Int32) => okX8_lookAt_L2 (fun _ _ _ => True) n i (fa F 70 f) G) (fun _ _ => True) (fun i f => va_up f i (dr F G i)) 8 (fun _ _ => True) (fun n i f hi _ hk => by
      show okX8_lookAt_L2 _ (n + 1) (nI i) (fa F 70 f) G
      rw [okX8_lookAt_L2, n8]
      rw [← nI_1] at hk
      refine ⟨fun e => absurd e (nI_ge hi (by omega)), fun _ => ⟨ba_ok _, ?_⟩⟩
      rw [hb f i hi]
      simp only [bvd]
      rw [nI_clamp (by omega), fa_u]
      have hvi : vp_in (nI i) 8 := nI_vin hi (by omega)
      have hk : okX8_lookAt_L2 (fun _ _ _ => True) n (nI i + 1) (fa F 70 (va_up f i (dr F G i))) G := hk
      unfold dr at hk
      by_cases c : i < cn F 8
      · rw [if_pos c] at hk
        rw [op_in c, om_s, fa_u, hav]
        have hc : cn (fa F 70 f) 8 = cn F 8 := cn_of (fa_o F f (by decide : 8 ≠ 70))
        refine ⟨by rw [hc]; exact c, af_ok (by rw [hc]; exact c), ?_, hvi, hk⟩
        split
        · exact Or.inl rfl
        · exact Or.inr rfl
      · rw [if_neg c] at hk
        rw [op_no c, om_n]
        exact ⟨hvi, hk⟩) (fun _ _ _ _ => trivial) (fun n f _ hk => by
      show okX8_lookAt_L2 _ (n + 1) (nI 8) (fa F 70 f) G
      rw [okX8_lookAt_L2, n8]
      exact ⟨fun _ => trivial, fun e => absurd (nI_le (Nat.le_refl _) (by omega)) e⟩) 8 0 80 (F 70) (by omega) (by omega) trivial trivial
    rw [nI_0, fa_id] at hl
    exact hl
-- the next basin on the way
def fst (p : Nat → Bool) (x : Int32) : Nat → Nat → Int32
  | 0, _ => x
  | d + 1, i => if p i = true then nI i else fst p x d (i + 1)
def lst (p : Nat → Bool) : Nat → Int32 → Int32
  | 0, x => x
  | m + 1, x => lst p m (if p m = true then nI m else x)
theorem lst_fst (p : Nat → Bool) (x : Int32) : ∀ m d, lst p m (fst p x d m) = fst p x (m + d) 0 := by
  intro m
  induction m with
  | zero => intro d; rw [Nat.zero_add]; rfl
  | succ m ih =>
    intro d
    have h := ih (d + 1)
    rw [show m + (d + 1) = m + 1 + d by omega] at h
    exact h
theorem fst_no (p : Nat → Bool) (x : Int32) : ∀ d i, (∀ j, i ≤ j → j < i + d → p j = false) → fst p x d i = x := by
  intro d
  induction d with
  | zero => intro i _; rfl
  | succ d ih =>
    intro i h
    show (if p i = true then nI i else fst p x d (i + 1)) = x
    rw [h i (Nat.le_refl _) (by omega), if_neg (by decide)]
    exact ih (i + 1) (fun j h1 h2 => h j (by omega) (by omega))
theorem fst_eq {p q : Nat → Bool} (x : Int32) : ∀ d i, (∀ j, i ≤ j → j < i + d → p j = q j) → fst p x d i = fst q x d i := by
  intro d
  induction d with
  | zero => intro i _; rfl
  | succ d ih =>
    intro i h
    show (if p i = true then nI i else fst p x d (i + 1)) = (if q i = true then nI i else fst q x d (i + 1))
    rw [h i (Nat.le_refl _) (by omega), ih (i + 1) (fun j h1 h2 => h j (by omega) (by omega))]
theorem fst_add (p : Nat → Bool) (x : Int32) : ∀ d e i, (∀ j, i + d ≤ j → j < i + d + e → p j = false) → fst p x (d + e) i = fst p x d i := by
  intro d
  induction d with
  | zero => intro e i h; rw [Nat.zero_add]; exact fst_no p x e i (fun j h1 h2 => h j (by omega) (by omega))
  | succ d ih =>
    intro e i h
    rw [show d + 1 + e = (d + e) + 1 by omega]
    show (if p i = true then nI i else fst p x (d + e) (i + 1)) = (if p i = true then nI i else fst p x d (i + 1))
    rw [ih e (i + 1) (fun j h1 h2 => h j (by omega) (by omega))]
theorem fst_in (p : Nat → Bool) (j0 : Nat) : ∀ d i, i + d ≤ 8 → j0 < 8 → ∃ j, j < 8 ∧ fst p (nI j0) d i = nI j := by
  intro d
  induction d with
  | zero => intro i _ h; exact ⟨j0, h, rfl⟩
  | succ d ih =>
    intro i h h0
    by_cases c : p i = true
    · exact ⟨i, by omega, by show (if p i = true then nI i else fst p (nI j0) d (i + 1)) = _; rw [if_pos c]⟩
    · obtain ⟨j, hj, e⟩ := ih (i + 1) (by omega) h0
      exact ⟨j, hj, by show (if p i = true then nI i else fst p (nI j0) d (i + 1)) = _; rw [if_neg c]; exact e⟩
def cP (F : jF) (G : jG) (fc : Nat → Int32) (a i : Nat) : Bool := decide (¬ fc i < 0 ∧ fc i = fc a - 1 ∧ gX8_isFree F G (nI a) (nI i) ≠ 0)
theorem nf_e {F : jF} {G : jG} {a g : Nat} (ha : a < 8) (hg : g < 8) : gX8_nextFrom F G (nI a) (nI g) = (fst (cP F G (cF F G g) a) (nI a) 8 0, (fa F 68 (cF F G g), G)) := by
  unfold gX8_nextFrom
  rw [if_neg (nI_pos (by omega)), n8, if_pos (nI_lt ha (by omega)), ms_e hg]
  simp only [bsd]
  generalize cF F G g = fc
  have hL : ∀ d i fuel, i + d = 8 → d < fuel → gX8_nextFrom_L22 (fa F 68 fc) G (nI a) (fun _ => (nI a, (fa F 68 fc, G))) fuel (nI i) = (fst (cP F G fc a) (nI a) d i, (fa F 68 fc, G)) := by
    intro d
    induction d with
    | zero =>
      intro i fuel hi hf
      obtain ⟨n, rfl⟩ : ∃ n, fuel = n + 1 := ⟨fuel - 1, by omega⟩
      have hi : i = 8 := hi
      subst hi
      rw [gX8_nextFrom_L22, n8, if_pos (nI_le (Nat.le_refl _) (by omega))]
      rfl
    | succ d ih =>
      intro i fuel hi hf
      obtain ⟨n, rfl⟩ : ∃ n, fuel = n + 1 := ⟨fuel - 1, by omega⟩
      have h1 := ih (i + 1) n (by omega) (by omega)
      rw [← nI_1] at h1
      rw [gX8_nextFrom_L22, n8, if_neg (nI_ge (by omega) (by omega)), nI_clamp (show i < 2 ^ 31 by omega), nI_clamp (show a < 2 ^ 31 by omega), fa_at, h1]
      simp only [bvd]
      rw [fr_fa]
      show _ = ((if cP F G fc a i = true then nI i else fst (cP F G fc a) (nI a) d (i + 1)), (fa F 68 fc, G))
      by_cases c1 : fc i < 0
      · rw [if_pos c1, if_neg (show ¬ cP F G fc a i = true by unfold cP; rw [decide_eq_true_iff]; exact fun h => h.1 c1)]
      · rw [if_neg c1]
        by_cases c2 : fc i = fc a - 1
        · rw [if_pos c2]
          by_cases c3 : gX8_isFree F G (nI a) (nI i) = 0
          · rw [if_pos c3, if_neg (show ¬ cP F G fc a i = true by unfold cP; rw [decide_eq_true_iff]; exact fun h => h.2.2 c3)]
          · rw [if_neg c3, if_pos (show cP F G fc a i = true by unfold cP; exact decide_eq_true ⟨c1, c2, c3⟩)]
        · rw [if_neg c2, if_neg (show ¬ cP F G fc a i = true by unfold cP; rw [decide_eq_true_iff]; exact fun h => c2 h.2.1)]
  have := hL 8 0 80 (by omega) (by omega)
  rw [nI_0] at this
  exact this
theorem nf_o {F : jF} {G : jG} {a g : Nat} (ha : a < 8) (hg : g < 8) : okX8_nextFrom F G (nI a) (nI g) := by
  unfold okX8_nextFrom
  refine ⟨fun _ => trivial, fun _ => ⟨fun _ => ⟨ms_o hg, ?_⟩, fun _ => trivial⟩⟩
  rw [ms_e hg]
  simp only [bsd]
  generalize cF F G g = fc
  have hL : ∀ d i fuel, i + d = 8 → d < fuel → okX8_nextFrom_L22 (fa F 68 fc) G (nI a) (fun _ => True) fuel (nI i) := by
    intro d
    induction d with
    | zero =>
      intro i fuel hi hf
      obtain ⟨n, rfl⟩ : ∃ n, fuel = n + 1 := ⟨fuel - 1, by omega⟩
      have hi : i = 8 := hi
      subst hi
      rw [okX8_nextFrom_L22, n8]
      exact ⟨fun _ => trivial, fun e => absurd (nI_le (Nat.le_refl _) (by omega)) e⟩
    | succ d ih =>
      intro i fuel hi hf
      obtain ⟨n, rfl⟩ : ∃ n, fuel = n + 1 := ⟨fuel - 1, by omega⟩
      have h1 := ih (i + 1) n (by omega) (by omega)
      rw [← nI_1] at h1
      have hvi : vp_in (nI i) 8 := nI_vin (by omega) (by omega)
      have hva : vp_in (nI a) 8 := nI_vin (by omega) (by omega)
      rw [okX8_nextFrom_L22, n8]
      simp only [bvd]
      exact ⟨fun _ => trivial, fun _ => ⟨hvi, fun _ => h1, fun _ => ⟨hvi, hva, fun _ => ⟨fr_ok _ _ _ _, fun _ => h1, fun _ => trivial⟩, fun _ => h1⟩⟩⟩
  have := hL 8 0 80 (by omega) (by omega)
  rw [nI_0] at this
  exact this
