/-- the number of the clause that takes a throw -/
def wk (a b c : Nat) (k : Nat) : Int32 := if k = a then 1 else if k = b then 2 else if k = c then 3 else 0
-- the face, method by method
theorem wy_up {F F1 : jF} (h : cn F 8 ≤ cn F1 8) {p q : Int32} (hw : wy F p q) : wy F1 p q := by
  have e : ∀ p, (∃ j, j < cn F 8 ∧ p = nI j) → ∃ j, j < cn F1 8 ∧ p = nI j := fun p ⟨j, h1, h2⟩ => ⟨j, by omega, h2⟩
  have eo' : ∀ p, eo F p → eo F1 p := fun p hp => by
    rcases hp with h | h | h
    · exact Or.inl h
    · exact Or.inr (Or.inl h)
    · exact Or.inr (Or.inr (e p h))
  exact ⟨eo' p hw.1, eo' q hw.2.1, hw.2.2.1, hw.2.2.2.imp (e p) (e q)⟩
/-- how a call that may change something goes, in both -/
def rM {α β : Type} (n : Nat) (F : jF) (G : jG) (F2 : jF) (G2 : jG) (M FM : jF) (GM : jG) (cv : α → Int64) (cm : β → Int64) (w : Nat → Int32) (codes : List Nat) (gx : Nat × (α × (jS × jF))) (gm : β × jS) : Prop := (∃ x F1 G1 M1 x6 FM1 GM1, gx = (0, (x, ((F1, G1), M1))) ∧ gm = (x6, (FM1, GM1)) ∧ FM1 60 0 = 0 ∧ cv x = cm x6 ∧ Iv (n + 1) F1 G1 F2 G2 M1 FM1 GM1) ∨ ∃ k x x6 v, k ∈ codes ∧ gx = (k, (x, ((F, G), M))) ∧ gm = (x6, (u2 FM 60 0 v, GM)) ∧ v = w k
/-- a new basin -/
theorem RR_nb {b : Int} {c : Nat} {F FM : jF} {G GM : jG} (h : RR b c F G FM GM) (h8 : cn F 8 < 8) {p1 p2 : Int32} (a1 : 1 ≤ p1.toInt) (a2 : p1.toInt ≤ 100) (b1 : -500 ≤ p2.toInt) (b2 : p2.toInt ≤ 500) : RR b c (u2 (u2 (u2 (u2 F 9 (cn F 8) p1) 10 (cn F 8) p2) 12 (cn F 8) 100) 8 0 (nI (cn F 8 + 1))) G (u2 (u2 (u2 (u2 FM 9 (cn F 8) p1) 10 (cn F 8) p2) 12 (cn F 8) 100) 8 0 (nI (cn F 8 + 1))) GM := by
  obtain ⟨⟨⟨x1, x2, x3, x4, x5, x6⟩, ⟨g1, g2, g3⟩, ⟨g4, g5, g6⟩, g7, g8⟩, ⟨h3, h4⟩, h5⟩ := h
  obtain ⟨n, hnd⟩ : ∃ n, n = cn F 8 := ⟨_, rfl⟩
  rw [← hnd]
  obtain ⟨F1, hF1⟩ : ∃ F1, F1 = u2 (u2 (u2 (u2 F 9 n p1) 10 n p2) 12 n 100) 8 0 (nI (n + 1)) := ⟨_, rfl⟩
  have o : ∀ {k}, k ≠ 8 → k ≠ 9 → k ≠ 10 → k ≠ 12 → F1 k = F k := fun c1 c2 c3 c4 => by rw [hF1, u2_other _ c1, u2_other _ c4, u2_other _ c3, u2_other _ c2]
  have ao : ∀ {ks : List Nat}, 8 ∉ ks → 9 ∉ ks → 10 ∉ ks → 12 ∉ ks → ag ks F F1 := fun c1 c2 c3 c4 k hk => o (fun e => c1 (by rw [← e]; exact hk)) (fun e => c2 (by rw [← e]; exact hk)) (fun e => c3 (by rw [← e]; exact hk)) (fun e => c4 (by rw [← e]; exact hk))
  have e9 : ∀ i, F1 9 i = if i = n then p1 else F 9 i := fun i => by rw [hF1, u2_other _ (by decide : 9 ≠ 8), u2_other _ (by decide : 9 ≠ 12), u2_other _ (by decide : 9 ≠ 10), u2_same]
  have e10 : ∀ i, F1 10 i = if i = n then p2 else F 10 i := fun i => by rw [hF1, u2_other _ (by decide : 10 ≠ 8), u2_other _ (by decide : 10 ≠ 12), u2_same, u2_other _ (by decide : 10 ≠ 9)]
  have e12 : ∀ i, F1 12 i = if i = n then 100 else F 12 i := fun i => by rw [hF1, u2_other _ (by decide : 12 ≠ 8), u2_same, u2_other _ (by decide : 12 ≠ 10), u2_other _ (by decide : 12 ≠ 9)]
  have e8 : F1 8 0 = nI (n + 1) := by rw [hF1, u2_at]
  have c8 : cn F1 8 = n + 1 := by unfold cn; rw [e8, nI_clamp (by omega)]
  have hup : cn F 8 ≤ cn F1 8 := by omega
  have n1 : wN F1 := by
    obtain ⟨⟨y1, y2, y3, y4⟩, y5, y6, y7, y8⟩ := x1
    unfold wN
    rw [c8, cn_of (o (k := 17) (by decide) (by decide) (by decide) (by decide)), cn_of (o (k := 23) (by decide) (by decide) (by decide) (by decide)), cn_of (o (k := 32) (by decide) (by decide) (by decide) (by decide)), cn_of (o (k := 40) (by decide) (by decide) (by decide) (by decide)), cn_of (o (k := 44) (by decide) (by decide) (by decide) (by decide)), cn_of (o (k := 1) (by decide) (by decide) (by decide) (by decide)), cn_of (o (k := 0) (by decide) (by decide) (by decide) (by decide)), o (k := 17) (by decide) (by decide) (by decide) (by decide), o (k := 23) (by decide) (by decide) (by decide) (by decide), o (k := 32) (by decide) (by decide) (by decide) (by decide), o (k := 40) (by decide) (by decide) (by decide) (by decide), o (k := 44) (by decide) (by decide) (by decide) (by decide), o (k := 1) (by decide) (by decide) (by decide) (by decide), o (k := 0) (by decide) (by decide) (by decide) (by decide), e8]
    exact ⟨⟨⟨rfl, by omega⟩, y2, y3, y4⟩, y5, y6, y7, y8⟩
  rw [← hF1]
  have hfs : fs F1 = fs F := by unfold fs; rw [o (k := 30) (by decide) (by decide) (by decide) (by decide)]
  refine ⟨⟨⟨n1, fun i => ?_, ⟨by rw [hfs]; exact x3.1, fun i hi => ?_⟩, wS_c (ao (by decide) (by decide) (by decide) (by decide)) x4, wO_c (ao (by decide) (by decide) (by decide) (by decide)) x5, wZ_c x1 n1 (ao (by decide) (by decide) (by decide) (by decide)) (ag_rf _ G) x6⟩, ⟨fun i => ?_, fun i => ?_, fun i => ?_⟩, ⟨fun i hi => ?_, wC_c (ao (by decide) (by decide) (by decide) (by decide)) g5, wWk_c (ao (by decide) (by decide) (by decide) (by decide)) g6⟩, wM_c (ao (by decide) (by decide) (by decide) (by decide)) g7, wT_c (o (by decide) (by decide) (by decide) (by decide)) g8⟩, ⟨by rw [hF1]; exact ag_u2 (ag_u2 (ag_u2 (ag_u2 h3 9 n rfl) 10 n rfl) 12 n rfl) 8 0 rfl, h4⟩, rX_c (ao (by decide) (by decide) (by decide) (by decide)) (ag_tr (ag_tr (ag_tr (ag_off FM (by decide) n p1) (ag_off _ (by decide) n p2)) (ag_off _ (by decide) n 100)) (ag_off _ (by decide) 0 _)) rfl rfl h5⟩
  · obtain ⟨w1, w2⟩ := x2 i
    rw [c8, e9, e10, e12, o (k := 11) (by decide) (by decide) (by decide) (by decide), o (k := 13) (by decide) (by decide) (by decide) (by decide), cn_of (o (k := 1) (by decide) (by decide) (by decide) (by decide))]
    refine ⟨fun hi => ?_, fun hi => w2 (by omega)⟩
    by_cases e : i = n
    · rw [if_pos e, if_pos e, if_pos e]
      have hz := w2 (by omega)
      rw [hz.1, hz.2.1]
      exact ⟨⟨a1, a2⟩, ⟨by omega, b2⟩, by decide, by decide, by decide⟩
    · rw [if_neg e, if_neg e, if_neg e]
      exact w1 (by omega)
  · rw [c8] at hi
    unfold lev
    rw [e9, e10, hfs]
    by_cases e : i = n
    · rw [if_pos e, if_pos e]
      have hz := (x2 i).2 (by omega)
      have z0 : (0 : Int64).toInt = 0 := rfl
      rw [hz.2.2.1, z0]
      have hb2 := x3.1.2.1
      simp only [Int.mul_zero, Int.zero_ediv]
      exact ⟨by omega, by omega⟩
    · rw [if_neg e, if_neg e]
      have := x3.2 i (by omega)
      unfold lev at this
      exact this
  · obtain ⟨w1, w2⟩ := g1 i
    rw [cn_of (o (k := 17) (by decide) (by decide) (by decide) (by decide)), o (k := 18) (by decide) (by decide) (by decide) (by decide), o (k := 19) (by decide) (by decide) (by decide) (by decide), o (k := 20) (by decide) (by decide) (by decide) (by decide), o (k := 21) (by decide) (by decide) (by decide) (by decide), o (k := 22) (by decide) (by decide) (by decide) (by decide)]
    exact ⟨fun hi => ⟨wy_up hup (w1 hi).1, (w1 hi).2⟩, w2⟩
  · obtain ⟨w1, w2⟩ := g2 i
    rw [cn_of (o (k := 23) (by decide) (by decide) (by decide) (by decide)), o (k := 24) (by decide) (by decide) (by decide) (by decide), o (k := 25) (by decide) (by decide) (by decide) (by decide), o (k := 26) (by decide) (by decide) (by decide) (by decide), o (k := 27) (by decide) (by decide) (by decide) (by decide), o (k := 28) (by decide) (by decide) (by decide) (by decide), o (k := 29) (by decide) (by decide) (by decide) (by decide), o (k := 30) (by decide) (by decide) (by decide) (by decide), o (k := 31) (by decide) (by decide) (by decide) (by decide)]
    exact ⟨fun hi => ⟨wy_up hup (w1 hi).1, (w1 hi).2⟩, w2⟩
  · obtain ⟨w1, w2⟩ := g3 i
    rw [cn_of (o (k := 32) (by decide) (by decide) (by decide) (by decide)), o (k := 33) (by decide) (by decide) (by decide) (by decide), o (k := 34) (by decide) (by decide) (by decide) (by decide), o (k := 36) (by decide) (by decide) (by decide) (by decide), o (k := 37) (by decide) (by decide) (by decide) (by decide), o (k := 39) (by decide) (by decide) (by decide) (by decide)]
    exact ⟨fun hi => ⟨wy_up hup (w1 hi).1, (w1 hi).2⟩, w2⟩
  · rw [cn_of (o (k := 44) (by decide) (by decide) (by decide) (by decide))] at hi
    obtain ⟨⟨j, hj, ej⟩, w2⟩ := g4 i hi
    rw [o (k := 45) (by decide) (by decide) (by decide) (by decide), o (k := 46) (by decide) (by decide) (by decide) (by decide), o (k := 47) (by decide) (by decide) (by decide) (by decide), o (k := 48) (by decide) (by decide) (by decide) (by decide)]
    exact ⟨⟨j, by omega, ej⟩, w2⟩
