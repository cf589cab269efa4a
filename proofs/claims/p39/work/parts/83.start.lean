-- the start: what holds of two new objects
theorem cn_0 {k : Nat} (h : iF k 0 = 0) : cn iF k = 0 := by unfold cn; rw [h]; rfl
theorem wN_0 : wN iF := by unfold wN; decide
theorem wB_0 : wB iF iG := fun i => ⟨fun hi => absurd hi (by rw [cn_0 rfl]; omega), fun _ => ⟨rfl, rfl, rfl, rfl⟩⟩
theorem wZ_0 : wZ iF iG := ⟨sea_G wN_0 _ _ 0, Or.inl rfl, fun i => Or.inr (by
  have e : iG 57 i = 0 := rfl
  rw [e]; decide), fun i _ => rfl⟩
theorem wE_0 : wE 0 iF iG := ⟨wN_0, wB_0, ⟨⟨by decide, by decide, by decide⟩, fun i hi => absurd hi (by rw [cn_0 rfl]; omega)⟩, fun i hi => absurd hi (by rw [cn_0 rfl]; omega), (by unfold wO; decide), wZ_0⟩
theorem wY_0 : wY 0 iF iG := by
  refine ⟨⟨fun i => ?_, fun i => ?_, fun i => ?_⟩, ⟨fun i hi => ?_, fun i hi => ?_, fun i => ?_⟩, ?_, ?_⟩
  · exact ⟨fun hi => absurd hi (by rw [cn_0 rfl]; omega), Or.inl rfl, fun _ => rfl⟩
  · refine ⟨fun hi => absurd hi (by rw [cn_0 rfl]; omega), Or.inl rfl, ?_, ?_, ?_⟩
    · have e : iF 30 i = 0 := rfl
      rw [e]; decide
    · have e : iF 31 i = 0 := rfl
      rw [e]; decide
    · intro _; first | exact rfl | exact ⟨rfl, rfl⟩ | exact ⟨rfl, rfl, rfl⟩
  · refine ⟨fun hi => absurd hi (by rw [cn_0 rfl]; omega), ?_, ?_, ?_, fun _ => ⟨rfl, rfl⟩⟩
    · have e : iF 39 i = 0 := rfl
      rw [e]; decide
    · have e : iG 61 i = 0 := rfl
      rw [e]; decide
    · have e : iG 61 i = 0 := rfl
      rw [e]; intro _; decide
  · exact absurd hi (by rw [cn_0 rfl]; omega)
  · refine ⟨⟨0, by omega, rfl⟩, ?_, Or.inl rfl⟩
    have e : iF 50 i = 10 := rfl
    rw [e]; decide
  · exact ⟨Or.inl rfl, fun h => absurd rfl h⟩
  · unfold wM; decide
  · exact ⟨fun i => Or.inl rfl, fun _ _ _ _ => rfl⟩
theorem agF_0 : ag shF iF mF := by
  intro k hk
  funext i
  revert hk
  unfold shF
  simp only [List.mem_cons, List.not_mem_nil, or_false]
  intro hk
  rcases hk with rfl | rfl | rfl | rfl | rfl | rfl | rfl | rfl | rfl | rfl | rfl | rfl | rfl | rfl | rfl | rfl | rfl | rfl | rfl | rfl | rfl | rfl | rfl | rfl | rfl | rfl | rfl | rfl | rfl | rfl | rfl | rfl | rfl | rfl | rfl | rfl | rfl | rfl | rfl | rfl | rfl | rfl | rfl | rfl | rfl | rfl <;> rfl
theorem agG_0 : ag shG iG mG := by
  intro k hk
  funext i
  revert hk
  unfold shG
  simp only [List.mem_cons, List.not_mem_nil, or_false]
  intro hk
  rcases hk with rfl | rfl | rfl | rfl | rfl <;> rfl
theorem rX_0 : rX iF iG mF mG := by
  refine ⟨rfl, fun i => rfl, fun i hi => ?_, rfl, by decide, ?_⟩
  · rcases (show i = 0 ∨ i = 1 ∨ i = 2 by omega) with rfl | rfl | rfl <;> exact ⟨by decide, by decide⟩
  · have e1 : wkC iF = [] := by decide
    have e2 : wkM mF = [] := by decide
    rw [e1, e2]
theorem RR_0 : RR 0 0 iF iG mF mG := ⟨⟨wE_0, wY_0⟩, ⟨agF_0, agG_0⟩, rX_0⟩
theorem Iv_0 : Iv 0 iF iG iF iG (fun _ _ => 0) mF mG := by
  refine ⟨0, 0, ⟨by omega, by omega, by omega⟩, ⟨rfl, rfl⟩, ⟨rfl, rfl⟩, fun j hj => absurd hj (by omega), ?_⟩
  have e : 1000000 * ((0 : Nat) : Int) + 119988 * (cn iF 0 : Int) = 0 := by rw [cn_0 rfl]; rfl
  rw [e]
  exact RR_0
-- what the tables say of the first state
theorem ty_i {A : Array Value} {s : State} {ty : FieldType} (h : (Cond.arrayClass ty).before A s = true) (hr : ∀ cA, s.vm.findClass ("[" ++ ty.toString) = some cA → va_RA s cA ty) : ∃ cA, ArrOfT s cA ty ∧ va_RA s cA ty := by
  obtain ⟨cA, kA, comp, h1, h2, h3⟩ := Cond.arrayClass_spec h
  exact ⟨cA, fun n z => ⟨fun k h => (by cases h), kA, h2, comp, h3⟩, hr cA h1⟩
theorem ty_q {A : Array Value} {s : State} {C : String} (h : (Cond.arrayOver (.object C)).before A s = true) : ∃ cA, ArrOfT s cA (.object C) ∧ va_RA s cA (.object C) := by
  obtain ⟨comp, cA, kA, h1, -, h2, h3, h4⟩ := Cond.arrayOver_spec h
  exact ⟨cA, fun n z => ⟨fun k h => (by cases h), kA, h2, comp, h3⟩, kA, comp, h2, h3, h1, h4⟩
theorem st_r {A : Array Value} {s : State} {cur : Nat} {k : Nat} {tx : String} (hcur : s.vm.findClass RX11 = some cur) (h : (Cond.stringRef RX11 k tx).before A s = true) : ∃ a, vk_R RX11 k tx a s := by
  obtain ⟨-, -, -, a, -, -, -, -, -, hev⟩ := Cond.stringRef_spec hcur h
  exact ⟨a, vk_R.of h hev⟩
