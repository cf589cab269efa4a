def cn (F : jF) (k : Nat) : Nat := (F k 0).toNatClampNeg
def op (n i : Nat) : Option Nat := if i < n then some i else none
def opi (x : Int32) : Option Nat := if x < 0 then none else some x.toNatClampNeg
def oB (B : Nat → Nat) (off : Nat) (o : Option Nat) : Option Nat := o.map (fun k => B (off + k))
def om {β : Sort _} (o : Option Nat) (a : β) (b : Nat → β) : β := match o with | none => a | some k => b k
theorem omN {β : Sort _} {a z : β} {b : Nat → β} (h : om none a b = z) : a = z := h
theorem omS {β : Sort _} {a z : β} {b : Nat → β} {k : Nat} (h : om (some k) a b = z) : b k = z := h
theorem opN {a : Prop} {b : Nat → Prop} (h : om none a b) : a := h
theorem opS {a : Prop} {b : Nat → Prop} {k : Nat} (h : om (some k) a b) : b k := h
def plw (B : Nat → Nat) (off n : Nat) (c : Nat → va_E) : va_W := (List.range n).map (fun i => (B (off + i), c i))
def lc_basin (F : jF) (G : jG) (i : Nat) : va_E := .inr (0, [.int (F 9 i), .int (F 10 i), .long (G 14 i), .int (F 11 i), .int (F 12 i), .int (F 13 i), .long (G 15 i)])
def lc_gate (F : jF) (G : jG) (i : Nat) : va_E := .inr (4, [.int (F 18 i), .int (F 19 i), .int (F 20 i), .int (F 21 i), .int (F 22 i)])
def lc_pump (F : jF) (G : jG) (i : Nat) : va_E := .inr (7, [.int (F 24 i), .int (F 25 i), .int (F 26 i), .int (F 27 i), .int (F 28 i), .int (F 29 i), .int (F 30 i), .int (F 31 i)])
def lc_dyke (F : jF) (G : jG) (i : Nat) : va_E := .inr (3, [.int (F 33 i), .int (F 34 i), .int (F 35 i), .int (F 36 i), .int (F 37 i), .long (G 61 i), .int (F 39 i)])
def lc_storm (F : jF) (G : jG) (i : Nat) : va_E := .inr (9, [.int (F 41 i), .int (F 42 i), .int (F 43 i), .int (F 63 i)])
def lc_rain (F : jF) (G : jG) (i : Nat) : va_E := .inr (9, [.int (F 46 i), .int (F 47 i), .int (F 48 i), .int (F 45 i)])
def lc_crew (F : jF) (G : jG) (i : Nat) : va_E := .inr (2, [.int (F 49 i), .int (F 50 i), .int (F 64 i)])
def lF (yy : Nat → ClassId) (B : Nat → Nat) (F : jF) (G : jG) : va_W := [(B 0, .inr (5, [.ref (B 1), .ref (B 2), .ref (B 3), .int (F 17 0), .ref (B 4), .int (F 23 0), .ref (B 5), .int (F 32 0), .ref (B 6), .ref (B 7)])), (B 1, .inr (10, [.ref (B 8), .int (F 8 0), .ref (B 9), .ref (B 10), .int (F 44 0), .ref (B 11), .int (F 0 0), .long (G 69 0)])), (B 2, .inr (1, [.int (F 62 0), .int (F 3 0), .int (F 1 0), .long (G 58 0), .ref (B 12), .ref (B 13), .ref (B 14), .ref (B 15)])), (B 7, .inr (8, [.ref (B 16), .ref (B 17), .ref (B 18)])), (B 9, .inr (6, [.int (F 5 0), .int (F 6 0), .int (F 7 0), .int (F 4 0), .ref (B 19), .int (F 40 0)])), (B 3, .inl (yy 6, 8, .inr (.inr (.inr (.inr (fun i => oB B 200 (op (cn F 17) i))))))), (B 4, .inl (yy 7, 8, .inr (.inr (.inr (.inr (fun i => oB B 300 (op (cn F 23) i))))))), (B 5, .inl (yy 5, 8, .inr (.inr (.inr (.inr (fun i => oB B 400 (op (cn F 32) i))))))), (B 6, .inl (yy 4, 3, .inr (.inr (.inr (.inr (fun i => oB B 700 (op (3) i))))))), (B 8, .inl (yy 3, 8, .inr (.inr (.inr (.inr (fun i => oB B 100 (op (cn F 8) i))))))), (B 10, .inl (yy 8, 12, .inr (.inr (.inr (.inr (fun i => oB B 600 (op (cn F 44) i))))))), (B 11, .inl (yy 1, 4, .inr (.inl (G 56)))), (B 12, .inl (yy 1, 20, .inr (.inl (G 57)))), (B 13, .inl (yy 5, 6, .inr (.inr (.inr (.inr (fun i => oB B 400 (opi (F 65 i)))))))), (B 14, .inl (yy 0, 6, .inl (F 66))), (B 15, .inl (yy 0, 6, .inl (F 67))), (B 16, .inl (yy 2, 64, .inl (F 16))), (B 17, .inl (yy 2, 8, .inl (F 70))), (B 18, .inl (yy 0, 8, .inl (F 68))), (B 19, .inl (yy 8, 12, .inr (.inr (.inr (.inr (fun i => oB B 500 (op (cn F 40) i)))))))]
def lW (yy : Nat → ClassId) (B : Nat → Nat) (F : jF) (G : jG) : va_W := lF yy B F G ++ (plw B 700 (3) (lc_crew F G) ++ (plw B 100 (cn F 8) (lc_basin F G) ++ (plw B 200 (cn F 17) (lc_gate F G) ++ (plw B 300 (cn F 23) (lc_pump F G) ++ (plw B 400 (cn F 32) (lc_dyke F G) ++ (plw B 500 (cn F 40) (lc_storm F G) ++ (plw B 600 (cn F 44) (lc_rain F G))))))))
theorem plw_get (B : Nat → Nat) (off n : Nat) (c : Nat → va_E) {i : Nat} (h : i < n) : (plw B off n c)[i]? = some (B (off + i), c i) := by
  simp [plw, List.getElem?_map, List.getElem?_range h]
theorem plw_len (B : Nat → Nat) (off n : Nat) (c : Nat → va_E) : (plw B off n c).length = n := by simp [plw]
theorem plw_set (B : Nat → Nat) (off n : Nat) (c c' : Nat → va_E) {i : Nat} (e : va_E) (he : c' i = e) (hc : ∀ j, j ≠ i → c' j = c j) : (plw B off n c).set i (B (off + i), e) = plw B off n c' := by
  apply List.ext_getElem?
  intro j
  by_cases hj : j = i
  · subst hj
    by_cases hl : j < n
    · rw [List.getElem?_set_self (by rw [plw_len]; exact hl), plw_get B off n c' hl, he]
    · rw [List.getElem?_eq_none (by rw [List.length_set, plw_len]; omega), List.getElem?_eq_none (by rw [plw_len]; omega)]
  · rw [List.getElem?_set_ne (Ne.symm hj)]
    by_cases hl : j < n
    · rw [plw_get B off n c hl, plw_get B off n c' hl, hc j hj]
    · rw [List.getElem?_eq_none (by rw [plw_len]; omega), List.getElem?_eq_none (by rw [plw_len]; omega)]
theorem ap_get {X Y : va_W} {i : Nat} {q : Nat × va_E} (h : Y[i]? = some q) : (X ++ Y)[X.length + i]? = some q := by
  rw [List.getElem?_append_right (by omega), Nat.add_sub_cancel_left]; exact h
theorem ap_getl {X Y : va_W} {i : Nat} {q : Nat × va_E} (h : X[i]? = some q) : (X ++ Y)[i]? = some q := by
  rw [List.getElem?_append_left (List.getElem?_eq_some_iff.mp h).1]; exact h
theorem ap_set {X Y Y' : va_W} {i : Nat} {q : Nat × va_E} (h : Y.set i q = Y') : (X ++ Y).set (X.length + i) q = X ++ Y' := by
  rw [List.set_append_right _ _ (by omega), Nat.add_sub_cancel_left, h]
theorem ap_setl {X X' Y : va_W} {i : Nat} {q : Nat × va_E} (hi : i < X.length) (h : X.set i q = X') : (X ++ Y).set i q = X' ++ Y := by
  rw [List.set_append_left _ _ hi, h]
theorem lWg_crew {yy : Nat → ClassId} {B : Nat → Nat} {F : jF} {G : jG} {i : Nat} (h : i < 3) : ∃ q : Nat, (lW yy B F G)[q]? = some (B (700 + i), .inr (2, [.int (F 49 i), .int (F 50 i), .int (F 64 i)])) := ⟨_, ap_get (ap_getl (plw_get B 700 _ (lc_crew F G) h))⟩
theorem lWs_crew_basin {yy : Nat → ClassId} {B : Nat → Nat} {F : jF} {G : jG} {i : Nat} {v : Int32} (h : i < 3) : ∃ q : Nat, (lW yy B F G)[q]? = some (B (700 + i), .inr (2, [.int (F 49 i), .int (F 50 i), .int (F 64 i)])) ∧ (lW yy B F G).set q (B (700 + i), .inr (2, [.int v, .int (F 50 i), .int (F 64 i)])) = lW yy B (u2 F 49 i v) G := ⟨_, ap_get (ap_getl (plw_get B 700 _ (lc_crew F G) h)), ap_set (ap_setl (by rw [plw_len]; exact h) (plw_set B 700 _ (lc_crew F G) (lc_crew (u2 F 49 i v) G) _ (by simp [lc_crew, u2, va_up]) (fun j hj => by simp [lc_crew, u2, va_up, hj])))⟩
theorem lWs_crew_bags {yy : Nat → ClassId} {B : Nat → Nat} {F : jF} {G : jG} {i : Nat} {v : Int32} (h : i < 3) : ∃ q : Nat, (lW yy B F G)[q]? = some (B (700 + i), .inr (2, [.int (F 49 i), .int (F 50 i), .int (F 64 i)])) ∧ (lW yy B F G).set q (B (700 + i), .inr (2, [.int (F 49 i), .int v, .int (F 64 i)])) = lW yy B (u2 F 50 i v) G := ⟨_, ap_get (ap_getl (plw_get B 700 _ (lc_crew F G) h)), ap_set (ap_setl (by rw [plw_len]; exact h) (plw_set B 700 _ (lc_crew F G) (lc_crew (u2 F 50 i v) G) _ (by simp [lc_crew, u2, va_up]) (fun j hj => by simp [lc_crew, u2, va_up, hj])))⟩
theorem lWs_crew_dyke {yy : Nat → ClassId} {B : Nat → Nat} {F : jF} {G : jG} {i : Nat} {v : Int32} (h : i < 3) : ∃ q : Nat, (lW yy B F G)[q]? = some (B (700 + i), .inr (2, [.int (F 49 i), .int (F 50 i), .int (F 64 i)])) ∧ (lW yy B F G).set q (B (700 + i), .inr (2, [.int (F 49 i), .int (F 50 i), .int v])) = lW yy B (u2 F 64 i v) G := ⟨_, ap_get (ap_getl (plw_get B 700 _ (lc_crew F G) h)), ap_set (ap_setl (by rw [plw_len]; exact h) (plw_set B 700 _ (lc_crew F G) (lc_crew (u2 F 64 i v) G) _ (by simp [lc_crew, u2, va_up]) (fun j hj => by simp [lc_crew, u2, va_up, hj])))⟩
theorem lWg_basin {yy : Nat → ClassId} {B : Nat → Nat} {F : jF} {G : jG} {i : Nat} (h : i < cn F 8) : ∃ q : Nat, (lW yy B F G)[q]? = some (B (100 + i), .inr (0, [.int (F 9 i), .int (F 10 i), .long (G 14 i), .int (F 11 i), .int (F 12 i), .int (F 13 i), .long (G 15 i)])) := ⟨_, ap_get (ap_get (ap_getl (plw_get B 100 _ (lc_basin F G) h)))⟩
theorem lWs_basin_ground {yy : Nat → ClassId} {B : Nat → Nat} {F : jF} {G : jG} {i : Nat} {v : Int32} (h : i < cn F 8) : ∃ q : Nat, (lW yy B F G)[q]? = some (B (100 + i), .inr (0, [.int (F 9 i), .int (F 10 i), .long (G 14 i), .int (F 11 i), .int (F 12 i), .int (F 13 i), .long (G 15 i)])) ∧ (lW yy B F G).set q (B (100 + i), .inr (0, [.int (F 9 i), .int v, .long (G 14 i), .int (F 11 i), .int (F 12 i), .int (F 13 i), .long (G 15 i)])) = lW yy B (u2 F 10 i v) G := ⟨_, ap_get (ap_get (ap_getl (plw_get B 100 _ (lc_basin F G) h))), ap_set (ap_set (ap_setl (by rw [plw_len]; exact h) (plw_set B 100 _ (lc_basin F G) (lc_basin (u2 F 10 i v) G) _ (by simp [lc_basin, u2, va_up]) (fun j hj => by simp [lc_basin, u2, va_up, hj]))))⟩
theorem lWs_basin_water {yy : Nat → ClassId} {B : Nat → Nat} {F : jF} {G : jG} {i : Nat} {v : Int64} (h : i < cn F 8) : ∃ q : Nat, (lW yy B F G)[q]? = some (B (100 + i), .inr (0, [.int (F 9 i), .int (F 10 i), .long (G 14 i), .int (F 11 i), .int (F 12 i), .int (F 13 i), .long (G 15 i)])) ∧ (lW yy B F G).set q (B (100 + i), .inr (0, [.int (F 9 i), .int (F 10 i), .long v, .int (F 11 i), .int (F 12 i), .int (F 13 i), .long (G 15 i)])) = lW yy B F (u2 G 14 i v) := ⟨_, ap_get (ap_get (ap_getl (plw_get B 100 _ (lc_basin F G) h))), ap_set (ap_set (ap_setl (by rw [plw_len]; exact h) (plw_set B 100 _ (lc_basin F G) (lc_basin F (u2 G 14 i v)) _ (by simp [lc_basin, u2, va_up]) (fun j hj => by simp [lc_basin, u2, va_up, hj]))))⟩
theorem lWs_basin_sinks {yy : Nat → ClassId} {B : Nat → Nat} {F : jF} {G : jG} {i : Nat} {v : Int32} (h : i < cn F 8) : ∃ q : Nat, (lW yy B F G)[q]? = some (B (100 + i), .inr (0, [.int (F 9 i), .int (F 10 i), .long (G 14 i), .int (F 11 i), .int (F 12 i), .int (F 13 i), .long (G 15 i)])) ∧ (lW yy B F G).set q (B (100 + i), .inr (0, [.int (F 9 i), .int (F 10 i), .long (G 14 i), .int v, .int (F 12 i), .int (F 13 i), .long (G 15 i)])) = lW yy B (u2 F 11 i v) G := ⟨_, ap_get (ap_get (ap_getl (plw_get B 100 _ (lc_basin F G) h))), ap_set (ap_set (ap_setl (by rw [plw_len]; exact h) (plw_set B 100 _ (lc_basin F G) (lc_basin (u2 F 11 i v) G) _ (by simp [lc_basin, u2, va_up]) (fun j hj => by simp [lc_basin, u2, va_up, hj]))))⟩
theorem lWs_basin_floor {yy : Nat → ClassId} {B : Nat → Nat} {F : jF} {G : jG} {i : Nat} {v : Int32} (h : i < cn F 8) : ∃ q : Nat, (lW yy B F G)[q]? = some (B (100 + i), .inr (0, [.int (F 9 i), .int (F 10 i), .long (G 14 i), .int (F 11 i), .int (F 12 i), .int (F 13 i), .long (G 15 i)])) ∧ (lW yy B F G).set q (B (100 + i), .inr (0, [.int (F 9 i), .int (F 10 i), .long (G 14 i), .int (F 11 i), .int v, .int (F 13 i), .long (G 15 i)])) = lW yy B (u2 F 12 i v) G := ⟨_, ap_get (ap_get (ap_getl (plw_get B 100 _ (lc_basin F G) h))), ap_set (ap_set (ap_setl (by rw [plw_len]; exact h) (plw_set B 100 _ (lc_basin F G) (lc_basin (u2 F 12 i v) G) _ (by simp [lc_basin, u2, va_up]) (fun j hj => by simp [lc_basin, u2, va_up, hj]))))⟩
theorem lWs_basin_worth {yy : Nat → ClassId} {B : Nat → Nat} {F : jF} {G : jG} {i : Nat} {v : Int32} (h : i < cn F 8) : ∃ q : Nat, (lW yy B F G)[q]? = some (B (100 + i), .inr (0, [.int (F 9 i), .int (F 10 i), .long (G 14 i), .int (F 11 i), .int (F 12 i), .int (F 13 i), .long (G 15 i)])) ∧ (lW yy B F G).set q (B (100 + i), .inr (0, [.int (F 9 i), .int (F 10 i), .long (G 14 i), .int (F 11 i), .int (F 12 i), .int v, .long (G 15 i)])) = lW yy B (u2 F 13 i v) G := ⟨_, ap_get (ap_get (ap_getl (plw_get B 100 _ (lc_basin F G) h))), ap_set (ap_set (ap_setl (by rw [plw_len]; exact h) (plw_set B 100 _ (lc_basin F G) (lc_basin (u2 F 13 i v) G) _ (by simp [lc_basin, u2, va_up]) (fun j hj => by simp [lc_basin, u2, va_up, hj]))))⟩
theorem lWs_basin_harm {yy : Nat → ClassId} {B : Nat → Nat} {F : jF} {G : jG} {i : Nat} {v : Int64} (h : i < cn F 8) : ∃ q : Nat, (lW yy B F G)[q]? = some (B (100 + i), .inr (0, [.int (F 9 i), .int (F 10 i), .long (G 14 i), .int (F 11 i), .int (F 12 i), .int (F 13 i), .long (G 15 i)])) ∧ (lW yy B F G).set q (B (100 + i), .inr (0, [.int (F 9 i), .int (F 10 i), .long (G 14 i), .int (F 11 i), .int (F 12 i), .int (F 13 i), .long v])) = lW yy B F (u2 G 15 i v) := ⟨_, ap_get (ap_get (ap_getl (plw_get B 100 _ (lc_basin F G) h))), ap_set (ap_set (ap_setl (by rw [plw_len]; exact h) (plw_set B 100 _ (lc_basin F G) (lc_basin F (u2 G 15 i v)) _ (by simp [lc_basin, u2, va_up]) (fun j hj => by simp [lc_basin, u2, va_up, hj]))))⟩
theorem lWg_gate {yy : Nat → ClassId} {B : Nat → Nat} {F : jF} {G : jG} {i : Nat} (h : i < cn F 17) : ∃ q : Nat, (lW yy B F G)[q]? = some (B (200 + i), .inr (4, [.int (F 18 i), .int (F 19 i), .int (F 20 i), .int (F 21 i), .int (F 22 i)])) := ⟨_, ap_get (ap_get (ap_get (ap_getl (plw_get B 200 _ (lc_gate F G) h))))⟩
theorem lWs_gate_open {yy : Nat → ClassId} {B : Nat → Nat} {F : jF} {G : jG} {i : Nat} {v : Int32} (h : i < cn F 17) : ∃ q : Nat, (lW yy B F G)[q]? = some (B (200 + i), .inr (4, [.int (F 18 i), .int (F 19 i), .int (F 20 i), .int (F 21 i), .int (F 22 i)])) ∧ (lW yy B F G).set q (B (200 + i), .inr (4, [.int (F 18 i), .int (F 19 i), .int (F 20 i), .int (F 21 i), .int v])) = lW yy B (u2 F 22 i v) G := ⟨_, ap_get (ap_get (ap_get (ap_getl (plw_get B 200 _ (lc_gate F G) h)))), ap_set (ap_set (ap_set (ap_setl (by rw [plw_len]; exact h) (plw_set B 200 _ (lc_gate F G) (lc_gate (u2 F 22 i v) G) _ (by simp [lc_gate, u2, va_up]) (fun j hj => by simp [lc_gate, u2, va_up, hj])))))⟩
theorem lWg_pump {yy : Nat → ClassId} {B : Nat → Nat} {F : jF} {G : jG} {i : Nat} (h : i < cn F 23) : ∃ q : Nat, (lW yy B F G)[q]? = some (B (300 + i), .inr (7, [.int (F 24 i), .int (F 25 i), .int (F 26 i), .int (F 27 i), .int (F 28 i), .int (F 29 i), .int (F 30 i), .int (F 31 i)])) := ⟨_, ap_get (ap_get (ap_get (ap_get (ap_getl (plw_get B 300 _ (lc_pump F G) h)))))⟩
theorem lWs_pump_on {yy : Nat → ClassId} {B : Nat → Nat} {F : jF} {G : jG} {i : Nat} {v : Int32} (h : i < cn F 23) : ∃ q : Nat, (lW yy B F G)[q]? = some (B (300 + i), .inr (7, [.int (F 24 i), .int (F 25 i), .int (F 26 i), .int (F 27 i), .int (F 28 i), .int (F 29 i), .int (F 30 i), .int (F 31 i)])) ∧ (lW yy B F G).set q (B (300 + i), .inr (7, [.int (F 24 i), .int (F 25 i), .int (F 26 i), .int (F 27 i), .int (F 28 i), .int v, .int (F 30 i), .int (F 31 i)])) = lW yy B (u2 F 29 i v) G := ⟨_, ap_get (ap_get (ap_get (ap_get (ap_getl (plw_get B 300 _ (lc_pump F G) h))))), ap_set (ap_set (ap_set (ap_set (ap_setl (by rw [plw_len]; exact h) (plw_set B 300 _ (lc_pump F G) (lc_pump (u2 F 29 i v) G) _ (by simp [lc_pump, u2, va_up]) (fun j hj => by simp [lc_pump, u2, va_up, hj]))))))⟩
theorem lWs_pump_fuel {yy : Nat → ClassId} {B : Nat → Nat} {F : jF} {G : jG} {i : Nat} {v : Int32} (h : i < cn F 23) : ∃ q : Nat, (lW yy B F G)[q]? = some (B (300 + i), .inr (7, [.int (F 24 i), .int (F 25 i), .int (F 26 i), .int (F 27 i), .int (F 28 i), .int (F 29 i), .int (F 30 i), .int (F 31 i)])) ∧ (lW yy B F G).set q (B (300 + i), .inr (7, [.int (F 24 i), .int (F 25 i), .int (F 26 i), .int (F 27 i), .int (F 28 i), .int (F 29 i), .int v, .int (F 31 i)])) = lW yy B (u2 F 30 i v) G := ⟨_, ap_get (ap_get (ap_get (ap_get (ap_getl (plw_get B 300 _ (lc_pump F G) h))))), ap_set (ap_set (ap_set (ap_set (ap_setl (by rw [plw_len]; exact h) (plw_set B 300 _ (lc_pump F G) (lc_pump (u2 F 30 i v) G) _ (by simp [lc_pump, u2, va_up]) (fun j hj => by simp [lc_pump, u2, va_up, hj]))))))⟩
theorem lWs_pump_wear {yy : Nat → ClassId} {B : Nat → Nat} {F : jF} {G : jG} {i : Nat} {v : Int32} (h : i < cn F 23) : ∃ q : Nat, (lW yy B F G)[q]? = some (B (300 + i), .inr (7, [.int (F 24 i), .int (F 25 i), .int (F 26 i), .int (F 27 i), .int (F 28 i), .int (F 29 i), .int (F 30 i), .int (F 31 i)])) ∧ (lW yy B F G).set q (B (300 + i), .inr (7, [.int (F 24 i), .int (F 25 i), .int (F 26 i), .int (F 27 i), .int (F 28 i), .int (F 29 i), .int (F 30 i), .int v])) = lW yy B (u2 F 31 i v) G := ⟨_, ap_get (ap_get (ap_get (ap_get (ap_getl (plw_get B 300 _ (lc_pump F G) h))))), ap_set (ap_set (ap_set (ap_set (ap_setl (by rw [plw_len]; exact h) (plw_set B 300 _ (lc_pump F G) (lc_pump (u2 F 31 i v) G) _ (by simp [lc_pump, u2, va_up]) (fun j hj => by simp [lc_pump, u2, va_up, hj]))))))⟩
theorem lWg_dyke {yy : Nat → ClassId} {B : Nat → Nat} {F : jF} {G : jG} {i : Nat} (h : i < cn F 32) : ∃ q : Nat, (lW yy B F G)[q]? = some (B (400 + i), .inr (3, [.int (F 33 i), .int (F 34 i), .int (F 35 i), .int (F 36 i), .int (F 37 i), .long (G 61 i), .int (F 39 i)])) := ⟨_, ap_get (ap_get (ap_get (ap_get (ap_get (ap_getl (plw_get B 400 _ (lc_dyke F G) h))))))⟩
theorem lWs_dyke_crest {yy : Nat → ClassId} {B : Nat → Nat} {F : jF} {G : jG} {i : Nat} {v : Int32} (h : i < cn F 32) : ∃ q : Nat, (lW yy B F G)[q]? = some (B (400 + i), .inr (3, [.int (F 33 i), .int (F 34 i), .int (F 35 i), .int (F 36 i), .int (F 37 i), .long (G 61 i), .int (F 39 i)])) ∧ (lW yy B F G).set q (B (400 + i), .inr (3, [.int (F 33 i), .int (F 34 i), .int v, .int (F 36 i), .int (F 37 i), .long (G 61 i), .int (F 39 i)])) = lW yy B (u2 F 35 i v) G := ⟨_, ap_get (ap_get (ap_get (ap_get (ap_get (ap_getl (plw_get B 400 _ (lc_dyke F G) h)))))), ap_set (ap_set (ap_set (ap_set (ap_set (ap_setl (by rw [plw_len]; exact h) (plw_set B 400 _ (lc_dyke F G) (lc_dyke (u2 F 35 i v) G) _ (by simp [lc_dyke, u2, va_up]) (fun j hj => by simp [lc_dyke, u2, va_up, hj])))))))⟩
theorem lWs_dyke_damage {yy : Nat → ClassId} {B : Nat → Nat} {F : jF} {G : jG} {i : Nat} {v : Int64} (h : i < cn F 32) : ∃ q : Nat, (lW yy B F G)[q]? = some (B (400 + i), .inr (3, [.int (F 33 i), .int (F 34 i), .int (F 35 i), .int (F 36 i), .int (F 37 i), .long (G 61 i), .int (F 39 i)])) ∧ (lW yy B F G).set q (B (400 + i), .inr (3, [.int (F 33 i), .int (F 34 i), .int (F 35 i), .int (F 36 i), .int (F 37 i), .long v, .int (F 39 i)])) = lW yy B F (u2 G 61 i v) := ⟨_, ap_get (ap_get (ap_get (ap_get (ap_get (ap_getl (plw_get B 400 _ (lc_dyke F G) h)))))), ap_set (ap_set (ap_set (ap_set (ap_set (ap_setl (by rw [plw_len]; exact h) (plw_set B 400 _ (lc_dyke F G) (lc_dyke F (u2 G 61 i v)) _ (by simp [lc_dyke, u2, va_up]) (fun j hj => by simp [lc_dyke, u2, va_up, hj])))))))⟩
theorem lWs_dyke_breach {yy : Nat → ClassId} {B : Nat → Nat} {F : jF} {G : jG} {i : Nat} {v : Int32} (h : i < cn F 32) : ∃ q : Nat, (lW yy B F G)[q]? = some (B (400 + i), .inr (3, [.int (F 33 i), .int (F 34 i), .int (F 35 i), .int (F 36 i), .int (F 37 i), .long (G 61 i), .int (F 39 i)])) ∧ (lW yy B F G).set q (B (400 + i), .inr (3, [.int (F 33 i), .int (F 34 i), .int (F 35 i), .int (F 36 i), .int (F 37 i), .long (G 61 i), .int v])) = lW yy B (u2 F 39 i v) G := ⟨_, ap_get (ap_get (ap_get (ap_get (ap_get (ap_getl (plw_get B 400 _ (lc_dyke F G) h)))))), ap_set (ap_set (ap_set (ap_set (ap_set (ap_setl (by rw [plw_len]; exact h) (plw_set B 400 _ (lc_dyke F G) (lc_dyke (u2 F 39 i v) G) _ (by simp [lc_dyke, u2, va_up]) (fun j hj => by simp [lc_dyke, u2, va_up, hj])))))))⟩
theorem lWg_storm {yy : Nat → ClassId} {B : Nat → Nat} {F : jF} {G : jG} {i : Nat} (h : i < cn F 40) : ∃ q : Nat, (lW yy B F G)[q]? = some (B (500 + i), .inr (9, [.int (F 41 i), .int (F 42 i), .int (F 43 i), .int (F 63 i)])) := ⟨_, ap_get (ap_get (ap_get (ap_get (ap_get (ap_get (ap_getl (plw_get B 500 _ (lc_storm F G) h)))))))⟩
theorem lWg_rain {yy : Nat → ClassId} {B : Nat → Nat} {F : jF} {G : jG} {i : Nat} (h : i < cn F 44) : ∃ q : Nat, (lW yy B F G)[q]? = some (B (600 + i), .inr (9, [.int (F 46 i), .int (F 47 i), .int (F 48 i), .int (F 45 i)])) := ⟨_, ap_get (ap_get (ap_get (ap_get (ap_get (ap_get (ap_get (plw_get B 600 _ (lc_rain F G) h)))))))⟩
section JO
variable {p : Program} {l : Launch} {e : Env} {R : Room} {s : State} {m : MethodId} {args : Array Value} {below : List Frame} {meth : Method} {c : Code} {H : Heap} {locs : List Loc} {cells slots : Nat} {Q : State → Prop} {pc : Nat} {ls : Array Slot} {rest st0 : List Value} {cc : ByteArray} {nL : Nat} {Ts : List Cond} {own C : String} {index : Nat} {y : MethodName} {bytes : ByteArray} {maxL : Nat} {ret : Option FieldType} {ws : List Cond} {rm : Room} {n : Nat} {As : List Value} {b : Addr} {D : va_G} {yy : Nat → ClassId} {w : va_W} {Bp : State → Prop}
theorem jo_nm {B : Nat → Nat} {off : Nat} {e0 : Option Nat} (k : ∀ o : Option Nat, o = e0 → W p l e R s m args below meth c H locs cells slots Q (F0 m pc ls (va_rf (oB B off o) :: rest))) : W p l e R s m args below meth c H locs cells slots Q (F0 m pc ls (va_rf (oB B off e0) :: rest)) := k e0 rfl
theorem jc_q {B : Nat → Nat} {off : Nat} {v : Option Nat} (S : CallFix p m c cc nL s args Ts own) (hM : Met l y ws rm (va_Pc (Value.ref b :: As) (jR D yy w)) (va_Sq (fun r => r = oB B off v)) 0 0 (fun _ => False)) (cw : CallW R s args own C index y bytes maxL ret ws rm 0 0 n) (hP : va_P D vwCl w H) (hK : va_K D vwCl (jT yy) s) (hv : ∃ cell : Cell, H[b]? = some cell ∧ cell.vm.isStatics = false ∧ s.vm.findClass C = some cell.cls) (hn : As.length = n) (hsz : ls.size = nL) (hst : st0 = As.reverse ++ .ref b :: rest) (hroom : (rest.map fun v => v.category).sum ≤ 8) (hdg : decode cc pc = .ok (.invokevirtual index, 3)) (hf : cells ≤ R.cells ∧ slots ≤ R.slots) (kk : ∀ o : Option Nat, o = v → W p l e R s m args below meth c H locs cells slots Q (F0 m (pc + 3) ls (va_rf (oB B off o) :: rest))) : W p l e R s m args below meth c H locs cells slots Q (F0 m pc ls st0) :=
  va_csq (W.runV S hM cw ⟨jR_blind, hv, fun U hU hW => ⟨rfl, by rw [hU]; exact hP, va_K.moved hW.alike hK⟩⟩ rfl hn hsz hst (lv_room hroom) hdg hf) (fun r hr => by subst hr; exact kk v rfl)
end JO
theorem jgSo {c0 : Cond} {own : String} {idx : Nat} {y : MethodName} {b : ByteArray} {n : Nat} {r : Option FieldType} (h1 : Cond.methodLink own idx y ∈ wsL_law) (h2 : Cond.static y ∈ wsL_law) (h4 : Cond.initialized y.cls ∈ wsL_law) (h5 : Cond.code y b n r ∈ wsL_law) : GoodIn (c0 :: wsL_law) (va_wsS own idx y (Cond.code y b n r :: wsL_law)) := by
  intro w hw
  unfold va_wsS at hw
  simp only [List.cons_append, List.nil_append, List.mem_cons] at hw
  rcases hw with rfl | rfl | rfl | rfl | hw
  · exact gw_in h1
  · exact gw_in h2
  · exact gw_in h4
  · exact gw_in h5
  · exact gw_in hw
theorem op_some {n i k : Nat} (h : op n i = some k) : k = i ∧ k < n := by
  unfold op at h; split at h
  · cases h; exact ⟨rfl, by assumption⟩
  · cases h
theorem cat_o (r : Option Nat) : (va_rf r).category = 1 := by cases r <;> rfl
theorem cn_lt {F : jF} {k i : Nat} (h : i < cn F k) : i < 2 ^ 31 := by
  have h1 : (F k 0).toNatClampNeg < 2 ^ 31 := by
    have := Int32.toInt_lt (F k 0)
    rw [Int32.toNatClampNeg]
    omega
  unfold cn at h
  omega
theorem lW_raised (yy : Nat → ClassId) (B : Nat → Nat) (F : jF) (G : jG) {k : Nat} (hk : k < 2 ^ 31) {j : Nat} : (lW yy B F G).set 13 (B 13, .inl (yy 5, 6, .inr (.inr (.inr (.inr (va_up (fun i => oB B 400 (opi (F 65 i))) j (some (B (400 + k))))))))) = lW yy B (u2 F 65 j (nI k)) G := by
  have hf : va_up (fun i => oB B 400 (opi (F 65 i))) j (some (B (400 + k))) = fun i => oB B 400 (opi (u2 F 65 j (nI k) 65 i)) := by
    funext i
    rw [u2_same]
    by_cases h : i = j
    · subst h
      rw [va_up_self, if_pos rfl]
      unfold opi
      rw [if_neg (nI_pos hk), nI_clamp hk]
      rfl
    · rw [va_up_ne _ _ h, if_neg h]
  rw [hf]
  rfl
theorem lW_raisedN (yy : Nat → ClassId) (B : Nat → Nat) (F : jF) (G : jG) {j : Nat} : (lW yy B F G).set 13 (B 13, .inl (yy 5, 6, .inr (.inr (.inr (.inr (va_up (fun i => oB B 400 (opi (F 65 i))) j none)))))) = lW yy B (u2 F 65 j (-1)) G := by
  have hf : va_up (fun i => oB B 400 (opi (F 65 i))) j none = fun i => oB B 400 (opi (u2 F 65 j (-1) 65 i)) := by
    funext i
    rw [u2_same]
    by_cases h : i = j
    · subst h
      rw [va_up_self, if_pos rfl]
      unfold opi
      rw [if_pos (by decide)]
      rfl
    · rw [va_up_ne _ _ h, if_neg h]
  rw [hf]
  rfl
-- a body of a JDK's method that no native row takes
theorem jMF {l : Launch} {y : MethodName} {ws' : List Cond} {rm : Room} {vs : List Value} {Bp : State → Prop} {Qc : Array Value → State → Outcome → State → Prop} {mc ms : Nat} {free : Addr → Prop} {cc : ByteArray} {maxL : Nat} {ret : Option FieldType} {own : String} (hy : plainFor y = true) (hown : y.cls = own) (hlen : (lg_sl vs).length ≤ maxL)
    (body : ∀ (p : Program) (e : Env) (s : State) (m : MethodId) (args : Array Value) (below : List Frame) (meth : Method) (c : Code) (ls : Array Slot) (Q : State → Prop), Q = MQ below Qc args s mc ms free → args = vs.toArray → CallFix p m c cc maxL s args (Cond.code y cc maxL ret :: ws') own → meth.sig.returnType = ret → meth.locks = false → (y.name = "<init>" → meth.name = "<init>") → Bp s → lv_has ls maxL (lv_args 0 vs) → W p l e rm s m args below meth c s.heap [] 0 0 Q (F0 m 0 ls [])) : Met l y (Cond.code y cc maxL ret :: ws') rm (va_Pc vs Bp) Qc mc ms free := by
  refine MetFree.of_bodySF (code := cc) (maxLocals := maxL) (ret := ret) hy ?_ ?_
  · intro args s m h hn
    obtain ⟨meth, c, h1, h2, h3, h4, h5, h6, -, -⟩ := Cond.code_spec hn (atoms_spec (ws := Cond.code y cc maxL ret :: ws') h _ List.mem_cons_self)
    exact ⟨meth, c, h1, h2, h3, h4, h5, h6⟩
  · intro p e s m args below meth c s₁ B hml hP _
    obtain ⟨rfl, hB⟩ := hP
    have hh0 : s₁.heap = s.heap := by rw [B.state]; rfl
    have hts := atoms_spec (ws := Cond.code y cc maxL ret :: ws') B.pre
    have hl := lv_entry vs (n := maxL) hlen
    have hnm : y.name = "<init>" → meth.name = "<init>" := fun h => (name_of_methodNamed B.named B.method).1.trans h
    have hgo := body p e s m _ below meth c _ _ rfl rfl ⟨B.exec, B.bytes, hml, hown ▸ findClass_of_methodNamed B.named, hts⟩ B.returns B.notSynchronized hnm hB hl
    rw [← lg_entry_eq] at hgo
    obtain ⟨t, a1, o, b1, b2, b3⟩ := hgo s₁ hh0 (Stand.of_body B)
    exact ⟨t, o, a1, b1, b2, ⟨b3.1, b3.2⟩⟩
