-- worlds that grow
def adl (l : List Nat) (k : Nat) : Nat := l.getD k 0
def asl : List (Nat × Nat) → Nat → Nat
  | [], _ => 0
  | (a, q) :: r, k => if k = a then q else asl r k
def jAO (U : State) : Prop := (va_AO RX0 U ∧ va_AO RX2 U ∧ va_AO RX3 U ∧ va_AO RX4 U ∧ va_AO RX7 U ∧ va_AO RX9 U) ∧ (va_Nw (.methodLinkNest RX10 19 yX6_init RX11) U ∧ va_Nw (.methodLinkNest RX5 11 yX10_init RX11) U ∧ va_Nw (.methodLinkNest RX5 20 yX1_init RX11) U ∧ va_Nw (.methodLinkNest RX5 51 yX8_init RX11) U ∧ va_Nw (.methodLinkNest RX5 56 yX2_init RX11) U)
theorem jAO.warm {u U : State} (hW : u.WarmedH U.vm) (h : jAO u) : jAO U := ⟨⟨va_AO.moved hW.alike h.1.1, va_AO.moved hW.alike h.1.2.1, va_AO.moved hW.alike h.1.2.2.1, va_AO.moved hW.alike h.1.2.2.2.1, va_AO.moved hW.alike h.1.2.2.2.2.1, va_AO.moved hW.alike h.1.2.2.2.2.2⟩, ⟨va_Nw.warmM hW h.2.1, va_Nw.warmM hW h.2.2.1, va_Nw.warmM hW h.2.2.2.1, va_Nw.warmM hW h.2.2.2.2.1, va_Nw.warmM hW h.2.2.2.2.2⟩⟩
theorem jAO.same {u U : State} (hvm : u.vm = U.vm) (h : jAO u) : jAO U := ⟨⟨va_AO.moved (hvm ▸ Vm.Alike.refl u.vm) h.1.1, va_AO.moved (hvm ▸ Vm.Alike.refl u.vm) h.1.2.1, va_AO.moved (hvm ▸ Vm.Alike.refl u.vm) h.1.2.2.1, va_AO.moved (hvm ▸ Vm.Alike.refl u.vm) h.1.2.2.2.1, va_AO.moved (hvm ▸ Vm.Alike.refl u.vm) h.1.2.2.2.2.1, va_AO.moved (hvm ▸ Vm.Alike.refl u.vm) h.1.2.2.2.2.2⟩, ⟨va_Nw.same rfl hvm h.2.1, va_Nw.same rfl hvm h.2.2.1, va_Nw.same rfl hvm h.2.2.2.1, va_Nw.same rfl hvm h.2.2.2.2.1, va_Nw.same rfl hvm h.2.2.2.2.2⟩⟩
def jI (D : va_G) (yy : Nat → ClassId) (w : va_W) (sz : Nat) : State → Prop := fun U => jP D yy w sz U ∧ jAO U
theorem jI_blind {vs : List Value} {D : va_G} {yy : Nat → ClassId} {w : va_W} {sz : Nat} : FrameBlind (va_Pc vs (jI D yy w sz)) := fun a U g mk q => ⟨q.1, ⟨q.2.1.1, q.2.1.2.1, va_K.moved (u := U) (U := U.calling g mk a) (Vm.Alike.refl U.vm) q.2.1.2.2.1, q.2.1.2.2.2⟩, jAO.same (u := U) (U := U.calling g mk a) rfl q.2.2⟩
theorem jT_i {D : va_G} {yy : Nat → ClassId} {cA : ClassId} {s : State} (h : va_K D vwCl (jT yy ++ [(cA, .int)]) s) : cA = yy 0 := Option.some.inj ((h.2 9 (cA, .int) rfl).2.symm.trans (h.2 0 (yy 0, .int) rfl).2)
theorem jT_l {D : va_G} {yy : Nat → ClassId} {cA : ClassId} {s : State} (h : va_K D vwCl (jT yy ++ [(cA, .long)]) s) : cA = yy 1 := Option.some.inj ((h.2 9 (cA, .long) rfl).2.symm.trans (h.2 1 (yy 1, .long) rfl).2)
theorem jT_z {D : va_G} {yy : Nat → ClassId} {cA : ClassId} {s : State} (h : va_K D vwCl (jT yy ++ [(cA, .boolean)]) s) : cA = yy 2 := Option.some.inj ((h.2 9 (cA, .boolean) rfl).2.symm.trans (h.2 2 (yy 2, .boolean) rfl).2)
theorem jT_q {D : va_G} {yy : Nat → ClassId} {cA : ClassId} {s : State} {C : String} (k : Nat) (hk : (jT yy ++ [(cA, .object C)])[k]? = some (yy k, .object C)) (h : va_K D vwCl (jT yy ++ [(cA, .object C)]) s) : cA = yy k := by
  obtain ⟨_, _, _, _, _, h1⟩ := (h.2 9 (cA, .object C) rfl).2
  obtain ⟨_, _, _, _, _, h2⟩ := (h.2 k (yy k, .object C) hk).2
  exact Option.some.inj (h1.symm.trans h2)
/-- behind a call that had the part C of the world X, C, Y -/
theorem ja_mid {A0 : Nat → Prop} {D : va_G} {cl : List vw_C} {X C Y C' : va_W} {H H1 : Heap} (hP : va_P D cl (X ++ (C ++ Y)) H) (hD : va_D A0 (X ++ (C ++ Y))) (hk : ∀ q : Nat, q < H.size → ¬ va_A C H.size q → H1[q]? = H[q]?) (hF : ∀ q, va_A C H.size q → A0 q) (hP1 : va_P D cl C' H1) (hD1 : va_D (va_A C H.size) C') : va_P D cl (X ++ (C' ++ Y)) H1 ∧ va_D A0 (X ++ (C' ++ Y)) := by
  have inX : ∀ (k : Nat) (q : Nat × va_E), X[k]? = some q → (X ++ (C ++ Y))[k]? = some q := fun k q h => ap_getl h
  have inC : ∀ (k : Nat) (q : Nat × va_E), C[k]? = some q → (X ++ (C ++ Y))[X.length + k]? = some q := fun k q h => ap_get (ap_getl h)
  have inY : ∀ (k : Nat) (q : Nat × va_E), Y[k]? = some q → (X ++ (C ++ Y))[X.length + (C.length + k)]? = some q := fun k q h => ap_get (ap_get h)
  have apart : ∀ (i : Nat) (q : Nat × va_E), (X ++ (C ++ Y))[i]? = some q → (i < X.length ∨ X.length + C.length ≤ i) → q.1 < H.size ∧ ¬ va_A C H.size q.1 := by
    intro i q hq hi
    have hl := (hP i q hq).lt
    refine ⟨hl, fun h => ?_⟩
    rcases h with ⟨k, e, h⟩ | h
    · have h3 := hD.1 i (X.length + k) q (q.1, e) hq (inC k _ h) rfl
      have h4 := (List.getElem?_eq_some_iff.mp h).1
      omega
    · omega
  have PX : va_P D cl X H1 := fun k q h => (hP k q (inX k q h)).kept (hk q.1 (apart k q (inX k q h) (Or.inl (List.getElem?_eq_some_iff.mp h).1)).1 (apart k q (inX k q h) (Or.inl (List.getElem?_eq_some_iff.mp h).1)).2)
  have PY : va_P D cl Y H1 := fun k q h => (hP _ q (inY k q h)).kept (hk q.1 (apart _ q (inY k q h) (Or.inr (by omega))).1 (apart _ q (inY k q h) (Or.inr (by omega))).2)
  have DX : va_D A0 X := ⟨fun i j p q hi hj e => hD.1 i j p q (inX i p hi) (inX j q hj) e, fun k q h => hD.2 k q (inX k q h)⟩
  have DY : va_D A0 Y := ⟨fun i j p q hi hj e => by have := hD.1 _ _ p q (inY i p hi) (inY j q hj) e; omega, fun k q h => hD.2 _ q (inY k q h)⟩
  have DC : va_D A0 C' := hD1.weaken (fun k q _ h => hF q.1 h)
  refine ⟨va_P.app PX (va_P.app hP1 PY), va_D.app DX (va_D.app DC DY (fun i j p q hi hj e => ?_)) (fun i j p q hi hj e => ?_)⟩
  · exact (apart _ q (inY j q hj) (Or.inr (by omega))).2 (by rw [← e]; exact hD1.2 i p hi)
  · have hxp := apart i p (inX i p hi) (Or.inl (List.getElem?_eq_some_iff.mp hi).1)
    by_cases hl : j < C'.length
    · rw [List.getElem?_append_left hl] at hj
      exact hxp.2 (by rw [e]; exact hD1.2 j q hj)
    · rw [List.getElem?_append_right (by omega)] at hj
      have h3 := hD.1 i _ p q (inX i p hi) (inY _ q hj) e
      have h4 := (List.getElem?_eq_some_iff.mp hi).1
      omega
section JX
variable {p : Program} {l : Launch} {e : Env} {R : Room} {s : State} {m : MethodId} {args : Array Value} {below : List Frame} {meth : Method} {c : Code} {H : Heap} {locs : List Loc} {cells slots : Nat} {Q : State → Prop} {pc : Nat} {ls : Array Slot} {rest st0 : List Value} {cc : ByteArray} {nL : Nat} {Ts : List Cond} {own C : String} {index : Nat} {y : MethodName} {bytes : ByteArray} {maxL : Nat} {ret : Option FieldType} {ws : List Cond} {rm : Room} {n : Nat} {As : List Value} {b : Addr} {D : va_G} {yy : Nat → ClassId} {w : va_W} {Bp : State → Prop} {A0 : Nat → Prop} {H0 : Heap} {S0 : Type} {w1 : S0 → va_W} {X Cw Y : va_W} {mc ms : Nat}
theorem jx_free (hD : va_D A0 (X ++ (Cw ++ Y))) (hS : va_S A0 H0 H locs) (hA : ∀ q, H0.size ≤ q → A0 q) : ∀ q, va_A Cw H.size q → A0 q := by
  intro q h
  rcases h with ⟨k, e, h⟩ | h
  · exact hD.2 (X.length + k) (q, e) (ap_get (ap_getl h))
  · exact hA q (Nat.le_trans hS.1 h)
theorem jx_v {post : S0 → Prop} (S : CallFix p m c cc nL s args Ts own) (hM : Met l y ws rm (va_Pc (Value.ref b :: As) (jI D yy Cw H.size)) (va_Qv post (fun u t => jB D yy (va_A Cw H.size) (w1 u) t) (va_A Cw H.size)) mc ms (va_A Cw H.size)) (cw : CallB R s args own index y bytes maxL none ws rm mc ms n ∧ y.name = "<init>" ∧ (Cond.instanceMethod y).before args s = true) (hP : va_P D vwCl (X ++ Cw) H) (hK : va_K D vwCl (jT yy) s) (hO : jAO s) (hD : va_D A0 (X ++ Cw)) (hS : va_S A0 H0 H locs) (hA : ∀ q, H0.size ≤ q → A0 q) (hn : As.length = n) (hsz : ls.size = nL) (hst : st0 = As.reverse ++ .ref b :: rest) (hroom : (rest.map fun v => v.category).sum ≤ 8) (hdg : decode cc pc = .ok (.invokespecial index, 3)) (hf : cells + mc ≤ R.cells ∧ slots + ms ≤ R.slots)
    (kk : ∀ (u : S0) (H1 : Heap) (locs1 : List Loc), post u → va_P D vwCl (X ++ w1 u) H1 → va_D A0 (X ++ w1 u) → va_S A0 H0 H1 locs1 → W p l e R s m args below meth c H1 locs1 (cells + mc) (slots + ms) Q (F0 m (pc + 3) ls rest)) : W p l e R s m args below meth c H locs cells slots Q (F0 m pc ls st0) := by
  have e1 : X ++ Cw = X ++ (Cw ++ []) := by rw [List.append_nil]
  have hP' : va_P D vwCl (X ++ (Cw ++ [])) H := e1 ▸ hP
  have hD' : va_D A0 (X ++ (Cw ++ [])) := e1 ▸ hD
  have hPC : va_P D vwCl Cw H := fun k q h => hP (X.length + k) q (ap_get h)
  have hDC : va_D (fun _ => True) Cw := ⟨fun i j x z hi hj e => by have := hD.1 (X.length + i) (X.length + j) x z (ap_get hi) (ap_get hj) e; omega, fun _ _ _ => trivial⟩
  have hF := jx_free hD' hS hA
  refine va_callv (va_runI S hM cw ⟨jI_blind, fun U hU hW => ⟨rfl, ⟨by rw [hU], by rw [hU]; exact hPC, va_K.moved hW.alike hK, hDC⟩, jAO.warm hW hO⟩⟩ rfl hn hsz hst (lv_room hroom) hdg hf) hS (fun q _ h => hF q h) hF (fun u t H1 locs1 ht hvm hpu hB _ hk hS1 => ?_)
  have hj := ja_mid hP' hD' hk hF (ht ▸ hB.1) hB.2.2
  rw [List.append_nil] at hj
  exact kk u H1 locs1 hpu hj.1 hj.2 hS1
theorem jx_n {host : String} {post : S0 → Prop} (S : CallFix p m c cc nL s args Ts own) (hM : Met l y ws rm (va_Pc (Value.ref b :: As) (jI D yy Cw H.size)) (va_Qv post (fun u t => jB D yy (va_A Cw H.size) (w1 u) t) (va_A Cw H.size)) mc ms (va_A Cw H.size)) (cw : va_CN R s args own index y host bytes maxL none ws rm mc ms n ∧ y.name = "<init>" ∧ (Cond.instanceMethod y).before args s = true) (hP : va_P D vwCl (X ++ Cw) H) (hK : va_K D vwCl (jT yy) s) (hO : jAO s) (hD : va_D A0 (X ++ Cw)) (hS : va_S A0 H0 H locs) (hA : ∀ q, H0.size ≤ q → A0 q) (hn : As.length = n) (hsz : ls.size = nL) (hst : st0 = As.reverse ++ .ref b :: rest) (hroom : (rest.map fun v => v.category).sum ≤ 8) (hdg : decode cc pc = .ok (.invokespecial index, 3)) (hf : cells + mc ≤ R.cells ∧ slots + ms ≤ R.slots)
    (kk : ∀ (u : S0) (H1 : Heap) (locs1 : List Loc), post u → va_P D vwCl (X ++ w1 u) H1 → va_D A0 (X ++ w1 u) → va_S A0 H0 H1 locs1 → W p l e R s m args below meth c H1 locs1 (cells + mc) (slots + ms) Q (F0 m (pc + 3) ls rest)) : W p l e R s m args below meth c H locs cells slots Q (F0 m pc ls st0) := by
  have e1 : X ++ Cw = X ++ (Cw ++ []) := by rw [List.append_nil]
  have hP' : va_P D vwCl (X ++ (Cw ++ [])) H := e1 ▸ hP
  have hD' : va_D A0 (X ++ (Cw ++ [])) := e1 ▸ hD
  have hPC : va_P D vwCl Cw H := fun k q h => hP (X.length + k) q (ap_get h)
  have hDC : va_D (fun _ => True) Cw := ⟨fun i j x z hi hj e => by have := hD.1 (X.length + i) (X.length + j) x z (ap_get hi) (ap_get hj) e; omega, fun _ _ _ => trivial⟩
  have hF := jx_free hD' hS hA
  refine va_callv (va_runIN S hM cw ⟨jI_blind, fun U hU hW => ⟨rfl, ⟨by rw [hU], by rw [hU]; exact hPC, va_K.moved hW.alike hK, hDC⟩, jAO.warm hW hO⟩⟩ rfl hn hsz hst (lv_room hroom) hdg hf) hS (fun q _ h => hF q h) hF (fun u t H1 locs1 ht hvm hpu hB _ hk hS1 => ?_)
  have hj := ja_mid hP' hD' hk hF (ht ▸ hB.1) hB.2.2
  rw [List.append_nil] at hj
  exact kk u H1 locs1 hpu hj.1 hj.2 hS1
theorem jx_p {post : S0 → Prop} (S : CallFix p m c cc nL s args Ts own) (hM : Met l y ws rm (va_Pc (Value.ref b :: As) (jP D yy Cw H.size)) (va_Qv post (fun u t => jB D yy (va_A Cw H.size) (w1 u) t) (va_A Cw H.size)) mc ms (va_A Cw H.size)) (cw : CallB R s args own index y bytes maxL none ws rm mc ms n ∧ y.name = "<init>" ∧ (Cond.instanceMethod y).before args s = true) (hP : va_P D vwCl (X ++ Cw) H) (hK : va_K D vwCl (jT yy) s) (hD : va_D A0 (X ++ Cw)) (hS : va_S A0 H0 H locs) (hA : ∀ q, H0.size ≤ q → A0 q) (hn : As.length = n) (hsz : ls.size = nL) (hst : st0 = As.reverse ++ .ref b :: rest) (hroom : (rest.map fun v => v.category).sum ≤ 8) (hdg : decode cc pc = .ok (.invokespecial index, 3)) (hf : cells + mc ≤ R.cells ∧ slots + ms ≤ R.slots)
    (kk : ∀ (u : S0) (H1 : Heap) (locs1 : List Loc), post u → va_P D vwCl (X ++ w1 u) H1 → va_D A0 (X ++ w1 u) → va_S A0 H0 H1 locs1 → W p l e R s m args below meth c H1 locs1 (cells + mc) (slots + ms) Q (F0 m (pc + 3) ls rest)) : W p l e R s m args below meth c H locs cells slots Q (F0 m pc ls st0) := by
  have e1 : X ++ Cw = X ++ (Cw ++ []) := by rw [List.append_nil]
  have hP' : va_P D vwCl (X ++ (Cw ++ [])) H := e1 ▸ hP
  have hD' : va_D A0 (X ++ (Cw ++ [])) := e1 ▸ hD
  have hPC : va_P D vwCl Cw H := fun k q h => hP (X.length + k) q (ap_get h)
  have hDC : va_D (fun _ => True) Cw := ⟨fun i j x z hi hj e => by have := hD.1 (X.length + i) (X.length + j) x z (ap_get hi) (ap_get hj) e; omega, fun _ _ _ => trivial⟩
  have hF := jx_free hD' hS hA
  refine va_callv (va_runI S hM cw ⟨jP_blind, fun U hU hW => ⟨rfl, by rw [hU], by rw [hU]; exact hPC, va_K.moved hW.alike hK, hDC⟩⟩ rfl hn hsz hst (lv_room hroom) hdg hf) hS (fun q _ h => hF q h) hF (fun u t H1 locs1 ht hvm hpu hB _ hk hS1 => ?_)
  have hj := ja_mid hP' hD' hk hF (ht ▸ hB.1) hB.2.2
  rw [List.append_nil] at hj
  exact kk u H1 locs1 hpu hj.1 hj.2 hS1
theorem jm2_i {post : Int32 → S0 → Prop} (S : CallFix p m c cc nL s args Ts own) (hM : Met l y ws rm (va_Pc (Value.ref b :: As) (jP D yy w H.size)) (va_Qi post (fun u t => jB D yy (va_A w H.size) (w1 u) t) (va_A w H.size)) mc ms (va_A w H.size)) (cw : CallW R s args own C index y bytes maxL ret ws rm mc ms n) (hP : va_P D vwCl w H) (hK : va_K D vwCl (jT yy) s) (hD : va_D A0 w) (hS : va_S A0 H0 H locs) (hA : ∀ q, H0.size ≤ q → A0 q) (hv : ∃ cell : Cell, H[b]? = some cell ∧ cell.vm.isStatics = false ∧ s.vm.findClass C = some cell.cls) (hn : As.length = n) (hsz : ls.size = nL) (hst : st0 = As.reverse ++ .ref b :: rest) (hroom : (rest.map fun v => v.category).sum ≤ 8) (hdg : decode cc pc = .ok (.invokevirtual index, 3)) (hf : cells + mc ≤ R.cells ∧ slots + ms ≤ R.slots)
    (kk : ∀ (x : Int32) (u : S0) (H1 : Heap) (locs1 : List Loc), post x u → va_P D vwCl (w1 u) H1 → va_D A0 (w1 u) → va_S A0 H0 H1 locs1 → W p l e R s m args below meth c H1 locs1 (cells + mc) (slots + ms) Q (F0 m (pc + 3) ls (.int x :: rest))) : W p l e R s m args below meth c H locs cells slots Q (F0 m pc ls st0) :=
  va_calli (va_runV S hM cw ⟨jP_blind, hv, fun U hU hW => ⟨rfl, by rw [hU], by rw [hU]; exact hP, va_K.moved hW.alike hK, hD.weaken (fun _ _ _ _ => trivial)⟩⟩ rfl hn hsz hst (lv_room hroom) hdg hf) hS (fun q _ h => jm_free hD hS hA q h) (jm_free hD hS hA) (fun r u t H1 locs1 ht hvm hp hB _ _ hS1 => kk r u H1 locs1 hp (ht ▸ hB.1) (hB.2.2.weaken (fun _ q _ h => jm_free hD hS hA q.1 h)) hS1)
theorem jm2_l {post : Int64 → S0 → Prop} (S : CallFix p m c cc nL s args Ts own) (hM : Met l y ws rm (va_Pc (Value.ref b :: As) (jP D yy w H.size)) (va_Ql post (fun u t => jB D yy (va_A w H.size) (w1 u) t) (va_A w H.size)) mc ms (va_A w H.size)) (cw : CallW R s args own C index y bytes maxL ret ws rm mc ms n) (hP : va_P D vwCl w H) (hK : va_K D vwCl (jT yy) s) (hD : va_D A0 w) (hS : va_S A0 H0 H locs) (hA : ∀ q, H0.size ≤ q → A0 q) (hv : ∃ cell : Cell, H[b]? = some cell ∧ cell.vm.isStatics = false ∧ s.vm.findClass C = some cell.cls) (hn : As.length = n) (hsz : ls.size = nL) (hst : st0 = As.reverse ++ .ref b :: rest) (hroom : (rest.map fun v => v.category).sum ≤ 8) (hdg : decode cc pc = .ok (.invokevirtual index, 3)) (hf : cells + mc ≤ R.cells ∧ slots + ms ≤ R.slots)
    (kk : ∀ (x : Int64) (u : S0) (H1 : Heap) (locs1 : List Loc), post x u → va_P D vwCl (w1 u) H1 → va_D A0 (w1 u) → va_S A0 H0 H1 locs1 → W p l e R s m args below meth c H1 locs1 (cells + mc) (slots + ms) Q (F0 m (pc + 3) ls (.long x :: rest))) : W p l e R s m args below meth c H locs cells slots Q (F0 m pc ls st0) :=
  va_calll (va_runV S hM cw ⟨jP_blind, hv, fun U hU hW => ⟨rfl, by rw [hU], by rw [hU]; exact hP, va_K.moved hW.alike hK, hD.weaken (fun _ _ _ _ => trivial)⟩⟩ rfl hn hsz hst (lv_room hroom) hdg hf) hS (fun q _ h => jm_free hD hS hA q h) (jm_free hD hS hA) (fun r u t H1 locs1 ht hvm hp hB _ _ hS1 => kk r u H1 locs1 hp (ht ▸ hB.1) (hB.2.2.weaken (fun _ q _ h => jm_free hD hS hA q.1 h)) hS1)
end JX

theorem jgI {c0 : Cond} {y : MethodName} {b : ByteArray} {n : Nat} {r : Option FieldType} (h5 : Cond.code y b n r ∈ wsL_law) : GoodIn (c0 :: wsL_law) (Cond.code y b n r :: wsL_law) := by
  intro w hw
  simp only [List.mem_cons] at hw
  rcases hw with rfl | hw
  · exact gw_in h5
  · exact gw_in hw
abbrev rmX2_init : Room := { frames := 1, cells := 0, slots := 0, locals := 12 }
set_option maxHeartbeats 4000000 in
set_option maxRecDepth 100000 in
theorem qX2_init (l : Launch) (D : va_G) (yy : Nat → ClassId) (h0 sz : Nat)  : Met l yX2_init (Cond.code yX2_init cX2_init 1 none :: wsL_law) rmX2_init (va_Pc [.ref h0] (jI D yy [(h0, .inr (2, [.int 0, .int 0, .int 0]))] sz)) (va_Qv (fun _ : Nat → Nat => True) (fun u t => jB D yy (va_A [(h0, .inr (2, [.int 0, .int 0, .int 0]))] sz) [(h0, .inr (2, [.int 0, .int 10, .int (-1)]))] t) (va_A [(h0, .inr (2, [.int 0, .int 0, .int 0]))] sz)) 0 0 (va_A [(h0, .inr (2, [.int 0, .int 0, .int 0]))] sz) := by
  refine jM (vs := [.ref h0]) (own := RX2) (by decide) rfl (Nat.le_of_ble_eq_true rfl) ?_
  intro p e s m args below meth c ls Q hQ hargs S hr hlk hinit hB hl
  obtain ⟨hx, hb, hml, hown, hts⟩ := S
  have hinit9 : meth.name = "<init>" := hinit rfl
  have hl : lv_has ls 1 [(0, .ref h0)] := hl
  obtain ⟨⟨hsz, hP, hK, hD0⟩, hO⟩ := hB
  subst hsz
  have hD := hD0.self (sz := s.heap.size)
  generalize hZ : va_A [(h0, .inr (2, [.int 0, .int 0, .int 0]))] s.heap.size = Z at hD hQ
  have hA : ∀ q : Nat, s.heap.size ≤ q → Z q := fun q h => by rw [← hZ]; exact Or.inr h
  obtain ⟨H, hH⟩ : ∃ z, z = s.heap := ⟨_, rfl⟩
  obtain ⟨locs, hlocs⟩ : ∃ z : List Loc, z = [] := ⟨_, rfl⟩
  have hS : va_S Z s.heap H locs := by rw [hH, hlocs]; exact va_S.rf
  rw [← hH] at hP
  suffices hgo : W p l e rmX2_init s m args below meth c H locs 0 0 Q (F0 m 0 ls []) by rw [hH, hlocs] at hgo; exact hgo
  refine lv_aload_n hx hb (dd_of dX2_init_0 0 rfl) rfl (lv_at hl 0 rfl) ?_
  refine W.objInit hx hb hown (jw hts gw116) (jw hts gw11) (jw hts gw12) rfl (by rw [hml]; exact hl.1) rfl (dd_of dX2_init_0 1 rfl) (Nat.le_of_ble_eq_true rfl) (Nat.le_of_ble_eq_true rfl) ?_
  refine W.eq (g2 := F0 m 4 ls []) rfl ?_
  refine lv_aload_n hx hb (dd_of dX2_init_0 2 rfl) rfl (lv_at hl 0 rfl) ?_
  refine lv_bipush (v := 10) hx hb (dd_of dX2_init_0 3 rfl) (by decide) ?_
  refine va_put (D := D) (cl := vwCl) (tys := jT yy) (ci := 2) (v := .int 10) (ty := .int) (C := RX2) (T := TX2) (N := 3) hx hb hts (fun w h => List.mem_cons_of_mem _ (inlX2 w h)) tyX2 tyX2_ok nmX2 hown hK hP hD hS 0 rfl rfl 1 (by decide) (jw hts gw117) (fun _ h9 => h9) rfl (by decide +kernel) rfl rfl (Nat.le_of_ble_eq_true rfl) (dd_of dX2_init_0 4 rfl) (fun H locs hP hD hS => ?_)
  have hP : va_P D vwCl [(h0, .inr (2, [.int 0, .int 10, .int 0]))] H := hP
  have hD : va_D Z [(h0, .inr (2, [.int 0, .int 10, .int 0]))] := hD
  refine lv_aload_n hx hb (dd_of dX2_init_0 5 rfl) rfl (lv_at hl 0 rfl) ?_
  refine lv_iconst (v := (-1)) hx hb (dd_of dX2_init_0 6 rfl) (by decide) ?_
  refine va_put (D := D) (cl := vwCl) (tys := jT yy) (ci := 2) (v := .int (-1)) (ty := .int) (C := RX2) (T := TX2) (N := 3) hx hb hts (fun w h => List.mem_cons_of_mem _ (inlX2 w h)) tyX2 tyX2_ok nmX2 hown hK hP hD hS 0 rfl rfl 2 (by decide) (jw hts gw118) (fun _ h9 => h9) rfl (by decide +kernel) rfl rfl (Nat.le_of_ble_eq_true rfl) (dd_of dX2_init_0 7 rfl) (fun H locs hP hD hS => ?_)
  have hP : va_P D vwCl [(h0, .inr (2, [.int 0, .int 10, .int (-1)]))] H := hP
  have hD : va_D Z [(h0, .inr (2, [.int 0, .int 10, .int (-1)]))] := hD
  subst hQ
  exact W.vret hx hb hr (fun t ht hW => ⟨⟨adl [], rfl, trivial, by rw [ht]; exact hP, va_K.moved hW.alike hK, hD⟩, hS.F ht⟩) hS.2.2 (dd_of dX2_init_0 8 rfl) hlk
abbrev rmX3_init : Room := { frames := 1, cells := 0, slots := 0, locals := 12 }
set_option maxHeartbeats 4000000 in
set_option maxRecDepth 100000 in
theorem qX3_init (l : Launch) (D : va_G) (yy : Nat → ClassId) (h0 sz : Nat) (p1 : Int32) (p2 : Int32) (p3 : Int32) (p4 : Int32) (p5 : Int32) : Met l yX3_init (Cond.code yX3_init cX3_init 6 none :: wsL_law) rmX3_init (va_Pc [.ref h0, .int p1, .int p2, .int p3, .int p4, .int p5] (jP D yy [(h0, .inr (3, [.int 0, .int 0, .int 0, .int 0, .int 0, .long 0, .int 0]))] sz)) (va_Qv (fun _ : Nat → Nat => True) (fun u t => jB D yy (va_A [(h0, .inr (3, [.int 0, .int 0, .int 0, .int 0, .int 0, .long 0, .int 0]))] sz) [(h0, .inr (3, [.int p1, .int p2, .int p3, .int p4, .int p5, .long 0, .int 0]))] t) (va_A [(h0, .inr (3, [.int 0, .int 0, .int 0, .int 0, .int 0, .long 0, .int 0]))] sz)) 0 0 (va_A [(h0, .inr (3, [.int 0, .int 0, .int 0, .int 0, .int 0, .long 0, .int 0]))] sz) := by
  refine jM (vs := [.ref h0, .int p1, .int p2, .int p3, .int p4, .int p5]) (own := RX3) (by decide) rfl (Nat.le_of_ble_eq_true rfl) ?_
  intro p e s m args below meth c ls Q hQ hargs S hr hlk hinit hB hl
  obtain ⟨hx, hb, hml, hown, hts⟩ := S
  have hinit9 : meth.name = "<init>" := hinit rfl
  have hl : lv_has ls 6 [(0, .ref h0), (1, .int p1), (2, .int p2), (3, .int p3), (4, .int p4), (5, .int p5)] := hl
  obtain ⟨hsz, hP, hK, hD0⟩ := hB
  subst hsz
  have hD := hD0.self (sz := s.heap.size)
  generalize hZ : va_A [(h0, .inr (3, [.int 0, .int 0, .int 0, .int 0, .int 0, .long 0, .int 0]))] s.heap.size = Z at hD hQ
  have hA : ∀ q : Nat, s.heap.size ≤ q → Z q := fun q h => by rw [← hZ]; exact Or.inr h
  obtain ⟨H, hH⟩ : ∃ z, z = s.heap := ⟨_, rfl⟩
  obtain ⟨locs, hlocs⟩ : ∃ z : List Loc, z = [] := ⟨_, rfl⟩
  have hS : va_S Z s.heap H locs := by rw [hH, hlocs]; exact va_S.rf
  rw [← hH] at hP
  suffices hgo : W p l e rmX3_init s m args below meth c H locs 0 0 Q (F0 m 0 ls []) by rw [hH, hlocs] at hgo; exact hgo
  refine lv_aload_n hx hb (dd_of dX3_init_0 0 rfl) rfl (lv_at hl 0 rfl) ?_
  refine W.objInit hx hb hown (jw hts gw291) (jw hts gw11) (jw hts gw12) rfl (by rw [hml]; exact hl.1) rfl (dd_of dX3_init_0 1 rfl) (Nat.le_of_ble_eq_true rfl) (Nat.le_of_ble_eq_true rfl) ?_
  refine W.eq (g2 := F0 m 4 ls []) rfl ?_
  refine lv_aload_n hx hb (dd_of dX3_init_0 2 rfl) rfl (lv_at hl 0 rfl) ?_
  refine lv_iload_n hx hb (dd_of dX3_init_0 3 rfl) rfl (lv_at hl 1 rfl) ?_
  refine va_putF (D := D) (cl := vwCl) (tys := jT yy) (ci := 3) (v := .int p1) (ty := .int) (C := RX3) (T := TX3) (N := 7) hx hb hts (fun w h => List.mem_cons_of_mem _ (inlX3 w h)) tyX3 tyX3_ok nmX3 hown hK hP hD hS 0 rfl rfl 0 (by decide) (jw hts gw292) (fun _ h9 => h9) rfl hinit9 rfl (by decide +kernel) rfl rfl (Nat.le_of_ble_eq_true rfl) (dd_of dX3_init_0 4 rfl) (fun H locs hP hD hS => ?_)
  have hP : va_P D vwCl [(h0, .inr (3, [.int p1, .int 0, .int 0, .int 0, .int 0, .long 0, .int 0]))] H := hP
  have hD : va_D Z [(h0, .inr (3, [.int p1, .int 0, .int 0, .int 0, .int 0, .long 0, .int 0]))] := hD
  refine lv_aload_n hx hb (dd_of dX3_init_0 5 rfl) rfl (lv_at hl 0 rfl) ?_
  refine lv_iload_n hx hb (dd_of dX3_init_0 6 rfl) rfl (lv_at hl 2 rfl) ?_
  refine va_putF (D := D) (cl := vwCl) (tys := jT yy) (ci := 3) (v := .int p2) (ty := .int) (C := RX3) (T := TX3) (N := 7) hx hb hts (fun w h => List.mem_cons_of_mem _ (inlX3 w h)) tyX3 tyX3_ok nmX3 hown hK hP hD hS 0 rfl rfl 1 (by decide) (jw hts gw293) (fun _ h9 => h9) rfl hinit9 rfl (by decide +kernel) rfl rfl (Nat.le_of_ble_eq_true rfl) (dd_of dX3_init_0 7 rfl) (fun H locs hP hD hS => ?_)
  have hP : va_P D vwCl [(h0, .inr (3, [.int p1, .int p2, .int 0, .int 0, .int 0, .long 0, .int 0]))] H := hP
  have hD : va_D Z [(h0, .inr (3, [.int p1, .int p2, .int 0, .int 0, .int 0, .long 0, .int 0]))] := hD
  refine lv_aload_n hx hb (dd_of dX3_init_0 8 rfl) rfl (lv_at hl 0 rfl) ?_
  refine lv_iload_n hx hb (dd_of dX3_init_0 9 rfl) rfl (lv_at hl 3 rfl) ?_
  refine va_put (D := D) (cl := vwCl) (tys := jT yy) (ci := 3) (v := .int p3) (ty := .int) (C := RX3) (T := TX3) (N := 7) hx hb hts (fun w h => List.mem_cons_of_mem _ (inlX3 w h)) tyX3 tyX3_ok nmX3 hown hK hP hD hS 0 rfl rfl 2 (by decide) (jw hts gw294) (fun _ h9 => h9) rfl (by decide +kernel) rfl rfl (Nat.le_of_ble_eq_true rfl) (dd_of dX3_init_0 10 rfl) (fun H locs hP hD hS => ?_)
  have hP : va_P D vwCl [(h0, .inr (3, [.int p1, .int p2, .int p3, .int 0, .int 0, .long 0, .int 0]))] H := hP
  have hD : va_D Z [(h0, .inr (3, [.int p1, .int p2, .int p3, .int 0, .int 0, .long 0, .int 0]))] := hD
  refine lv_aload_n hx hb (dd_of dX3_init_0 11 rfl) rfl (lv_at hl 0 rfl) ?_
  refine lv_iload hx hb (dd_of dX3_init_0 12 rfl) (lv_at hl 4 rfl) ?_
  refine va_putF (D := D) (cl := vwCl) (tys := jT yy) (ci := 3) (v := .int p4) (ty := .int) (C := RX3) (T := TX3) (N := 7) hx hb hts (fun w h => List.mem_cons_of_mem _ (inlX3 w h)) tyX3 tyX3_ok nmX3 hown hK hP hD hS 0 rfl rfl 3 (by decide) (jw hts gw295) (fun _ h9 => h9) rfl hinit9 rfl (by decide +kernel) rfl rfl (Nat.le_of_ble_eq_true rfl) (dd_of dX3_init_0 13 rfl) (fun H locs hP hD hS => ?_)
  have hP : va_P D vwCl [(h0, .inr (3, [.int p1, .int p2, .int p3, .int p4, .int 0, .long 0, .int 0]))] H := hP
  have hD : va_D Z [(h0, .inr (3, [.int p1, .int p2, .int p3, .int p4, .int 0, .long 0, .int 0]))] := hD
  refine lv_aload_n hx hb (dd_of dX3_init_0 14 rfl) rfl (lv_at hl 0 rfl) ?_
  refine lv_iload hx hb (dd_of dX3_init_0 15 rfl) (lv_at hl 5 rfl) ?_
  refine va_putF (D := D) (cl := vwCl) (tys := jT yy) (ci := 3) (v := .int p5) (ty := .int) (C := RX3) (T := TX3) (N := 7) hx hb hts (fun w h => List.mem_cons_of_mem _ (inlX3 w h)) tyX3 tyX3_ok nmX3 hown hK hP hD hS 0 rfl rfl 4 (by decide) (jw hts gw296) (fun _ h9 => h9) rfl hinit9 rfl (by decide +kernel) rfl rfl (Nat.le_of_ble_eq_true rfl) (dd_of dX3_init_0 16 rfl) (fun H locs hP hD hS => ?_)
  have hP : va_P D vwCl [(h0, .inr (3, [.int p1, .int p2, .int p3, .int p4, .int p5, .long 0, .int 0]))] H := hP
  have hD : va_D Z [(h0, .inr (3, [.int p1, .int p2, .int p3, .int p4, .int p5, .long 0, .int 0]))] := hD
  subst hQ
  exact W.vret hx hb hr (fun t ht hW => ⟨⟨adl [], rfl, trivial, by rw [ht]; exact hP, va_K.moved hW.alike hK, hD⟩, hS.F ht⟩) hS.2.2 (dd_of dX3_init_0 17 rfl) hlk
abbrev rmX4_init : Room := { frames := 1, cells := 0, slots := 0, locals := 12 }
set_option maxHeartbeats 4000000 in
set_option maxRecDepth 100000 in
theorem qX4_init (l : Launch) (D : va_G) (yy : Nat → ClassId) (h0 sz : Nat) (p1 : Int32) (p2 : Int32) (p3 : Int32) (p4 : Int32) : Met l yX4_init (Cond.code yX4_init cX4_init 5 none :: wsL_law) rmX4_init (va_Pc [.ref h0, .int p1, .int p2, .int p3, .int p4] (jP D yy [(h0, .inr (4, [.int 0, .int 0, .int 0, .int 0, .int 0]))] sz)) (va_Qv (fun _ : Nat → Nat => True) (fun u t => jB D yy (va_A [(h0, .inr (4, [.int 0, .int 0, .int 0, .int 0, .int 0]))] sz) [(h0, .inr (4, [.int p1, .int p2, .int p3, .int p4, .int 0]))] t) (va_A [(h0, .inr (4, [.int 0, .int 0, .int 0, .int 0, .int 0]))] sz)) 0 0 (va_A [(h0, .inr (4, [.int 0, .int 0, .int 0, .int 0, .int 0]))] sz) := by
  refine jM (vs := [.ref h0, .int p1, .int p2, .int p3, .int p4]) (own := RX4) (by decide) rfl (Nat.le_of_ble_eq_true rfl) ?_
  intro p e s m args below meth c ls Q hQ hargs S hr hlk hinit hB hl
  obtain ⟨hx, hb, hml, hown, hts⟩ := S
  have hinit9 : meth.name = "<init>" := hinit rfl
  have hl : lv_has ls 5 [(0, .ref h0), (1, .int p1), (2, .int p2), (3, .int p3), (4, .int p4)] := hl
  obtain ⟨hsz, hP, hK, hD0⟩ := hB
  subst hsz
  have hD := hD0.self (sz := s.heap.size)
  generalize hZ : va_A [(h0, .inr (4, [.int 0, .int 0, .int 0, .int 0, .int 0]))] s.heap.size = Z at hD hQ
  have hA : ∀ q : Nat, s.heap.size ≤ q → Z q := fun q h => by rw [← hZ]; exact Or.inr h
  obtain ⟨H, hH⟩ : ∃ z, z = s.heap := ⟨_, rfl⟩
  obtain ⟨locs, hlocs⟩ : ∃ z : List Loc, z = [] := ⟨_, rfl⟩
  have hS : va_S Z s.heap H locs := by rw [hH, hlocs]; exact va_S.rf
  rw [← hH] at hP
  suffices hgo : W p l e rmX4_init s m args below meth c H locs 0 0 Q (F0 m 0 ls []) by rw [hH, hlocs] at hgo; exact hgo
  refine lv_aload_n hx hb (dd_of dX4_init_0 0 rfl) rfl (lv_at hl 0 rfl) ?_
  refine W.objInit hx hb hown (jw hts gw269) (jw hts gw11) (jw hts gw12) rfl (by rw [hml]; exact hl.1) rfl (dd_of dX4_init_0 1 rfl) (Nat.le_of_ble_eq_true rfl) (Nat.le_of_ble_eq_true rfl) ?_
  refine W.eq (g2 := F0 m 4 ls []) rfl ?_
  refine lv_aload_n hx hb (dd_of dX4_init_0 2 rfl) rfl (lv_at hl 0 rfl) ?_
  refine lv_iload_n hx hb (dd_of dX4_init_0 3 rfl) rfl (lv_at hl 1 rfl) ?_
  refine va_putF (D := D) (cl := vwCl) (tys := jT yy) (ci := 4) (v := .int p1) (ty := .int) (C := RX4) (T := TX4) (N := 5) hx hb hts (fun w h => List.mem_cons_of_mem _ (inlX4 w h)) tyX4 tyX4_ok nmX4 hown hK hP hD hS 0 rfl rfl 0 (by decide) (jw hts gw270) (fun _ h9 => h9) rfl hinit9 rfl (by decide +kernel) rfl rfl (Nat.le_of_ble_eq_true rfl) (dd_of dX4_init_0 4 rfl) (fun H locs hP hD hS => ?_)
  have hP : va_P D vwCl [(h0, .inr (4, [.int p1, .int 0, .int 0, .int 0, .int 0]))] H := hP
  have hD : va_D Z [(h0, .inr (4, [.int p1, .int 0, .int 0, .int 0, .int 0]))] := hD
  refine lv_aload_n hx hb (dd_of dX4_init_0 5 rfl) rfl (lv_at hl 0 rfl) ?_
  refine lv_iload_n hx hb (dd_of dX4_init_0 6 rfl) rfl (lv_at hl 2 rfl) ?_
  refine va_putF (D := D) (cl := vwCl) (tys := jT yy) (ci := 4) (v := .int p2) (ty := .int) (C := RX4) (T := TX4) (N := 5) hx hb hts (fun w h => List.mem_cons_of_mem _ (inlX4 w h)) tyX4 tyX4_ok nmX4 hown hK hP hD hS 0 rfl rfl 1 (by decide) (jw hts gw271) (fun _ h9 => h9) rfl hinit9 rfl (by decide +kernel) rfl rfl (Nat.le_of_ble_eq_true rfl) (dd_of dX4_init_0 7 rfl) (fun H locs hP hD hS => ?_)
  have hP : va_P D vwCl [(h0, .inr (4, [.int p1, .int p2, .int 0, .int 0, .int 0]))] H := hP
  have hD : va_D Z [(h0, .inr (4, [.int p1, .int p2, .int 0, .int 0, .int 0]))] := hD
  refine lv_aload_n hx hb (dd_of dX4_init_0 8 rfl) rfl (lv_at hl 0 rfl) ?_
  refine lv_iload_n hx hb (dd_of dX4_init_0 9 rfl) rfl (lv_at hl 3 rfl) ?_
  refine va_putF (D := D) (cl := vwCl) (tys := jT yy) (ci := 4) (v := .int p3) (ty := .int) (C := RX4) (T := TX4) (N := 5) hx hb hts (fun w h => List.mem_cons_of_mem _ (inlX4 w h)) tyX4 tyX4_ok nmX4 hown hK hP hD hS 0 rfl rfl 2 (by decide) (jw hts gw272) (fun _ h9 => h9) rfl hinit9 rfl (by decide +kernel) rfl rfl (Nat.le_of_ble_eq_true rfl) (dd_of dX4_init_0 10 rfl) (fun H locs hP hD hS => ?_)
  have hP : va_P D vwCl [(h0, .inr (4, [.int p1, .int p2, .int p3, .int 0, .int 0]))] H := hP
  have hD : va_D Z [(h0, .inr (4, [.int p1, .int p2, .int p3, .int 0, .int 0]))] := hD
  refine lv_aload_n hx hb (dd_of dX4_init_0 11 rfl) rfl (lv_at hl 0 rfl) ?_
  refine lv_iload hx hb (dd_of dX4_init_0 12 rfl) (lv_at hl 4 rfl) ?_
  refine va_putF (D := D) (cl := vwCl) (tys := jT yy) (ci := 4) (v := .int p4) (ty := .int) (C := RX4) (T := TX4) (N := 5) hx hb hts (fun w h => List.mem_cons_of_mem _ (inlX4 w h)) tyX4 tyX4_ok nmX4 hown hK hP hD hS 0 rfl rfl 3 (by decide) (jw hts gw273) (fun _ h9 => h9) rfl hinit9 rfl (by decide +kernel) rfl rfl (Nat.le_of_ble_eq_true rfl) (dd_of dX4_init_0 13 rfl) (fun H locs hP hD hS => ?_)
  have hP : va_P D vwCl [(h0, .inr (4, [.int p1, .int p2, .int p3, .int p4, .int 0]))] H := hP
  have hD : va_D Z [(h0, .inr (4, [.int p1, .int p2, .int p3, .int p4, .int 0]))] := hD
  subst hQ
  exact W.vret hx hb hr (fun t ht hW => ⟨⟨adl [], rfl, trivial, by rw [ht]; exact hP, va_K.moved hW.alike hK, hD⟩, hS.F ht⟩) hS.2.2 (dd_of dX4_init_0 14 rfl) hlk
abbrev rmX7_init : Room := { frames := 1, cells := 0, slots := 0, locals := 12 }
set_option maxHeartbeats 4000000 in
set_option maxRecDepth 100000 in
theorem qX7_init (l : Launch) (D : va_G) (yy : Nat → ClassId) (h0 sz : Nat) (p1 : Int32) (p2 : Int32) (p3 : Int32) (p4 : Int32) (p5 : Int32) : Met l yX7_init (Cond.code yX7_init cX7_init 6 none :: wsL_law) rmX7_init (va_Pc [.ref h0, .int p1, .int p2, .int p3, .int p4, .int p5] (jP D yy [(h0, .inr (7, [.int 0, .int 0, .int 0, .int 0, .int 0, .int 0, .int 0, .int 0]))] sz)) (va_Qv (fun _ : Nat → Nat => True) (fun u t => jB D yy (va_A [(h0, .inr (7, [.int 0, .int 0, .int 0, .int 0, .int 0, .int 0, .int 0, .int 0]))] sz) [(h0, .inr (7, [.int p1, .int p2, .int p3, .int p4, .int p5, .int 0, .int 0, .int 0]))] t) (va_A [(h0, .inr (7, [.int 0, .int 0, .int 0, .int 0, .int 0, .int 0, .int 0, .int 0]))] sz)) 0 0 (va_A [(h0, .inr (7, [.int 0, .int 0, .int 0, .int 0, .int 0, .int 0, .int 0, .int 0]))] sz) := by
  refine jM (vs := [.ref h0, .int p1, .int p2, .int p3, .int p4, .int p5]) (own := RX7) (by decide) rfl (Nat.le_of_ble_eq_true rfl) ?_
  intro p e s m args below meth c ls Q hQ hargs S hr hlk hinit hB hl
  obtain ⟨hx, hb, hml, hown, hts⟩ := S
  have hinit9 : meth.name = "<init>" := hinit rfl
  have hl : lv_has ls 6 [(0, .ref h0), (1, .int p1), (2, .int p2), (3, .int p3), (4, .int p4), (5, .int p5)] := hl
  obtain ⟨hsz, hP, hK, hD0⟩ := hB
  subst hsz
  have hD := hD0.self (sz := s.heap.size)
  generalize hZ : va_A [(h0, .inr (7, [.int 0, .int 0, .int 0, .int 0, .int 0, .int 0, .int 0, .int 0]))] s.heap.size = Z at hD hQ
  have hA : ∀ q : Nat, s.heap.size ≤ q → Z q := fun q h => by rw [← hZ]; exact Or.inr h
  obtain ⟨H, hH⟩ : ∃ z, z = s.heap := ⟨_, rfl⟩
  obtain ⟨locs, hlocs⟩ : ∃ z : List Loc, z = [] := ⟨_, rfl⟩
  have hS : va_S Z s.heap H locs := by rw [hH, hlocs]; exact va_S.rf
  rw [← hH] at hP
  suffices hgo : W p l e rmX7_init s m args below meth c H locs 0 0 Q (F0 m 0 ls []) by rw [hH, hlocs] at hgo; exact hgo
  refine lv_aload_n hx hb (dd_of dX7_init_0 0 rfl) rfl (lv_at hl 0 rfl) ?_
  refine W.objInit hx hb hown (jw hts gw277) (jw hts gw11) (jw hts gw12) rfl (by rw [hml]; exact hl.1) rfl (dd_of dX7_init_0 1 rfl) (Nat.le_of_ble_eq_true rfl) (Nat.le_of_ble_eq_true rfl) ?_
  refine W.eq (g2 := F0 m 4 ls []) rfl ?_
  refine lv_aload_n hx hb (dd_of dX7_init_0 2 rfl) rfl (lv_at hl 0 rfl) ?_
  refine lv_iload_n hx hb (dd_of dX7_init_0 3 rfl) rfl (lv_at hl 1 rfl) ?_
  refine va_putF (D := D) (cl := vwCl) (tys := jT yy) (ci := 7) (v := .int p1) (ty := .int) (C := RX7) (T := TX7) (N := 8) hx hb hts (fun w h => List.mem_cons_of_mem _ (inlX7 w h)) tyX7 tyX7_ok nmX7 hown hK hP hD hS 0 rfl rfl 0 (by decide) (jw hts gw278) (fun _ h9 => h9) rfl hinit9 rfl (by decide +kernel) rfl rfl (Nat.le_of_ble_eq_true rfl) (dd_of dX7_init_0 4 rfl) (fun H locs hP hD hS => ?_)
  have hP : va_P D vwCl [(h0, .inr (7, [.int p1, .int 0, .int 0, .int 0, .int 0, .int 0, .int 0, .int 0]))] H := hP
  have hD : va_D Z [(h0, .inr (7, [.int p1, .int 0, .int 0, .int 0, .int 0, .int 0, .int 0, .int 0]))] := hD
  refine lv_aload_n hx hb (dd_of dX7_init_0 5 rfl) rfl (lv_at hl 0 rfl) ?_
  refine lv_iload_n hx hb (dd_of dX7_init_0 6 rfl) rfl (lv_at hl 2 rfl) ?_
  refine va_putF (D := D) (cl := vwCl) (tys := jT yy) (ci := 7) (v := .int p2) (ty := .int) (C := RX7) (T := TX7) (N := 8) hx hb hts (fun w h => List.mem_cons_of_mem _ (inlX7 w h)) tyX7 tyX7_ok nmX7 hown hK hP hD hS 0 rfl rfl 1 (by decide) (jw hts gw279) (fun _ h9 => h9) rfl hinit9 rfl (by decide +kernel) rfl rfl (Nat.le_of_ble_eq_true rfl) (dd_of dX7_init_0 7 rfl) (fun H locs hP hD hS => ?_)
  have hP : va_P D vwCl [(h0, .inr (7, [.int p1, .int p2, .int 0, .int 0, .int 0, .int 0, .int 0, .int 0]))] H := hP
  have hD : va_D Z [(h0, .inr (7, [.int p1, .int p2, .int 0, .int 0, .int 0, .int 0, .int 0, .int 0]))] := hD
  refine lv_aload_n hx hb (dd_of dX7_init_0 8 rfl) rfl (lv_at hl 0 rfl) ?_
  refine lv_iload_n hx hb (dd_of dX7_init_0 9 rfl) rfl (lv_at hl 3 rfl) ?_
  refine va_putF (D := D) (cl := vwCl) (tys := jT yy) (ci := 7) (v := .int p3) (ty := .int) (C := RX7) (T := TX7) (N := 8) hx hb hts (fun w h => List.mem_cons_of_mem _ (inlX7 w h)) tyX7 tyX7_ok nmX7 hown hK hP hD hS 0 rfl rfl 2 (by decide) (jw hts gw280) (fun _ h9 => h9) rfl hinit9 rfl (by decide +kernel) rfl rfl (Nat.le_of_ble_eq_true rfl) (dd_of dX7_init_0 10 rfl) (fun H locs hP hD hS => ?_)
  have hP : va_P D vwCl [(h0, .inr (7, [.int p1, .int p2, .int p3, .int 0, .int 0, .int 0, .int 0, .int 0]))] H := hP
  have hD : va_D Z [(h0, .inr (7, [.int p1, .int p2, .int p3, .int 0, .int 0, .int 0, .int 0, .int 0]))] := hD
  refine lv_aload_n hx hb (dd_of dX7_init_0 11 rfl) rfl (lv_at hl 0 rfl) ?_
  refine lv_iload hx hb (dd_of dX7_init_0 12 rfl) (lv_at hl 4 rfl) ?_
  refine va_putF (D := D) (cl := vwCl) (tys := jT yy) (ci := 7) (v := .int p4) (ty := .int) (C := RX7) (T := TX7) (N := 8) hx hb hts (fun w h => List.mem_cons_of_mem _ (inlX7 w h)) tyX7 tyX7_ok nmX7 hown hK hP hD hS 0 rfl rfl 3 (by decide) (jw hts gw281) (fun _ h9 => h9) rfl hinit9 rfl (by decide +kernel) rfl rfl (Nat.le_of_ble_eq_true rfl) (dd_of dX7_init_0 13 rfl) (fun H locs hP hD hS => ?_)
  have hP : va_P D vwCl [(h0, .inr (7, [.int p1, .int p2, .int p3, .int p4, .int 0, .int 0, .int 0, .int 0]))] H := hP
  have hD : va_D Z [(h0, .inr (7, [.int p1, .int p2, .int p3, .int p4, .int 0, .int 0, .int 0, .int 0]))] := hD
  refine lv_aload_n hx hb (dd_of dX7_init_0 14 rfl) rfl (lv_at hl 0 rfl) ?_
  refine lv_iload hx hb (dd_of dX7_init_0 15 rfl) (lv_at hl 5 rfl) ?_
  refine va_putF (D := D) (cl := vwCl) (tys := jT yy) (ci := 7) (v := .int p5) (ty := .int) (C := RX7) (T := TX7) (N := 8) hx hb hts (fun w h => List.mem_cons_of_mem _ (inlX7 w h)) tyX7 tyX7_ok nmX7 hown hK hP hD hS 0 rfl rfl 4 (by decide) (jw hts gw282) (fun _ h9 => h9) rfl hinit9 rfl (by decide +kernel) rfl rfl (Nat.le_of_ble_eq_true rfl) (dd_of dX7_init_0 16 rfl) (fun H locs hP hD hS => ?_)
  have hP : va_P D vwCl [(h0, .inr (7, [.int p1, .int p2, .int p3, .int p4, .int p5, .int 0, .int 0, .int 0]))] H := hP
  have hD : va_D Z [(h0, .inr (7, [.int p1, .int p2, .int p3, .int p4, .int p5, .int 0, .int 0, .int 0]))] := hD
  subst hQ
  exact W.vret hx hb hr (fun t ht hW => ⟨⟨adl [], rfl, trivial, by rw [ht]; exact hP, va_K.moved hW.alike hK, hD⟩, hS.F ht⟩) hS.2.2 (dd_of dX7_init_0 17 rfl) hlk
abbrev rmX9_init : Room := { frames := 1, cells := 0, slots := 0, locals := 12 }
set_option maxHeartbeats 4000000 in
set_option maxRecDepth 100000 in
theorem qX9_init (l : Launch) (D : va_G) (yy : Nat → ClassId) (h0 sz : Nat) (p1 : Int32) (p2 : Int32) (p3 : Int32) (p4 : Int32) : Met l yX9_init (Cond.code yX9_init cX9_init 5 none :: wsL_law) rmX9_init (va_Pc [.ref h0, .int p1, .int p2, .int p3, .int p4] (jP D yy [(h0, .inr (9, [.int 0, .int 0, .int 0, .int 0]))] sz)) (va_Qv (fun _ : Nat → Nat => True) (fun u t => jB D yy (va_A [(h0, .inr (9, [.int 0, .int 0, .int 0, .int 0]))] sz) [(h0, .inr (9, [.int p1, .int p2, .int p3, .int p4]))] t) (va_A [(h0, .inr (9, [.int 0, .int 0, .int 0, .int 0]))] sz)) 0 0 (va_A [(h0, .inr (9, [.int 0, .int 0, .int 0, .int 0]))] sz) := by
  refine jM (vs := [.ref h0, .int p1, .int p2, .int p3, .int p4]) (own := RX9) (by decide) rfl (Nat.le_of_ble_eq_true rfl) ?_
  intro p e s m args below meth c ls Q hQ hargs S hr hlk hinit hB hl
  obtain ⟨hx, hb, hml, hown, hts⟩ := S
  have hinit9 : meth.name = "<init>" := hinit rfl
  have hl : lv_has ls 5 [(0, .ref h0), (1, .int p1), (2, .int p2), (3, .int p3), (4, .int p4)] := hl
  obtain ⟨hsz, hP, hK, hD0⟩ := hB
  subst hsz
  have hD := hD0.self (sz := s.heap.size)
  generalize hZ : va_A [(h0, .inr (9, [.int 0, .int 0, .int 0, .int 0]))] s.heap.size = Z at hD hQ
  have hA : ∀ q : Nat, s.heap.size ≤ q → Z q := fun q h => by rw [← hZ]; exact Or.inr h
  obtain ⟨H, hH⟩ : ∃ z, z = s.heap := ⟨_, rfl⟩
  obtain ⟨locs, hlocs⟩ : ∃ z : List Loc, z = [] := ⟨_, rfl⟩
  have hS : va_S Z s.heap H locs := by rw [hH, hlocs]; exact va_S.rf
  rw [← hH] at hP
  suffices hgo : W p l e rmX9_init s m args below meth c H locs 0 0 Q (F0 m 0 ls []) by rw [hH, hlocs] at hgo; exact hgo
  refine lv_aload_n hx hb (dd_of dX9_init_0 0 rfl) rfl (lv_at hl 0 rfl) ?_
  refine W.objInit hx hb hown (jw hts gw325) (jw hts gw11) (jw hts gw12) rfl (by rw [hml]; exact hl.1) rfl (dd_of dX9_init_0 1 rfl) (Nat.le_of_ble_eq_true rfl) (Nat.le_of_ble_eq_true rfl) ?_
  refine W.eq (g2 := F0 m 4 ls []) rfl ?_
  refine lv_aload_n hx hb (dd_of dX9_init_0 2 rfl) rfl (lv_at hl 0 rfl) ?_
  refine lv_iload_n hx hb (dd_of dX9_init_0 3 rfl) rfl (lv_at hl 1 rfl) ?_
  refine va_putF (D := D) (cl := vwCl) (tys := jT yy) (ci := 9) (v := .int p1) (ty := .int) (C := RX9) (T := TX9) (N := 4) hx hb hts (fun w h => List.mem_cons_of_mem _ (inlX9 w h)) tyX9 tyX9_ok nmX9 hown hK hP hD hS 0 rfl rfl 0 (by decide) (jw hts gw89) (fun _ h9 => h9) rfl hinit9 rfl (by decide +kernel) rfl rfl (Nat.le_of_ble_eq_true rfl) (dd_of dX9_init_0 4 rfl) (fun H locs hP hD hS => ?_)
  have hP : va_P D vwCl [(h0, .inr (9, [.int p1, .int 0, .int 0, .int 0]))] H := hP
  have hD : va_D Z [(h0, .inr (9, [.int p1, .int 0, .int 0, .int 0]))] := hD
  refine lv_aload_n hx hb (dd_of dX9_init_0 5 rfl) rfl (lv_at hl 0 rfl) ?_
  refine lv_iload_n hx hb (dd_of dX9_init_0 6 rfl) rfl (lv_at hl 2 rfl) ?_
  refine va_putF (D := D) (cl := vwCl) (tys := jT yy) (ci := 9) (v := .int p2) (ty := .int) (C := RX9) (T := TX9) (N := 4) hx hb hts (fun w h => List.mem_cons_of_mem _ (inlX9 w h)) tyX9 tyX9_ok nmX9 hown hK hP hD hS 0 rfl rfl 1 (by decide) (jw hts gw90) (fun _ h9 => h9) rfl hinit9 rfl (by decide +kernel) rfl rfl (Nat.le_of_ble_eq_true rfl) (dd_of dX9_init_0 7 rfl) (fun H locs hP hD hS => ?_)
  have hP : va_P D vwCl [(h0, .inr (9, [.int p1, .int p2, .int 0, .int 0]))] H := hP
  have hD : va_D Z [(h0, .inr (9, [.int p1, .int p2, .int 0, .int 0]))] := hD
  refine lv_aload_n hx hb (dd_of dX9_init_0 8 rfl) rfl (lv_at hl 0 rfl) ?_
  refine lv_iload_n hx hb (dd_of dX9_init_0 9 rfl) rfl (lv_at hl 3 rfl) ?_
  refine va_putF (D := D) (cl := vwCl) (tys := jT yy) (ci := 9) (v := .int p3) (ty := .int) (C := RX9) (T := TX9) (N := 4) hx hb hts (fun w h => List.mem_cons_of_mem _ (inlX9 w h)) tyX9 tyX9_ok nmX9 hown hK hP hD hS 0 rfl rfl 2 (by decide) (jw hts gw92) (fun _ h9 => h9) rfl hinit9 rfl (by decide +kernel) rfl rfl (Nat.le_of_ble_eq_true rfl) (dd_of dX9_init_0 10 rfl) (fun H locs hP hD hS => ?_)
  have hP : va_P D vwCl [(h0, .inr (9, [.int p1, .int p2, .int p3, .int 0]))] H := hP
  have hD : va_D Z [(h0, .inr (9, [.int p1, .int p2, .int p3, .int 0]))] := hD
  refine lv_aload_n hx hb (dd_of dX9_init_0 11 rfl) rfl (lv_at hl 0 rfl) ?_
  refine lv_iload hx hb (dd_of dX9_init_0 12 rfl) (lv_at hl 4 rfl) ?_
  refine va_putF (D := D) (cl := vwCl) (tys := jT yy) (ci := 9) (v := .int p4) (ty := .int) (C := RX9) (T := TX9) (N := 4) hx hb hts (fun w h => List.mem_cons_of_mem _ (inlX9 w h)) tyX9 tyX9_ok nmX9 hown hK hP hD hS 0 rfl rfl 3 (by decide) (jw hts gw326) (fun _ h9 => h9) rfl hinit9 rfl (by decide +kernel) rfl rfl (Nat.le_of_ble_eq_true rfl) (dd_of dX9_init_0 13 rfl) (fun H locs hP hD hS => ?_)
  have hP : va_P D vwCl [(h0, .inr (9, [.int p1, .int p2, .int p3, .int p4]))] H := hP
  have hD : va_D Z [(h0, .inr (9, [.int p1, .int p2, .int p3, .int p4]))] := hD
  subst hQ
  exact W.vret hx hb hr (fun t ht hW => ⟨⟨adl [], rfl, trivial, by rw [ht]; exact hP, va_K.moved hW.alike hK, hD⟩, hS.F ht⟩) hS.2.2 (dd_of dX9_init_0 14 rfl) hlk
abbrev rmX0_init : Room := { frames := 1, cells := 0, slots := 0, locals := 12 }
set_option maxHeartbeats 4000000 in
set_option maxRecDepth 100000 in
theorem qX0_init (l : Launch) (D : va_G) (yy : Nat → ClassId) (h0 sz : Nat) (p1 : Int32) (p2 : Int32) : Met l yX0_init (Cond.code yX0_init cX0_init 3 none :: wsL_law) rmX0_init (va_Pc [.ref h0, .int p1, .int p2] (jP D yy [(h0, .inr (0, [.int 0, .int 0, .long 0, .int 0, .int 0, .int 0, .long 0]))] sz)) (va_Qv (fun _ : Nat → Nat => True) (fun u t => jB D yy (va_A [(h0, .inr (0, [.int 0, .int 0, .long 0, .int 0, .int 0, .int 0, .long 0]))] sz) [(h0, .inr (0, [.int (if 1 ≤ p1 then p1 else 1), .int p2, .long 0, .int 0, .int 100, .int 0, .long 0]))] t) (va_A [(h0, .inr (0, [.int 0, .int 0, .long 0, .int 0, .int 0, .int 0, .long 0]))] sz)) 0 0 (va_A [(h0, .inr (0, [.int 0, .int 0, .long 0, .int 0, .int 0, .int 0, .long 0]))] sz) := by
  refine jM (vs := [.ref h0, .int p1, .int p2]) (own := RX0) (by decide) rfl (Nat.le_of_ble_eq_true rfl) ?_
  intro p e s m args below meth c ls Q hQ hargs S hr hlk hinit hB hl
  obtain ⟨hx, hb, hml, hown, hts⟩ := S
  have hinit9 : meth.name = "<init>" := hinit rfl
  have hl : lv_has ls 3 [(0, .ref h0), (1, .int p1), (2, .int p2)] := hl
  obtain ⟨hsz, hP, hK, hD0⟩ := hB
  subst hsz
  have hD := hD0.self (sz := s.heap.size)
  generalize hZ : va_A [(h0, .inr (0, [.int 0, .int 0, .long 0, .int 0, .int 0, .int 0, .long 0]))] s.heap.size = Z at hD hQ
  have hA : ∀ q : Nat, s.heap.size ≤ q → Z q := fun q h => by rw [← hZ]; exact Or.inr h
  obtain ⟨H, hH⟩ : ∃ z, z = s.heap := ⟨_, rfl⟩
  obtain ⟨locs, hlocs⟩ : ∃ z : List Loc, z = [] := ⟨_, rfl⟩
  have hS : va_S Z s.heap H locs := by rw [hH, hlocs]; exact va_S.rf
  rw [← hH] at hP
  suffices hgo : W p l e rmX0_init s m args below meth c H locs 0 0 Q (F0 m 0 ls []) by rw [hH, hlocs] at hgo; exact hgo
  refine lv_aload_n hx hb (dd_of dX0_init_0 0 rfl) rfl (lv_at hl 0 rfl) ?_
  refine W.objInit hx hb hown (jw hts gw219) (jw hts gw11) (jw hts gw12) rfl (by rw [hml]; exact hl.1) rfl (dd_of dX0_init_0 1 rfl) (Nat.le_of_ble_eq_true rfl) (Nat.le_of_ble_eq_true rfl) ?_
  refine W.eq (g2 := F0 m 4 ls []) rfl ?_
  refine lv_aload_n hx hb (dd_of dX0_init_0 2 rfl) rfl (lv_at hl 0 rfl) ?_
  refine lv_bipush (v := 100) hx hb (dd_of dX0_init_0 3 rfl) (by decide) ?_
  refine va_put (D := D) (cl := vwCl) (tys := jT yy) (ci := 0) (v := .int 100) (ty := .int) (C := RX0) (T := TX0) (N := 7) hx hb hts (fun w h => List.mem_cons_of_mem _ (inlX0 w h)) tyX0 tyX0_ok nmX0 hown hK hP hD hS 0 rfl rfl 4 (by decide) (jw hts gw220) (fun _ h9 => h9) rfl (by decide +kernel) rfl rfl (Nat.le_of_ble_eq_true rfl) (dd_of dX0_init_0 4 rfl) (fun H locs hP hD hS => ?_)
  have hP : va_P D vwCl [(h0, .inr (0, [.int 0, .int 0, .long 0, .int 0, .int 100, .int 0, .long 0]))] H := hP
  have hD : va_D Z [(h0, .inr (0, [.int 0, .int 0, .long 0, .int 0, .int 100, .int 0, .long 0]))] := hD
  refine lv_aload_n hx hb (dd_of dX0_init_0 5 rfl) rfl (lv_at hl 0 rfl) ?_
  refine lv_iload_n hx hb (dd_of dX0_init_0 6 rfl) rfl (lv_at hl 1 rfl) ?_
  refine lv_iconst (v := 1) hx hb (dd_of dX0_init_0 7 rfl) (by decide) ?_
  obtain ⟨z9, hz9⟩ : ∃ z : Int32, (if 1 ≤ p1 then p1 else 1) = z := ⟨_, rfl⟩
  refine jn_i (ls := ls) (v := z9) 21 [.ref h0] (fun x9 ex9 => ?_) (fun K9 => ?_)
  rotate_left
  · refine lv_icmp_ge (tgt := 20) hx hb (dd_of dX0_init_0 8 rfl) (by decide) (fun c9 => ?_) (fun c9 => ?_)
    · refine lv_iload_n hx hb (dd_of dX0_init_0 11 rfl) rfl (lv_at hl 1 rfl) ?_
      exact K9 _ (by rw [← hz9, if_pos c9])
    · refine lv_iconst (v := 1) hx hb (dd_of dX0_init_0 9 rfl) (by decide) ?_
      refine lv_goto (tgt := 21) hx hb (dd_of dX0_init_0 10 rfl) (by decide) ?_
      exact K9 _ (by rw [← hz9, if_neg c9])
  have ez9 : x9 = (if 1 ≤ p1 then p1 else 1) := ex9.trans hz9.symm
  subst ez9
  refine va_putF (D := D) (cl := vwCl) (tys := jT yy) (ci := 0) (v := .int (if 1 ≤ p1 then p1 else 1)) (ty := .int) (C := RX0) (T := TX0) (N := 7) hx hb hts (fun w h => List.mem_cons_of_mem _ (inlX0 w h)) tyX0 tyX0_ok nmX0 hown hK hP hD hS 0 rfl rfl 0 (by decide) (jw hts gw221) (fun _ h9 => h9) rfl hinit9 rfl (by decide +kernel) rfl rfl (Nat.le_of_ble_eq_true rfl) (dd_of dX0_init_0 12 rfl) (fun H locs hP hD hS => ?_)
  have hP : va_P D vwCl [(h0, .inr (0, [.int (if 1 ≤ p1 then p1 else 1), .int 0, .long 0, .int 0, .int 100, .int 0, .long 0]))] H := hP
  have hD : va_D Z [(h0, .inr (0, [.int (if 1 ≤ p1 then p1 else 1), .int 0, .long 0, .int 0, .int 100, .int 0, .long 0]))] := hD
  refine lv_aload_n hx hb (dd_of dX0_init_0 13 rfl) rfl (lv_at hl 0 rfl) ?_
  refine lv_iload_n hx hb (dd_of dX0_init_0 14 rfl) rfl (lv_at hl 2 rfl) ?_
  refine va_put (D := D) (cl := vwCl) (tys := jT yy) (ci := 0) (v := .int p2) (ty := .int) (C := RX0) (T := TX0) (N := 7) hx hb hts (fun w h => List.mem_cons_of_mem _ (inlX0 w h)) tyX0 tyX0_ok nmX0 hown hK hP hD hS 0 rfl rfl 1 (by decide) (jw hts gw222) (fun _ h9 => h9) rfl (by decide +kernel) rfl rfl (Nat.le_of_ble_eq_true rfl) (dd_of dX0_init_0 15 rfl) (fun H locs hP hD hS => ?_)
  have hP : va_P D vwCl [(h0, .inr (0, [.int (if 1 ≤ p1 then p1 else 1), .int p2, .long 0, .int 0, .int 100, .int 0, .long 0]))] H := hP
  have hD : va_D Z [(h0, .inr (0, [.int (if 1 ≤ p1 then p1 else 1), .int p2, .long 0, .int 0, .int 100, .int 0, .long 0]))] := hD
  subst hQ
  exact W.vret hx hb hr (fun t ht hW => ⟨⟨adl [], rfl, trivial, by rw [ht]; exact hP, va_K.moved hW.alike hK, hD⟩, hS.F ht⟩) hS.2.2 (dd_of dX0_init_0 16 rfl) hlk
abbrev rmX1_init : Room := { frames := 1, cells := 4, slots := 38, locals := 12 }
set_option maxHeartbeats 4000000 in
set_option maxRecDepth 100000 in
theorem qX1_init (l : Launch) (D : va_G) (yy : Nat → ClassId) (h0 sz : Nat)  : Met l yX1_init (Cond.code yX1_init cX1_init 1 none :: wsL_law) rmX1_init (va_Pc [.ref h0] (jI D yy [(h0, .inr (1, [.int 0, .int 0, .int 0, .long 0, .null, .null, .null, .null]))] sz)) (va_Qv (fun _ : Nat → Nat => True) (fun u t => jB D yy (va_A [(h0, .inr (1, [.int 0, .int 0, .int 0, .long 0, .null, .null, .null, .null]))] sz) [(h0, .inr (1, [.int 0, .int 0, .int 0, .long (-9223372036854775808), .ref (u 0), .ref (u 1), .ref (u 2), .ref (u 3)])), ((u 0), .inl (yy 1, 20, .inr (.inl (fun _ => 0)))), ((u 1), .inl (yy 5, 6, .inr (.inr (.inr (.inr (fun _ => none)))))), ((u 2), .inl (yy 0, 6, .inl (fun _ => 0))), ((u 3), .inl (yy 0, 6, .inl (fun _ => 0)))] t) (va_A [(h0, .inr (1, [.int 0, .int 0, .int 0, .long 0, .null, .null, .null, .null]))] sz)) 4 38 (va_A [(h0, .inr (1, [.int 0, .int 0, .int 0, .long 0, .null, .null, .null, .null]))] sz) := by
  refine jM (vs := [.ref h0]) (own := RX1) (by decide) rfl (Nat.le_of_ble_eq_true rfl) ?_
  intro p e s m args below meth c ls Q hQ hargs S hr hlk hinit hB hl
  obtain ⟨hx, hb, hml, hown, hts⟩ := S
  have hinit9 : meth.name = "<init>" := hinit rfl
  have hl : lv_has ls 1 [(0, .ref h0)] := hl
  obtain ⟨⟨hsz, hP, hK, hD0⟩, hO⟩ := hB
  subst hsz
  have hD := hD0.self (sz := s.heap.size)
  generalize hZ : va_A [(h0, .inr (1, [.int 0, .int 0, .int 0, .long 0, .null, .null, .null, .null]))] s.heap.size = Z at hD hQ
  have hA : ∀ q : Nat, s.heap.size ≤ q → Z q := fun q h => by rw [← hZ]; exact Or.inr h
  obtain ⟨H, hH⟩ : ∃ z, z = s.heap := ⟨_, rfl⟩
  obtain ⟨locs, hlocs⟩ : ∃ z : List Loc, z = [] := ⟨_, rfl⟩
  have hS : va_S Z s.heap H locs := by rw [hH, hlocs]; exact va_S.rf
  rw [← hH] at hP
  suffices hgo : W p l e rmX1_init s m args below meth c H locs 0 0 Q (F0 m 0 ls []) by rw [hH, hlocs] at hgo; exact hgo
  refine lv_aload_n hx hb (dd_of dX1_init_0 0 rfl) rfl (lv_at hl 0 rfl) ?_
  refine W.objInit hx hb hown (jw hts gw99) (jw hts gw11) (jw hts gw12) rfl (by rw [hml]; exact hl.1) rfl (dd_of dX1_init_0 1 rfl) (Nat.le_of_ble_eq_true rfl) (Nat.le_of_ble_eq_true rfl) ?_
  refine W.eq (g2 := F0 m 4 ls []) rfl ?_
  refine lv_aload_n hx hb (dd_of dX1_init_0 2 rfl) rfl (lv_at hl 0 rfl) ?_
  refine lv_ldc2 (v := (-9223372036854775808)) hx hb hown (jw hts gw100) (dd_of dX1_init_0 3 rfl) ?_
  refine va_put (D := D) (cl := vwCl) (tys := jT yy) (ci := 1) (v := .long (-9223372036854775808)) (ty := .long) (C := RX1) (T := TX1) (N := 8) hx hb hts (fun w h => List.mem_cons_of_mem _ (inlX1 w h)) tyX1 tyX1_ok nmX1 hown hK hP hD hS 0 rfl rfl 3 (by decide) (jw hts gw101) (fun _ h9 => h9) rfl (by decide +kernel) rfl rfl (Nat.le_of_ble_eq_true rfl) (dd_of dX1_init_0 4 rfl) (fun H locs hP hD hS => ?_)
  have hP : va_P D vwCl [(h0, .inr (1, [.int 0, .int 0, .int 0, .long (-9223372036854775808), .null, .null, .null, .null]))] H := hP
  have hD : va_D Z [(h0, .inr (1, [.int 0, .int 0, .int 0, .long (-9223372036854775808), .null, .null, .null, .null]))] := hD
  refine lv_aload_n hx hb (dd_of dX1_init_0 5 rfl) rfl (lv_at hl 0 rfl) ?_
  refine lv_bipush (v := 20) hx hb (dd_of dX1_init_0 6 rfl) (by decide) ?_
  refine va_newa (atype := .long) (ty := .long) (N' := 20) (a0 := (20, .inr (.inl (fun _ => 0)))) hx hb (jw hts gw6) rfl hK hP hD hS hA (fun _ => rfl) (by decide) (by decide) (Nat.le_of_ble_eq_true rfl) (Nat.le_of_ble_eq_true rfl) (Nat.le_of_ble_eq_true rfl) (dd_of dX1_init_0 7 rfl) (fun q1 cA2 H hK9 hP hD hS => ?_)
  obtain rfl := jT_l hK9
  have hP : va_P D vwCl [(h0, .inr (1, [.int 0, .int 0, .int 0, .long (-9223372036854775808), .null, .null, .null, .null])), (q1, .inl (yy 1, 20, .inr (.inl (fun _ => 0))))] H := hP
  have hD : va_D Z [(h0, .inr (1, [.int 0, .int 0, .int 0, .long (-9223372036854775808), .null, .null, .null, .null])), (q1, .inl (yy 1, 20, .inr (.inl (fun _ => 0))))] := hD
  refine va_putF (D := D) (cl := vwCl) (tys := jT yy) (ci := 1) (v := .ref q1) (ty := .array .long) (C := RX1) (T := TX1) (N := 8) hx hb hts (fun w h => List.mem_cons_of_mem _ (inlX1 w h)) tyX1 tyX1_ok nmX1 hown hK hP hD hS 0 rfl rfl 4 (by decide) (jw hts gw102) (fun _ h9 => h9) rfl hinit9 rfl (by decide +kernel) rfl rfl (Nat.le_of_ble_eq_true rfl) (dd_of dX1_init_0 8 rfl) (fun H locs hP hD hS => ?_)
  have hP : va_P D vwCl [(h0, .inr (1, [.int 0, .int 0, .int 0, .long (-9223372036854775808), .ref q1, .null, .null, .null])), (q1, .inl (yy 1, 20, .inr (.inl (fun _ => 0))))] H := hP
  have hD : va_D Z [(h0, .inr (1, [.int 0, .int 0, .int 0, .long (-9223372036854775808), .ref q1, .null, .null, .null])), (q1, .inl (yy 1, 20, .inr (.inl (fun _ => 0))))] := hD
  refine lv_aload_n hx hb (dd_of dX1_init_0 9 rfl) rfl (lv_at hl 0 rfl) ?_
  refine lv_bipush (v := 6) hx hb (dd_of dX1_init_0 10 rfl) (by decide) ?_
  refine va_newq (N' := 6) hx hb hown (jw hts gw103) hO.1.2.2.1 hK hP hD hS hA (by decide) (by decide) (by decide) (Nat.le_of_ble_eq_true rfl) (Nat.le_of_ble_eq_true rfl) (dd_of dX1_init_0 11 rfl) (fun q3 cA4 H hK9 hP hD hS => ?_)
  obtain rfl := jT_q 5 rfl hK9
  have hP : va_P D vwCl [(h0, .inr (1, [.int 0, .int 0, .int 0, .long (-9223372036854775808), .ref q1, .null, .null, .null])), (q1, .inl (yy 1, 20, .inr (.inl (fun _ => 0)))), (q3, .inl (yy 5, 6, .inr (.inr (.inr (.inr (fun _ => none))))))] H := hP
  have hD : va_D Z [(h0, .inr (1, [.int 0, .int 0, .int 0, .long (-9223372036854775808), .ref q1, .null, .null, .null])), (q1, .inl (yy 1, 20, .inr (.inl (fun _ => 0)))), (q3, .inl (yy 5, 6, .inr (.inr (.inr (.inr (fun _ => none))))))] := hD
  refine va_putF (D := D) (cl := vwCl) (tys := jT yy) (ci := 1) (v := .ref q3) (ty := .array (.object "Polderwardens$Dyke")) (C := RX1) (T := TX1) (N := 8) hx hb hts (fun w h => List.mem_cons_of_mem _ (inlX1 w h)) tyX1 tyX1_ok nmX1 hown hK hP hD hS 0 rfl rfl 5 (by decide) (jw hts gw104) (fun _ h9 => h9) rfl hinit9 rfl (by decide +kernel) rfl rfl (Nat.le_of_ble_eq_true rfl) (dd_of dX1_init_0 12 rfl) (fun H locs hP hD hS => ?_)
  have hP : va_P D vwCl [(h0, .inr (1, [.int 0, .int 0, .int 0, .long (-9223372036854775808), .ref q1, .ref q3, .null, .null])), (q1, .inl (yy 1, 20, .inr (.inl (fun _ => 0)))), (q3, .inl (yy 5, 6, .inr (.inr (.inr (.inr (fun _ => none))))))] H := hP
  have hD : va_D Z [(h0, .inr (1, [.int 0, .int 0, .int 0, .long (-9223372036854775808), .ref q1, .ref q3, .null, .null])), (q1, .inl (yy 1, 20, .inr (.inl (fun _ => 0)))), (q3, .inl (yy 5, 6, .inr (.inr (.inr (.inr (fun _ => none))))))] := hD
  refine lv_aload_n hx hb (dd_of dX1_init_0 13 rfl) rfl (lv_at hl 0 rfl) ?_
  refine lv_bipush (v := 6) hx hb (dd_of dX1_init_0 14 rfl) (by decide) ?_
  refine va_newa (atype := .int) (ty := .int) (N' := 6) (a0 := (6, .inl (fun _ => 0))) hx hb (jw hts gw17) rfl hK hP hD hS hA (fun _ => rfl) (by decide) (by decide) (Nat.le_of_ble_eq_true rfl) (Nat.le_of_ble_eq_true rfl) (Nat.le_of_ble_eq_true rfl) (dd_of dX1_init_0 15 rfl) (fun q5 cA6 H hK9 hP hD hS => ?_)
  obtain rfl := jT_i hK9
  have hP : va_P D vwCl [(h0, .inr (1, [.int 0, .int 0, .int 0, .long (-9223372036854775808), .ref q1, .ref q3, .null, .null])), (q1, .inl (yy 1, 20, .inr (.inl (fun _ => 0)))), (q3, .inl (yy 5, 6, .inr (.inr (.inr (.inr (fun _ => none)))))), (q5, .inl (yy 0, 6, .inl (fun _ => 0)))] H := hP
  have hD : va_D Z [(h0, .inr (1, [.int 0, .int 0, .int 0, .long (-9223372036854775808), .ref q1, .ref q3, .null, .null])), (q1, .inl (yy 1, 20, .inr (.inl (fun _ => 0)))), (q3, .inl (yy 5, 6, .inr (.inr (.inr (.inr (fun _ => none)))))), (q5, .inl (yy 0, 6, .inl (fun _ => 0)))] := hD
  refine va_putF (D := D) (cl := vwCl) (tys := jT yy) (ci := 1) (v := .ref q5) (ty := .array .int) (C := RX1) (T := TX1) (N := 8) hx hb hts (fun w h => List.mem_cons_of_mem _ (inlX1 w h)) tyX1 tyX1_ok nmX1 hown hK hP hD hS 0 rfl rfl 6 (by decide) (jw hts gw105) (fun _ h9 => h9) rfl hinit9 rfl (by decide +kernel) rfl rfl (Nat.le_of_ble_eq_true rfl) (dd_of dX1_init_0 16 rfl) (fun H locs hP hD hS => ?_)
  have hP : va_P D vwCl [(h0, .inr (1, [.int 0, .int 0, .int 0, .long (-9223372036854775808), .ref q1, .ref q3, .ref q5, .null])), (q1, .inl (yy 1, 20, .inr (.inl (fun _ => 0)))), (q3, .inl (yy 5, 6, .inr (.inr (.inr (.inr (fun _ => none)))))), (q5, .inl (yy 0, 6, .inl (fun _ => 0)))] H := hP
  have hD : va_D Z [(h0, .inr (1, [.int 0, .int 0, .int 0, .long (-9223372036854775808), .ref q1, .ref q3, .ref q5, .null])), (q1, .inl (yy 1, 20, .inr (.inl (fun _ => 0)))), (q3, .inl (yy 5, 6, .inr (.inr (.inr (.inr (fun _ => none)))))), (q5, .inl (yy 0, 6, .inl (fun _ => 0)))] := hD
  refine lv_aload_n hx hb (dd_of dX1_init_0 17 rfl) rfl (lv_at hl 0 rfl) ?_
  refine lv_bipush (v := 6) hx hb (dd_of dX1_init_0 18 rfl) (by decide) ?_
  refine va_newa (atype := .int) (ty := .int) (N' := 6) (a0 := (6, .inl (fun _ => 0))) hx hb (jw hts gw17) rfl hK hP hD hS hA (fun _ => rfl) (by decide) (by decide) (Nat.le_of_ble_eq_true rfl) (Nat.le_of_ble_eq_true rfl) (Nat.le_of_ble_eq_true rfl) (dd_of dX1_init_0 19 rfl) (fun q7 cA8 H hK9 hP hD hS => ?_)
  obtain rfl := jT_i hK9
  have hP : va_P D vwCl [(h0, .inr (1, [.int 0, .int 0, .int 0, .long (-9223372036854775808), .ref q1, .ref q3, .ref q5, .null])), (q1, .inl (yy 1, 20, .inr (.inl (fun _ => 0)))), (q3, .inl (yy 5, 6, .inr (.inr (.inr (.inr (fun _ => none)))))), (q5, .inl (yy 0, 6, .inl (fun _ => 0))), (q7, .inl (yy 0, 6, .inl (fun _ => 0)))] H := hP
  have hD : va_D Z [(h0, .inr (1, [.int 0, .int 0, .int 0, .long (-9223372036854775808), .ref q1, .ref q3, .ref q5, .null])), (q1, .inl (yy 1, 20, .inr (.inl (fun _ => 0)))), (q3, .inl (yy 5, 6, .inr (.inr (.inr (.inr (fun _ => none)))))), (q5, .inl (yy 0, 6, .inl (fun _ => 0))), (q7, .inl (yy 0, 6, .inl (fun _ => 0)))] := hD
  refine va_putF (D := D) (cl := vwCl) (tys := jT yy) (ci := 1) (v := .ref q7) (ty := .array .int) (C := RX1) (T := TX1) (N := 8) hx hb hts (fun w h => List.mem_cons_of_mem _ (inlX1 w h)) tyX1 tyX1_ok nmX1 hown hK hP hD hS 0 rfl rfl 7 (by decide) (jw hts gw106) (fun _ h9 => h9) rfl hinit9 rfl (by decide +kernel) rfl rfl (Nat.le_of_ble_eq_true rfl) (dd_of dX1_init_0 20 rfl) (fun H locs hP hD hS => ?_)
  have hP : va_P D vwCl [(h0, .inr (1, [.int 0, .int 0, .int 0, .long (-9223372036854775808), .ref q1, .ref q3, .ref q5, .ref q7])), (q1, .inl (yy 1, 20, .inr (.inl (fun _ => 0)))), (q3, .inl (yy 5, 6, .inr (.inr (.inr (.inr (fun _ => none)))))), (q5, .inl (yy 0, 6, .inl (fun _ => 0))), (q7, .inl (yy 0, 6, .inl (fun _ => 0)))] H := hP
  have hD : va_D Z [(h0, .inr (1, [.int 0, .int 0, .int 0, .long (-9223372036854775808), .ref q1, .ref q3, .ref q5, .ref q7])), (q1, .inl (yy 1, 20, .inr (.inl (fun _ => 0)))), (q3, .inl (yy 5, 6, .inr (.inr (.inr (.inr (fun _ => none)))))), (q5, .inl (yy 0, 6, .inl (fun _ => 0))), (q7, .inl (yy 0, 6, .inl (fun _ => 0)))] := hD
  subst hQ
  exact W.vret hx hb hr (fun t ht hW => ⟨⟨adl [q1, q3, q5, q7], rfl, trivial, by rw [ht]; exact hP, va_K.moved hW.alike hK, hD⟩, hS.F ht⟩) hS.2.2 (dd_of dX1_init_0 21 rfl) hlk
abbrev rmX8_init : Room := { frames := 1, cells := 3, slots := 80, locals := 12 }
set_option maxHeartbeats 4000000 in
set_option maxRecDepth 100000 in
theorem qX8_init (l : Launch) (D : va_G) (yy : Nat → ClassId) (h0 sz : Nat)  : Met l yX8_init (Cond.code yX8_init cX8_init 1 none :: wsL_law) rmX8_init (va_Pc [.ref h0] (jI D yy [(h0, .inr (8, [.null, .null, .null]))] sz)) (va_Qv (fun _ : Nat → Nat => True) (fun u t => jB D yy (va_A [(h0, .inr (8, [.null, .null, .null]))] sz) [(h0, .inr (8, [.ref (u 0), .ref (u 1), .ref (u 2)])), ((u 0), .inl (yy 2, 64, .inl (fun _ => 0))), ((u 1), .inl (yy 2, 8, .inl (fun _ => 0))), ((u 2), .inl (yy 0, 8, .inl (fun _ => 0)))] t) (va_A [(h0, .inr (8, [.null, .null, .null]))] sz)) 3 80 (va_A [(h0, .inr (8, [.null, .null, .null]))] sz) := by
  refine jM (vs := [.ref h0]) (own := RX8) (by decide) rfl (Nat.le_of_ble_eq_true rfl) ?_
  intro p e s m args below meth c ls Q hQ hargs S hr hlk hinit hB hl
  obtain ⟨hx, hb, hml, hown, hts⟩ := S
  have hinit9 : meth.name = "<init>" := hinit rfl
  have hl : lv_has ls 1 [(0, .ref h0)] := hl
  obtain ⟨⟨hsz, hP, hK, hD0⟩, hO⟩ := hB
  subst hsz
  have hD := hD0.self (sz := s.heap.size)
  generalize hZ : va_A [(h0, .inr (8, [.null, .null, .null]))] s.heap.size = Z at hD hQ
  have hA : ∀ q : Nat, s.heap.size ≤ q → Z q := fun q h => by rw [← hZ]; exact Or.inr h
  obtain ⟨H, hH⟩ : ∃ z, z = s.heap := ⟨_, rfl⟩
  obtain ⟨locs, hlocs⟩ : ∃ z : List Loc, z = [] := ⟨_, rfl⟩
  have hS : va_S Z s.heap H locs := by rw [hH, hlocs]; exact va_S.rf
  rw [← hH] at hP
  suffices hgo : W p l e rmX8_init s m args below meth c H locs 0 0 Q (F0 m 0 ls []) by rw [hH, hlocs] at hgo; exact hgo
  refine lv_aload_n hx hb (dd_of dX8_init_0 0 rfl) rfl (lv_at hl 0 rfl) ?_
  refine W.objInit hx hb hown (jw hts gw109) (jw hts gw11) (jw hts gw12) rfl (by rw [hml]; exact hl.1) rfl (dd_of dX8_init_0 1 rfl) (Nat.le_of_ble_eq_true rfl) (Nat.le_of_ble_eq_true rfl) ?_
  refine W.eq (g2 := F0 m 4 ls []) rfl ?_
  refine lv_aload_n hx hb (dd_of dX8_init_0 2 rfl) rfl (lv_at hl 0 rfl) ?_
  refine lv_bipush (v := 64) hx hb (dd_of dX8_init_0 3 rfl) (by decide) ?_
  refine va_newa (atype := .boolean) (ty := .boolean) (N' := 64) (a0 := (64, .inl (fun _ => 0))) hx hb (jw hts gw110) rfl hK hP hD hS hA (fun _ => rfl) (by decide) (by decide) (Nat.le_of_ble_eq_true rfl) (Nat.le_of_ble_eq_true rfl) (Nat.le_of_ble_eq_true rfl) (dd_of dX8_init_0 4 rfl) (fun q1 cA2 H hK9 hP hD hS => ?_)
  obtain rfl := jT_z hK9
  have hP : va_P D vwCl [(h0, .inr (8, [.null, .null, .null])), (q1, .inl (yy 2, 64, .inl (fun _ => 0)))] H := hP
  have hD : va_D Z [(h0, .inr (8, [.null, .null, .null])), (q1, .inl (yy 2, 64, .inl (fun _ => 0)))] := hD
  refine va_putF (D := D) (cl := vwCl) (tys := jT yy) (ci := 8) (v := .ref q1) (ty := .array .boolean) (C := RX8) (T := TX8) (N := 3) hx hb hts (fun w h => List.mem_cons_of_mem _ (inlX8 w h)) tyX8 tyX8_ok nmX8 hown hK hP hD hS 0 rfl rfl 0 (by decide) (jw hts gw111) (fun _ h9 => h9) rfl hinit9 rfl (by decide +kernel) rfl rfl (Nat.le_of_ble_eq_true rfl) (dd_of dX8_init_0 5 rfl) (fun H locs hP hD hS => ?_)
  have hP : va_P D vwCl [(h0, .inr (8, [.ref q1, .null, .null])), (q1, .inl (yy 2, 64, .inl (fun _ => 0)))] H := hP
  have hD : va_D Z [(h0, .inr (8, [.ref q1, .null, .null])), (q1, .inl (yy 2, 64, .inl (fun _ => 0)))] := hD
  refine lv_aload_n hx hb (dd_of dX8_init_0 6 rfl) rfl (lv_at hl 0 rfl) ?_
  refine lv_bipush (v := 8) hx hb (dd_of dX8_init_0 7 rfl) (by decide) ?_
  refine va_newa (atype := .boolean) (ty := .boolean) (N' := 8) (a0 := (8, .inl (fun _ => 0))) hx hb (jw hts gw110) rfl hK hP hD hS hA (fun _ => rfl) (by decide) (by decide) (Nat.le_of_ble_eq_true rfl) (Nat.le_of_ble_eq_true rfl) (Nat.le_of_ble_eq_true rfl) (dd_of dX8_init_0 8 rfl) (fun q3 cA4 H hK9 hP hD hS => ?_)
  obtain rfl := jT_z hK9
  have hP : va_P D vwCl [(h0, .inr (8, [.ref q1, .null, .null])), (q1, .inl (yy 2, 64, .inl (fun _ => 0))), (q3, .inl (yy 2, 8, .inl (fun _ => 0)))] H := hP
  have hD : va_D Z [(h0, .inr (8, [.ref q1, .null, .null])), (q1, .inl (yy 2, 64, .inl (fun _ => 0))), (q3, .inl (yy 2, 8, .inl (fun _ => 0)))] := hD
  refine va_putF (D := D) (cl := vwCl) (tys := jT yy) (ci := 8) (v := .ref q3) (ty := .array .boolean) (C := RX8) (T := TX8) (N := 3) hx hb hts (fun w h => List.mem_cons_of_mem _ (inlX8 w h)) tyX8 tyX8_ok nmX8 hown hK hP hD hS 0 rfl rfl 1 (by decide) (jw hts gw112) (fun _ h9 => h9) rfl hinit9 rfl (by decide +kernel) rfl rfl (Nat.le_of_ble_eq_true rfl) (dd_of dX8_init_0 9 rfl) (fun H locs hP hD hS => ?_)
  have hP : va_P D vwCl [(h0, .inr (8, [.ref q1, .ref q3, .null])), (q1, .inl (yy 2, 64, .inl (fun _ => 0))), (q3, .inl (yy 2, 8, .inl (fun _ => 0)))] H := hP
  have hD : va_D Z [(h0, .inr (8, [.ref q1, .ref q3, .null])), (q1, .inl (yy 2, 64, .inl (fun _ => 0))), (q3, .inl (yy 2, 8, .inl (fun _ => 0)))] := hD
  refine lv_aload_n hx hb (dd_of dX8_init_0 10 rfl) rfl (lv_at hl 0 rfl) ?_
  refine lv_bipush (v := 8) hx hb (dd_of dX8_init_0 11 rfl) (by decide) ?_
  refine va_newa (atype := .int) (ty := .int) (N' := 8) (a0 := (8, .inl (fun _ => 0))) hx hb (jw hts gw17) rfl hK hP hD hS hA (fun _ => rfl) (by decide) (by decide) (Nat.le_of_ble_eq_true rfl) (Nat.le_of_ble_eq_true rfl) (Nat.le_of_ble_eq_true rfl) (dd_of dX8_init_0 12 rfl) (fun q5 cA6 H hK9 hP hD hS => ?_)
  obtain rfl := jT_i hK9
  have hP : va_P D vwCl [(h0, .inr (8, [.ref q1, .ref q3, .null])), (q1, .inl (yy 2, 64, .inl (fun _ => 0))), (q3, .inl (yy 2, 8, .inl (fun _ => 0))), (q5, .inl (yy 0, 8, .inl (fun _ => 0)))] H := hP
  have hD : va_D Z [(h0, .inr (8, [.ref q1, .ref q3, .null])), (q1, .inl (yy 2, 64, .inl (fun _ => 0))), (q3, .inl (yy 2, 8, .inl (fun _ => 0))), (q5, .inl (yy 0, 8, .inl (fun _ => 0)))] := hD
  refine va_putF (D := D) (cl := vwCl) (tys := jT yy) (ci := 8) (v := .ref q5) (ty := .array .int) (C := RX8) (T := TX8) (N := 3) hx hb hts (fun w h => List.mem_cons_of_mem _ (inlX8 w h)) tyX8 tyX8_ok nmX8 hown hK hP hD hS 0 rfl rfl 2 (by decide) (jw hts gw113) (fun _ h9 => h9) rfl hinit9 rfl (by decide +kernel) rfl rfl (Nat.le_of_ble_eq_true rfl) (dd_of dX8_init_0 13 rfl) (fun H locs hP hD hS => ?_)
  have hP : va_P D vwCl [(h0, .inr (8, [.ref q1, .ref q3, .ref q5])), (q1, .inl (yy 2, 64, .inl (fun _ => 0))), (q3, .inl (yy 2, 8, .inl (fun _ => 0))), (q5, .inl (yy 0, 8, .inl (fun _ => 0)))] H := hP
  have hD : va_D Z [(h0, .inr (8, [.ref q1, .ref q3, .ref q5])), (q1, .inl (yy 2, 64, .inl (fun _ => 0))), (q3, .inl (yy 2, 8, .inl (fun _ => 0))), (q5, .inl (yy 0, 8, .inl (fun _ => 0)))] := hD
  subst hQ
  exact W.vret hx hb hr (fun t ht hW => ⟨⟨adl [q1, q3, q5], rfl, trivial, by rw [ht]; exact hP, va_K.moved hW.alike hK, hD⟩, hS.F ht⟩) hS.2.2 (dd_of dX8_init_0 14 rfl) hlk
abbrev rmX6_init : Room := { frames := 1, cells := 1, slots := 12, locals := 12 }
set_option maxHeartbeats 4000000 in
set_option maxRecDepth 100000 in
theorem qX6_init (l : Launch) (D : va_G) (yy : Nat → ClassId) (h0 sz : Nat)  : Met l yX6_init (Cond.code yX6_init cX6_init 1 none :: wsL_law) rmX6_init (va_Pc [.ref h0] (jI D yy [(h0, .inr (6, [.int 0, .int 0, .int 0, .int 0, .null, .int 0]))] sz)) (va_Qv (fun _ : Nat → Nat => True) (fun u t => jB D yy (va_A [(h0, .inr (6, [.int 0, .int 0, .int 0, .int 0, .null, .int 0]))] sz) [(h0, .inr (6, [.int 0, .int 100, .int 0, .int 1, .ref (u 0), .int 0])), ((u 0), .inl (yy 8, 12, .inr (.inr (.inr (.inr (fun _ => none))))))] t) (va_A [(h0, .inr (6, [.int 0, .int 0, .int 0, .int 0, .null, .int 0]))] sz)) 1 12 (va_A [(h0, .inr (6, [.int 0, .int 0, .int 0, .int 0, .null, .int 0]))] sz) := by
  refine jM (vs := [.ref h0]) (own := RX6) (by decide) rfl (Nat.le_of_ble_eq_true rfl) ?_
  intro p e s m args below meth c ls Q hQ hargs S hr hlk hinit hB hl
  obtain ⟨hx, hb, hml, hown, hts⟩ := S
  have hinit9 : meth.name = "<init>" := hinit rfl
  have hl : lv_has ls 1 [(0, .ref h0)] := hl
  obtain ⟨⟨hsz, hP, hK, hD0⟩, hO⟩ := hB
  subst hsz
  have hD := hD0.self (sz := s.heap.size)
  generalize hZ : va_A [(h0, .inr (6, [.int 0, .int 0, .int 0, .int 0, .null, .int 0]))] s.heap.size = Z at hD hQ
  have hA : ∀ q : Nat, s.heap.size ≤ q → Z q := fun q h => by rw [← hZ]; exact Or.inr h
  obtain ⟨H, hH⟩ : ∃ z, z = s.heap := ⟨_, rfl⟩
  obtain ⟨locs, hlocs⟩ : ∃ z : List Loc, z = [] := ⟨_, rfl⟩
  have hS : va_S Z s.heap H locs := by rw [hH, hlocs]; exact va_S.rf
  rw [← hH] at hP
  suffices hgo : W p l e rmX6_init s m args below meth c H locs 0 0 Q (F0 m 0 ls []) by rw [hH, hlocs] at hgo; exact hgo
  refine lv_aload_n hx hb (dd_of dX6_init_0 0 rfl) rfl (lv_at hl 0 rfl) ?_
  refine W.objInit hx hb hown (jw hts gw61) (jw hts gw11) (jw hts gw12) rfl (by rw [hml]; exact hl.1) rfl (dd_of dX6_init_0 1 rfl) (Nat.le_of_ble_eq_true rfl) (Nat.le_of_ble_eq_true rfl) ?_
  refine W.eq (g2 := F0 m 4 ls []) rfl ?_
  refine lv_aload_n hx hb (dd_of dX6_init_0 2 rfl) rfl (lv_at hl 0 rfl) ?_
  refine lv_bipush (v := 100) hx hb (dd_of dX6_init_0 3 rfl) (by decide) ?_
  refine va_put (D := D) (cl := vwCl) (tys := jT yy) (ci := 6) (v := .int 100) (ty := .int) (C := RX6) (T := TX6) (N := 6) hx hb hts (fun w h => List.mem_cons_of_mem _ (inlX6 w h)) tyX6 tyX6_ok nmX6 hown hK hP hD hS 0 rfl rfl 1 (by decide) (jw hts gw62) (fun _ h9 => h9) rfl (by decide +kernel) rfl rfl (Nat.le_of_ble_eq_true rfl) (dd_of dX6_init_0 4 rfl) (fun H locs hP hD hS => ?_)
  have hP : va_P D vwCl [(h0, .inr (6, [.int 0, .int 100, .int 0, .int 0, .null, .int 0]))] H := hP
  have hD : va_D Z [(h0, .inr (6, [.int 0, .int 100, .int 0, .int 0, .null, .int 0]))] := hD
  refine lv_aload_n hx hb (dd_of dX6_init_0 5 rfl) rfl (lv_at hl 0 rfl) ?_
  refine lv_iconst (v := 1) hx hb (dd_of dX6_init_0 6 rfl) (by decide) ?_
  refine va_put (D := D) (cl := vwCl) (tys := jT yy) (ci := 6) (v := .int 1) (ty := .int) (C := RX6) (T := TX6) (N := 6) hx hb hts (fun w h => List.mem_cons_of_mem _ (inlX6 w h)) tyX6 tyX6_ok nmX6 hown hK hP hD hS 0 rfl rfl 3 (by decide) (jw hts gw63) (fun _ h9 => h9) rfl (by decide +kernel) rfl rfl (Nat.le_of_ble_eq_true rfl) (dd_of dX6_init_0 7 rfl) (fun H locs hP hD hS => ?_)
  have hP : va_P D vwCl [(h0, .inr (6, [.int 0, .int 100, .int 0, .int 1, .null, .int 0]))] H := hP
  have hD : va_D Z [(h0, .inr (6, [.int 0, .int 100, .int 0, .int 1, .null, .int 0]))] := hD
  refine lv_aload_n hx hb (dd_of dX6_init_0 8 rfl) rfl (lv_at hl 0 rfl) ?_
  refine lv_bipush (v := 12) hx hb (dd_of dX6_init_0 9 rfl) (by decide) ?_
  refine va_newq (N' := 12) hx hb hown (jw hts gw64) hO.1.2.2.2.2.2 hK hP hD hS hA (by decide) (by decide) (by decide) (Nat.le_of_ble_eq_true rfl) (Nat.le_of_ble_eq_true rfl) (dd_of dX6_init_0 10 rfl) (fun q1 cA2 H hK9 hP hD hS => ?_)
  obtain rfl := jT_q 8 rfl hK9
  have hP : va_P D vwCl [(h0, .inr (6, [.int 0, .int 100, .int 0, .int 1, .null, .int 0])), (q1, .inl (yy 8, 12, .inr (.inr (.inr (.inr (fun _ => none))))))] H := hP
  have hD : va_D Z [(h0, .inr (6, [.int 0, .int 100, .int 0, .int 1, .null, .int 0])), (q1, .inl (yy 8, 12, .inr (.inr (.inr (.inr (fun _ => none))))))] := hD
  refine va_putF (D := D) (cl := vwCl) (tys := jT yy) (ci := 6) (v := .ref q1) (ty := .array (.object "Polderwardens$Spell")) (C := RX6) (T := TX6) (N := 6) hx hb hts (fun w h => List.mem_cons_of_mem _ (inlX6 w h)) tyX6 tyX6_ok nmX6 hown hK hP hD hS 0 rfl rfl 4 (by decide) (jw hts gw65) (fun _ h9 => h9) rfl hinit9 rfl (by decide +kernel) rfl rfl (Nat.le_of_ble_eq_true rfl) (dd_of dX6_init_0 11 rfl) (fun H locs hP hD hS => ?_)
  have hP : va_P D vwCl [(h0, .inr (6, [.int 0, .int 100, .int 0, .int 1, .ref q1, .int 0])), (q1, .inl (yy 8, 12, .inr (.inr (.inr (.inr (fun _ => none))))))] H := hP
  have hD : va_D Z [(h0, .inr (6, [.int 0, .int 100, .int 0, .int 1, .ref q1, .int 0])), (q1, .inl (yy 8, 12, .inr (.inr (.inr (.inr (fun _ => none))))))] := hD
  subst hQ
  exact W.vret hx hb hr (fun t ht hW => ⟨⟨adl [q1], rfl, trivial, by rw [ht]; exact hP, va_K.moved hW.alike hK, hD⟩, hS.F ht⟩) hS.2.2 (dd_of dX6_init_0 12 rfl) hlk
