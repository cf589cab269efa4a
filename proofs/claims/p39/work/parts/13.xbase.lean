-- exceptions of the class's face: their names, what a throw rests on
def xI : String := "java/lang/IndexOutOfBoundsException"
def xA : String := "java/lang/IllegalArgumentException"
def xS : String := "java/lang/IllegalStateException"
def xNs : List String := ["java/lang/RuntimeException", "java/lang/Exception"]
def xN (k : Nat) : String := if k = 1 then xI else if k = 2 then xA else xS
def xB (X : String) : List Cond := [.castable X X, .declares (Bundle.initS "java/lang/RuntimeException"), .declares (Bundle.initS "java/lang/Exception"), .declares (Bundle.initS "java/lang/Throwable")]
def xStr : List (Nat × String) := [(234, "out of range"), (237, "both are the same"), (241, "not now"), (244, "no more room"), (246, "not enough money"), (252, "no such end"), (257, "no end is a basin"), (259, "no such basin"), (264, "no such gate"), (269, "no such pump"), (274, "no such dyke"), (279, "no such crew")]
def xOK (X : String) (ic ik : Nat) : Prop := Bundle.fit X = true ∧ Cond.classLink RX11 ik X ∈ wsL_law ∧ Cond.initialized X ∈ wsL_law ∧ (∀ w ∈ (vx_atS RX11 ic X xNs).filter goodWord, w ∈ wsL_law) ∧ (∀ w ∈ (vx_atS RX11 ic X xNs).filter (fun w => !goodWord w), w ∈ xB X) ∧ (∀ w ∈ Cond.classLink RX11 ik X :: Cond.initialized X :: vx_atS RX11 ic X xNs, vx_ot w = true)
theorem xokI : xOK xI 194 190 := ⟨by decide +kernel, gw610, gw611, fun w h => List.mem_append_right _ h, by decide +kernel, List.all_eq_true.mp (by decide +kernel)⟩
theorem xokA : xOK xA 236 232 := ⟨by decide +kernel, gw187, gw188, fun w h => List.mem_append_left _ (List.mem_append_left _ (List.mem_append_right _ h)), by decide +kernel, List.all_eq_true.mp (by decide +kernel)⟩
theorem xokS : xOK xS 243 239 := ⟨by decide +kernel, gw193, gw194, fun w h => List.mem_append_left _ (List.mem_append_right _ h), by decide +kernel, List.all_eq_true.mp (by decide +kernel)⟩
def jTW (U : State) : Prop := ((∀ X, X = xI ∨ X = xA ∨ X = xS → va_Nw (.castable X X) U) ∧ (va_Nw (.declares (Bundle.initS "java/lang/RuntimeException")) U ∧ va_Nw (.declares (Bundle.initS "java/lang/Exception")) U ∧ va_Nw (.declares (Bundle.initS "java/lang/Throwable")) U)) ∧ ∀ q ∈ xStr, ∃ a, vk_R RX11 q.1 q.2 a U
theorem jTW.warm {s U : State} (hW : s.WarmedH U.vm) (h : jTW s) : jTW U := ⟨⟨fun X hX => va_Nw.warmC hW (h.1.1 X hX), va_Nw.warmD hW h.1.2.1, va_Nw.warmD hW h.1.2.2.1, va_Nw.warmD hW h.1.2.2.2⟩, fun q hq => by
  obtain ⟨a, ha⟩ := h.2 q hq
  exact ⟨a, vk_R.warm hW ha⟩⟩
theorem jTW.same {u U : State} (hvm : u.vm = U.vm) (h : jTW u) : jTW U := ⟨⟨fun X hX => va_Nw.same rfl hvm (h.1.1 X hX), va_Nw.same rfl hvm h.1.2.1, va_Nw.same rfl hvm h.1.2.2.1, va_Nw.same rfl hvm h.1.2.2.2⟩, fun q hq => by
  obtain ⟨a, ha⟩ := h.2 q hq
  exact ⟨a, vk_R.same hvm.symm ha⟩⟩
def jTP (A : Nat → Prop) (U : State) : Prop := (vx_Zq Bundle.tN "UNASSIGNED_STACK" Bundle.steD A U U.heap ∧ vx_Zq Bundle.tN "SUPPRESSED_SENTINEL" Bundle.listD A U U.heap) ∧ jTW U
theorem jTP.blind {A : Nat → Prop} {U : State} {g : JFrame} {mk : MethodId} {a : Array Value} (h : jTP A U) : jTP A (U.calling g mk a) := ⟨⟨vx_Zq.moved (u := U) (U := U.calling g mk a) (Vm.Alike.refl U.vm) h.1.1, vx_Zq.moved (u := U) (U := U.calling g mk a) (Vm.Alike.refl U.vm) h.1.2⟩, jTW.same (u := U) (U := U.calling g mk a) rfl h.2⟩
theorem jTP.go {Z A1 : Nat → Prop} {s U : State} {H : Heap} {locs : List Loc} (h : jTP Z s) (hS : va_S Z s.heap H locs) (hsub : ∀ q, A1 q → Z q) (hU : U.heap = H) (hW : s.WarmedH U.vm) : jTP A1 U := ⟨⟨by rw [hU]; exact ((h.1.1.kept hS.2.1).narrow hsub).moved hW.alike, by rw [hU]; exact ((h.1.2.kept hS.2.1).narrow hsub).moved hW.alike⟩, jTW.warm hW h.2⟩
/-- nothing but new cells -/
def jE (sz : Nat) : Nat → Prop := fun q => sz ≤ q
theorem jE.go {Z : Nat → Prop} {s : State} {H : Heap} {locs : List Loc} (hS : va_S Z s.heap H locs) (hA : ∀ q, s.heap.size ≤ q → Z q) : ∀ q, jE H.size q → Z q := fun q h => hA q (Nat.le_trans hS.1 h)
theorem va_S.mono {A A1 : Nat → Prop} {H0 H : Heap} {locs : List Loc} (h : va_S A H0 H locs) (hs : ∀ q, A q → A1 q) : va_S A1 H0 H locs := ⟨h.1, fun q h1 h2 => h.2.1 q h1 (fun z => h2 (hs q z)), fun q hq => hs _ (h.2.2 q hq)⟩
-- a body that returns or throws
theorem jMX {l : Launch} {y : MethodName} {ws' : List Cond} {rm : Room} {vs : List Value} {Bp : State → Prop} {Qc : Array Value → State → Outcome → State → Prop} {XC : String → State → State → Prop} {mc ms : Nat} {free : Addr → Prop} {cc : ByteArray} {maxL : Nat} {ret : Option FieldType} {own : String} (hy : plainName y.cls = true) (hown : y.cls = own) (hlen : (lg_sl vs).length ≤ maxL)
    (body : ∀ (p : Program) (e : Env) (s : State) (m : MethodId) (args : Array Value) (below : List Frame) (meth : Method) (c : Code) (ls : Array Slot) (Q : State → Prop), Q = vx_MQ below Qc XC args s mc ms free → args = vs.toArray → CallFix p m c cc maxL s args (Cond.code y cc maxL ret :: ws') own → meth.sig.returnType = ret → meth.locks = false → (∀ x ∈ c.exceptionTable.toList, False) → Bp s → lv_has ls maxL (lv_args 0 vs) → W p l e rm s m args below meth c s.heap [] 0 0 Q (F0 m 0 ls [])) : vx_Met l y (Cond.code y cc maxL ret :: ws') rm (va_Pc vs Bp) Qc XC mc ms free := by
  refine vx_ofW (cc := cc) (maxL := maxL) (ret := ret) hy rfl ?_
  intro p e s m args below meth c s₁ B hml htab hv
  obtain ⟨rfl, hB⟩ := hv
  have hts := atoms_spec (ws := Cond.code y cc maxL ret :: ws') B.pre
  have hl := lv_entry vs (n := maxL) hlen
  rw [lg_entry_eq]
  exact body p e s m _ below meth c _ _ rfl rfl ⟨B.exec, B.bytes, hml, hown ▸ findClass_of_methodNamed B.named, hts⟩ B.returns B.notSynchronized htab hB hl
-- what a method of the face finds: its world, and what a throw wants
def jX (D : va_G) (yy : Nat → ClassId) (w : va_W) (sz : Nat) : State → Prop := fun U => jP D yy w sz U ∧ jTP (va_A w sz) U
theorem jX_blind {vs : List Value} {D : va_G} {yy : Nat → ClassId} {w : va_W} {sz : Nat} : FrameBlind (va_Pc vs (jX D yy w sz)) := fun a U g mk q => ⟨q.1, ⟨q.2.1.1, q.2.1.2.1, va_K.moved (u := U) (U := U.calling g mk a) (Vm.Alike.refl U.vm) q.2.1.2.2.1, q.2.1.2.2.2⟩, q.2.2.blind⟩
/-- what a check finds: it reads the world w, and changes nothing -/
def jV (D : va_G) (yy : Nat → ClassId) (w : va_W) (sz : Nat) : State → Prop := fun U => (U.heap.size = sz ∧ va_P D vwCl w U.heap ∧ va_K D vwCl (jT yy) U) ∧ jTP (jE sz) U
theorem jV_blind {vs : List Value} {D : va_G} {yy : Nat → ClassId} {w : va_W} {sz : Nat} : FrameBlind (va_Pc vs (jV D yy w sz)) := fun a U g mk q => ⟨q.1, ⟨q.2.1.1, q.2.1.2.1, va_K.moved (u := U) (U := U.calling g mk a) (Vm.Alike.refl U.vm) q.2.1.2.2⟩, q.2.2.blind⟩
section XW
variable {p : Program} {l : Launch} {e : Env} {R : Room} {s : State} {m : MethodId} {args : Array Value} {below : List Frame} {meth : Method} {c : Code} {H : Heap} {locs : List Loc} {cells slots : Nat} {Q : State → Prop} {pc : Nat} {ls : Array Slot} {rest st0 : List Value} {cc : ByteArray} {nL : Nat} {Ts : List Cond} {own C : String} {index : Nat} {y : MethodName} {bytes : ByteArray} {maxL : Nat} {ret : Option FieldType} {ws : List Cond} {rm : Room} {n : Nat} {As : List Value} {b : Addr} {D : va_G} {yy : Nat → ClassId} {w : va_W} {Bp : State → Prop} {Z : Nat → Prop} {mc ms : Nat} {Qc : Array Value → State → Outcome → State → Prop} {free : Addr → Prop}
/-- 'throw new X("text")' in a method of the face without a table -/
theorem xthrow {c0 : Cond} {X text : String} {ic ik is : Nat} (hX : xOK X ic ik) (hXX : X = xI ∨ X = xA ∨ X = xS) (hexec : p.tables.exec = Jvm.exec) (hb : c.code = cc) (hl : l.stackTraces = false) (hts : ∀ w ∈ c0 :: wsL_law, w.before args s = true) (hown : s.vm.findClass RX11 = some m.cls) (hT : jTP Z s) (hS : va_S Z s.heap H locs) (hq : (is, text) ∈ xStr) (hsize : ls.size = c.maxLocals)
    (d0 : decode cc pc = .ok (.new ik, 3)) (d3 : decode cc (pc + 3) = .ok (.dup, 1)) (d4 : decode cc (pc + 4) = .ok (.ldc is, 2)) (d6 : decode cc (pc + 6) = .ok (.invokespecial ic, 3)) (d9 : decode cc (pc + 9) = .ok (.athrow, 1)) (htab : ∀ x ∈ c.exceptionTable.toList, False)
    (hRframes : 5 < R.frames) (hRlocals : (rest.map fun v => v.category).sum + 82 ≤ R.locals) (hRcells : cells + 1 ≤ R.cells) (hRslots : slots + 6 ≤ R.slots) (hlocks : meth.locks = false) {px : Prop} (hpx : px) {B : String → Prop} (hB : B X) (hE : ∀ q, jE s.heap.size q → Z q) (hS9 : va_S (jE s.heap.size) s.heap H locs) (hc : cells + 1 ≤ mc) (hs : slots + 6 ≤ ms) (hf : ∀ q, jE s.heap.size q → free q) :
    W p l e R s m args below meth c H locs cells slots (vx_MQ below Qc (vx_X (fun _ : Unit => px) (fun E _ _ => B E) (jE s.heap.size)) args s mc ms free) (F0 m pc ls rest) := by
  obtain ⟨h1, h2, h3, h4, h5, h6⟩ := hX
  obtain ⟨sa, hstr⟩ := hT.2.2 (is, text) hq
  refine vx_throwS (names := xNs) (A := Z) hexec hb hl hown h1 (fun n hn => ?_) (jw hts h2) (jw hts h3) hstr (vx_hat (fun w hw => jw hts (h4 w hw)) h5 (fun w hw => ?_)) h6 hT.1.1 hT.1.2 hS hsize d0 d3 d4 d6 d9 (fun x hx => (htab x hx).elim) hRframes hRlocals hRcells hRslots hlocks (fun t ha hz hk => ⟨(), hpx, hB, Nat.le_trans hS9.1 hz, fun q hq hn => (hk q (Nat.lt_of_lt_of_le hq hS9.1)).trans (hS9.2.1 q hq hn)⟩) (fun z hz => hf _ (hS9.2.2 z hz)) hc hs
  · simp only [xNs, List.mem_cons, List.not_mem_nil, or_false] at hn
    rcases hn with rfl | rfl <;> decide +kernel
  · simp only [xB, List.mem_cons, List.not_mem_nil, or_false] at hw
    rcases hw with rfl | rfl | rfl | rfl
    · exact va_Nw.use rfl (hT.2.1.1 X hXX)
    · exact va_Nw.use rfl hT.2.1.2.1
    · exact va_Nw.use rfl hT.2.1.2.2.1
    · exact va_Nw.use rfl hT.2.1.2.2.2
theorem xthroww {c0 : Cond} {X text : String} {ic ik is : Nat} (hX : xOK X ic ik) (hXX : X = xI ∨ X = xA ∨ X = xS) (hexec : p.tables.exec = Jvm.exec) (hb : c.code = cc) (hl : l.stackTraces = false) (hts : ∀ w ∈ c0 :: wsL_law, w.before args s = true) (hown : s.vm.findClass RX11 = some m.cls) (hT : jTP Z s) (hS : va_S Z s.heap H locs) (hq : (is, text) ∈ xStr) (hsize : ls.size = c.maxLocals)
    (d0 : decode cc pc = .ok (.new ik, 3)) (d3 : decode cc (pc + 3) = .ok (.dup, 1)) (d4 : decode cc (pc + 4) = .ok (.ldc_w is, 3)) (d7 : decode cc (pc + 7) = .ok (.invokespecial ic, 3)) (d10 : decode cc (pc + 10) = .ok (.athrow, 1)) (htab : ∀ x ∈ c.exceptionTable.toList, False)
    (hRframes : 5 < R.frames) (hRlocals : (rest.map fun v => v.category).sum + 82 ≤ R.locals) (hRcells : cells + 1 ≤ R.cells) (hRslots : slots + 6 ≤ R.slots) (hlocks : meth.locks = false) {px : Prop} (hpx : px) {B : String → Prop} (hB : B X) (hE : ∀ q, jE s.heap.size q → Z q) (hS9 : va_S (jE s.heap.size) s.heap H locs) (hc : cells + 1 ≤ mc) (hs : slots + 6 ≤ ms) (hf : ∀ q, jE s.heap.size q → free q) :
    W p l e R s m args below meth c H locs cells slots (vx_MQ below Qc (vx_X (fun _ : Unit => px) (fun E _ _ => B E) (jE s.heap.size)) args s mc ms free) (F0 m pc ls rest) := by
  obtain ⟨h1, h2, h3, h4, h5, h6⟩ := hX
  obtain ⟨sa, hstr⟩ := hT.2.2 (is, text) hq
  refine vx_throwSW (names := xNs) (A := Z) hexec hb hl hown h1 (fun n hn => ?_) (jw hts h2) (jw hts h3) hstr (vx_hat (fun w hw => jw hts (h4 w hw)) h5 (fun w hw => ?_)) h6 hT.1.1 hT.1.2 hS hsize d0 d3 d4 d7 d10 (fun x hx => (htab x hx).elim) hRframes hRlocals hRcells hRslots hlocks (fun t ha hz hk => ⟨(), hpx, hB, Nat.le_trans hS9.1 hz, fun q hq hn => (hk q (Nat.lt_of_lt_of_le hq hS9.1)).trans (hS9.2.1 q hq hn)⟩) (fun z hz => hf _ (hS9.2.2 z hz)) hc hs
  · simp only [xNs, List.mem_cons, List.not_mem_nil, or_false] at hn
    rcases hn with rfl | rfl <;> decide +kernel
  · simp only [xB, List.mem_cons, List.not_mem_nil, or_false] at hw
    rcases hw with rfl | rfl | rfl | rfl
    · exact va_Nw.use rfl (hT.2.1.1 X hXX)
    · exact va_Nw.use rfl hT.2.1.2.1
    · exact va_Nw.use rfl hT.2.1.2.2.1
    · exact va_Nw.use rfl hT.2.1.2.2.2
/-- a check that is called: it comes back, or throws by its number -/
theorem xc_v {g : Nat} (S : CallFix p m c cc nL s args Ts own) (hM : vx_Met l y ws rm (va_Pc (Value.ref b :: As) (jV D yy w H.size)) (va_Qv (fun _ : Unit => g = 0) (fun _ _ => True) (jE H.size)) (vx_X (fun _ : Unit => True) (fun E _ _ => g ≠ 0 ∧ E = xN g) (jE H.size)) mc ms (jE H.size)) (cw : CallW R s args own C index y bytes maxL ret ws rm mc ms n) (hP : va_P D vwCl w H) (hK : va_K D vwCl (jT yy) s) (hT : jTP Z s) (hS : va_S Z s.heap H locs) (hA : ∀ q, s.heap.size ≤ q → Z q) (hS9 : va_S (jE s.heap.size) s.heap H locs) (hv : ∃ cell : Cell, H[b]? = some cell ∧ cell.vm.isStatics = false ∧ s.vm.findClass C = some cell.cls) (hn : As.length = n) (hsz : ls.size = nL) (hst : st0 = As.reverse ++ .ref b :: rest) (hroom : (rest.map fun v => v.category).sum ≤ 8) (hdg : decode cc pc = .ok (.invokevirtual index, 3)) (hf : cells + mc ≤ R.cells ∧ slots + ms ≤ R.slots)
    (kx : ∀ (E : String) (ce : Cell) (q9 : Addr) (H1 : Heap) (locs1 : List Loc), ¬ g = 0 → E = xN g → va_S (jE s.heap.size) s.heap H1 locs1 → H1[q9]? = some ce → ce.vm = .none → s.vm.findClass E = some ce.cls → vx_W p l e R s m args below meth c H1 locs1 (cells + mc) (slots + ms) Q (F0 m pc ls rest) q9)
    (kk : ∀ (H1 : Heap) (locs1 : List Loc), g = 0 → (∀ (ws1 : va_W), va_P D vwCl ws1 H → va_P D vwCl ws1 H1) → va_S (jE s.heap.size) s.heap H1 locs1 → W p l e R s m args below meth c H1 locs1 (cells + mc) (slots + ms) Q (F0 m (pc + 3) ls rest)) : W p l e R s m args below meth c H locs cells slots Q (F0 m pc ls st0) := by
  refine vx_callv (vx_runV S hM cw ⟨jV_blind, hv, fun U hU hW => ⟨rfl, ⟨by rw [hU], by rw [hU]; exact hP, va_K.moved hW.alike hK⟩, hT.go hS (jE.go hS hA) hU hW⟩⟩ rfl hn hsz hst (lv_room hroom) hdg hf) hS9 (fun q h1 h2 => absurd h2 (Nat.not_le.mpr h1)) (fun q h => Nat.le_trans hS9.1 h) (fun q h1 h2 => absurd h2 (Nat.not_le.mpr h1)) (fun E ce q9 u t H1 locs1 ht hvm hpx hb hz hk hS1 h1 h2 h3 => kx E ce q9 H1 locs1 hb.1 hb.2 hS1 h1 h2 h3) (fun u t H1 locs1 ht hvm hp hB hz hk hS1 => kk H1 locs1 hp (fun ws1 h => h.kept (fun k q hq => hk q.1 (h k q hq).lt (Nat.not_le.mpr (h k q hq).lt))) hS1)
/-- one that answers an object of a pool -/
theorem xc_q {B : Nat → Nat} {off : Nat} {g : Option Nat} (S : CallFix p m c cc nL s args Ts own) (hM : vx_Met l y ws rm (va_Pc (Value.ref b :: As) (jV D yy w H.size)) (va_Qq (fun r (_ : Unit) => ∃ k, g = some k ∧ r = some (B (off + k))) (fun _ _ => True) (jE H.size)) (vx_X (fun _ : Unit => True) (fun E _ _ => g = none ∧ E = xI) (jE H.size)) mc ms (jE H.size)) (cw : CallW R s args own C index y bytes maxL ret ws rm mc ms n) (hP : va_P D vwCl w H) (hK : va_K D vwCl (jT yy) s) (hT : jTP Z s) (hS : va_S Z s.heap H locs) (hA : ∀ q, s.heap.size ≤ q → Z q) (hS9 : va_S (jE s.heap.size) s.heap H locs) (hv : ∃ cell : Cell, H[b]? = some cell ∧ cell.vm.isStatics = false ∧ s.vm.findClass C = some cell.cls) (hn : As.length = n) (hsz : ls.size = nL) (hst : st0 = As.reverse ++ .ref b :: rest) (hroom : (rest.map fun v => v.category).sum ≤ 8) (hdg : decode cc pc = .ok (.invokevirtual index, 3)) (hf : cells + mc ≤ R.cells ∧ slots + ms ≤ R.slots)
    (kx : ∀ (E : String) (ce : Cell) (q9 : Addr) (H1 : Heap) (locs1 : List Loc), g = none → E = xI → va_S (jE s.heap.size) s.heap H1 locs1 → H1[q9]? = some ce → ce.vm = .none → s.vm.findClass E = some ce.cls → vx_W p l e R s m args below meth c H1 locs1 (cells + mc) (slots + ms) Q (F0 m pc ls rest) q9)
    (kk : ∀ (k : Nat) (H1 : Heap) (locs1 : List Loc), g = some k → (∀ (ws1 : va_W), va_P D vwCl ws1 H → va_P D vwCl ws1 H1) → va_S (jE s.heap.size) s.heap H1 locs1 → W p l e R s m args below meth c H1 locs1 (cells + mc) (slots + ms) Q (F0 m (pc + 3) ls (.ref (B (off + k)) :: rest))) : W p l e R s m args below meth c H locs cells slots Q (F0 m pc ls st0) := by
  intro T hT9 X
  have hrun := vx_runV S hM cw ⟨jV_blind, hv, fun U hU hW => ⟨rfl, ⟨by rw [hU], by rw [hU]; exact hP, va_K.moved hW.alike hK⟩, hT.go hS (jE.go hS hA) hU hW⟩⟩ (rfl : (F0 m pc ls st0).method = m) hn hsz hst (lv_room hroom) hdg hf T hT9 X
  rcases hrun with ⟨v, st₀, t, T', L, h0, X', hL, e1, e2, ⟨⟨r, u, hv9, ⟨k, hg, hr⟩, -⟩, hz, hk⟩, st⟩ | ⟨q, st₀, t, T', L, E, ce, h0, X', hL, e1, e2, ⟨u, -, ⟨hg, hE⟩, hz, hk⟩, h1, h2, h3, st⟩
  · cases hv9
    subst hr
    rw [h0] at hz hk
    have hS1 : va_S (jE s.heap.size) s.heap T'.heap (locs ++ L) := ⟨Nat.le_trans hS9.1 (by rw [e1]; exact hz), fun q h1 h2 => by rw [e1, hk q (Nat.lt_of_lt_of_le h1 hS9.1) (Nat.not_le.mpr (Nat.lt_of_lt_of_le h1 hS9.1))]; exact hS9.2.1 q h1 h2, fun q hq => by
      rcases List.mem_append.mp hq with h | h
      · exact hS9.2.2 q h
      · exact Nat.le_trans hS9.1 (hL q h)⟩
    obtain ⟨t2, a1, b1⟩ := kk k T'.heap (locs ++ L) hg (fun ws1 h => h.kept (fun j q hq => by rw [e1]; exact hk q.1 (h j q hq).lt (Nat.not_le.mpr (h j q hq).lt))) hS1 T' rfl X'
    exact ⟨t2, st t2 a1, b1⟩
  · rw [h0] at hz hk
    have hS1 : va_S (jE s.heap.size) s.heap T'.heap (locs ++ L) := ⟨Nat.le_trans hS9.1 (by rw [e1]; exact hz), fun q h1 h2 => by rw [e1, hk q (Nat.lt_of_lt_of_le h1 hS9.1) (Nat.not_le.mpr (Nat.lt_of_lt_of_le h1 hS9.1))]; exact hS9.2.1 q h1 h2, fun q hq => by
      rcases List.mem_append.mp hq with h | h
      · exact hS9.2.2 q h
      · exact Nat.le_trans hS9.1 (hL q h)⟩
    obtain ⟨t2, a1, b1⟩ := kx E ce q T'.heap (locs ++ L) hg hE hS1 (by rw [e1]; exact h1) h2 h3 T' rfl X'
    exact ⟨t2, st.trans a1, b1⟩
/-- it goes on to the caller -/
theorem xout {E : String} {ce : Cell} {q9 : Addr} {px : Prop} {B : String → Prop} (htab : ∀ x ∈ c.exceptionTable.toList, False) (hlocks : meth.locks = false) (hS9 : va_S (jE s.heap.size) s.heap H locs) (h1 : H[q9]? = some ce) (h2 : ce.vm = .none) (h3 : s.vm.findClass E = some ce.cls) (hpx : px) (hB : B E) (hc : cells ≤ mc) (hs : slots ≤ ms) (hf : ∀ q, jE s.heap.size q → free q) : vx_W p l e R s m args below meth c H locs cells slots (vx_MQ below Qc (vx_X (fun _ : Unit => px) (fun E _ _ => B E) (jE s.heap.size)) args s mc ms free) (F0 m pc ls rest) q9 :=
  vx_out (fun x hx => (htab x hx).elim) hlocks h1 h2 h3 (fun t ht _ => ⟨(), hpx, hB, by rw [ht]; exact hS9.1, fun q h4 h5 => by rw [ht]; exact hS9.2.1 q h4 h5⟩) (fun z hz => hf _ (hS9.2.2 z hz)) hc hs
end XW
