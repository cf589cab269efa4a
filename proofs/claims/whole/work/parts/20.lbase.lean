-- the law's own world: the cell for answers, the class's things, the reference's, the script
theorem jgW {c0 : Cond} {idx : Nat} {y : MethodName} {b : ByteArray} {n : Nat} {r : Option FieldType} {hh : List (Nat × Nat × Nat × Nat)} (h1 : Cond.methodLink RL idx y ∈ wsL_law) (h2 : Cond.static y ∈ wsL_law) (h4 : Cond.initialized y.cls ∈ wsL_law) (h5 : Cond.codeWith y b n r hh ∈ wsL_law) : GoodIn (c0 :: wsL_law) (va_wsS RL idx y (Cond.codeWith y b n r hh :: wsL_law)) := by
  intro w hw
  unfold va_wsS at hw
  simp only [List.cons_append, List.nil_append, List.mem_cons] at hw
  rcases hw with rfl | rfl | rfl | rfl | hw
  · exact gw_in h1
  · exact gw_in h2
  · exact gw_in h4
  · exact gw_in h5
  · exact gw_in hw
abbrev kW (yy : Nat → ClassId) (oa : Nat) (O : Nat → Int64) (P M : va_W) (sa L : Nat) (xs : Nat → Int32) : va_W := wW yy oa O P (M ++ [])
section KX
variable {p : Program} {l : Launch} {e : Env} {R : Room} {s : State} {m : MethodId} {args : Array Value} {below : List Frame} {meth : Method} {c : Code} {H : Heap} {locs : List Loc} {cells slots : Nat} {Q : State → Prop} {pc : Nat} {ls : Array Slot} {rest st0 : List Value} {cc : ByteArray} {nL : Nat} {Ts : List Cond} {own C : String} {index : Nat} {y : MethodName} {bytes : ByteArray} {maxL : Nat} {ret : Option FieldType} {ws : List Cond} {rm : Room} {n : Nat} {As : List Value} {b : Addr} {D : va_G} {yy : Nat → ClassId} {S0 : Type} {w1 : S0 → va_W} {P M : va_W} {oa sa L : Nat} {O : Nat → Int64} {xs : Nat → Int32} {Z : Nat → Prop} {mc ms : Nat} {hh : List (Nat × Nat × Nat × Nat)}
theorem kW_O {Y : va_W} (hV : va_P D vwCl (wW yy oa O P Y) H) : va_P D vwCl [(oa, .inl (yy 1, 1, .inr (.inl O)))] H := fun k q hk => hV k q (ap_getl hk)
theorem kW_M (hV : va_P D vwCl (kW yy oa O P M sa L xs) H) : va_P D vwCl M H := fun k q hk => hV _ q (ap_get (X := [(oa, .inl (yy 1, 1, .inr (.inl O)))]) (ap_get (X := P) (ap_getl hk)))
theorem kW_DM (hD : va_D Z (kW yy oa O P M sa L xs)) : va_D (fun _ => True) M := ⟨fun i j p q hi hj e => by have := hD.1 _ _ p q (ap_get (X := [(oa, .inl (yy 1, 1, .inr (.inl O)))]) (ap_get (X := P) (ap_getl hi))) (ap_get (X := [(oa, .inl (yy 1, 1, .inr (.inl O)))]) (ap_get (X := P) (ap_getl hj))) e; omega, fun _ _ _ => trivial⟩
theorem kW_m : kW yy oa O P M sa L xs = ([(oa, .inl (yy 1, 1, .inr (.inl O)))] ++ P) ++ (M ++ []) := by
  unfold kW wW
  rw [List.append_assoc]
/-- a method of the law that catches, called -/
theorem js_i {w : va_W} {post : Int32 → S0 → Prop} (S : CallFix p m c cc nL s args Ts own) (hM : Met l y ws rm (va_Pc As (jZ D yy w H.size)) (va_Qi post (fun u t => jB D yy (va_A w H.size) (w1 u) t) (va_A w H.size)) mc ms (va_A w H.size)) (cw : vx_CSW R s args own index y bytes maxL ret hh ws rm mc ms n) (hV : va_P D vwCl w H) (hK : va_K D vwCl (jT yy) s) (hT : jTP Z s) (hN : jNc s) (hD : va_D Z w) (hS : va_S Z s.heap H locs) (hA : ∀ q, s.heap.size ≤ q → Z q) (hn : As.length = n) (hsz : ls.size = nL) (hst : st0 = As.reverse ++ rest) (hroom : (rest.map fun v => v.category).sum ≤ 8) (hdg : decode cc pc = .ok (.invokestatic index, 3)) (hf : cells + mc ≤ R.cells ∧ slots + ms ≤ R.slots)
    (kk : ∀ (x : Int32) (u : S0) (H1 : Heap) (locs1 : List Loc), post x u → va_P D vwCl (w1 u) H1 → va_D Z (w1 u) → va_S Z s.heap H1 locs1 → W p l e R s m args below meth c H1 locs1 (cells + mc) (slots + ms) Q (F0 m (pc + 3) ls (.int x :: rest))) : W p l e R s m args below meth c H locs cells slots Q (F0 m pc ls st0) := by
  have hF := jm_free hD hS hA
  exact va_calli (vx_runSW S hM cw ⟨jZ_blind, fun U hU hW => ⟨rfl, ⟨⟨by rw [hU], by rw [hU]; exact hV, va_K.moved hW.alike hK, hD.weaken (fun _ _ _ _ => trivial)⟩, hT.go hS hF hU hW⟩, hN.moved hW.alike⟩⟩ rfl hn hsz hst (lv_room hroom) hdg hf) hS (fun q _ h => hF q h) hF (fun r u t H1 locs1 ht hvm hp hB _ _ hS1 => kk r u H1 locs1 hp (ht ▸ hB.1) (hB.2.2.weaken (fun _ q _ h => hF q.1 h)) hS1)
/-- a call of the reference that changes it -/
theorem jt_i {post : Int32 → S0 → Prop} (S : CallFix p m c cc nL s args Ts own) (hM : Met l y ws rm (va_Pc (Value.ref b :: As) (jP D yy M H.size)) (va_Qi post (fun u t => jB D yy (va_A M H.size) (w1 u) t) (va_A M H.size)) mc ms (va_A M H.size)) (cw : CallW R s args own C index y bytes maxL ret ws rm mc ms n) (hV : va_P D vwCl (kW yy oa O P M sa L xs) H) (hK : va_K D vwCl (jT yy) s) (hD : va_D Z (kW yy oa O P M sa L xs)) (hS : va_S Z s.heap H locs) (hA : ∀ q, s.heap.size ≤ q → Z q) (hv : ∃ cell : Cell, H[b]? = some cell ∧ cell.vm.isStatics = false ∧ s.vm.findClass C = some cell.cls) (hn : As.length = n) (hsz : ls.size = nL) (hst : st0 = As.reverse ++ .ref b :: rest) (hroom : (rest.map fun v => v.category).sum ≤ 8) (hdg : decode cc pc = .ok (.invokevirtual index, 3)) (hf : cells + mc ≤ R.cells ∧ slots + ms ≤ R.slots)
    (kk : ∀ (x : Int32) (u : S0) (H1 : Heap) (locs1 : List Loc), post x u → va_P D vwCl (kW yy oa O P (w1 u) sa L xs) H1 → va_D Z (kW yy oa O P (w1 u) sa L xs) → va_S Z s.heap H1 locs1 → W p l e R s m args below meth c H1 locs1 (cells + mc) (slots + ms) Q (F0 m (pc + 3) ls (.int x :: rest))) : W p l e R s m args below meth c H locs cells slots Q (F0 m pc ls st0) := by
  have hP := kW_M hV
  have hDM := kW_DM hD
  rw [kW_m] at hV hD
  have hF := jx_free hD hS hA
  refine va_calli (va_runV S hM cw ⟨jP_blind, hv, fun U hU hW => ⟨rfl, by rw [hU], by rw [hU]; exact hP, va_K.moved hW.alike hK, hDM⟩⟩ rfl hn hsz hst (lv_room hroom) hdg hf) hS (fun q _ h => hF q h) hF (fun r u t H1 locs1 ht hvm hp hB _ hk hS1 => ?_)
  have hj := ja_mid hV hD hk hF (ht ▸ hB.1) hB.2.2
  rw [← kW_m] at hj
  exact kk r u H1 locs1 hp hj.1 hj.2 hS1
/-- a call of the reference that changes it -/
theorem jt_l {post : Int64 → S0 → Prop} (S : CallFix p m c cc nL s args Ts own) (hM : Met l y ws rm (va_Pc (Value.ref b :: As) (jP D yy M H.size)) (va_Ql post (fun u t => jB D yy (va_A M H.size) (w1 u) t) (va_A M H.size)) mc ms (va_A M H.size)) (cw : CallW R s args own C index y bytes maxL ret ws rm mc ms n) (hV : va_P D vwCl (kW yy oa O P M sa L xs) H) (hK : va_K D vwCl (jT yy) s) (hD : va_D Z (kW yy oa O P M sa L xs)) (hS : va_S Z s.heap H locs) (hA : ∀ q, s.heap.size ≤ q → Z q) (hv : ∃ cell : Cell, H[b]? = some cell ∧ cell.vm.isStatics = false ∧ s.vm.findClass C = some cell.cls) (hn : As.length = n) (hsz : ls.size = nL) (hst : st0 = As.reverse ++ .ref b :: rest) (hroom : (rest.map fun v => v.category).sum ≤ 8) (hdg : decode cc pc = .ok (.invokevirtual index, 3)) (hf : cells + mc ≤ R.cells ∧ slots + ms ≤ R.slots)
    (kk : ∀ (x : Int64) (u : S0) (H1 : Heap) (locs1 : List Loc), post x u → va_P D vwCl (kW yy oa O P (w1 u) sa L xs) H1 → va_D Z (kW yy oa O P (w1 u) sa L xs) → va_S Z s.heap H1 locs1 → W p l e R s m args below meth c H1 locs1 (cells + mc) (slots + ms) Q (F0 m (pc + 3) ls (.long x :: rest))) : W p l e R s m args below meth c H locs cells slots Q (F0 m pc ls st0) := by
  have hP := kW_M hV
  have hDM := kW_DM hD
  rw [kW_m] at hV hD
  have hF := jx_free hD hS hA
  refine va_calll (va_runV S hM cw ⟨jP_blind, hv, fun U hU hW => ⟨rfl, by rw [hU], by rw [hU]; exact hP, va_K.moved hW.alike hK, hDM⟩⟩ rfl hn hsz hst (lv_room hroom) hdg hf) hS (fun q _ h => hF q h) hF (fun r u t H1 locs1 ht hvm hp hB _ hk hS1 => ?_)
  have hj := ja_mid hV hD hk hF (ht ▸ hB.1) hB.2.2
  rw [← kW_m] at hj
  exact kk r u H1 locs1 hp hj.1 hj.2 hS1
/-- a call of the reference that changes it -/
theorem jt_v {post : S0 → Prop} (S : CallFix p m c cc nL s args Ts own) (hM : Met l y ws rm (va_Pc (Value.ref b :: As) (jP D yy M H.size)) (va_Qv post (fun u t => jB D yy (va_A M H.size) (w1 u) t) (va_A M H.size)) mc ms (va_A M H.size)) (cw : CallW R s args own C index y bytes maxL ret ws rm mc ms n) (hV : va_P D vwCl (kW yy oa O P M sa L xs) H) (hK : va_K D vwCl (jT yy) s) (hD : va_D Z (kW yy oa O P M sa L xs)) (hS : va_S Z s.heap H locs) (hA : ∀ q, s.heap.size ≤ q → Z q) (hv : ∃ cell : Cell, H[b]? = some cell ∧ cell.vm.isStatics = false ∧ s.vm.findClass C = some cell.cls) (hn : As.length = n) (hsz : ls.size = nL) (hst : st0 = As.reverse ++ .ref b :: rest) (hroom : (rest.map fun v => v.category).sum ≤ 8) (hdg : decode cc pc = .ok (.invokevirtual index, 3)) (hf : cells + mc ≤ R.cells ∧ slots + ms ≤ R.slots)
    (kk : ∀ (u : S0) (H1 : Heap) (locs1 : List Loc), post u → va_P D vwCl (kW yy oa O P (w1 u) sa L xs) H1 → va_D Z (kW yy oa O P (w1 u) sa L xs) → va_S Z s.heap H1 locs1 → W p l e R s m args below meth c H1 locs1 (cells + mc) (slots + ms) Q (F0 m (pc + 3) ls (rest))) : W p l e R s m args below meth c H locs cells slots Q (F0 m pc ls st0) := by
  have hP := kW_M hV
  have hDM := kW_DM hD
  rw [kW_m] at hV hD
  have hF := jx_free hD hS hA
  refine va_callv (va_runV S hM cw ⟨jP_blind, hv, fun U hU hW => ⟨rfl, by rw [hU], by rw [hU]; exact hP, va_K.moved hW.alike hK, hDM⟩⟩ rfl hn hsz hst (lv_room hroom) hdg hf) hS (fun q _ h => hF q h) hF (fun u t H1 locs1 ht hvm hp hB _ hk hS1 => ?_)
  have hj := ja_mid hV hD hk hF (ht ▸ hB.1) hB.2.2
  rw [← kW_m] at hj
  exact kk u H1 locs1 hp hj.1 hj.2 hS1
end KX
