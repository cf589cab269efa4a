def nW (yy : Nat → ClassId) (h0 an b0 b2 : Nat) (M : jF) : va_W := [(h0, .inr (11, [.ref b0, .ref an, .int (M 80 0), .ref b2, .int (M 81 0)])), (an, .inl (yy 0, 3078, .inl (M 82)))]
section JY
variable {p : Program} {l : Launch} {e : Env} {R : Room} {s : State} {m : MethodId} {args : Array Value} {below : List Frame} {meth : Method} {c : Code} {H : Heap} {locs : List Loc} {cells slots : Nat} {Q : State → Prop} {pc : Nat} {ls : Array Slot} {rest st0 : List Value} {cc : ByteArray} {nL : Nat} {Ts : List Cond} {own C : String} {index : Nat} {y : MethodName} {bytes : ByteArray} {maxL : Nat} {ret : Option FieldType} {ws : List Cond} {rm : Room} {n : Nat} {As : List Value} {b : Addr} {D : va_G} {yy : Nat → ClassId} {S0 : Type} {w1 : S0 → va_W} {X Cw Y : va_W} {A0 : Nat → Prop} {H0 : Heap} {Bp : State → Prop} {mc ms : Nat}
theorem jy_i {post : Int32 → S0 → Prop} (S : CallFix p m c cc nL s args Ts own) (hM : Met l y ws rm (va_Pc (Value.ref b :: As) Bp) (va_Qi post (fun u t => jB D yy (va_A Cw H.size) (w1 u) t) (va_A Cw H.size)) mc ms (va_A Cw H.size)) (hfb : FrameBlind (va_Pc (Value.ref b :: As) Bp)) (hBp : ∀ U : State, U.heap = H → s.WarmedH U.vm → Bp U) (cw : CallW R s args own C index y bytes maxL ret ws rm mc ms n) (hV : va_P D vwCl (X ++ (Cw ++ Y)) H) (hK : va_K D vwCl (jT yy) s) (hD : va_D A0 (X ++ (Cw ++ Y))) (hS : va_S A0 H0 H locs) (hA : ∀ q, H0.size ≤ q → A0 q) (hv : ∃ cell : Cell, H[b]? = some cell ∧ cell.vm.isStatics = false ∧ s.vm.findClass C = some cell.cls) (hn : As.length = n) (hsz : ls.size = nL) (hst : st0 = As.reverse ++ .ref b :: rest) (hroom : (rest.map fun v => v.category).sum ≤ 8) (hdg : decode cc pc = .ok (.invokevirtual index, 3)) (hf : cells + mc ≤ R.cells ∧ slots + ms ≤ R.slots)
    (kk : ∀ (x : Int32) (u : S0) (H1 : Heap) (locs1 : List Loc), post x u → va_P D vwCl (X ++ (w1 u ++ Y)) H1 → va_D A0 (X ++ (w1 u ++ Y)) → va_S A0 H0 H1 locs1 → W p l e R s m args below meth c H1 locs1 (cells + mc) (slots + ms) Q (F0 m (pc + 3) ls (.int x :: rest))) : W p l e R s m args below meth c H locs cells slots Q (F0 m pc ls st0) := by
  have hF := jx_free hD hS hA
  refine va_calli (va_runV S hM cw ⟨hfb, hv, fun U hU hW => ⟨rfl, hBp U hU hW⟩⟩ rfl hn hsz hst (lv_room hroom) hdg hf) hS (fun q _ h => hF q h) hF (fun r u t H1 locs1 ht hvm hp hB _ hk hS1 => ?_)
  have hj := ja_mid hV hD hk hF (ht ▸ hB.1) hB.2.2
  exact kk r u H1 locs1 hp hj.1 hj.2 hS1
theorem jy_l {post : Int64 → S0 → Prop} (S : CallFix p m c cc nL s args Ts own) (hM : Met l y ws rm (va_Pc (Value.ref b :: As) Bp) (va_Ql post (fun u t => jB D yy (va_A Cw H.size) (w1 u) t) (va_A Cw H.size)) mc ms (va_A Cw H.size)) (hfb : FrameBlind (va_Pc (Value.ref b :: As) Bp)) (hBp : ∀ U : State, U.heap = H → s.WarmedH U.vm → Bp U) (cw : CallW R s args own C index y bytes maxL ret ws rm mc ms n) (hV : va_P D vwCl (X ++ (Cw ++ Y)) H) (hK : va_K D vwCl (jT yy) s) (hD : va_D A0 (X ++ (Cw ++ Y))) (hS : va_S A0 H0 H locs) (hA : ∀ q, H0.size ≤ q → A0 q) (hv : ∃ cell : Cell, H[b]? = some cell ∧ cell.vm.isStatics = false ∧ s.vm.findClass C = some cell.cls) (hn : As.length = n) (hsz : ls.size = nL) (hst : st0 = As.reverse ++ .ref b :: rest) (hroom : (rest.map fun v => v.category).sum ≤ 8) (hdg : decode cc pc = .ok (.invokevirtual index, 3)) (hf : cells + mc ≤ R.cells ∧ slots + ms ≤ R.slots)
    (kk : ∀ (x : Int64) (u : S0) (H1 : Heap) (locs1 : List Loc), post x u → va_P D vwCl (X ++ (w1 u ++ Y)) H1 → va_D A0 (X ++ (w1 u ++ Y)) → va_S A0 H0 H1 locs1 → W p l e R s m args below meth c H1 locs1 (cells + mc) (slots + ms) Q (F0 m (pc + 3) ls (.long x :: rest))) : W p l e R s m args below meth c H locs cells slots Q (F0 m pc ls st0) := by
  have hF := jx_free hD hS hA
  refine va_calll (va_runV S hM cw ⟨hfb, hv, fun U hU hW => ⟨rfl, hBp U hU hW⟩⟩ rfl hn hsz hst (lv_room hroom) hdg hf) hS (fun q _ h => hF q h) hF (fun r u t H1 locs1 ht hvm hp hB _ hk hS1 => ?_)
  have hj := ja_mid hV hD hk hF (ht ▸ hB.1) hB.2.2
  exact kk r u H1 locs1 hp hj.1 hj.2 hS1
end JY
def gX11_note (F : jF) (G : jG) (p1 : Int32) (p2 : Int32) (p3 : Int32) (p4 : Int32) (p5 : Int32) (p6 : Int32) : (Int32 × jS) := bv ((F 80 0) * 6) (fun x1 : Int32 => (if x1 < 0 then ((-1), (F, G)) else (if (x1 + 6) ≤ 3078 then bv (u2 F 82 (Int32.toNatClampNeg x1) p1) (fun F5 : jF => bv (u2 F5 82 (Int32.toNatClampNeg (x1 + 1)) p2) (fun F8 : jF => bv (u2 F8 82 (Int32.toNatClampNeg (x1 + 2)) p3) (fun F11 : jF => bv (u2 F11 82 (Int32.toNatClampNeg (x1 + 3)) p4) (fun F14 : jF => bv (u2 F14 82 (Int32.toNatClampNeg (x1 + 4)) p5) (fun F17 : jF => bv (u2 F17 82 (Int32.toNatClampNeg (x1 + 5)) p6) (fun F20 : jF => (if 512 ≤ (F20 80 0) then (x1, (F20, G)) else bv (u2 F20 80 0 ((F20 80 0) + 1)) (fun F23 : jF => (x1, (F23, G)))))))))) else ((-1), (F, G)))))
def okX11_note (F : jF) (G : jG) (p1 : Int32) (p2 : Int32) (p3 : Int32) (p4 : Int32) (p5 : Int32) (p6 : Int32) : Prop := bv ((F 80 0) * 6) (fun x1 : Int32 => ((x1 < 0 → True) ∧ (¬ x1 < 0 → (((x1 + 6) ≤ 3078 → (vp_in x1 3078 ∧ bv (u2 F 82 (Int32.toNatClampNeg x1) p1) (fun F5 : jF => (vp_in (x1 + 1) 3078 ∧ bv (u2 F5 82 (Int32.toNatClampNeg (x1 + 1)) p2) (fun F8 : jF => (vp_in (x1 + 2) 3078 ∧ bv (u2 F8 82 (Int32.toNatClampNeg (x1 + 2)) p3) (fun F11 : jF => (vp_in (x1 + 3) 3078 ∧ bv (u2 F11 82 (Int32.toNatClampNeg (x1 + 3)) p4) (fun F14 : jF => (vp_in (x1 + 4) 3078 ∧ bv (u2 F14 82 (Int32.toNatClampNeg (x1 + 4)) p5) (fun F17 : jF => (vp_in (x1 + 5) 3078)))))))))))) ∧ (¬ (x1 + 6) ≤ 3078 → True)))))
abbrev rmX11_note : Room := { frames := 0, cells := 0, slots := 0, locals := 0 }
set_option maxHeartbeats 4000000 in
set_option maxRecDepth 100000 in
theorem qX11_note (l : Launch) (D : va_G) (yy : Nat → ClassId) (h0 an b0 b2 : Nat) (F : jF) (G : jG) (sz : Nat) (p1 : Int32) (p2 : Int32) (p3 : Int32) (p4 : Int32) (p5 : Int32) (p6 : Int32) (hok : okX11_note F G p1 p2 p3 p4 p5 p6) : Met l yX11_note (Cond.code yX11_note cX11_note 8 (some .int) :: wsL_law) rmX11_note (va_Pc [.ref h0, .int p1, .int p2, .int p3, .int p4, .int p5, .int p6] (jP D yy (nW yy h0 an b0 b2 F) sz)) (va_Qi (fun r (u : jS) => (r, u) = gX11_note F G p1 p2 p3 p4 p5 p6) (fun (u : jS) t => jB D yy (va_A (nW yy h0 an b0 b2 F) sz) (nW yy h0 an b0 b2 u.1) t) (va_A (nW yy h0 an b0 b2 F) sz)) 0 0 (va_A (nW yy h0 an b0 b2 F) sz) := by
  generalize hres : gX11_note F G p1 p2 p3 p4 p5 p6 = RES
  refine jM (vs := [.ref h0, .int p1, .int p2, .int p3, .int p4, .int p5, .int p6]) (own := RX11) (by decide +kernel) rfl (Nat.le_of_ble_eq_true rfl) ?_
  intro p e s m args below meth c ls Q hQ hargs S hr hlk hinit hB hl
  obtain ⟨hx, hb, hml, hown, hts⟩ := S
  have hl : lv_has ls 8 [(0, .ref h0), (1, .int p1), (2, .int p2), (3, .int p3), (4, .int p4), (5, .int p5), (6, .int p6)] := hl
  obtain ⟨hsz, hP, hK, hD0⟩ := hB
  subst hsz
  have hD := hD0.self (sz := s.heap.size)
  generalize hZ : va_A (nW yy h0 an b0 b2 F) s.heap.size = Z at hD hQ
  have hA : ∀ q : Nat, s.heap.size ≤ q → Z q := fun q h => by rw [← hZ]; exact Or.inr h
  obtain ⟨H, hH⟩ : ∃ z, z = s.heap := ⟨_, rfl⟩
  obtain ⟨locs, hlocs⟩ : ∃ z : List Loc, z = [] := ⟨_, rfl⟩
  have hS : va_S Z s.heap H locs := by rw [hH, hlocs]; exact va_S.rf
  rw [← hH] at hP
  suffices hgo : W p l e rmX11_note s m args below meth c H locs 0 0 Q (F0 m 0 ls []) by rw [hH, hlocs] at hgo; exact hgo
  unfold gX11_note at hres
  unfold okX11_note at hok
  refine lv_aload_n hx hb (dd_of dX11_note_0 0 rfl) rfl (lv_at hl 0 rfl) ?_
  refine va_get (D := D) (cl := vwCl) (tys := jT yy) (ci := 11) (v := .int (F 80 0)) (C := RX11) (T := TX11) (N := 5) hx hb hts (fun w h => List.mem_cons_of_mem _ (inlX11 w h)) hown hK hP 0 rfl rfl 2 (by decide) (jw hts gw199) (fun _ h9 => h9) rfl (dd_of dX11_note_0 1 rfl) ?_
  refine lv_bipush (v := 6) hx hb (dd_of dX11_note_0 2 rfl) (by decide) ?_
  refine lv_imul hx hb (dd_of dX11_note_0 3 rfl) ?_
  refine lv_topi (fun x1 ex1 => ?_)
  replace hres := bvE ex1 hres
  replace hok := bvO ex1 hok
  refine lv_istore (lv' := [(7, .int x1), (0, .ref h0), (1, .int p1), (2, .int p2), (3, .int p3), (4, .int p4), (5, .int p5), (6, .int p6)]) hx hb (dd_of dX11_note_0 4 rfl) hl (by decide) rfl (fun ls hl => ?_)
  refine lv_iload hx hb (dd_of dX11_note_0 5 rfl) (lv_at hl 0 rfl) ?_
  refine lv_if_lt (tgt := 27) hx hb (dd_of dX11_note_0 6 rfl) (by decide) (fun c2 => ?_) (fun c2 => ?_)
  · replace hres := ifE c2 hres
    refine lv_iconst (v := (-1)) hx hb (dd_of dX11_note_0 14 rfl) (by decide) ?_
    subst hQ
    exact W.iret (v := (-1)) hx hb hr (fun t ht hW => ⟨⟨(-1), (F, G), rfl, hres, by rw [ht]; exact hP, va_K.moved hW.alike hK, hD⟩, hS.F ht⟩) hS.2.2 (dd_of dX11_note_0 15 rfl) hlk
  · replace hres := ifN c2 hres
    replace hok := hok.2 c2
    refine lv_iload hx hb (dd_of dX11_note_0 7 rfl) (lv_at hl 0 rfl) ?_
    refine lv_bipush (v := 6) hx hb (dd_of dX11_note_0 8 rfl) (by decide) ?_
    refine lv_iadd hx hb (dd_of dX11_note_0 9 rfl) ?_
    refine lv_aload_n hx hb (dd_of dX11_note_0 10 rfl) rfl (lv_at hl 1 rfl) ?_
    refine va_get (D := D) (cl := vwCl) (tys := jT yy) (ci := 11) (v := .ref an) (C := RX11) (T := TX11) (N := 5) hx hb hts (fun w h => List.mem_cons_of_mem _ (inlX11 w h)) hown hK hP 0 rfl rfl 1 (by decide) (jw hts gw18) (fun _ h9 => h9) rfl (dd_of dX11_note_0 11 rfl) ?_
    refine va_alen (v := 3078) hx hb hK hP 1 0 rfl rfl rfl (dd_of dX11_note_0 12 rfl) ?_
    refine lv_icmp_le (tgt := 29) hx hb (dd_of dX11_note_0 13 rfl) (by decide) (fun c3 => ?_) (fun c3 => ?_)
    · replace hres := ifE c3 hres
      replace hok := hok.1 c3
      refine lv_aload_n hx hb (dd_of dX11_note_0 16 rfl) rfl (lv_at hl 1 rfl) ?_
      refine va_get (D := D) (cl := vwCl) (tys := jT yy) (ci := 11) (v := .ref an) (C := RX11) (T := TX11) (N := 5) hx hb hts (fun w h => List.mem_cons_of_mem _ (inlX11 w h)) hown hK hP 0 rfl rfl 1 (by decide) (jw hts gw18) (fun _ h9 => h9) rfl (dd_of dX11_note_0 17 rfl) ?_
      refine lv_iload hx hb (dd_of dX11_note_0 18 rfl) (lv_at hl 0 rfl) ?_
      refine lv_iload_n hx hb (dd_of dX11_note_0 19 rfl) rfl (lv_at hl 2 rfl) ?_
      have h4 := hok.1
      replace hok := hok.2
      refine va_iast hx hb hK hP hD hS 1 0 rfl rfl h4 (dd_of dX11_note_0 20 rfl) (fun H locs hP hD hS => ?_)
      obtain ⟨F5, e6⟩ : ∃ z : jF, z = u2 F 82 (Int32.toNatClampNeg x1) p1 := ⟨_, rfl⟩
      have hP : va_P D vwCl (nW yy h0 an b0 b2 F5) H := by rw [e6]; exact hP
      have hD : va_D Z (nW yy h0 an b0 b2 F5) := by rw [e6]; exact hD
      replace hres := bvE e6 hres
      replace hok := bvO e6 hok
      refine lv_aload_n hx hb (dd_of dX11_note_0 21 rfl) rfl (lv_at hl 1 rfl) ?_
      refine va_get (D := D) (cl := vwCl) (tys := jT yy) (ci := 11) (v := .ref an) (C := RX11) (T := TX11) (N := 5) hx hb hts (fun w h => List.mem_cons_of_mem _ (inlX11 w h)) hown hK hP 0 rfl rfl 1 (by decide) (jw hts gw18) (fun _ h9 => h9) rfl (dd_of dX11_note_0 22 rfl) ?_
      refine lv_iload hx hb (dd_of dX11_note_0 23 rfl) (lv_at hl 0 rfl) ?_
      refine lv_iconst (v := 1) hx hb (dd_of dX11_note_0 24 rfl) (by decide) ?_
      refine lv_iadd hx hb (dd_of dX11_note_0 25 rfl) ?_
      refine lv_iload_n hx hb (dd_of dX11_note_0 26 rfl) rfl (lv_at hl 3 rfl) ?_
      have h7 := hok.1
      replace hok := hok.2
      refine va_iast hx hb hK hP hD hS 1 0 rfl rfl h7 (dd_of dX11_note_0 27 rfl) (fun H locs hP hD hS => ?_)
      obtain ⟨F8, e9⟩ : ∃ z : jF, z = u2 F5 82 (Int32.toNatClampNeg (x1 + 1)) p2 := ⟨_, rfl⟩
      have hP : va_P D vwCl (nW yy h0 an b0 b2 F8) H := by rw [e9]; exact hP
      have hD : va_D Z (nW yy h0 an b0 b2 F8) := by rw [e9]; exact hD
      replace hres := bvE e9 hres
      replace hok := bvO e9 hok
      refine lv_aload_n hx hb (dd_of dX11_note_0 28 rfl) rfl (lv_at hl 1 rfl) ?_
      refine va_get (D := D) (cl := vwCl) (tys := jT yy) (ci := 11) (v := .ref an) (C := RX11) (T := TX11) (N := 5) hx hb hts (fun w h => List.mem_cons_of_mem _ (inlX11 w h)) hown hK hP 0 rfl rfl 1 (by decide) (jw hts gw18) (fun _ h9 => h9) rfl (dd_of dX11_note_0 29 rfl) ?_
      refine lv_iload hx hb (dd_of dX11_note_0 30 rfl) (lv_at hl 0 rfl) ?_
      refine lv_iconst (v := 2) hx hb (dd_of dX11_note_0 31 rfl) (by decide) ?_
      refine lv_iadd hx hb (dd_of dX11_note_0 32 rfl) ?_
      refine lv_iload_n hx hb (dd_of dX11_note_0 33 rfl) rfl (lv_at hl 4 rfl) ?_
      have h10 := hok.1
      replace hok := hok.2
      refine va_iast hx hb hK hP hD hS 1 0 rfl rfl h10 (dd_of dX11_note_0 34 rfl) (fun H locs hP hD hS => ?_)
      obtain ⟨F11, e12⟩ : ∃ z : jF, z = u2 F8 82 (Int32.toNatClampNeg (x1 + 2)) p3 := ⟨_, rfl⟩
      have hP : va_P D vwCl (nW yy h0 an b0 b2 F11) H := by rw [e12]; exact hP
      have hD : va_D Z (nW yy h0 an b0 b2 F11) := by rw [e12]; exact hD
      replace hres := bvE e12 hres
      replace hok := bvO e12 hok
      refine lv_aload_n hx hb (dd_of dX11_note_0 35 rfl) rfl (lv_at hl 1 rfl) ?_
      refine va_get (D := D) (cl := vwCl) (tys := jT yy) (ci := 11) (v := .ref an) (C := RX11) (T := TX11) (N := 5) hx hb hts (fun w h => List.mem_cons_of_mem _ (inlX11 w h)) hown hK hP 0 rfl rfl 1 (by decide) (jw hts gw18) (fun _ h9 => h9) rfl (dd_of dX11_note_0 36 rfl) ?_
      refine lv_iload hx hb (dd_of dX11_note_0 37 rfl) (lv_at hl 0 rfl) ?_
      refine lv_iconst (v := 3) hx hb (dd_of dX11_note_0 38 rfl) (by decide) ?_
      refine lv_iadd hx hb (dd_of dX11_note_0 39 rfl) ?_
      refine lv_iload hx hb (dd_of dX11_note_1 0 rfl) (lv_at hl 5 rfl) ?_
      have h13 := hok.1
      replace hok := hok.2
      refine va_iast hx hb hK hP hD hS 1 0 rfl rfl h13 (dd_of dX11_note_1 1 rfl) (fun H locs hP hD hS => ?_)
      obtain ⟨F14, e15⟩ : ∃ z : jF, z = u2 F11 82 (Int32.toNatClampNeg (x1 + 3)) p4 := ⟨_, rfl⟩
      have hP : va_P D vwCl (nW yy h0 an b0 b2 F14) H := by rw [e15]; exact hP
      have hD : va_D Z (nW yy h0 an b0 b2 F14) := by rw [e15]; exact hD
      replace hres := bvE e15 hres
      replace hok := bvO e15 hok
      refine lv_aload_n hx hb (dd_of dX11_note_1 2 rfl) rfl (lv_at hl 1 rfl) ?_
      refine va_get (D := D) (cl := vwCl) (tys := jT yy) (ci := 11) (v := .ref an) (C := RX11) (T := TX11) (N := 5) hx hb hts (fun w h => List.mem_cons_of_mem _ (inlX11 w h)) hown hK hP 0 rfl rfl 1 (by decide) (jw hts gw18) (fun _ h9 => h9) rfl (dd_of dX11_note_1 3 rfl) ?_
      refine lv_iload hx hb (dd_of dX11_note_1 4 rfl) (lv_at hl 0 rfl) ?_
      refine lv_iconst (v := 4) hx hb (dd_of dX11_note_1 5 rfl) (by decide) ?_
      refine lv_iadd hx hb (dd_of dX11_note_1 6 rfl) ?_
      refine lv_iload hx hb (dd_of dX11_note_1 7 rfl) (lv_at hl 6 rfl) ?_
      have h16 := hok.1
      replace hok := hok.2
      refine va_iast hx hb hK hP hD hS 1 0 rfl rfl h16 (dd_of dX11_note_1 8 rfl) (fun H locs hP hD hS => ?_)
      obtain ⟨F17, e18⟩ : ∃ z : jF, z = u2 F14 82 (Int32.toNatClampNeg (x1 + 4)) p5 := ⟨_, rfl⟩
      have hP : va_P D vwCl (nW yy h0 an b0 b2 F17) H := by rw [e18]; exact hP
      have hD : va_D Z (nW yy h0 an b0 b2 F17) := by rw [e18]; exact hD
      replace hres := bvE e18 hres
      replace hok := bvO e18 hok
      refine lv_aload_n hx hb (dd_of dX11_note_1 9 rfl) rfl (lv_at hl 1 rfl) ?_
      refine va_get (D := D) (cl := vwCl) (tys := jT yy) (ci := 11) (v := .ref an) (C := RX11) (T := TX11) (N := 5) hx hb hts (fun w h => List.mem_cons_of_mem _ (inlX11 w h)) hown hK hP 0 rfl rfl 1 (by decide) (jw hts gw18) (fun _ h9 => h9) rfl (dd_of dX11_note_1 10 rfl) ?_
      refine lv_iload hx hb (dd_of dX11_note_1 11 rfl) (lv_at hl 0 rfl) ?_
      refine lv_iconst (v := 5) hx hb (dd_of dX11_note_1 12 rfl) (by decide) ?_
      refine lv_iadd hx hb (dd_of dX11_note_1 13 rfl) ?_
      refine lv_iload hx hb (dd_of dX11_note_1 14 rfl) (lv_at hl 7 rfl) ?_
      have h19 := hok
      refine va_iast hx hb hK hP hD hS 1 0 rfl rfl h19 (dd_of dX11_note_1 15 rfl) (fun H locs hP hD hS => ?_)
      obtain ⟨F20, e21⟩ : ∃ z : jF, z = u2 F17 82 (Int32.toNatClampNeg (x1 + 5)) p6 := ⟨_, rfl⟩
      have hP : va_P D vwCl (nW yy h0 an b0 b2 F20) H := by rw [e21]; exact hP
      have hD : va_D Z (nW yy h0 an b0 b2 F20) := by rw [e21]; exact hD
      replace hres := bvE e21 hres
      refine lv_aload_n hx hb (dd_of dX11_note_1 16 rfl) rfl (lv_at hl 1 rfl) ?_
      refine va_get (D := D) (cl := vwCl) (tys := jT yy) (ci := 11) (v := .int (F20 80 0)) (C := RX11) (T := TX11) (N := 5) hx hb hts (fun w h => List.mem_cons_of_mem _ (inlX11 w h)) hown hK hP 0 rfl rfl 2 (by decide) (jw hts gw199) (fun _ h9 => h9) rfl (dd_of dX11_note_1 17 rfl) ?_
      refine lv_sipush (v := 512) hx hb (dd_of dX11_note_1 18 rfl) (by decide) ?_
      refine lv_icmp_ge (tgt := 110) hx hb (dd_of dX11_note_1 19 rfl) (by decide) (fun c22 => ?_) (fun c22 => ?_)
      · replace hres := ifE c22 hres
        refine lv_iload hx hb (dd_of dX11_note_1 26 rfl) (lv_at hl 0 rfl) ?_
        subst hQ
        exact W.iret (v := x1) hx hb hr (fun t ht hW => ⟨⟨x1, (F20, G), rfl, hres, by rw [ht]; exact hP, va_K.moved hW.alike hK, hD⟩, hS.F ht⟩) hS.2.2 (dd_of dX11_note_1 27 rfl) hlk
      · replace hres := ifN c22 hres
        refine lv_aload_n hx hb (dd_of dX11_note_1 20 rfl) rfl (lv_at hl 1 rfl) ?_
        refine lv_dup hx hb (dd_of dX11_note_1 21 rfl) rfl ?_
        refine va_get (D := D) (cl := vwCl) (tys := jT yy) (ci := 11) (v := .int (F20 80 0)) (C := RX11) (T := TX11) (N := 5) hx hb hts (fun w h => List.mem_cons_of_mem _ (inlX11 w h)) hown hK hP 0 rfl rfl 2 (by decide) (jw hts gw199) (fun _ h9 => h9) rfl (dd_of dX11_note_1 22 rfl) ?_
        refine lv_iconst (v := 1) hx hb (dd_of dX11_note_1 23 rfl) (by decide) ?_
        refine lv_iadd hx hb (dd_of dX11_note_1 24 rfl) ?_
        refine va_put (D := D) (cl := vwCl) (tys := jT yy) (ci := 11) (v := .int ((F20 80 0) + 1)) (ty := .int) (C := RX11) (T := TX11) (N := 5) hx hb hts (fun w h => List.mem_cons_of_mem _ (inlX11 w h)) tyX11 tyX11_ok nmX11 hown hK hP hD hS 0 rfl rfl 2 (by decide) (jw hts gw199) (fun _ h9 => h9) rfl (by decide +kernel) rfl rfl (Nat.le_of_ble_eq_true rfl) (dd_of dX11_note_1 25 rfl) (fun H locs hP hD hS => ?_)
        obtain ⟨F23, e24⟩ : ∃ z : jF, z = u2 F20 80 0 ((F20 80 0) + 1) := ⟨_, rfl⟩
        have hP : va_P D vwCl (nW yy h0 an b0 b2 F23) H := by rw [e24]; exact hP
        have hD : va_D Z (nW yy h0 an b0 b2 F23) := by rw [e24]; exact hD
        replace hres := bvE e24 hres
        refine lv_iload hx hb (dd_of dX11_note_1 26 rfl) (lv_at hl 0 rfl) ?_
        subst hQ
        exact W.iret (v := x1) hx hb hr (fun t ht hW => ⟨⟨x1, (F23, G), rfl, hres, by rw [ht]; exact hP, va_K.moved hW.alike hK, hD⟩, hS.F ht⟩) hS.2.2 (dd_of dX11_note_1 27 rfl) hlk
    · replace hres := ifN c3 hres
      refine lv_iconst (v := (-1)) hx hb (dd_of dX11_note_0 14 rfl) (by decide) ?_
      subst hQ
      exact W.iret (v := (-1)) hx hb hr (fun t ht hW => ⟨⟨(-1), (F, G), rfl, hres, by rw [ht]; exact hP, va_K.moved hW.alike hK, hD⟩, hS.F ht⟩) hS.2.2 (dd_of dX11_note_0 15 rfl) hlk
