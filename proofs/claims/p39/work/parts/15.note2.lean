-- the face's world by its three pieces
theorem pV_n {yy : Nat → ClassId} {h0 an : Nat} {B B2 : Nat → Nat} {F : jF} {G : jG} {F2 : jF} {G2 : jG} {M : jF} : pV yy h0 an B B2 F G F2 G2 M = nW yy h0 an (B 0) (B2 0) M ++ (lW yy B F G ++ lW yy B2 F2 G2) := rfl
section JZ
variable {D : va_G} {yy : Nat → ClassId} {h0 an : Nat} {B B2 : Nat → Nat} {F : jF} {G : jG} {F2 : jF} {G2 : jG} {M : jF} {H : Heap} {A0 : Nat → Prop}
theorem pV_N (hV : va_P D vwCl (pV yy h0 an B B2 F G F2 G2 M) H) : va_P D vwCl (nW yy h0 an (B 0) (B2 0) M) H := by
  rw [pV_n] at hV
  exact fun k q hk => hV k q (ap_getl hk)
theorem pV_P (hV : va_P D vwCl (pV yy h0 an B B2 F G F2 G2 M) H) : va_P D vwCl (lW yy B F G) H := by
  rw [pV_n] at hV
  exact fun k q hk => hV _ q (ap_get (ap_getl hk))
theorem pV_P2 (hV : va_P D vwCl (pV yy h0 an B B2 F G F2 G2 M) H) : va_P D vwCl (lW yy B2 F2 G2) H := by
  rw [pV_n] at hV
  exact fun k q hk => hV _ q (ap_get (ap_get hk))
theorem pV_A (hV : va_P D vwCl (pV yy h0 an B B2 F G F2 G2 M) H) : va_P D vwCl [(an, .inl (yy 0, 3078, .inl (M 82)))] H := by
  have h := pV_N hV
  intro k q hk
  rcases k with _ | k
  · exact h 1 q hk
  · simp at hk
theorem pV_DN (hD : va_D A0 (pV yy h0 an B B2 F G F2 G2 M)) : va_D (fun _ => True) (nW yy h0 an (B 0) (B2 0) M) := by
  rw [pV_n] at hD
  exact ⟨fun i j p q hi hj e => hD.1 i j p q (ap_getl hi) (ap_getl hj) e, fun _ _ _ => trivial⟩
theorem pV_DP (hD : va_D A0 (pV yy h0 an B B2 F G F2 G2 M)) : va_D (fun _ => True) (lW yy B F G) := by
  rw [pV_n] at hD
  exact ⟨fun i j p q hi hj e => by have := hD.1 _ _ p q (ap_get (ap_getl hi)) (ap_get (ap_getl hj)) e; omega, fun _ _ _ => trivial⟩
theorem pV_DP2 (hD : va_D A0 (pV yy h0 an B B2 F G F2 G2 M)) : va_D (fun _ => True) (lW yy B2 F2 G2) := by
  rw [pV_n] at hD
  exact ⟨fun i j p q hi hj e => by have := hD.1 _ _ p q (ap_get (ap_get hi)) (ap_get (ap_get hj)) e; omega, fun _ _ _ => trivial⟩
variable {p : Program} {l : Launch} {e : Env} {R : Room} {s : State} {m : MethodId} {args : Array Value} {below : List Frame} {meth : Method} {c : Code} {locs : List Loc} {cells slots : Nat} {Q : State → Prop} {pc : Nat} {ls : Array Slot} {rest st0 : List Value} {cc : ByteArray} {nL : Nat} {Ts : List Cond} {own C : String} {index : Nat} {y : MethodName} {bytes : ByteArray} {maxL : Nat} {ret : Option FieldType} {ws : List Cond} {rm : Room} {n : Nat} {As : List Value} {b : Addr} {H0 : Heap} {mc ms : Nat}
/-- the call of note -/
theorem jz_i {post : Int32 → jS → Prop} (S : CallFix p m c cc nL s args Ts own) (hM : Met l y ws rm (va_Pc (Value.ref b :: As) (jP D yy (nW yy h0 an (B 0) (B2 0) M) H.size)) (va_Qi post (fun (u : jS) t => jB D yy (va_A (nW yy h0 an (B 0) (B2 0) M) H.size) (nW yy h0 an (B 0) (B2 0) u.1) t) (va_A (nW yy h0 an (B 0) (B2 0) M) H.size)) mc ms (va_A (nW yy h0 an (B 0) (B2 0) M) H.size)) (cw : CallW R s args own C index y bytes maxL ret ws rm mc ms n) (hV : va_P D vwCl (pV yy h0 an B B2 F G F2 G2 M) H) (hK : va_K D vwCl (jT yy) s) (hD : va_D A0 (pV yy h0 an B B2 F G F2 G2 M)) (hS : va_S A0 H0 H locs) (hA : ∀ q, H0.size ≤ q → A0 q) (hv : ∃ cell : Cell, H[b]? = some cell ∧ cell.vm.isStatics = false ∧ s.vm.findClass C = some cell.cls) (hn : As.length = n) (hsz : ls.size = nL) (hst : st0 = As.reverse ++ .ref b :: rest) (hroom : (rest.map fun v => v.category).sum ≤ 8) (hdg : decode cc pc = .ok (.invokevirtual index, 3)) (hf : cells + mc ≤ R.cells ∧ slots + ms ≤ R.slots)
    (kk : ∀ (x : Int32) (M1 : jF) (G1 : jG) (H1 : Heap) (locs1 : List Loc), post x (M1, G1) → va_P D vwCl (pV yy h0 an B B2 F G F2 G2 M1) H1 → va_D A0 (pV yy h0 an B B2 F G F2 G2 M1) → va_S A0 H0 H1 locs1 → W p l e R s m args below meth c H1 locs1 (cells + mc) (slots + ms) Q (F0 m (pc + 3) ls (.int x :: rest))) : W p l e R s m args below meth c H locs cells slots Q (F0 m pc ls st0) := by
  have hN := pV_N hV
  have hDN := pV_DN hD
  rw [pV_n, ← List.nil_append (nW yy h0 an (B 0) (B2 0) M ++ (lW yy B F G ++ lW yy B2 F2 G2))] at hV hD
  refine jy_i (X := []) (w1 := fun u : jS => nW yy h0 an (B 0) (B2 0) u.1) S hM jP_blind (fun U hU hW => ⟨by rw [hU], by rw [hU]; exact hN, va_K.moved hW.alike hK, hDN⟩) cw hV hK hD hS hA hv hn hsz hst hroom hdg hf (fun x u H1 locs1 h1 h2 h3 h4 => ?_)
  obtain ⟨M1, G1⟩ := u
  refine kk x M1 G1 H1 locs1 h1 ?_ ?_ h4
  · rw [pV_n, ← List.nil_append (nW yy h0 an (B 0) (B2 0) M1 ++ (lW yy B F G ++ lW yy B2 F2 G2))]; exact h2
  · rw [pV_n, ← List.nil_append (nW yy h0 an (B 0) (B2 0) M1 ++ (lW yy B F G ++ lW yy B2 F2 G2))]; exact h3
/-- the call of act, on the land that is shown -/
theorem jz_l {post : Int64 → (Nat → Nat) × jS → Prop} (S : CallFix p m c cc nL s args Ts own) (hM : Met l y ws rm (va_Pc (Value.ref b :: As) (jN D yy (lW yy B F G) H.size an (M 82))) (va_Ql post (fun (u : (Nat → Nat) × jS) t => jB D yy (va_A (lW yy B F G) H.size) (lW yy u.1 u.2.1 u.2.2) t) (va_A (lW yy B F G) H.size)) mc ms (va_A (lW yy B F G) H.size)) (hpost : ∀ x u, post x u → u.1 0 = B 0) (cw : CallW R s args own C index y bytes maxL ret ws rm mc ms n) (hV : va_P D vwCl (pV yy h0 an B B2 F G F2 G2 M) H) (hK : va_K D vwCl (jT yy) s) (hD : va_D A0 (pV yy h0 an B B2 F G F2 G2 M)) (hS : va_S A0 H0 H locs) (hA : ∀ q, H0.size ≤ q → A0 q) (hv : ∃ cell : Cell, H[b]? = some cell ∧ cell.vm.isStatics = false ∧ s.vm.findClass C = some cell.cls) (hn : As.length = n) (hsz : ls.size = nL) (hst : st0 = As.reverse ++ .ref b :: rest) (hroom : (rest.map fun v => v.category).sum ≤ 8) (hdg : decode cc pc = .ok (.invokevirtual index, 3)) (hf : cells + mc ≤ R.cells ∧ slots + ms ≤ R.slots)
    (kk : ∀ (x : Int64) (B1 : Nat → Nat) (F1 : jF) (G1 : jG) (H1 : Heap) (locs1 : List Loc), post x (B1, (F1, G1)) → va_P D vwCl (pV yy h0 an B1 B2 F1 G1 F2 G2 M) H1 → va_D A0 (pV yy h0 an B1 B2 F1 G1 F2 G2 M) → va_S A0 H0 H1 locs1 → W p l e R s m args below meth c H1 locs1 (cells + mc) (slots + ms) Q (F0 m (pc + 3) ls (.long x :: rest))) : W p l e R s m args below meth c H locs cells slots Q (F0 m pc ls st0) := by
  have hP := pV_P hV
  have hN := pV_A hV
  have hDP := pV_DP hD
  rw [pV_n] at hV hD
  refine jy_l (X := nW yy h0 an (B 0) (B2 0) M) (w1 := fun u : (Nat → Nat) × jS => lW yy u.1 u.2.1 u.2.2) S hM jN_blind (fun U hU hW => ⟨⟨by rw [hU], by rw [hU]; exact hP, va_K.moved hW.alike hK, hDP⟩, by rw [hU]; exact hN⟩) cw hV hK hD hS hA hv hn hsz hst hroom hdg hf (fun x u H1 locs1 h1 h2 h3 h4 => ?_)
  have h0 := hpost x u h1
  obtain ⟨B1, F1, G1⟩ := u
  have h0 : B1 0 = B 0 := h0
  refine kk x B1 F1 G1 H1 locs1 h1 ?_ ?_ h4
  · rw [pV_n, h0]; exact h2
  · rw [pV_n, h0]; exact h3
/-- the call of act, on the land of the noted calls -/
theorem jz_l2 {post : Int64 → (Nat → Nat) × jS → Prop} (S : CallFix p m c cc nL s args Ts own) (hM : Met l y ws rm (va_Pc (Value.ref b :: As) (jN D yy (lW yy B2 F2 G2) H.size an (M 82))) (va_Ql post (fun (u : (Nat → Nat) × jS) t => jB D yy (va_A (lW yy B2 F2 G2) H.size) (lW yy u.1 u.2.1 u.2.2) t) (va_A (lW yy B2 F2 G2) H.size)) mc ms (va_A (lW yy B2 F2 G2) H.size)) (hpost : ∀ x u, post x u → u.1 0 = B2 0) (cw : CallW R s args own C index y bytes maxL ret ws rm mc ms n) (hV : va_P D vwCl (pV yy h0 an B B2 F G F2 G2 M) H) (hK : va_K D vwCl (jT yy) s) (hD : va_D A0 (pV yy h0 an B B2 F G F2 G2 M)) (hS : va_S A0 H0 H locs) (hA : ∀ q, H0.size ≤ q → A0 q) (hv : ∃ cell : Cell, H[b]? = some cell ∧ cell.vm.isStatics = false ∧ s.vm.findClass C = some cell.cls) (hn : As.length = n) (hsz : ls.size = nL) (hst : st0 = As.reverse ++ .ref b :: rest) (hroom : (rest.map fun v => v.category).sum ≤ 8) (hdg : decode cc pc = .ok (.invokevirtual index, 3)) (hf : cells + mc ≤ R.cells ∧ slots + ms ≤ R.slots)
    (kk : ∀ (x : Int64) (B1 : Nat → Nat) (F1 : jF) (G1 : jG) (H1 : Heap) (locs1 : List Loc), post x (B1, (F1, G1)) → va_P D vwCl (pV yy h0 an B B1 F G F1 G1 M) H1 → va_D A0 (pV yy h0 an B B1 F G F1 G1 M) → va_S A0 H0 H1 locs1 → W p l e R s m args below meth c H1 locs1 (cells + mc) (slots + ms) Q (F0 m (pc + 3) ls (.long x :: rest))) : W p l e R s m args below meth c H locs cells slots Q (F0 m pc ls st0) := by
  have hP := pV_P2 hV
  have hN := pV_A hV
  have hDP := pV_DP2 hD
  rw [pV_n] at hV hD
  rw [← List.append_assoc, ← List.append_nil (lW yy B2 F2 G2)] at hV hD
  refine jy_l (X := nW yy h0 an (B 0) (B2 0) M ++ lW yy B F G) (Y := []) (w1 := fun u : (Nat → Nat) × jS => lW yy u.1 u.2.1 u.2.2) S hM jN_blind (fun U hU hW => ⟨⟨by rw [hU], by rw [hU]; exact hP, va_K.moved hW.alike hK, hDP⟩, by rw [hU]; exact hN⟩) cw hV hK hD hS hA hv hn hsz hst hroom hdg hf (fun x u H1 locs1 h1 h2 h3 h4 => ?_)
  have h0 := hpost x u h1
  obtain ⟨B1, F1, G1⟩ := u
  have h0 : B1 0 = B2 0 := h0
  refine kk x B1 F1 G1 H1 locs1 h1 ?_ ?_ h4
  · rw [pV_n, h0, ← List.append_assoc, ← List.append_nil (lW yy B1 F1 G1)]; exact h2
  · rw [pV_n, h0, ← List.append_assoc, ← List.append_nil (lW yy B1 F1 G1)]; exact h3
end JZ
