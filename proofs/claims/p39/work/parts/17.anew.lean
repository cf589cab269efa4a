-- the sum anew: the noted calls that are not yet done again, one after another
def gAg (N : Nat → Int32) : Nat → Int32 → jF → jG → jS
  | 0, _, F, G => (F, G)
  | n + 1, r, F, G => br (gX5_act F G N (r * 6)) (fun _ F1 G1 => gAg N n (r + 1) F1 G1)
def okAg (N : Nat → Int32) (nt : Int32) : Nat → Int32 → jF → jG → Prop
  | 0, r, _, _ => nt ≤ r
  | n + 1, r, F, G => ¬ nt ≤ r ∧ okX5_act F G N (r * 6) ∧ br (gX5_act F G N (r * 6)) (fun _ F1 G1 => okAg N nt n (r + 1) F1 G1)
def gAr : Nat → jF → jF
  | 0, M => M
  | n + 1, M => gAr n (u2 M 81 0 (M 81 0 + 1))
abbrev rmAg (n : Nat) : Room := { frames := 7, cells := n, slots := 8 * n, locals := 181 }
set_option maxHeartbeats 4000000 in
set_option maxRecDepth 100000 in
theorem qX11_digestAnew (l : Launch) (D : va_G) (yy : Nat → ClassId) (h0 an : Nat) (B B2 : Nat → Nat) (F : jF) (G : jG) (F2 : jF) (G2 : jG) (M : jF) (sz n : Nat) (hok : okAg (M 82) (M 80 0) n (M 81 0) F2 G2) (hok2 : okX5_sumOfAll (gAg (M 82) n (M 81 0) F2 G2).1 (gAg (M 82) n (M 81 0) F2 G2).2) : vx_Met l yX11_digestAnew (Cond.code yX11_digestAnew cX11_digestAnew 1 (some .long) :: wsL_law) (rmAg n) (va_Pc [.ref h0] (jP D yy (pV yy h0 an B B2 F G F2 G2 M) sz)) (va_Ql (fun r (u : ((Nat → Nat) × jS) × jF) => (r = gX5_sumOfAll u.1.2.1 u.1.2.2 ∧ u.1.2 = gAg (M 82) n (M 81 0) F2 G2 ∧ u.2 = gAr n M) ∧ ∀ k, k < 100 → u.1.1 k = B2 k) (fun u t => jB D yy (va_A (pV yy h0 an B B2 F G F2 G2 M) sz) (pV yy h0 an B u.1.1 F G u.1.2.1 u.1.2.2 u.2) t) (va_A (pV yy h0 an B B2 F G F2 G2 M) sz)) (fun _ _ _ => False) n (8 * n) (va_A (pV yy h0 an B B2 F G F2 G2 M) sz) := by
  refine jMX (vs := [.ref h0]) (own := RX11) (by decide +kernel) rfl (Nat.le_of_ble_eq_true rfl) ?_
  intro p e s m args below meth c ls Q hQ hargs S hr hlk htab hB hl
  obtain ⟨hx, hb, hml, hown, hts⟩ := S
  have hl : lv_has ls 1 [(0, .ref h0)] := hl
  obtain ⟨hsz, hV, hK, hD0⟩ := hB
  subst hsz
  have hD := hD0.self (sz := s.heap.size)
  generalize hZ : va_A (pV yy h0 an B B2 F G F2 G2 M) s.heap.size = Z at hD hQ
  have hA : ∀ q : Nat, s.heap.size ≤ q → Z q := fun q h => by rw [← hZ]; exact Or.inr h
  suffices loop : ∀ (k : Nat) (B1 : Nat → Nat) (F1 : jF) (G1 : jG) (M1 : jF) (H : Heap) (locs : List Loc) (cells slots : Nat), cells + k ≤ n → slots + 8 * k ≤ 8 * n → va_P D vwCl (pV yy h0 an B B1 F G F1 G1 M1) H → va_D Z (pV yy h0 an B B1 F G F1 G1 M1) → va_S Z s.heap H locs → (∀ j, j < 100 → B1 j = B2 j) → M1 82 = M 82 → M1 80 0 = M 80 0 → okAg (M 82) (M 80 0) k (M1 81 0) F1 G1 → gAg (M 82) k (M1 81 0) F1 G1 = gAg (M 82) n (M 81 0) F2 G2 → gAr k M1 = gAr n M → W p l e (rmAg n) s m args below meth c H locs cells slots Q (F0 m 0 ls []) from
    loop n B2 F2 G2 M s.heap [] 0 0 (by omega) (by omega) hV hD va_S.rf (fun _ _ => rfl) rfl rfl hok rfl rfl
  intro k
  induction k with
  | zero =>
    intro B1 F1 G1 M1 H locs cells slots hc hs hV hD hS hB1 e82 e80 ok0 eg er
    have ok1 : M 80 0 ≤ M1 81 0 := ok0
    have eg1 : (F1, G1) = gAg (M 82) n (M 81 0) F2 G2 := eg
    have hP2 := pV_P2 hV
    refine lv_aload_n hx hb (dd_of dX11_digestAnew_0 0 rfl) rfl (lv_at hl 0 rfl) ?_
    refine va_get (D := D) (cl := vwCl) (tys := jT yy) (ci := 11) (v := .int (M1 81 0)) (C := RX11) (T := TX11) (N := 5) hx hb hts (fun w h => List.mem_cons_of_mem _ (inlX11 w h)) hown hK hV 0 rfl rfl 4 (by decide) (jw hts gw1257) (fun _ h9 => h9) rfl (dd_of dX11_digestAnew_0 1 rfl) ?_
    refine lv_aload_n hx hb (dd_of dX11_digestAnew_0 2 rfl) rfl (lv_at hl 0 rfl) ?_
    refine va_get (D := D) (cl := vwCl) (tys := jT yy) (ci := 11) (v := .int (M1 80 0)) (C := RX11) (T := TX11) (N := 5) hx hb hts (fun w h => List.mem_cons_of_mem _ (inlX11 w h)) hown hK hV 0 rfl rfl 2 (by decide) (jw hts gw199) (fun _ h9 => h9) rfl (dd_of dX11_digestAnew_0 3 rfl) ?_
    refine lv_icmp_ge (tgt := 43) hx hb (dd_of dX11_digestAnew_0 4 rfl) (by decide) (fun c4 => ?_) (fun c4 => absurd (by rw [e80]; exact ok1) c4)
    refine lv_aload_n hx hb (dd_of dX11_digestAnew_0 22 rfl) rfl (lv_at hl 0 rfl) ?_
    refine va_get (D := D) (cl := vwCl) (tys := jT yy) (ci := 11) (v := .ref (B1 0)) (C := RX11) (T := TX11) (N := 5) hx hb hts (fun w h => List.mem_cons_of_mem _ (inlX11 w h)) hown hK hV 0 rfl rfl 3 (by decide) (jw hts gw19) (fun _ h9 => h9) rfl (dd_of dX11_digestAnew_0 23 rfl) ?_
    rw [← eg1] at hok2
    have h1 : okX5_sumOfAll F1 G1 := hok2
    refine jc_l (As := []) (rest := []) (w := (lW yy B1 F1 G1)) (D := D) (yy := yy) ⟨hx, hb, hml, hown, hts⟩ (qX5_sumOfAll l D yy B1 F1 G1 h1) (cwV 0 hts (jgV gw1225 gw1226 gw1227 gw15 gw1228) rfl rfl rfl (by decide +kernel) ⟨Nat.le_of_ble_eq_true rfl, Nat.le_of_ble_eq_true rfl⟩) hP2 hK (va_recv hK hP2 (ci := 5) (q0 := 0) rfl rfl) rfl hl.1 rfl (Nat.le_of_ble_eq_true rfl) (dd_of dX11_digestAnew_0 24 rfl) ⟨(show cells ≤ n by omega), (show slots ≤ 8 * n by omega)⟩ (fun x2 ex2 => ?_)
    subst hQ
    refine vx_ret (W.widen (k := n) (n := 8 * n) (by omega) (by omega) ?_)
    exact W.lret (v := x2) hx hb hr (fun t ht hW => ⟨⟨x2, ((B1, (F1, G1)), M1), rfl, ⟨⟨ex2, eg1, er⟩, hB1⟩, by rw [ht]; exact hV, va_K.moved hW.alike hK, hD⟩, hS.F ht⟩) hS.2.2 (dd_of dX11_digestAnew_0 25 rfl) hlk
  | succ k ih =>
    intro B1 F1 G1 M1 H locs cells slots hc hs hV hD hS hB1 e82 e80 ok0 eg er
    obtain ⟨ok1, ok2, ok3⟩ : ¬ M 80 0 ≤ M1 81 0 ∧ okX5_act F1 G1 (M 82) (M1 81 0 * 6) ∧ br (gX5_act F1 G1 (M 82) (M1 81 0 * 6)) (fun _ F3 G3 => okAg (M 82) (M 80 0) k (M1 81 0 + 1) F3 G3) := ok0
    have eg1 : br (gX5_act F1 G1 (M 82) (M1 81 0 * 6)) (fun _ F3 G3 => gAg (M 82) k (M1 81 0 + 1) F3 G3) = gAg (M 82) n (M 81 0) F2 G2 := eg
    have er1 : gAr k (u2 M1 81 0 (M1 81 0 + 1)) = gAr n M := er
    have hP2 := pV_P2 hV
    rw [← e82] at ok2
    refine lv_aload_n hx hb (dd_of dX11_digestAnew_0 0 rfl) rfl (lv_at hl 0 rfl) ?_
    refine va_get (D := D) (cl := vwCl) (tys := jT yy) (ci := 11) (v := .int (M1 81 0)) (C := RX11) (T := TX11) (N := 5) hx hb hts (fun w h => List.mem_cons_of_mem _ (inlX11 w h)) hown hK hV 0 rfl rfl 4 (by decide) (jw hts gw1257) (fun _ h9 => h9) rfl (dd_of dX11_digestAnew_0 1 rfl) ?_
    refine lv_aload_n hx hb (dd_of dX11_digestAnew_0 2 rfl) rfl (lv_at hl 0 rfl) ?_
    refine va_get (D := D) (cl := vwCl) (tys := jT yy) (ci := 11) (v := .int (M1 80 0)) (C := RX11) (T := TX11) (N := 5) hx hb hts (fun w h => List.mem_cons_of_mem _ (inlX11 w h)) hown hK hV 0 rfl rfl 2 (by decide) (jw hts gw199) (fun _ h9 => h9) rfl (dd_of dX11_digestAnew_0 3 rfl) ?_
    refine lv_icmp_ge (tgt := 43) hx hb (dd_of dX11_digestAnew_0 4 rfl) (by decide) (fun c4 => absurd (by rw [← e80]; exact c4) ok1) (fun c4 => ?_)
    refine lv_aload_n hx hb (dd_of dX11_digestAnew_0 5 rfl) rfl (lv_at hl 0 rfl) ?_
    refine va_get (D := D) (cl := vwCl) (tys := jT yy) (ci := 11) (v := .ref (B1 0)) (C := RX11) (T := TX11) (N := 5) hx hb hts (fun w h => List.mem_cons_of_mem _ (inlX11 w h)) hown hK hV 0 rfl rfl 3 (by decide) (jw hts gw19) (fun _ h9 => h9) rfl (dd_of dX11_digestAnew_0 6 rfl) ?_
    refine lv_aload_n hx hb (dd_of dX11_digestAnew_0 7 rfl) rfl (lv_at hl 0 rfl) ?_
    refine va_get (D := D) (cl := vwCl) (tys := jT yy) (ci := 11) (v := .ref an) (C := RX11) (T := TX11) (N := 5) hx hb hts (fun w h => List.mem_cons_of_mem _ (inlX11 w h)) hown hK hV 0 rfl rfl 1 (by decide) (jw hts gw18) (fun _ h9 => h9) rfl (dd_of dX11_digestAnew_0 8 rfl) ?_
    refine lv_aload_n hx hb (dd_of dX11_digestAnew_0 9 rfl) rfl (lv_at hl 0 rfl) ?_
    refine va_get (D := D) (cl := vwCl) (tys := jT yy) (ci := 11) (v := .int (M1 81 0)) (C := RX11) (T := TX11) (N := 5) hx hb hts (fun w h => List.mem_cons_of_mem _ (inlX11 w h)) hown hK hV 0 rfl rfl 4 (by decide) (jw hts gw1257) (fun _ h9 => h9) rfl (dd_of dX11_digestAnew_0 10 rfl) ?_
    refine lv_bipush (v := 6) hx hb (dd_of dX11_digestAnew_0 11 rfl) (by decide) ?_
    refine lv_imul hx hb (dd_of dX11_digestAnew_0 12 rfl) ?_
    refine jz_l2 (As := [.ref an, .int (M1 81 0 * 6)]) (rest := []) (D := D) (yy := yy) (h0 := h0) (an := an) (B := B) (B2 := B1) (F := F) (G := G) (F2 := F1) (G2 := G1) (M := M1) ⟨hx, hb, hml, hown, hts⟩ (qX5_act l D yy B1 F1 G1 H.size an (M1 82) (M1 81 0 * 6) ok2) (fun _ _ h => h.2 0 (by omega)) (cwV 2 hts (jgV gw200 gw201 gw202 gw15 gw203) rfl rfl rfl (by decide +kernel) ⟨Nat.le_of_ble_eq_true rfl, Nat.le_of_ble_eq_true rfl⟩) hV hK hD hS hA (va_recv hK hP2 (ci := 5) (q0 := 0) rfl rfl) rfl hl.1 rfl (Nat.le_of_ble_eq_true rfl) (dd_of dX11_digestAnew_0 13 rfl) ⟨(show cells + 1 ≤ n by omega), (show slots + 8 ≤ 8 * n by omega)⟩ (fun x8 B3 F3 G3 H locs w9 hV hD hS => ?_)
    obtain ⟨w9, hB3⟩ := w9
    have w9 : (x8, (F3, G3)) = gX5_act F1 G1 (M 82) (M1 81 0 * 6) := by rw [← e82]; exact w9
    have hB3 : ∀ j, j < 100 → B3 j = B1 j := hB3
    have ok4 := brO w9 ok3
    have eg4 := brE w9 eg1
    refine lv_pop2_2 hx hb (dd_of dX11_digestAnew_0 14 rfl) rfl ?_
    refine lv_aload_n hx hb (dd_of dX11_digestAnew_0 15 rfl) rfl (lv_at hl 0 rfl) ?_
    refine lv_dup hx hb (dd_of dX11_digestAnew_0 16 rfl) rfl ?_
    refine va_get (D := D) (cl := vwCl) (tys := jT yy) (ci := 11) (v := .int (M1 81 0)) (C := RX11) (T := TX11) (N := 5) hx hb hts (fun w h => List.mem_cons_of_mem _ (inlX11 w h)) hown hK hV 0 rfl rfl 4 (by decide) (jw hts gw1257) (fun _ h9 => h9) rfl (dd_of dX11_digestAnew_0 17 rfl) ?_
    refine lv_iconst (v := 1) hx hb (dd_of dX11_digestAnew_0 18 rfl) (by decide) ?_
    refine lv_iadd hx hb (dd_of dX11_digestAnew_0 19 rfl) ?_
    rw [pV_n] at hV hD
    generalize hY : lW yy B F G ++ lW yy B3 F3 G3 = Y at hV hD
    refine va_put (D := D) (cl := vwCl) (tys := jT yy) (ci := 11) (v := .int (M1 81 0 + 1)) (ty := .int) (C := RX11) (T := TX11) (N := 5) hx hb hts (fun w h => List.mem_cons_of_mem _ (inlX11 w h)) tyX11 tyX11_ok nmX11 hown hK hV hD hS 0 rfl rfl 4 (by decide) (jw hts gw1257) (fun _ h9 => h9) rfl (by decide +kernel) rfl rfl (Nat.le_of_ble_eq_true rfl) (dd_of dX11_digestAnew_0 20 rfl) (fun H locs hV hD hS => ?_)
    have hV : va_P D vwCl (nW yy h0 an (B 0) (B3 0) (u2 M1 81 0 (M1 81 0 + 1)) ++ Y) H := hV
    have hD : va_D Z (nW yy h0 an (B 0) (B3 0) (u2 M1 81 0 (M1 81 0 + 1)) ++ Y) := hD
    rw [← hY] at hV hD
    refine lv_goto (tgt := 0) hx hb (dd_of dX11_digestAnew_0 21 rfl) (by decide) ?_
    refine ih B3 F3 G3 (u2 M1 81 0 (M1 81 0 + 1)) H locs (cells + 1) (slots + 8) (by omega) (by omega) (by rw [pV_n]; exact hV) (by rw [pV_n]; exact hD) hS (fun j hj => (hB3 j hj).trans (hB1 j hj)) e82 e80 ?_ ?_ er1
    · exact ok4
    · exact eg4
