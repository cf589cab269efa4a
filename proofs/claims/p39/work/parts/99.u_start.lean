-- what the tables say of the first state, all of it
set_option maxRecDepth 100000 in
theorem lk_K {A : Array Value} {s : State} (hts : ∀ w ∈ lw_tbl, w.before A s = true) : ∃ (D : va_G) (yy : Nat → ClassId), va_K D vwCl (jT yy) s := by
  have hws : ∀ w ∈ wsL_law, w.before A s = true := fun w h => hts w (wt_law w h)
  obtain ⟨c0, i0, hk0⟩ := u_known (C := RX0) (T := TX0) (N := 7) (n := 7) hws inlX0 (hws _ gw214)
  obtain ⟨c1, i1, hk1⟩ := u_known (C := RX1) (T := TX1) (N := 8) (n := 8) hws inlX1 (hws _ gw29)
  obtain ⟨c2, i2, hk2⟩ := u_known (C := RX2) (T := TX2) (N := 3) (n := 3) hws inlX2 (hws _ gw44)
  obtain ⟨c3, i3, hk3⟩ := u_known (C := RX3) (T := TX3) (N := 7) (n := 7) hws inlX3 (hws _ gw206)
  obtain ⟨c4, i4, hk4⟩ := u_known (C := RX4) (T := TX4) (N := 5) (n := 5) hws inlX4 (hws _ gw264)
  obtain ⟨c5, i5, hk5⟩ := u_known (C := RX5) (T := TX5) (N := 10) (n := 10) hws inlX5 (hws _ gw14)
  obtain ⟨c6, i6, hk6⟩ := u_known (C := RX6) (T := TX6) (N := 6) (n := 6) hws inlX6 (hws _ gw52)
  obtain ⟨c7, i7, hk7⟩ := u_known (C := RX7) (T := TX7) (N := 8) (n := 8) hws inlX7 (hws _ gw204)
  obtain ⟨c8, i8, hk8⟩ := u_known (C := RX8) (T := TX8) (N := 3) (n := 3) hws inlX8 (hws _ gw41)
  obtain ⟨c9, i9, hk9⟩ := u_known (C := RX9) (T := TX9) (N := 4) (n := 4) hws inlX9 (hws _ gw321)
  obtain ⟨c10, i10, hk10⟩ := u_known (C := RX10) (T := TX10) (N := 8) (n := 8) hws inlX10 (hws _ gw25)
  obtain ⟨c11, i11, hk11⟩ := u_known (C := RX11) (T := TX11) (N := 5) (n := 5) hws inlX11 (hws _ gw1)
  obtain ⟨y0, e0⟩ := ty_i (hws _ gw17) (fun _ h => h)
  obtain ⟨y1, e1⟩ := ty_i (hws _ gw6) (fun _ h => h)
  obtain ⟨y2, e2⟩ := ty_i (hws _ gw110) (fun _ h => h)
  obtain ⟨y3, e3⟩ := ty_q (C := RX0) (hts _ (tb1 (List.mem_of_getElem? (i := 41) rfl)))
  obtain ⟨y4, e4⟩ := ty_q (C := RX2) (hts _ (tb1 (List.mem_of_getElem? (i := 173) rfl)))
  obtain ⟨y5, e5⟩ := ty_q (C := RX3) (hts _ (tb1 (List.mem_of_getElem? (i := 136) rfl)))
  obtain ⟨y6, e6⟩ := ty_q (C := RX4) (hts _ (tb1 (List.mem_of_getElem? (i := 168) rfl)))
  obtain ⟨y7, e7⟩ := ty_q (C := RX7) (hts _ (tb1 (List.mem_of_getElem? (i := 170) rfl)))
  obtain ⟨y8, e8⟩ := ty_q (C := RX9) (hts _ (tb1 (List.mem_of_getElem? (i := 49) rfl)))
  refine ⟨(fun k => match k with | 0 => c0 | 1 => c1 | 2 => c2 | 3 => c3 | 4 => c4 | 5 => c5 | 6 => c6 | 7 => c7 | 8 => c8 | 9 => c9 | 10 => c10 | _ => c11, fun k => match k with | 0 => i0 | 1 => i1 | 2 => i2 | 3 => i3 | 4 => i4 | 5 => i5 | 6 => i6 | 7 => i7 | 8 => i8 | 9 => i9 | 10 => i10 | _ => i11), fun k => match k with | 0 => y0 | 1 => y1 | 2 => y2 | 3 => y3 | 4 => y4 | 5 => y5 | 6 => y6 | 7 => y7 | _ => y8, fun k q hq => ?_, fun k q hq => ?_⟩
  · match k, hq with
    | 0, hq => cases hq; exact hk0
    | 1, hq => cases hq; exact hk1
    | 2, hq => cases hq; exact hk2
    | 3, hq => cases hq; exact hk3
    | 4, hq => cases hq; exact hk4
    | 5, hq => cases hq; exact hk5
    | 6, hq => cases hq; exact hk6
    | 7, hq => cases hq; exact hk7
    | 8, hq => cases hq; exact hk8
    | 9, hq => cases hq; exact hk9
    | 10, hq => cases hq; exact hk10
    | 11, hq => cases hq; exact hk11
    | k + 12, hq => simp [vwCl] at hq
  · match k, hq with
    | 0, hq => cases hq; exact e0
    | 1, hq => cases hq; exact e1
    | 2, hq => cases hq; exact e2
    | 3, hq => cases hq; exact e3
    | 4, hq => cases hq; exact e4
    | 5, hq => cases hq; exact e5
    | 6, hq => cases hq; exact e6
    | 7, hq => cases hq; exact e7
    | 8, hq => cases hq; exact e8
    | k + 9, hq => simp [jT] at hq
set_option maxRecDepth 100000 in
theorem lk_AO {A : Array Value} {s : State} (hts : ∀ w ∈ lw_tbl, w.before A s = true) : jAO s :=
  ⟨⟨va_AO.of (hts _ (tb1 (List.mem_of_getElem? (i := 41) rfl))), va_AO.of (hts _ (tb1 (List.mem_of_getElem? (i := 173) rfl))), va_AO.of (hts _ (tb1 (List.mem_of_getElem? (i := 136) rfl))), va_AO.of (hts _ (tb1 (List.mem_of_getElem? (i := 168) rfl))), va_AO.of (hts _ (tb1 (List.mem_of_getElem? (i := 170) rfl))), va_AO.of (hts _ (tb1 (List.mem_of_getElem? (i := 49) rfl)))⟩, ⟨va_Nw.of rfl (hts _ (tb1 (List.mem_of_getElem? (i := 44) rfl))), va_Nw.of rfl (hts _ (tb1 (List.mem_of_getElem? (i := 36) rfl))), va_Nw.of rfl (hts _ (tb1 (List.mem_of_getElem? (i := 130) rfl))), va_Nw.of rfl (hts _ (tb1 (List.mem_of_getElem? (i := 176) rfl))), va_Nw.of rfl (hts _ (tb1 (List.mem_of_getElem? (i := 192) rfl)))⟩⟩
set_option maxRecDepth 100000 in
theorem lk_TW {A : Array Value} {s : State} (hts : ∀ w ∈ lw_tbl, w.before A s = true) : jTW s := by
  have hws : ∀ w ∈ wsL_law, w.before A s = true := fun w h => hts w (wt_law w h)
  obtain ⟨cur, -, -, hcur⟩ := u_known (C := RX11) (T := TX11) (N := 5) (n := 5) hws inlX11 (hws _ gw1)
  refine ⟨⟨fun X hX => ?_, va_Nw.of rfl (hts _ (tb2 (List.mem_of_getElem? (i := 35) rfl))), va_Nw.of rfl (hts _ (tb2 (List.mem_of_getElem? (i := 37) rfl))), va_Nw.of rfl (hts _ (tb2 (List.mem_of_getElem? (i := 39) rfl)))⟩, List.forall_mem_cons.mpr ⟨st_r hcur.1 (hts _ (tb2 (List.mem_of_getElem? (i := 72) rfl))), List.forall_mem_cons.mpr ⟨st_r hcur.1 (hts _ (tb4 (List.mem_of_getElem? (i := 124) rfl))), List.forall_mem_cons.mpr ⟨st_r hcur.1 (hts _ (tb4 (List.mem_of_getElem? (i := 178) rfl))), List.forall_mem_cons.mpr ⟨st_r hcur.1 (hts _ (tb2 (List.mem_of_getElem? (i := 112) rfl))), List.forall_mem_cons.mpr ⟨st_r hcur.1 (hts _ (tb4 (List.mem_of_getElem? (i := 234) rfl))), List.forall_mem_cons.mpr ⟨st_r hcur.1 (hts _ (tb4 (List.mem_of_getElem? (i := 141) rfl))), List.forall_mem_cons.mpr ⟨st_r hcur.1 (hts _ (tb4 (List.mem_of_getElem? (i := 142) rfl))), List.forall_mem_cons.mpr ⟨st_r hcur.1 (hts _ (tb4 (List.mem_of_getElem? (i := 104) rfl))), List.forall_mem_cons.mpr ⟨st_r hcur.1 (hts _ (tb4 (List.mem_of_getElem? (i := 165) rfl))), List.forall_mem_cons.mpr ⟨st_r hcur.1 (hts _ (tb4 (List.mem_of_getElem? (i := 200) rfl))), List.forall_mem_cons.mpr ⟨st_r hcur.1 (hts _ (tb5 (List.mem_of_getElem? (i := 8) rfl))), List.forall_mem_cons.mpr ⟨st_r hcur.1 (hts _ (tb4 (List.mem_of_getElem? (i := 210) rfl))), fun _ h => absurd h List.not_mem_nil⟩⟩⟩⟩⟩⟩⟩⟩⟩⟩⟩⟩⟩
  rcases hX with rfl | rfl | rfl
  · exact va_Nw.of rfl (hts _ (tb4 (List.mem_of_getElem? (i := 97) rfl)))
  · exact va_Nw.of rfl (hts _ (tb2 (List.mem_of_getElem? (i := 33) rfl)))
  · exact va_Nw.of rfl (hts _ (tb2 (List.mem_of_getElem? (i := 105) rfl)))
set_option maxRecDepth 100000 in
theorem lk_TP {A : Array Value} {s : State} (hts : ∀ w ∈ lw_tbl, w.before A s = true) (hgv : (Jvm.Cond.and given_1 narrow_1).before A s = true) : jTP (fun q : Nat => s.heap.size ≤ q) s := by
  have hs := flat_of_before _ hgv
  have hn : ∀ a : Nat, a < s.heap.size → ¬ (fun q : Nat => s.heap.size ≤ q) a := fun a h => Nat.not_le.mpr h
  have hsteD : (Cond.isRef (.static Bundle.tN "UNASSIGNED_STACK" Bundle.steD)).before A s = true := hs _ (by decide +kernel)
  have hlistD : (Cond.isRef (.static Bundle.tN "SUPPRESSED_SENTINEL" Bundle.listD)).before A s = true := hs _ (by decide +kernel)
  exact ⟨⟨vx_Zqof (hts _ (tb2 (List.mem_of_getElem? (i := 58) rfl))) (hts _ (tb1 (List.mem_of_getElem? (i := 9) rfl))) hsteD hn, vx_Zqof (hts _ (tb2 (List.mem_of_getElem? (i := 60) rfl))) (hts _ (tb1 (List.mem_of_getElem? (i := 9) rfl))) hlistD hn⟩, lk_TW hts⟩
set_option maxRecDepth 100000 in
theorem lk_Nc {A : Array Value} {s : State} (hgv : (Jvm.Cond.and given_1 narrow_1).before A s = true) : jNc s := by
  have hs := flat_of_before _ hgv
  exact ⟨va_Nc.of (hs _ (by decide +kernel)), va_Nc.of (hs _ (by decide +kernel))⟩
