-- the law's own small methods
def lowv (v n : Int32) : Int32 := (v &&& 2147483647) - (v &&& 2147483647) / n * n
def cellv (L : Nat) (xs : Nat → Int32) (k : Int32) : Int32 := if Int32.ofNat L ≤ k then 40503 * k + 977 else xs k.toNatClampNeg
def endv (v n : Int32) : Int32 := if n ≤ lowv v (n + 2) then 20 + lowv v (n + 2) - n else lowv v (n + 2)
abbrev rmL_low : Room := { frames := 0, cells := 0, slots := 0, locals := 0 }
abbrev rmL_cell : Room := { frames := 0, cells := 0, slots := 0, locals := 0 }
abbrev rmL_end : Room := { frames := 1, cells := 0, slots := 0, locals := 30 }
theorem qL_low (l : Launch) (p1 p2 : Int32) (hne : ¬ p2 = 0) : Met l yL_low (Cond.code yL_low cL_low 2 (some .int) :: wsL_law) rmL_low (va_Pc [.int p1, .int p2] jRn) (vp_Si (fun r => r = lowv p1 p2)) 0 0 (fun _ => False) := by
  refine jM (vs := [.int p1, .int p2]) (own := RL) (by decide +kernel) rfl (Nat.le_of_ble_eq_true rfl) ?_
  intro p e s m args below meth c ls Q hQ hargs S hr hlk hinit hB hl
  obtain ⟨hx, hb, hml, hown, hts⟩ := S
  have hl : lv_has ls 2 [(0, .int p1), (1, .int p2)] := hl
  refine lv_iload_n hx hb (dd_of dL_low_0 0 rfl) rfl (lv_at hl 0 rfl) ?_
  refine lv_ldc (v := 2147483647) hx hb hown (jw hts gw2009) (dd_of dL_low_0 1 rfl) ?_
  refine lv_iand hx hb (dd_of dL_low_0 2 rfl) ?_
  refine lv_iload_n hx hb (dd_of dL_low_0 3 rfl) rfl (lv_at hl 1 rfl) ?_
  refine lv_irem hx hb (dd_of dL_low_0 4 rfl) hne ?_
  subst hQ
  exact W.iret (v := lowv p1 p2) hx hb hr (fun t ht _ => ⟨_, rfl, rfl, ht⟩) (fun _ h => absurd h List.not_mem_nil) (dd_of dL_low_0 5 rfl) hlk
theorem qL_cell (l : Launch) (sa L : Nat) (xs : Nat → Int32) (hL : L ≤ 260) (p1 : Int32) (h0 : ¬ p1 < 0) : Met l yL_cell (Cond.code yL_cell cL_cell 2 (some .int) :: wsL_law) rmL_cell (va_Pc [.ref sa, .int p1] (jXs sa L xs)) (vp_Si (fun r => r = cellv L xs p1)) 0 0 (fun _ => False) := by
  refine jM (vs := [.ref sa, .int p1]) (own := RL) (by decide +kernel) rfl (Nat.le_of_ble_eq_true rfl) ?_
  intro p e s m args below meth c ls Q hQ hargs S hr hlk hinit hB hl
  obtain ⟨hx, hb, hml, hown, hts⟩ := S
  have hl : lv_has ls 2 [(0, .ref sa), (1, .int p1)] := hl
  obtain ⟨hX0, hbl⟩ := hB
  have hS : va_S (fun q : Nat => s.heap.size ≤ q) s.heap s.heap [] := va_S.rf
  have hbA : ¬ (fun q : Nat => s.heap.size ≤ q) sa := Nat.not_le.mpr hbl
  refine lv_iload_n hx hb (dd_of dL_cell_0 0 rfl) rfl (lv_at hl 1 rfl) ?_
  refine lv_aload_n hx hb (dd_of dL_cell_0 1 rfl) rfl (lv_at hl 0 rfl) ?_
  refine va_slen hx hb hX0 hbl hbA hS (dd_of dL_cell_0 2 rfl) ?_
  refine lv_icmp_ge (tgt := 12) hx hb (dd_of dL_cell_0 3 rfl) (by decide) (fun c1 => ?_) (fun c1 => ?_)
  · skip
    refine lv_ldc (v := 40503) hx hb hown (jw hts gw2005) (dd_of dL_cell_0 8 rfl) ?_
    refine lv_iload_n hx hb (dd_of dL_cell_0 9 rfl) rfl (lv_at hl 1 rfl) ?_
    refine lv_imul hx hb (dd_of dL_cell_0 10 rfl) ?_
    refine lv_sipush (v := 977) hx hb (dd_of dL_cell_0 11 rfl) (by decide) ?_
    refine lv_iadd hx hb (dd_of dL_cell_0 12 rfl) ?_
    subst hQ
    exact W.iret (v := 40503 * p1 + 977) hx hb hr (fun t ht _ => ⟨_, rfl, (by unfold cellv; rw [if_pos c1]), ht⟩) (fun _ h => absurd h List.not_mem_nil) (dd_of dL_cell_0 13 rfl) hlk
  · skip
    refine lv_aload_n hx hb (dd_of dL_cell_0 4 rfl) rfl (lv_at hl 0 rfl) ?_
    refine lv_iload_n hx hb (dd_of dL_cell_0 5 rfl) rfl (lv_at hl 1 rfl) ?_
    have hin : vp_in p1 L := by
      obtain ⟨j, hj, rfl⟩ := nI_of h0
      rw [i32le, show (Int32.ofNat L).toInt = (L : Int) from nI_toInt (n := L) (by omega), nI_toInt hj] at c1
      exact nI_in (by omega) (by omega)
    refine va_sld hx hb hX0 hbl hbA hS hin (dd_of dL_cell_0 6 rfl) ?_
    refine lv_goto (tgt := 20) hx hb (dd_of dL_cell_0 7 rfl) (by decide) ?_
    subst hQ
    exact W.iret (v := xs p1.toNatClampNeg) hx hb hr (fun t ht _ => ⟨_, rfl, (by unfold cellv; rw [if_neg c1]), ht⟩) (fun _ h => absurd h List.not_mem_nil) (dd_of dL_cell_0 13 rfl) hlk
theorem qL_end (l : Launch) (p1 p2 : Int32) (hne : ¬ p2 + 2 = 0) : Met l yL_end (Cond.code yL_end cL_end 3 (some .int) :: wsL_law) rmL_end (va_Pc [.int p1, .int p2] jRn) (vp_Si (fun r => r = endv p1 p2)) 0 0 (fun _ => False) := by
  refine jM (vs := [.int p1, .int p2]) (own := RL) (by decide +kernel) rfl (Nat.le_of_ble_eq_true rfl) ?_
  intro p e s m args below meth c ls Q hQ hargs S hr hlk hinit hB hl
  obtain ⟨hx, hb, hml, hown, hts⟩ := S
  have hl : lv_has ls 3 [(0, .int p1), (1, .int p2)] := hl
  refine lv_iload_n hx hb (dd_of dL_end_0 0 rfl) rfl (lv_at hl 0 rfl) ?_
  refine lv_iload_n hx hb (dd_of dL_end_0 1 rfl) rfl (lv_at hl 1 rfl) ?_
  refine lv_iconst (v := 2) hx hb (dd_of dL_end_0 2 rfl) (by decide) ?_
  refine lv_iadd hx hb (dd_of dL_end_0 3 rfl) ?_
  refine jc_si (As := [.int p1, .int (p2 + 2)]) (rest := []) ⟨hx, hb, hml, hown, hts⟩ (qL_low l p1 (p2 + 2) hne) (va_cwS 2 hts (jgSo gw2006 gw2007 gw173 gw2008) rfl rfl rfl (by decide +kernel) ⟨Nat.le_of_ble_eq_true rfl, Nat.le_of_ble_eq_true rfl⟩) rfl hl.1 rfl (Nat.le_of_ble_eq_true rfl) (dd_of dL_end_0 4 rfl) ⟨Nat.zero_le _, Nat.zero_le _⟩ (fun x ex => ?_)
  refine lv_istore_n (lv' := [(2, .int x), (0, .int p1), (1, .int p2)]) hx hb (dd_of dL_end_0 5 rfl) rfl hl (by decide) rfl (fun ls hl => ?_)
  refine lv_iload_n hx hb (dd_of dL_end_0 6 rfl) rfl (lv_at hl 0 rfl) ?_
  refine lv_iload_n hx hb (dd_of dL_end_0 7 rfl) rfl (lv_at hl 2 rfl) ?_
  refine lv_icmp_ge (tgt := 17) hx hb (dd_of dL_end_0 8 rfl) (by decide) (fun c1 => ?_) (fun c1 => ?_)
  · skip
    refine lv_bipush (v := 20) hx hb (dd_of dL_end_0 11 rfl) (by decide) ?_
    refine lv_iload_n hx hb (dd_of dL_end_0 12 rfl) rfl (lv_at hl 0 rfl) ?_
    refine lv_iadd hx hb (dd_of dL_end_0 13 rfl) ?_
    refine lv_iload_n hx hb (dd_of dL_end_0 14 rfl) rfl (lv_at hl 2 rfl) ?_
    refine lv_isub hx hb (dd_of dL_end_0 15 rfl) ?_
    subst hQ
    exact W.iret (v := 20 + x - p2) hx hb hr (fun t ht _ => ⟨_, rfl, (by unfold endv; rw [← ex, if_pos c1]), ht⟩) (fun _ h => absurd h List.not_mem_nil) (dd_of dL_end_0 16 rfl) hlk
  · skip
    refine lv_iload_n hx hb (dd_of dL_end_0 9 rfl) rfl (lv_at hl 0 rfl) ?_
    refine lv_goto (tgt := 23) hx hb (dd_of dL_end_0 10 rfl) (by decide) ?_
    subst hQ
    exact W.iret (v := x) hx hb hr (fun t ht _ => ⟨_, rfl, (by unfold endv; rw [← ex, if_neg c1]), ht⟩) (fun _ h => absurd h List.not_mem_nil) (dd_of dL_end_0 16 rfl) hlk
