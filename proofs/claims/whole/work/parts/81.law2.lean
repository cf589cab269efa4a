-- the law's loop, whole
set_option maxHeartbeats 40000000 in
set_option maxRecDepth 100000 in
theorem law_loop {p : Program} {l : Launch} {e : Env} {s : State} {m : MethodId} {args : Array Value} {below : List Frame} {meth : Method} {c : Code} {Q : State → Prop} {c0 : Cond} {D : va_G} {yy : Nat → ClassId} {Z : Nat → Prop} (hl9 : l.stackTraces = false) (oa h0 an sa L : Nat) (xs : Nat → Int32) (A : Nat → Nat) (hx : p.tables.exec = Jvm.exec) (hb : c.code = cL_law) (hml : c.maxLocals = 8) (hown : s.vm.findClass RL = some m.cls) (hts : ∀ w ∈ c0 :: wsL_law, w.before args s = true) (hK : va_K D vwCl (jT yy) s) (hT : jTP Z s) (hN : jNc s) (hA : ∀ q, s.heap.size ≤ q → Z q) (hX0 : va_X sa L xs s s.heap) (hbl : sa < s.heap.size) (hbA : ¬ Z sa) (hL : L ≤ 3072) (cb sb : Nat) (hcb : cb + 521 * 513 ≤ 610871) (hsb : sb + 4160 * 513 ≤ 7263490)
    (kend : ∀ (H : Heap) (locs : List Loc) (cells slots : Nat) (ls : Array Slot), va_S Z s.heap H locs → cells ≤ 610871 → slots ≤ 7263490 → W p l e rmLaw s m args below meth c H locs cells slots Q (F0 m 2521 ls [])) :
    ∀ (d n : Nat) (O : Nat → Int64) (B B2 : Nat → Nat) (F : jF) (G : jG) (F2 : jF) (G2 : jG) (M FM : jF) (GM : jG) (H : Heap) (locs : List Loc) (cells slots : Nat) (ls : Array Slot), n + d = 512 → Iv n F G F2 G2 M FM GM → va_P D vwCl (kW yy oa O (pV yy h0 an B B2 F G F2 G2 M) (mW yy A FM GM) sa L xs) H → va_D Z (kW yy oa O (pV yy h0 an B B2 F G F2 G2 M) (mW yy A FM GM) sa L xs) → va_S Z s.heap H locs → lv_has ls 8 [(4, .int (nI (6 * n))), (3, .ref oa), (2, .ref (A 99)), (1, .ref h0), (0, .ref sa)] → cells ≤ cb + 521 * n → slots ≤ sb + 4160 * n → W p l e rmLaw s m args below meth c H locs cells slots Q (F0 m 23 ls []) := by
  intro d
  induction d with
  | zero =>
    intro n O B B2 F G F2 G2 M FM GM H locs cells slots ls hd h hV hD hS hl hc hs
    refine lv_iload hx hb (dd_of dL_law_0 13 rfl) (lv_at hl 0 rfl) ?_
    refine lv_aload_n hx hb (dd_of dL_law_0 14 rfl) rfl (lv_at hl 4 rfl) ?_
    refine va_slen hx hb hX0 hbl hbA hS (dd_of dL_law_0 15 rfl) ?_
    refine lv_bipush (v := 6) hx hb (dd_of dL_law_0 16 rfl) (by decide) ?_
    refine lv_isub hx hb (dd_of dL_law_0 17 rfl) ?_
    refine lv_icmp_gt (tgt := 2521) hx hb (dd_of dL_law_0 18 rfl) (by decide) (fun c1 => kend H locs cells slots ls hS (by omega) (by omega)) (fun c1 => ?_)
    exfalso
    have h6 : (6 : Int32).toInt = 6 := rfl
    have hl2 : (Int32.ofNat L).toInt = (L : Int) := nI_toInt (n := L) (by omega)
    apply c1
    rw [i32lt, i32s (by rw [hl2, h6]; omega) (by rw [hl2, h6]; omega), hl2, h6, nI_toInt (by omega)]
    omega
  | succ d ih =>
    intro n O B B2 F G F2 G2 M FM GM H locs cells slots ls hd h hV hD hS hl hc hs
    refine lv_iload hx hb (dd_of dL_law_0 13 rfl) (lv_at hl 0 rfl) ?_
    refine lv_aload_n hx hb (dd_of dL_law_0 14 rfl) rfl (lv_at hl 4 rfl) ?_
    refine va_slen hx hb hX0 hbl hbA hS (dd_of dL_law_0 15 rfl) ?_
    refine lv_bipush (v := 6) hx hb (dd_of dL_law_0 16 rfl) (by decide) ?_
    refine lv_isub hx hb (dd_of dL_law_0 17 rfl) ?_
    refine lv_icmp_gt (tgt := 2521) hx hb (dd_of dL_law_0 18 rfl) (by decide) (fun c1 => kend H locs cells slots ls hS (by omega) (by omega)) (fun c1 => ?_)
    have h6 : (6 : Int32).toInt = 6 := rfl
    have hl2 : (Int32.ofNat L).toInt = (L : Int) := nI_toInt (n := L) (by omega)
    rw [i32lt, i32s (by rw [hl2, h6]; omega) (by rw [hl2, h6]; omega), hl2, h6, nI_toInt (by omega)] at c1
    have hin : ∀ k, k < 6 → vp_in (nI (6 * n) + nI k) L := fun k hk => by rw [nI_add]; exact nI_in (by omega) (by omega)
    have hin0 : vp_in (nI (6 * n)) L := nI_in (by omega) (by omega)
    refine lv_aload_n hx hb (dd_of dL_law_0 19 rfl) rfl (lv_at hl 4 rfl) ?_
    refine lv_iload hx hb (dd_of dL_law_0 20 rfl) (lv_at hl 0 rfl) ?_
    refine va_sld hx hb hX0 hbl hbA hS hin0 (dd_of dL_law_0 21 rfl) ?_
    refine lv_bipush (v := 63) hx hb (dd_of dL_law_0 22 rfl) (by decide) ?_
    refine lv_iand hx hb (dd_of dL_law_0 23 rfl) ?_
    obtain ⟨z, hz⟩ : ∃ z, xs (nI (6 * n)).toNatClampNeg &&& 63 = z := ⟨_, rfl⟩
    rw [hz]
    have next : (∀ (B1 B3 : Nat → Nat) (O1 : Nat → Int64) (F1 : jF) (G1 : jG) (F3 : jF) (G3 : jG) (M1 FM1 : jF) (GM1 : jG) (H : Heap) (locs : List Loc) (ce1 sl1 : Nat) (ls : Array Slot), Iv (n + 1) F1 G1 F3 G3 M1 FM1 GM1 → va_P D vwCl (kW yy oa O1 (pV yy h0 an B1 B3 F1 G1 F3 G3 M1) (mW yy A FM1 GM1) sa L xs) H → va_D Z (kW yy oa O1 (pV yy h0 an B1 B3 F1 G1 F3 G3 M1) (mW yy A FM1 GM1) sa L xs) → va_S Z s.heap H locs → lv_has ls 8 [(4, .int (nI (6 * n))), (3, .ref oa), (2, .ref (A 99)), (1, .ref h0), (0, .ref sa)] → ce1 ≤ cells + 521 → sl1 ≤ slots + 4160 → W p l e rmLaw s m args below meth c H locs ce1 sl1 Q (F0 m 2515 ls [])) := by
      intro B1 B3 O1 F1 G1 F3 G3 M1 FM1 GM1 H locs ce1 sl1 ls h hV hD hS hl e1 e2
      refine lv_iinc (v := nI (6 * (n + 1))) (lv' := [(4, .int (nI (6 * (n + 1)))), (3, .ref oa), (2, .ref (A 99)), (1, .ref h0), (0, .ref sa)]) hx hb (dd_of dL_law_38 30 rfl) hl (k := 0) rfl (show nI (6 * n) + nI 6 = nI (6 * (n + 1)) by rw [nI_add]; congr 1) (by decide) rfl (fun ls hl => ?_)
      refine lv_goto (tgt := 23) hx hb (dd_of dL_law_38 31 rfl) (by decide) ?_
      exact ih (n + 1) O1 B1 B3 F1 G1 F3 G3 M1 FM1 GM1 H locs ce1 sl1 ls (by omega) h hV hD hS hl (by omega) (by omega)
    by_cases c2 : z.toInt < 0 ∨ 35 < z.toInt
    · refine lv_tableOut (tgt := 2515) hx hb (dd_of dL_law_0 24 rfl) c2 (by decide) ?_
      exact next B B2 O F G F2 G2 M FM GM H locs cells slots ls (by have := Iv_same h (by omega) (FM 60 0); rwa [u2_id] at this) hV hD hS hl (by omega) (by omega)
    · have y0 : (0 : Int32).toInt = 0 := rfl
      obtain ⟨j, hj, rfl⟩ := nr_n (p := z) (l := 35) (by decide) (by omega) (by omega)
      have hj2 : j = 0 ∨ j = 1 ∨ j = 2 ∨ j = 3 ∨ j = 4 ∨ j = 5 ∨ j = 6 ∨ j = 7 ∨ j = 8 ∨ j = 9 ∨ j = 10 ∨ j = 11 ∨ j = 12 ∨ j = 13 ∨ j = 14 ∨ j = 15 ∨ j = 16 ∨ j = 17 ∨ j = 18 ∨ j = 19 ∨ j = 20 ∨ j = 21 ∨ j = 22 ∨ j = 23 ∨ j = 24 ∨ j = 25 ∨ j = 26 ∨ j = 27 ∨ j = 28 ∨ j = 29 ∨ j = 30 ∨ j = 31 ∨ j = 32 ∨ j = 33 ∨ j = 34 ∨ j = 35 := by omega
      rcases hj2 with rfl | rfl | rfl | rfl | rfl | rfl | rfl | rfl | rfl | rfl | rfl | rfl | rfl | rfl | rfl | rfl | rfl | rfl | rfl | rfl | rfl | rfl | rfl | rfl | rfl | rfl | rfl | rfl | rfl | rfl | rfl | rfl | rfl | rfl | rfl | rfl
      · refine lv_tableIn (off := 160) (tgt := 200) hx hb (dd_of dL_law_0 24 rfl) (by decide) (by decide) (by decide) (by decide) ?_
        exact ls_addBasin hl9 oa h0 an sa L xs A hx hb hml hown hts hK hT hN hA hX0 hbl hbA O B B2 F G F2 G2 M FM GM h (by omega) hin hV hD hS hl (by omega) (by omega) next
      · refine lv_tableIn (off := 228) (tgt := 268) hx hb (dd_of dL_law_0 24 rfl) (by decide) (by decide) (by decide) (by decide) ?_
        exact ls_setLand hl9 oa h0 an sa L xs A hx hb hml hown hts hK hT hN hA hX0 hbl hbA O B B2 F G F2 G2 M FM GM h (by omega) hin hV hD hS hl (by omega) (by omega) next
      · refine lv_tableIn (off := 300) (tgt := 340) hx hb (dd_of dL_law_0 24 rfl) (by decide) (by decide) (by decide) (by decide) ?_
        exact ls_pour hl9 oa h0 an sa L xs A hx hb hml hown hts hK hT hN hA hX0 hbl hbA O B B2 F G F2 G2 M FM GM h (by omega) hin hV hD hS hl (by omega) (by omega) next
      · refine lv_tableIn (off := 367) (tgt := 407) hx hb (dd_of dL_law_0 24 rfl) (by decide) (by decide) (by decide) (by decide) ?_
        exact ls_road hl9 oa h0 an sa L xs A hx hb hml hown hts hK hT hN hA hX0 hbl hbA O B B2 F G F2 G2 M FM GM h (by omega) hin hV hD hS hl (by omega) (by omega) next
      · refine lv_tableIn (off := 470) (tgt := 510) hx hb (dd_of dL_law_0 24 rfl) (by decide) (by decide) (by decide) (by decide) ?_
        exact ls_addGate hl9 oa h0 an sa L xs A hx hb hml hown hts hK hT hN hA hX0 hbl hbA O B B2 F G F2 G2 M FM GM h (by omega) hin hV hD hS hl (by omega) (by omega) next
      · refine lv_tableIn (off := 562) (tgt := 602) hx hb (dd_of dL_law_0 24 rfl) (by decide) (by decide) (by decide) (by decide) ?_
        exact ls_addPump hl9 oa h0 an sa L xs A hx hb hml hown hts hK hT hN hA hX0 hbl hbA O B B2 F G F2 G2 M FM GM h (by omega) hin hV hD hS hl (by omega) (by omega) next
      · refine lv_tableIn (off := 666) (tgt := 706) hx hb (dd_of dL_law_0 24 rfl) (by decide) (by decide) (by decide) (by decide) ?_
        exact ls_addDyke hl9 oa h0 an sa L xs A hx hb hml hown hts hK hT hN hA hX0 hbl hbA O B B2 F G F2 G2 M FM GM h (by omega) hin hV hD hS hl (by omega) (by omega) next
      · refine lv_tableIn (off := 770) (tgt := 810) hx hb (dd_of dL_law_0 24 rfl) (by decide) (by decide) (by decide) (by decide) ?_
        exact ls_setOutside hl9 oa h0 an sa L xs A hx hb hml hown hts hK hT hN hA hX0 hbl hbA O B B2 F G F2 G2 M FM GM h (by omega) hin hV hD hS hl (by omega) (by omega) next
      · refine lv_tableIn (off := 830) (tgt := 870) hx hb (dd_of dL_law_0 24 rfl) (by decide) (by decide) (by decide) (by decide) ?_
        exact ls_storm hl9 oa h0 an sa L xs A hx hb hml hown hts hK hT hN hA hX0 hbl hbA O B B2 F G F2 G2 M FM GM h (by omega) hin hV hD hS hl (by omega) (by omega) next
      · refine lv_tableIn (off := 910) (tgt := 950) hx hb (dd_of dL_law_0 24 rfl) (by decide) (by decide) (by decide) (by decide) ?_
        exact ls_rain hl9 oa h0 an sa L xs A hx hb hml hown hts hK hT hN hA hX0 hbl hbA O B B2 F G F2 G2 M FM GM h (by omega) hin hV hD hS hl (by omega) (by omega) next
      · refine lv_tableIn (off := 1002) (tgt := 1042) hx hb (dd_of dL_law_0 24 rfl) (by decide) (by decide) (by decide) (by decide) ?_
        exact ls_setSeed hl9 oa h0 an sa L xs A hx hb hml hown hts hK hT hN hA hX0 hbl hbA O B B2 F G F2 G2 M FM GM h (by omega) hin hV hD hS hl (by omega) (by omega) next
      · refine lv_tableIn (off := 1058) (tgt := 1098) hx hb (dd_of dL_law_0 24 rfl) (by decide) (by decide) (by decide) (by decide) ?_
        exact ls_command hl9 oa h0 an sa L xs A hx hb hml hown hts hK hT hN hA hX0 hbl hbA O B B2 F G F2 G2 M FM GM h (by omega) hin hV hD hS hl (by omega) (by omega) next
      · refine lv_tableIn (off := 1154) (tgt := 1194) hx hb (dd_of dL_law_0 24 rfl) (by decide) (by decide) (by decide) (by decide) ?_
        exact ls_drive hl9 oa h0 an sa L xs A hx hb hml hown hts hK hT hN hA hX0 hbl hbA O B B2 F G F2 G2 M FM GM h (by omega) hin hV hD hS hl (by omega) (by omega) next
      · refine lv_tableIn (off := 1250) (tgt := 1290) hx hb (dd_of dL_law_0 24 rfl) (by decide) (by decide) (by decide) (by decide) ?_
        exact ls_mend hl9 oa h0 an sa L xs A hx hb hml hown hts hK hT hN hA hX0 hbl hbA O B B2 F G F2 G2 M FM GM h (by omega) hin hV hD hS hl (by omega) (by omega) next
      · refine lv_tableIn (off := 1306) (tgt := 1346) hx hb (dd_of dL_law_0 24 rfl) (by decide) (by decide) (by decide) (by decide) ?_
        exact ls_send hl9 oa h0 an sa L xs A hx hb hml hown hts hK hT hN hA hX0 hbl hbA O B B2 F G F2 G2 M FM GM h (by omega) hin hV hD hS hl (by omega) (by omega) next
      · refine lv_tableIn (off := 1386) (tgt := 1426) hx hb (dd_of dL_law_0 24 rfl) (by decide) (by decide) (by decide) (by decide) ?_
        exact ls_budget hl9 oa h0 an sa L xs A hx hb hml hown hts hK hT hN hA hX0 hbl hbA O B B2 F G F2 G2 M FM GM h (by omega) hin hV hD hS hl (by omega) (by omega) next
      · refine lv_tableIn (off := 1454) (tgt := 1494) hx hb (dd_of dL_law_0 24 rfl) (by decide) (by decide) (by decide) (by decide) ?_
        exact ls_raise hl9 oa h0 an sa L xs A hx hb hml hown hts hK hT hN hA hX0 hbl hbA O B B2 F G F2 G2 M FM GM h (by omega) hin hV hD hS hl (by omega) (by omega) next
      · refine lv_tableIn (off := 1534) (tgt := 1574) hx hb (dd_of dL_law_0 24 rfl) (by decide) (by decide) (by decide) (by decide) ?_
        exact ls_run hl9 oa h0 an sa L xs A hx hb hml hown hts hK hT hN hA hX0 hbl hbA O B B2 F G F2 G2 M FM GM h (by omega) hin hV hD hS hl (by omega) (by omega) next
      · refine lv_tableIn (off := 1590) (tgt := 1630) hx hb (dd_of dL_law_0 24 rfl) (by decide) (by decide) (by decide) (by decide) ?_
        exact ls_endYear hl9 oa h0 an sa L xs A hx hb hml hown hts hK hT hN hA hX0 hbl hbA O B B2 F G F2 G2 M FM GM h (by omega) hin hV hD hS hl (by omega) (by omega) next
      · refine lv_tableIn (off := 1634) (tgt := 1674) hx hb (dd_of dL_law_0 24 rfl) (by decide) (by decide) (by decide) (by decide) ?_
        exact ls_hour hl9 oa h0 an sa L xs A hx hb hml hown hts hK hT hN hA hX0 hbl hbA O B B2 F G F2 G2 M FM GM h (by omega) hin hV hD hS hl (by omega) (by omega) next
      · refine lv_tableIn (off := 1647) (tgt := 1687) hx hb (dd_of dL_law_0 24 rfl) (by decide) (by decide) (by decide) (by decide) ?_
        exact ls_money hl9 oa h0 an sa L xs A hx hb hml hown hts hK hT hN hA hX0 hbl hbA O B B2 F G F2 G2 M FM GM h (by omega) hin hV hD hS hl (by omega) (by omega) next
      · refine lv_tableIn (off := 1660) (tgt := 1700) hx hb (dd_of dL_law_0 24 rfl) (by decide) (by decide) (by decide) (by decide) ?_
        exact ls_level hl9 oa h0 an sa L xs A hx hb hml hown hts hK hT hN hA hX0 hbl hbA O B B2 F G F2 G2 M FM GM h (by omega) hin hV hD hS hl (by omega) (by omega) next
      · refine lv_tableIn (off := 1715) (tgt := 1755) hx hb (dd_of dL_law_0 24 rfl) (by decide) (by decide) (by decide) (by decide) ?_
        exact ls_water hl9 oa h0 an sa L xs A hx hb hml hown hts hK hT hN hA hX0 hbl hbA O B B2 F G F2 G2 M FM GM h (by omega) hin hV hD hS hl (by omega) (by omega) next
      · refine lv_tableIn (off := 1770) (tgt := 1810) hx hb (dd_of dL_law_0 24 rfl) (by decide) (by decide) (by decide) (by decide) ?_
        exact ls_harm hl9 oa h0 an sa L xs A hx hb hml hown hts hK hT hN hA hX0 hbl hbA O B B2 F G F2 G2 M FM GM h (by omega) hin hV hD hS hl (by omega) (by omega) next
      · refine lv_tableIn (off := 1825) (tgt := 1865) hx hb (dd_of dL_law_0 24 rfl) (by decide) (by decide) (by decide) (by decide) ?_
        exact ls_ledger hl9 oa h0 an sa L xs A hx hb hml hown hts hK hT hN hA hX0 hbl hbA O B B2 F G F2 G2 M FM GM h (by omega) hin hV hD hS hl (by omega) (by omega) next
      · refine lv_tableIn (off := 1880) (tgt := 1920) hx hb (dd_of dL_law_0 24 rfl) (by decide) (by decide) (by decide) (by decide) ?_
        exact ls_isOpen hl9 oa h0 an sa L xs A hx hb hml hown hts hK hT hN hA hX0 hbl hbA O B B2 F G F2 G2 M FM GM h (by omega) hin hV hD hS hl (by omega) (by omega) next
      · refine lv_tableIn (off := 1943) (tgt := 1983) hx hb (dd_of dL_law_0 24 rfl) (by decide) (by decide) (by decide) (by decide) ?_
        exact ls_pump hl9 oa h0 an sa L xs A hx hb hml hown hts hK hT hN hA hX0 hbl hbA O B B2 F G F2 G2 M FM GM h (by omega) hin hV hD hS hl (by omega) (by omega) next
      · refine lv_tableIn (off := 2011) (tgt := 2051) hx hb (dd_of dL_law_0 24 rfl) (by decide) (by decide) (by decide) (by decide) ?_
        exact ls_dyke hl9 oa h0 an sa L xs A hx hb hml hown hts hK hT hN hA hX0 hbl hbA O B B2 F G F2 G2 M FM GM h (by omega) hin hV hD hS hl (by omega) (by omega) next
      · refine lv_tableIn (off := 2079) (tgt := 2119) hx hb (dd_of dL_law_0 24 rfl) (by decide) (by decide) (by decide) (by decide) ?_
        exact ls_crew hl9 oa h0 an sa L xs A hx hb hml hown hts hK hT hN hA hX0 hbl hbA O B B2 F G F2 G2 M FM GM h (by omega) hin hV hD hS hl (by omega) (by omega) next
      · refine lv_tableIn (off := 2147) (tgt := 2187) hx hb (dd_of dL_law_0 24 rfl) (by decide) (by decide) (by decide) (by decide) ?_
        exact ls_sea hl9 oa h0 an sa L xs A hx hb hml hown hts hK hT hN hA hX0 hbl hbA O B B2 F G F2 G2 M FM GM h (by omega) hin hV hD hS hl (by omega) (by omega) next
      · refine lv_tableIn (off := 2202) (tgt := 2242) hx hb (dd_of dL_law_0 24 rfl) (by decide) (by decide) (by decide) (by decide) ?_
        exact ls_forecast hl9 oa h0 an sa L xs A hx hb hml hown hts hK hT hN hA hX0 hbl hbA O B B2 F G F2 G2 M FM GM h (by omega) hin hV hD hS hl (by omega) (by omega) next
      · refine lv_tableIn (off := 2257) (tgt := 2297) hx hb (dd_of dL_law_0 24 rfl) (by decide) (by decide) (by decide) (by decide) ?_
        exact ls_record hl9 oa h0 an sa L xs A hx hb hml hown hts hK hT hN hA hX0 hbl hbA O B B2 F G F2 G2 M FM GM h (by omega) hin hV hD hS hl (by omega) (by omega) next
      · refine lv_tableIn (off := 2312) (tgt := 2352) hx hb (dd_of dL_law_0 24 rfl) (by decide) (by decide) (by decide) (by decide) ?_
        exact ls_nextHeight hl9 oa h0 an sa L xs A hx hb hml hown hts hK hT hN hA hX0 hbl hbA O B B2 F G F2 G2 M FM GM h (by omega) hin hV hD hS hl (by omega) (by omega) next
      · refine lv_tableIn (off := 2379) (tgt := 2419) hx hb (dd_of dL_law_0 24 rfl) (by decide) (by decide) (by decide) (by decide) ?_
        exact ls_share hl9 oa h0 an sa L xs A hx hb hml hown hts hK hT hN hA hX0 hbl hbA O B B2 F G F2 G2 M FM GM h (by omega) hin hV hD hS hl (by omega) (by omega) next
      · refine lv_tableIn (off := 2447) (tgt := 2487) hx hb (dd_of dL_law_0 24 rfl) (by decide) (by decide) (by decide) (by decide) ?_
        exact ls_digest hl9 oa h0 an sa L xs A hx hb hml hown hts hK hT hN hA hX0 hbl hbA O B B2 F G F2 G2 M FM GM h (by omega) hin hV hD hS hl (by omega) (by omega) next
      · refine lv_tableIn (off := 2461) (tgt := 2501) hx hb (dd_of dL_law_0 24 rfl) (by decide) (by decide) (by decide) (by decide) ?_
        exact ls_digestAnew hl9 oa h0 an sa L xs A hx hb hml hown hts hK hT hN hA hX0 hbl hbA O B B2 F G F2 G2 M FM GM h (by omega) hin hV hD hS hl (by omega) (by omega) next
