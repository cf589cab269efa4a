-- what holds at the law's head, and how each call keeps it
def LI (N nb ng np nd ny t : Nat) (F : jF) (G : jG) (F2 : jF) (G2 : jG) (M FM : jF) (GM : jG) : Prop := (∃ n, n ≤ N ∧ Iv n F G F2 G2 M FM GM) ∧ (bal GM = 0 ∧ hb (79200 * (t : Int)) GM) ∧ (cn F 0 = t ∧ cn F 8 = nb ∧ cn F 17 = ng ∧ cn F 23 = np ∧ cn F 32 = nd ∧ cn F 1 = ny)
theorem cn_v {F : jF} {k c : Nat} (h : F k 0 = nI c) (hc : c < 2147483648) : cn F k = c := by unfold cn; rw [h, nI_clamp (by omega)]
theorem cn_s {F FM FM1 : jF} {k : Nat} (h : FM1 k = FM k) (hR : ag shF F FM) (hk : k ∈ shF) : cn FM1 k = cn F k := (cn_of h).trans (cn_of (hR.at k hk))
theorem LI_mk {N n nb ng np nd ny t : Nat} {F1 F2 : jF} {G1 G2 : jG} {M1 FM1 : jF} {GM1 : jG} (hn : n ≤ N) (iv : Iv n F1 G1 F2 G2 M1 FM1 GM1) (hb0 : bal GM1 = 0) (hh : hb (79200 * (t : Int)) GM1) (c0 : cn FM1 0 = t) (c8 : cn FM1 8 = nb) (c17 : cn FM1 17 = ng) (c23 : cn FM1 23 = np) (c32 : cn FM1 32 = nd) (c1 : cn FM1 1 = ny) : LI N nb ng np nd ny t F1 G1 F2 G2 M1 FM1 GM1 := by
  have hR := (Iv_b iv).1.2.1.1
  have e : ∀ k, k ∈ shF → cn F1 k = cn FM1 k := fun k hk => (cn_of (hR.at k hk)).symm
  exact ⟨⟨n, hn, iv⟩, ⟨hb0, hh⟩, (e 0 (by decide)).trans c0, (e 8 (by decide)).trans c8, (e 17 (by decide)).trans c17, (e 23 (by decide)).trans c23, (e 32 (by decide)).trans c32, (e 1 (by decide)).trans c1⟩
theorem LI_up {N N1 nb ng np nd ny t : Nat} {F F2 : jF} {G G2 : jG} {M FM : jF} {GM : jG} (h : LI N nb ng np nd ny t F G F2 G2 M FM GM) (hN : N ≤ N1) : LI N1 nb ng np nd ny t F G F2 G2 M FM GM := by
  obtain ⟨⟨n, hn, iv⟩, h2⟩ := h
  exact ⟨⟨n, by omega, iv⟩, h2⟩
theorem bal_of {G G1 : jG} (h14 : G1 14 = G 14) (h56 : G1 56 = G 56) : bal G1 = bal G := by unfold bal; rw [h14, h56]
theorem hb_of {B : Int} {G G1 : jG} (h : hb B G) (e : G1 15 = G 15) : hb B G1 := fun k => by rw [e]; exact h k
theorem ti_inj {a b : Int32} (h : a.toInt64 = b.toInt64) : a = b := by
  have := congrArg Int64.toInt32 h
  rwa [ti32, ti32] at this
section LC
variable {N nb ng np nd ny t : Nat} {F F2 : jF} {G G2 : jG} {M FM : jF} {GM : jG}
theorem fe_addGate (h : LI N nb ng np nd ny t F G F2 G2 M FM GM) (hN : N < 512) {k : Nat} (hk : k < nb) {q : Int32} (hq : eo F q) (hne : ¬ nI k = q) (h8 : ng < 8) {p3 : Int32} (p3a : (1 : Int32).toInt ≤ p3.toInt) (p3b : p3.toInt ≤ (9999 : Int32).toInt) {p4 : Int32} (p4a : (0 : Int32).toInt ≤ p4.toInt) (p4b : p4.toInt ≤ (3 : Int32).toInt) : okX11_addGate F G M (nI k) q p3 p4 ∧ ∃ F1 G1 M1 FM1 GM1, gX11_addGate F G M (nI k) q p3 p4 = (0, (nI ng, ((F1, G1), M1))) ∧ LI (N + 1) nb (ng + 1) np nd ny t F1 G1 F2 G2 M1 FM1 GM1 := by
  obtain ⟨⟨n, hn, iv⟩, ⟨hb0, hh⟩, rfl, rfl, rfl, rfl, rfl, rfl⟩ := h
  have hRR := (Iv_b iv).1
  have hW := hRR.1.1.1
  have hR := hRR.2.1.1
  obtain ⟨ok, -, hr⟩ := fm_addGate iv (by omega) (nI k) q p3 p4
  obtain ⟨FM1, e, e60, ec, fo⟩ := adR_x (r_addGate G GM hW hR hk hq hne h8 p3a p3b p4a p4b)
  obtain ⟨x, F1, G1, M1, e1, e2, iv1⟩ := rM_go hr e e60 (by decide)
  have ex : x = nI (cn F 17) := ti_inj e2
  subst ex
  exact ⟨ok, F1, G1, M1, FM1, GM, e1, LI_mk (by omega) iv1 hb0 hh (cn_s (fo 0 (by decide)) hR (by decide)) (cn_s (fo 8 (by decide)) hR (by decide)) (cn_v ec (by omega)) (cn_s (fo 23 (by decide)) hR (by decide)) (cn_s (fo 32 (by decide)) hR (by decide)) (cn_s (fo 1 (by decide)) hR (by decide))⟩
theorem fe_addPump (h : LI N nb ng np nd ny t F G F2 G2 M FM GM) (hN : N < 512) {k : Nat} (hk : k < nb) {q : Int32} (hq : eo F q) (hne : ¬ nI k = q) (h8 : np < 8) {p3 : Int32} (p3a : (1 : Int32).toInt ≤ p3.toInt) (p3b : p3.toInt ≤ (9999 : Int32).toInt) {p4 : Int32} (p4a : (0 : Int32).toInt ≤ p4.toInt) (p4b : p4.toInt ≤ (999 : Int32).toInt) {p5 : Int32} (p5a : (1 : Int32).toInt ≤ p5.toInt) (p5b : p5.toInt ≤ (999 : Int32).toInt) : okX11_addPump F G M (nI k) q p3 p4 p5 ∧ ∃ F1 G1 M1 FM1 GM1, gX11_addPump F G M (nI k) q p3 p4 p5 = (0, (nI np, ((F1, G1), M1))) ∧ LI (N + 1) nb ng (np + 1) nd ny t F1 G1 F2 G2 M1 FM1 GM1 := by
  obtain ⟨⟨n, hn, iv⟩, ⟨hb0, hh⟩, rfl, rfl, rfl, rfl, rfl, rfl⟩ := h
  have hRR := (Iv_b iv).1
  have hW := hRR.1.1.1
  have hR := hRR.2.1.1
  obtain ⟨ok, -, hr⟩ := fm_addPump iv (by omega) (nI k) q p3 p4 p5
  obtain ⟨FM1, e, e60, ec, fo⟩ := adR_x (r_addPump G GM hW hR hk hq hne h8 p3a p3b p4a p4b p5a p5b)
  obtain ⟨x, F1, G1, M1, e1, e2, iv1⟩ := rM_go hr e e60 (by decide)
  have ex : x = nI (cn F 23) := ti_inj e2
  subst ex
  exact ⟨ok, F1, G1, M1, FM1, GM, e1, LI_mk (by omega) iv1 hb0 hh (cn_s (fo 0 (by decide)) hR (by decide)) (cn_s (fo 8 (by decide)) hR (by decide)) (cn_s (fo 17 (by decide)) hR (by decide)) (cn_v ec (by omega)) (cn_s (fo 32 (by decide)) hR (by decide)) (cn_s (fo 1 (by decide)) hR (by decide))⟩
theorem fe_addDyke (h : LI N nb ng np nd ny t F G F2 G2 M FM GM) (hN : N < 512) {k : Nat} (hk : k < nb) {q : Int32} (hq : eo F q) (hne : ¬ nI k = q) (h8 : nd < 8) {p3 : Int32} (p3a : ((-500) : Int32).toInt ≤ p3.toInt) (p3b : p3.toInt ≤ (999 : Int32).toInt) {p4 : Int32} (p4a : (1 : Int32).toInt ≤ p4.toInt) (p4b : p4.toInt ≤ (999 : Int32).toInt) {p5 : Int32} (p5a : (0 : Int32).toInt ≤ p5.toInt) (p5b : p5.toInt ≤ (99 : Int32).toInt) : okX11_addDyke F G M (nI k) q p3 p4 p5 ∧ ∃ F1 G1 M1 FM1 GM1, gX11_addDyke F G M (nI k) q p3 p4 p5 = (0, (nI nd, ((F1, G1), M1))) ∧ LI (N + 1) nb ng np (nd + 1) ny t F1 G1 F2 G2 M1 FM1 GM1 := by
  obtain ⟨⟨n, hn, iv⟩, ⟨hb0, hh⟩, rfl, rfl, rfl, rfl, rfl, rfl⟩ := h
  have hRR := (Iv_b iv).1
  have hW := hRR.1.1.1
  have hR := hRR.2.1.1
  obtain ⟨ok, -, hr⟩ := fm_addDyke iv (by omega) (nI k) q p3 p4 p5
  obtain ⟨FM1, e, e60, ec, fo⟩ := adR_x (r_addDyke G GM hW hR hk hq hne h8 p3a p3b p4a p4b p5a p5b)
  obtain ⟨x, F1, G1, M1, e1, e2, iv1⟩ := rM_go hr e e60 (by decide)
  have ex : x = nI (cn F 32) := ti_inj e2
  subst ex
  exact ⟨ok, F1, G1, M1, FM1, GM, e1, LI_mk (by omega) iv1 hb0 hh (cn_s (fo 0 (by decide)) hR (by decide)) (cn_s (fo 8 (by decide)) hR (by decide)) (cn_s (fo 17 (by decide)) hR (by decide)) (cn_s (fo 23 (by decide)) hR (by decide)) (cn_v ec (by omega)) (cn_s (fo 1 (by decide)) hR (by decide))⟩
theorem fe_addBasin (h : LI N nb ng np nd ny t F G F2 G2 M FM GM) (hN : N < 512) (h8 : nb < 8) {p1 p2 : Int32} (a1 : (1 : Int32).toInt ≤ p1.toInt) (a2 : p1.toInt ≤ (100 : Int32).toInt) (b1 : (-500 : Int32).toInt ≤ p2.toInt) (b2 : p2.toInt ≤ (500 : Int32).toInt) : okX11_addBasin F G M p1 p2 ∧ ∃ F1 G1 M1 FM1 GM1, gX11_addBasin F G M p1 p2 = (0, (nI nb, ((F1, G1), M1))) ∧ LI (N + 1) (nb + 1) ng np nd ny t F1 G1 F2 G2 M1 FM1 GM1 ∧ GM1 2 = GM 2 := by
  obtain ⟨⟨n, hn, iv⟩, ⟨hb0, hh⟩, rfl, rfl, rfl, rfl, rfl, rfl⟩ := h
  have hRR := (Iv_b iv).1
  have hW := hRR.1.1.1
  have hR := hRR.2.1.1
  obtain ⟨ok, -, hr⟩ := fm_addBasin iv (by omega) p1 p2
  obtain ⟨v, FM1, GM1, e, ⟨ev, e60, ec⟩, fo, go⟩ := rfR_x (r_addBasin hW hR GM h8 a1 a2 b1 b2)
  obtain ⟨x, F1, G1, M1, e1, e2, iv1⟩ := rM_go hr e e60 (by decide)
  have ex : x = nI (cn F 8) := (ti_inj e2).trans ev
  subst ex
  exact ⟨ok, F1, G1, M1, FM1, GM1, e1, LI_mk (by omega) iv1 ((bal_of (go 14 (by decide)) (go 56 (by decide))).trans hb0) (hb_of hh (go 15 (by decide))) (cn_s (fo 0 (by decide)) hR (by decide)) (cn_v ec (by omega)) (cn_s (fo 17 (by decide)) hR (by decide)) (cn_s (fo 23 (by decide)) hR (by decide)) (cn_s (fo 32 (by decide)) hR (by decide)) (cn_s (fo 1 (by decide)) hR (by decide)), go 2 (by decide)⟩
theorem fe_setLand (h : LI N nb ng np nd ny t F G F2 G2 M FM GM) (hN : N < 512) {k : Nat} (hk : k < nb) {p2 p3 p4 : Int32} (a1 : (0 : Int32).toInt ≤ p2.toInt) (a2 : p2.toInt ≤ (20 : Int32).toInt) (b1 : (0 : Int32).toInt ≤ p3.toInt) (b2 : p3.toInt ≤ (9999 : Int32).toInt) (c1 : (0 : Int32).toInt ≤ p4.toInt) (c2 : p4.toInt ≤ (99 : Int32).toInt) : okX11_setLand F G M (nI k) p2 p3 p4 ∧ ∃ F1 G1 M1 FM1 GM1, gX11_setLand F G M (nI k) p2 p3 p4 = (0, ((F1, G1), M1)) ∧ LI (N + 1) nb ng np nd ny t F1 G1 F2 G2 M1 FM1 GM1 ∧ GM1 2 = GM 2 := by
  obtain ⟨⟨n, hn, iv⟩, ⟨hb0, hh⟩, rfl, rfl, rfl, rfl, rfl, rfl⟩ := h
  have hRR := (Iv_b iv).1
  have hW := hRR.1.1.1
  have hR := hRR.2.1.1
  obtain ⟨ok, -, hr⟩ := fm_setLand iv (by omega) (nI k) p2 p3 p4
  obtain ⟨FM1, GM1, e, e60, fo, go⟩ := rfV_x (r_setLand hW hR GM hk a1 a2 b1 b2 c1 c2)
  obtain ⟨F1, G1, M1, e1, iv1⟩ := rV_go hr e e60 (by decide)
  exact ⟨ok, F1, G1, M1, FM1, GM1, e1, LI_mk (by omega) iv1 ((bal_of (go 14 (by decide)) (go 56 (by decide))).trans hb0) (hb_of hh (go 15 (by decide))) (cn_s (fo 0 (by decide)) hR (by decide)) (cn_s (fo 8 (by decide)) hR (by decide)) (cn_s (fo 17 (by decide)) hR (by decide)) (cn_s (fo 23 (by decide)) hR (by decide)) (cn_s (fo 32 (by decide)) hR (by decide)) (cn_s (fo 1 (by decide)) hR (by decide)), go 2 (by decide)⟩
theorem fe_pour (h : LI N nb ng np nd ny t F G F2 G2 M FM GM) (hN : N < 512) {k : Nat} (hk : k < nb) {p2 : Int32} (a1 : (0 : Int32).toInt ≤ p2.toInt) (a2 : p2.toInt ≤ (1000000 : Int32).toInt) : okX11_pour F G M (nI k) p2 ∧ ∃ x F1 G1 M1 FM1 GM1, gX11_pour F G M (nI k) p2 = (0, (x, ((F1, G1), M1))) ∧ ¬ x < 0 ∧ LI (N + 1) nb ng np nd ny t F1 G1 F2 G2 M1 FM1 GM1 ∧ GM1 2 = GM 2 := by
  obtain ⟨⟨n, hn, iv⟩, ⟨hb0, hh⟩, rfl, rfl, rfl, rfl, rfl, rfl⟩ := h
  have hRR := (Iv_b iv).1
  have hW := hRR.1.1.1
  have hR := hRR.2.1.1
  obtain ⟨ok, -, hr⟩ := fm_pour iv (by omega) (nI k) p2
  obtain ⟨v, FM1, GM1, e, ⟨ev, e60, eb⟩, fo, go⟩ := rfR_x (r_pour hW hR GM hk a1 a2)
  obtain ⟨x, F1, G1, M1, e1, e2, iv1⟩ := rM_go hr e e60 (by decide)
  have hRR1 := (Iv_b iv1).1
  have c8 : cn F1 8 = cn F 8 := (cn_of (hRR1.2.1.1.at 8 (by decide))).symm.trans (cn_s (fo 8 (by decide)) hR (by decide))
  have ex : x = G1 14 k := by
    have : x = v := e2
    rw [this, ev, hRR1.2.1.2.at 14 (by decide)]
  have hp : ¬ x < 0 := by
    rw [ex]
    exact (fx_water hRR1 M1 (by rw [c8]; exact hk)).2.2
  exact ⟨ok, x, F1, G1, M1, FM1, GM1, e1, hp, LI_mk (by omega) iv1 (eb.trans hb0) (hb_of hh (go 15 (by decide))) (cn_s (fo 0 (by decide)) hR (by decide)) (cn_s (fo 8 (by decide)) hR (by decide)) (cn_s (fo 17 (by decide)) hR (by decide)) (cn_s (fo 23 (by decide)) hR (by decide)) (cn_s (fo 32 (by decide)) hR (by decide)) (cn_s (fo 1 (by decide)) hR (by decide)), go 2 (by decide)⟩
theorem fe_budget (h : LI N nb ng np nd ny t F G F2 G2 M FM GM) (hN : N < 512) {p1 p2 : Int32} (a1 : (0 : Int32).toInt ≤ p1.toInt) (a2 : p1.toInt ≤ (9999 : Int32).toInt) (b1 : (0 : Int32).toInt ≤ p2.toInt) (b2 : p2.toInt ≤ (9999 : Int32).toInt) : okX11_budget F G M p1 p2 ∧ ∃ F1 G1 M1 FM1 GM1, gX11_budget F G M p1 p2 = (0, (Int64.toInt32 (GM 2 0 + p2.toInt64), ((F1, G1), M1))) ∧ LI (N + 1) nb ng np nd ny t F1 G1 F2 G2 M1 FM1 GM1 := by
  obtain ⟨⟨n, hn, iv⟩, ⟨hb0, hh⟩, rfl, rfl, rfl, rfl, rfl, rfl⟩ := h
  have hRR := (Iv_b iv).1
  have hW := hRR.1.1.1
  have hR := hRR.2.1.1
  obtain ⟨ok, hr⟩ := fm_budget iv (by omega) p1 p2
  obtain ⟨v, FM1, GM1, e, ⟨ev, e60⟩, fo, go⟩ := rfR_x (r_budget FM GM a1 a2 b1 b2)
  obtain ⟨x, F1, G1, M1, e1, e2, iv1⟩ := rM_go hr e e60 (by decide)
  have ex : x = v := ti_inj e2
  subst ex; subst ev
  exact ⟨ok, F1, G1, M1, FM1, GM1, e1, LI_mk (by omega) iv1 ((bal_of (go 14 (by decide)) (go 56 (by decide))).trans hb0) (hb_of hh (go 15 (by decide))) (cn_s (fo 0 (by decide)) hR (by decide)) (cn_s (fo 8 (by decide)) hR (by decide)) (cn_s (fo 17 (by decide)) hR (by decide)) (cn_s (fo 23 (by decide)) hR (by decide)) (cn_s (fo 32 (by decide)) hR (by decide)) (cn_s (fo 1 (by decide)) hR (by decide))⟩
theorem fe_setOutside (h : LI N nb ng np nd ny t F G F2 G2 M FM GM) (hN : N < 512) {p1 p2 p3 : Int32} (a1 : (-99 : Int32).toInt ≤ p1.toInt) (a2 : p1.toInt ≤ (99 : Int32).toInt) (b1 : (0 : Int32).toInt ≤ p2.toInt) (b2 : p2.toInt ≤ (400 : Int32).toInt) (c1 : (-9999 : Int32).toInt ≤ p3.toInt) (c2 : p3.toInt ≤ (99999 : Int32).toInt) : okX11_setOutside F G M p1 p2 p3 ∧ ∃ F1 G1 M1 FM1 GM1, gX11_setOutside F G M p1 p2 p3 = (0, ((F1, G1), M1)) ∧ LI (N + 1) nb ng np nd ny t F1 G1 F2 G2 M1 FM1 GM1 := by
  obtain ⟨⟨n, hn, iv⟩, ⟨hb0, hh⟩, rfl, rfl, rfl, rfl, rfl, rfl⟩ := h
  have hRR := (Iv_b iv).1
  have hW := hRR.1.1.1
  have hR := hRR.2.1.1
  obtain ⟨ok, hr⟩ := fm_setOutside iv (by omega) p1 p2 p3
  obtain ⟨FM1, GM1, e, e60, fo, go⟩ := rfV_x (r_setOutside FM GM a1 a2 b1 b2 c1 c2)
  obtain ⟨F1, G1, M1, e1, iv1⟩ := rV_go hr e e60 (by decide)
  exact ⟨ok, F1, G1, M1, FM1, GM1, e1, LI_mk (by omega) iv1 ((bal_of (go 14 (by decide)) (go 56 (by decide))).trans hb0) (hb_of hh (go 15 (by decide))) (cn_s (fo 0 (by decide)) hR (by decide)) (cn_s (fo 8 (by decide)) hR (by decide)) (cn_s (fo 17 (by decide)) hR (by decide)) (cn_s (fo 23 (by decide)) hR (by decide)) (cn_s (fo 32 (by decide)) hR (by decide)) (cn_s (fo 1 (by decide)) hR (by decide))⟩
theorem fe_road (h : LI N nb ng np nd ny t F G F2 G2 M FM GM) (hN : N < 512) {k q : Nat} (hk : k < nb) (hq : q < nb) (hne : k ≠ q) : okX11_road F G M (nI k) (nI q) 1 ∧ ∃ x F1 G1 M1 FM1 GM1, gX11_road F G M (nI k) (nI q) 1 = (0, (x, ((F1, G1), M1))) ∧ (FM 16 (Int32.toNatClampNeg (8 * nI k + nI q)) = 1 → ¬ x = 0) ∧ FM1 16 (Int32.toNatClampNeg (8 * nI k + nI q)) = 1 ∧ LI (N + 1) nb ng np nd ny t F1 G1 F2 G2 M1 FM1 GM1 := by
  obtain ⟨⟨n, hn, iv⟩, ⟨hb0, hh⟩, rfl, rfl, rfl, rfl, rfl, rfl⟩ := h
  have hRR := (Iv_b iv).1
  have hW := hRR.1.1.1
  have hR := hRR.2.1.1
  obtain ⟨ok, -, hr⟩ := fm_road iv (by omega) (nI k) (nI q) 1
  obtain ⟨v, FM1, GM1, e, ⟨ev, e60, e16⟩, fo, go⟩ := rfR_x (r_road hW hR GM hk hq hne)
  obtain ⟨x, F1, G1, M1, e1, e2, iv1⟩ := rM_go hr e e60 (by decide)
  have hx : FM 16 (Int32.toNatClampNeg (8 * nI k + nI q)) = 1 → ¬ x = 0 := fun h1 h2 => by
    rw [if_pos h1] at ev
    have e2 : (if x = 0 then (0 : Int64) else 1) = (if v = 0 then (0 : Int64) else 1) := e2
    rw [if_pos h2, ev, if_neg d10] at e2
    exact absurd e2 (by decide)
  exact ⟨ok, x, F1, G1, M1, FM1, GM1, e1, hx, e16, LI_mk (by omega) iv1 ((bal_of (go 14 (by decide)) (go 56 (by decide))).trans hb0) (hb_of hh (go 15 (by decide))) (cn_s (fo 0 (by decide)) hR (by decide)) (cn_s (fo 8 (by decide)) hR (by decide)) (cn_s (fo 17 (by decide)) hR (by decide)) (cn_s (fo 23 (by decide)) hR (by decide)) (cn_s (fo 32 (by decide)) hR (by decide)) (cn_s (fo 1 (by decide)) hR (by decide))⟩
theorem fe_command (h : LI N nb ng np nd ny t F G F2 G2 M FM GM) (hN : N < 512) {k : Nat} (hk : k < ng) {p2 p3 : Int32} (hp2 : p2 = 0 ∨ p2 = 1) (a1 : (0 : Int32).toInt ≤ p3.toInt) (a2 : p3.toInt ≤ (3 : Int32).toInt) : okX11_command F G M (nI k) p2 p3 ∧ ∃ x F1 G1 M1 FM1 GM1, gX11_command F G M (nI k) p2 p3 = (0, (x, ((F1, G1), M1))) ∧ (¬ x < 0 ∧ ¬ (3 : Int32) < x) ∧ (x = 0 → F1 22 k = p2) ∧ (¬ x = 0 → F1 22 k = F 22 k) ∧ LI (N + 1) nb ng np nd ny t F1 G1 F2 G2 M1 FM1 GM1 := by
  obtain ⟨⟨n, hn, iv⟩, ⟨hb0, hh⟩, rfl, rfl, rfl, rfl, rfl, rfl⟩ := h
  have hRR := (Iv_b iv).1
  have hW := hRR.1.1.1
  have hR := hRR.2.1.1
  obtain ⟨ok, -, hr⟩ := fm_command iv (by omega) (nI k) p2 p3
  obtain ⟨v, FM1, GM1, e, ⟨e60, ev⟩, fo, go⟩ := rfR_x (r_command hW hR GM hk (p2 := p2) a1 a2)
  obtain ⟨x, F1, G1, M1, e1, e2, iv1⟩ := rM_go hr e e60 (by decide)
  have ex : x = v := ti_inj e2
  subst ex
  have h22 := (Iv_b iv1).1.2.1.1.at 22 (by decide)
  have g22 := hR.at 22 (by decide)
  have hp : (if p2 = 0 then (0 : Int32) else 1) = p2 := by rcases hp2 with rfl | rfl <;> rfl
  have b : (¬ x < 0 ∧ ¬ (3 : Int32) < x) ∧ (x = 0 → F1 22 k = p2) ∧ (¬ x = 0 → F1 22 k = F 22 k) := by
    rw [← h22, ← g22]
    rcases ev with ⟨rfl, ev⟩ | ⟨hv, ev⟩
    · exact ⟨⟨by decide, by decide⟩, fun _ => ev.trans hp, fun h => absurd rfl h⟩
    · rw [ev]
      rcases hv with rfl | rfl | rfl
      · exact ⟨⟨by decide, by decide⟩, fun h => absurd h (by decide), fun _ => rfl⟩
      · exact ⟨⟨by decide, by decide⟩, fun h => absurd h (by decide), fun _ => rfl⟩
      · exact ⟨⟨by decide, by decide⟩, fun h => absurd h (by decide), fun _ => rfl⟩
  exact ⟨ok, x, F1, G1, M1, FM1, GM1, e1, b.1, b.2.1, b.2.2, LI_mk (by omega) iv1 ((bal_of (go 14 (by decide)) (go 56 (by decide))).trans hb0) (hb_of hh (go 15 (by decide))) (cn_s (fo 0 (by decide)) hR (by decide)) (cn_s (fo 8 (by decide)) hR (by decide)) (cn_s (fo 17 (by decide)) hR (by decide)) (cn_s (fo 23 (by decide)) hR (by decide)) (cn_s (fo 32 (by decide)) hR (by decide)) (cn_s (fo 1 (by decide)) hR (by decide))⟩
theorem mo_64 {b : Int} {c : Nat} (h : RR b c F G FM GM) {x : Int32} : x.toInt64 ≤ GM 2 0 ↔ x.toInt ≤ (F 62 0).toInt := by
  rw [← h.2.2.1, i64le, i3264, i3264]
theorem fe_drive (h : LI N nb ng np nd ny t F G F2 G2 M FM GM) (hN : N < 512) {k : Nat} (hk : k < np) {p2 p3 : Int32} (a1 : (0 : Int32).toInt ≤ p3.toInt) (a2 : p3.toInt ≤ (99 : Int32).toInt) : okX11_drive F G M (nI k) p2 p3 ∧ ((¬ F 62 0 < p3 ∧ ∃ F1 G1 M1 FM1 GM1, gX11_drive F G M (nI k) p2 p3 = (0, (F 30 k + p3, ((F1, G1), M1))) ∧ F1 62 0 = F 62 0 - p3 ∧ LI (N + 1) nb ng np nd ny t F1 G1 F2 G2 M1 FM1 GM1) ∨ (F 62 0 < p3 ∧ (gX11_drive F G M (nI k) p2 p3).1 = 3)) := by
  obtain ⟨⟨n, hn, iv⟩, ⟨hb0, hh⟩, rfl, rfl, rfl, rfl, rfl, rfl⟩ := h
  have hRR := (Iv_b iv).1
  have hW := hRR.1.1.1
  have hR := hRR.2.1.1
  obtain ⟨ok, -, hr⟩ := fm_drive iv (by omega) (nI k) p2 p3
  obtain ⟨r1, r2⟩ := r_drive hW hR GM hk (p2 := p2) a1 a2
  refine ⟨ok, ?_⟩
  by_cases hm : p3.toInt64 ≤ GM 2 0
  · left
    have hm2 := (mo_64 hRR).mp hm
    refine ⟨by rw [i32lt]; omega, ?_⟩
    obtain ⟨v, FM1, GM1, e, ⟨ev, e60, eg⟩, fo, go⟩ := rfR_x (r1 hm)
    obtain ⟨x, F1, G1, M1, e1, e2, iv1⟩ := rM_go hr e e60 (by decide)
    have ex : x = F 30 k + p3 := by rw [ti_inj e2, ev, hR.at 30 (by decide)]
    subst ex
    have q1 := (Iv_b iv1).1.2.2.1
    have q0 := hRR.2.2.1
    have mb := hRR.1.2.2.2.1.1
    have y0 : (0 : Int32).toInt = 0 := rfl
    have y99 : (99 : Int32).toInt = 99 := rfl
    have hmo : F1 62 0 = F 62 0 - p3 := by
      rw [eg, ← q0] at q1
      have q2 := congrArg Int64.toInt q1
      rw [i3264, i64s (by rw [i3264, i3264]; omega) (by rw [i3264, i3264]; omega), i3264, i3264] at q2
      rw [i32eq, i32s (by omega) (by omega)]
      exact q2
    exact ⟨F1, G1, M1, FM1, GM1, e1, hmo, LI_mk (by omega) iv1 ((bal_of (go 14 (by decide)) (go 56 (by decide))).trans hb0) (hb_of hh (go 15 (by decide))) (cn_s (fo 0 (by decide)) hR (by decide)) (cn_s (fo 8 (by decide)) hR (by decide)) (cn_s (fo 17 (by decide)) hR (by decide)) (cn_s (fo 23 (by decide)) hR (by decide)) (cn_s (fo 32 (by decide)) hR (by decide)) (cn_s (fo 1 (by decide)) hR (by decide))⟩
  · right
    obtain ⟨v, FM1, GM1, e, e60, fo, go⟩ := rfR_x (r2 hm)
    obtain ⟨j, x, hj, e1, e2⟩ := rM_no hr e (by rw [e60]; decide)
    rw [e60] at e2
    refine ⟨?_, ?_⟩
    · have : ¬ p3.toInt ≤ (F 62 0).toInt := fun q => hm ((mo_64 hRR).mpr q)
      rw [i32lt]; omega
    · rw [e1]
      show j = 3
      simp only [List.mem_cons, List.not_mem_nil, or_false] at hj
      rcases hj with rfl | rfl | rfl
      · exact absurd e2 (by decide)
      · exact absurd e2 (by decide)
      · rfl
theorem fe_mend (h : LI N nb ng np nd ny t F G F2 G2 M FM GM) (hN : N < 512) {k : Nat} (hk : k < np) : okX11_mend F G M (nI k) ∧ ((∃ F1 G1 M1 FM1 GM1, gX11_mend F G M (nI k) = (0, (F 31 k, ((F1, G1), M1))) ∧ F1 31 k = 0 ∧ LI (N + 1) nb ng np nd ny t F1 G1 F2 G2 M1 FM1 GM1) ∨ (gX11_mend F G M (nI k)).1 = 3) := by
  obtain ⟨⟨n, hn, iv⟩, ⟨hb0, hh⟩, rfl, rfl, rfl, rfl, rfl, rfl⟩ := h
  have hRR := (Iv_b iv).1
  have hW := hRR.1.1.1
  have hR := hRR.2.1.1
  obtain ⟨ok, -, hr⟩ := fm_mend iv (by omega) (nI k)
  obtain ⟨r1, r2⟩ := r_mend hW hR GM hk
  refine ⟨ok, ?_⟩
  by_cases hm : 20 ≤ GM 2 0
  · left
    obtain ⟨v, FM1, GM1, e, ⟨ev, e60, e31⟩, fo, go⟩ := rfR_x (r1 hm)
    obtain ⟨x, F1, G1, M1, e1, e2, iv1⟩ := rM_go hr e e60 (by decide)
    have ex : x = F 31 k := by rw [ti_inj e2, ev, hR.at 31 (by decide)]
    subst ex
    have h31 : F1 31 k = 0 := by rw [← (Iv_b iv1).1.2.1.1.at 31 (by decide)]; exact e31
    exact ⟨F1, G1, M1, FM1, GM1, e1, h31, LI_mk (by omega) iv1 ((bal_of (go 14 (by decide)) (go 56 (by decide))).trans hb0) (hb_of hh (go 15 (by decide))) (cn_s (fo 0 (by decide)) hR (by decide)) (cn_s (fo 8 (by decide)) hR (by decide)) (cn_s (fo 17 (by decide)) hR (by decide)) (cn_s (fo 23 (by decide)) hR (by decide)) (cn_s (fo 32 (by decide)) hR (by decide)) (cn_s (fo 1 (by decide)) hR (by decide))⟩
  · right
    obtain ⟨v, FM1, GM1, e, e60, fo, go⟩ := rfR_x (r2 hm)
    obtain ⟨j, x, hj, e1, e2⟩ := rM_no hr e (by rw [e60]; decide)
    rw [e60] at e2
    rw [e1]
    show j = 3
    simp only [List.mem_cons, List.not_mem_nil, or_false] at hj
    rcases hj with rfl | rfl
    · exact absurd e2 (by decide)
    · rfl
theorem fe_send (h : LI N nb ng np nd ny t F G F2 G2 M FM GM) (hN : N < 512) {k d : Nat} (hk : k < 3) (hd : d < nd) {p3 : Int32} (a1 : (0 : Int32).toInt ≤ p3.toInt) (a2 : p3.toInt ≤ (99 : Int32).toInt) : okX11_send F G M (nI k) (nI d) p3 ∧ ((∃ x F1 G1 M1 FM1 GM1, gX11_send F G M (nI k) (nI d) p3 = (0, (x, ((F1, G1), M1))) ∧ ¬ x < 0 ∧ F1 50 k = x ∧ F1 64 k = nI d ∧ LI (N + 1) nb ng np nd ny t F1 G1 F2 G2 M1 FM1 GM1) ∨ (gX11_send F G M (nI k) (nI d) p3).1 = 3) := by
  obtain ⟨⟨n, hn, iv⟩, ⟨hb0, hh⟩, rfl, rfl, rfl, rfl, rfl, rfl⟩ := h
  have hRR := (Iv_b iv).1
  have hW := hRR.1.1.1
  have hR := hRR.2.1.1
  obtain ⟨ok, -, hr⟩ := fm_send iv (by omega) (nI k) (nI d) p3
  obtain ⟨r1, r2⟩ := r_send hW hR GM hk hd a1 a2
  refine ⟨ok, ?_⟩
  by_cases hm : p3.toInt64 ≤ GM 2 0
  · left
    obtain ⟨v, FM1, GM1, e, ⟨ev, e60, e51⟩, fo, go⟩ := rfR_x (r1 hm)
    obtain ⟨x, F1, G1, M1, e1, e2, iv1⟩ := rM_go hr e e60 (by decide)
    have hRR1 := (Iv_b iv1).1
    have hX := hRR1.2.2.2.2.1 k hk
    have ex : x = F1 50 k := by rw [ti_inj e2, ev, hX.1]
    have h64 : F1 64 k = nI d := by
      have := hX.2
      rw [e51] at this
      have h2 := congrArg (fun z : Int32 => z - 1) this
      simp only [Int32.add_sub_cancel] at h2
      exact h2.symm
    have hx0 : ¬ x < 0 := by
      have := (hRR1.1.2.2.1.2.1 k hk).2.1.1
      rw [ex, i32lt, show (0 : Int32).toInt = 0 from rfl]; omega
    exact ⟨x, F1, G1, M1, FM1, GM1, e1, hx0, ex.symm, h64, LI_mk (by omega) iv1 ((bal_of (go 14 (by decide)) (go 56 (by decide))).trans hb0) (hb_of hh (go 15 (by decide))) (cn_s (fo 0 (by decide)) hR (by decide)) (cn_s (fo 8 (by decide)) hR (by decide)) (cn_s (fo 17 (by decide)) hR (by decide)) (cn_s (fo 23 (by decide)) hR (by decide)) (cn_s (fo 32 (by decide)) hR (by decide)) (cn_s (fo 1 (by decide)) hR (by decide))⟩
  · right
    obtain ⟨v, FM1, GM1, e, e60, fo, go⟩ := rfR_x (r2 hm)
    obtain ⟨j, x, hj, e1, e2⟩ := rM_no hr e (by rw [e60]; decide)
    rw [e60] at e2
    rw [e1]
    show j = 3
    simp only [List.mem_cons, List.not_mem_nil, or_false] at hj
    rcases hj with rfl | rfl | rfl
    · exact absurd e2 (by decide)
    · exact absurd e2 (by decide)
    · rfl
theorem fe_raise (h : LI N nb ng np nd ny t F G F2 G2 M FM GM) (hN : N < 512) {k : Nat} (hk : k < nd) {p2 p3 : Int32} (a1 : (1 : Int32).toInt ≤ p2.toInt) (a2 : p2.toInt ≤ (99 : Int32).toInt) (b1 : (1 : Int32).toInt ≤ p3.toInt) (b2 : p3.toInt ≤ (9 : Int32).toInt) : okX11_raise F G M (nI k) p2 p3 ∧ ((∃ F1 G1 M1 FM1 GM1, gX11_raise F G M (nI k) p2 p3 = (0, (F1 62 0, ((F1, G1), M1))) ∧ LI (N + 1) nb ng np nd ny t F1 G1 F2 G2 M1 FM1 GM1) ∨ (gX11_raise F G M (nI k) p2 p3).1 = 3) := by
  obtain ⟨⟨n, hn, iv⟩, ⟨hb0, hh⟩, rfl, rfl, rfl, rfl, rfl, rfl⟩ := h
  have hRR := (Iv_b iv).1
  have hW := hRR.1.1.1
  have hR := hRR.2.1.1
  obtain ⟨ok, -, hr⟩ := fm_raise iv (by omega) (nI k) p2 p3
  refine ⟨ok, ?_⟩
  rcases r_raise hW hR GM hk a1 a2 b1 b2 with r1 | r2
  · left
    obtain ⟨v, FM1, GM1, e, ⟨ev, e60⟩, fo, go⟩ := rfR_x r1
    obtain ⟨x, F1, G1, M1, e1, e2, iv1⟩ := rM_go hr e e60 (by decide)
    have ex : x = F1 62 0 := by rw [ti_inj e2, ev, ← (Iv_b iv1).1.2.2.1, ti32]
    subst ex
    exact ⟨F1, G1, M1, FM1, GM1, e1, LI_mk (by omega) iv1 ((bal_of (go 14 (by decide)) (go 56 (by decide))).trans hb0) (hb_of hh (go 15 (by decide))) (cn_s (fo 0 (by decide)) hR (by decide)) (cn_s (fo 8 (by decide)) hR (by decide)) (cn_s (fo 17 (by decide)) hR (by decide)) (cn_s (fo 23 (by decide)) hR (by decide)) (cn_s (fo 32 (by decide)) hR (by decide)) (cn_s (fo 1 (by decide)) hR (by decide))⟩
  · right
    obtain ⟨v, FM1, GM1, e, e60, fo, go⟩ := rfR_x r2
    obtain ⟨j, x, hj, e1, e2⟩ := rM_no hr e (by rw [e60]; decide)
    rw [e60] at e2
    rw [e1]
    show j = 3
    simp only [List.mem_cons, List.not_mem_nil, or_false] at hj
    rcases hj with rfl | rfl | rfl
    · exact absurd e2 (by decide)
    · exact absurd e2 (by decide)
    · rfl
theorem fe_endYear (h : LI N nb ng np nd ny t F G F2 G2 M FM GM) (hN : N < 512) : okX11_endYear F G M ∧ ((ny < 20 ∧ ∃ F1 G1 M1 FM1 GM1, gX11_endYear F G M = (0, (nI (ny + 1), ((F1, G1), M1))) ∧ LI (N + 1) nb ng np nd (ny + 1) t F1 G1 F2 G2 M1 FM1 GM1) ∨ (ny = 20 ∧ (gX11_endYear F G M).1 = 3)) := by
  obtain ⟨⟨n, hn, iv⟩, ⟨hb0, hh⟩, rfl, rfl, rfl, rfl, rfl, rfl⟩ := h
  have hRR := (Iv_b iv).1
  have hW := hRR.1.1.1
  have hR := hRR.2.1.1
  obtain ⟨ok, okm, hr⟩ := fm_endYear iv (by omega)
  have hy := hW.2.2.2.1
  have e9 : FM 1 0 = nI (cn F 1) := by rw [hR.at 1 (by decide)]; exact hy.1
  refine ⟨ok, ?_⟩
  by_cases hm : cn F 1 = 20
  · right
    have e := r_endYear_no (FM := FM) (GM := GM) (by rw [e9, hm]; rfl)
    obtain ⟨j, x, hj, e1, e2⟩ := rM_no hr e (by rw [u2_at]; decide)
    refine ⟨hm, ?_⟩
    rw [e1]
    show j = 3
    simp only [List.mem_cons, List.not_mem_nil, or_false] at hj
    exact hj
  · left
    refine ⟨by omega, ?_⟩
    have r1 := r_endYear (FM := FM) (GM := GM) (by rw [e9, show (20 : Int32) = nI 20 from rfl]; exact fun e => hm (nI_inj2 (by omega) (by omega) e)) okm
    obtain ⟨⟨s1, s2, s3⟩, hS⟩ : ∃ S, S = gX12_endYear FM GM := ⟨_, rfl⟩
    rw [← hS] at r1
    obtain ⟨⟨q1, q2, q3⟩, q4, q5, q6⟩ := r1
    have q1 : s1 = FM 1 0 + 1 := q1
    have q2 : s2 60 0 = 0 := q2
    have q3 : s2 1 0 = FM 1 0 + 1 := q3
    have q4 : ag [0, 8, 13, 17, 23, 32] FM s2 := q4
    have q5 : bal s3 = bal GM := q5
    have q6 : s3 15 = GM 15 := q6
    obtain ⟨x, F1, G1, M1, e1, e2, iv1⟩ := rM_go hr hS.symm q2 (by decide)
    have ey : FM 1 0 + 1 = nI (cn F 1 + 1) := by rw [e9]; exact nI_add _ 1
    have ex : x = nI (cn F 1 + 1) := by rw [ti_inj e2, q1, ey]
    subst ex
    rw [ey] at q3
    exact ⟨F1, G1, M1, s2, s3, e1, LI_mk (by omega) iv1 (q5.trans hb0) (hb_of hh q6) (cn_s (q4 0 (by decide)) hR (by decide)) (cn_s (q4 8 (by decide)) hR (by decide)) (cn_s (q4 17 (by decide)) hR (by decide)) (cn_s (q4 23 (by decide)) hR (by decide)) (cn_s (q4 32 (by decide)) hR (by decide)) (cn_v q3 (by omega))⟩
theorem fe_run (h : LI N nb ng np nd ny t F G F2 G2 M FM GM) (hN : N < 512) {p : Nat} (hp1 : 1 ≤ p) (hp : p ≤ 50) (ht : t + p ≤ 9999) : okX11_run F G M (nI p) ∧ ∃ F1 G1 M1 FM1 GM1, gX11_run F G M (nI p) = (0, (F 0 0 + nI p, ((F1, G1), M1))) ∧ LI (N + 1) nb ng np nd ny (t + p) F1 G1 F2 G2 M1 FM1 GM1 := by
  obtain ⟨⟨n, hn, iv⟩, ⟨hb0, hh⟩, rfl, rfl, rfl, rfl, rfl, rfl⟩ := h
  have hRR := (Iv_b iv).1
  have hW := hRR.1.1.1
  have hR := hRR.2.1.1
  obtain ⟨ok, okm, hr⟩ := fm_run iv (by omega) (nI p)
  have h0 := hW.2.2.2.2
  have e9 : FM 0 0 = nI (cn F 0) := by rw [hR.at 0 (by decide)]; exact h0.1
  have hwo : wo FM := fun k => by
    rw [hR.at 13 (by decide)]
    by_cases ck : k < cn F 8
    · exact ((hRR.1.1.2.1 k).1 ck).2.2.2.2
    · rw [((hRR.1.1.2.1 k).2 (by omega)).2.1]; decide
  have hle : FM 0 0 + nI p ≤ 9999 := by
    rw [e9, nI_add, i32le, nI_toInt (by omega), show (9999 : Int32).toInt = 9999 from rfl]; omega
  obtain ⟨FM1, GM1, e, e60, fo, e0, eb, eh⟩ := rf_run hp hp1 (B := 79200 * (cn F 0 : Int)) (by omega) hwo hh hle okm
  obtain ⟨x, F1, G1, M1, e1, e2, iv1⟩ := rM_go hr e e60 (by decide)
  have ex : x = F 0 0 + nI p := by rw [ti_inj e2, hR.at 0 (by decide)]
  subst ex
  rw [e9, nI_add] at e0
  exact ⟨ok, F1, G1, M1, FM1, GM1, e1, LI_mk (by omega) iv1 (eb.trans hb0) (hb_mono eh (by omega)) (cn_v e0 (by omega)) (cn_s (fo 8 (by decide)) hR (by decide)) (cn_s (fo 17 (by decide)) hR (by decide)) (cn_s (fo 23 (by decide)) hR (by decide)) (cn_s (fo 32 (by decide)) hR (by decide)) (cn_s (fo 1 (by decide)) hR (by decide))⟩
theorem fe_anew (h : LI N nb ng np nd ny t F G F2 G2 M FM GM) (hN : N < 512) : ∃ m, m ≤ 512 ∧ okAg (M 82) (M 80 0) m (M 81 0) F2 G2 ∧ gAg (M 82) m (M 81 0) F2 G2 = (F, G) ∧ okX11_digest F G M ∧ ∃ FM1, LI (N + 1) nb ng np nd ny t F G F G (gAr m M) FM1 GM := by
  obtain ⟨⟨n, hn, iv⟩, ⟨hb0, hh⟩, rfl, rfl, rfl, rfl, rfl, rfl⟩ := h
  have hRR := (Iv_b iv).1
  have hW := hRR.1.1.1
  have hR := hRR.2.1.1
  obtain ⟨m, hm, a1, a2, a3⟩ := Iv_anew iv (by omega) 0
  have fo : ∀ i, i ≠ 60 → u2 FM 60 0 0 i = FM i := fun i hi => u2_other FM hi 0 0
  exact ⟨m, hm, a1, a2, (rd_digest hRR M).1.2, u2 FM 60 0 0, LI_mk (by omega) a3 hb0 hh (cn_s (fo 0 (by decide)) hR (by decide)) (cn_s (fo 8 (by decide)) hR (by decide)) (cn_s (fo 17 (by decide)) hR (by decide)) (cn_s (fo 23 (by decide)) hR (by decide)) (cn_s (fo 32 (by decide)) hR (by decide)) (cn_s (fo 1 (by decide)) hR (by decide))⟩
theorem LI_rr (h : LI N nb ng np nd ny t F G F2 G2 M FM GM) : (∃ b n, RR b n F G FM GM) ∧ (bal GM = 0 ∧ hb (79200 * (t : Int)) GM) ∧ (cn F 0 = t ∧ cn F 8 = nb ∧ cn F 17 = ng ∧ cn F 23 = np ∧ cn F 32 = nd ∧ cn F 1 = ny) := by
  obtain ⟨⟨n, hn, iv⟩, h2, h3⟩ := h
  exact ⟨⟨_, _, (Iv_b iv).1⟩, h2, h3⟩
end LC
