-- a piece of a method's bytes, decoded in its stead
/-- the bytes from d on are those of the piece -/
def jsl (b b' : ByteArray) (d : Nat) : Prop := ∀ p, (h : p < b'.size) → ∃ h2 : d + p < b.size, b[d + p] = b'[p]
theorem jsl_of {b b' : ByteArray} {d : Nat} (h : (b.data.toList.drop d).take b'.data.toList.length = b'.data.toList) : jsl b b' d := by
  intro p hp
  have hp' : p < b'.data.toList.length := hp
  have h1 : ((b.data.toList.drop d).take b'.data.toList.length)[p]? = b'.data.toList[p]? := by rw [h]
  rw [List.getElem?_take_of_lt hp', List.getElem?_drop, List.getElem?_eq_getElem hp'] at h1
  obtain ⟨h2, h3⟩ := List.getElem?_eq_some_iff.mp h1
  have h2' : d + p < b.size := h2
  exact ⟨h2', by simpa [ByteArray.getElem_eq_getElem_data] using h3⟩
/-- what the one reads of the piece, the other reads of the whole -/
def jsh {α : Type} (b b' : ByteArray) (d : Nat) (r r' : ClassFile.Decoder α) : Prop := ∀ p x q, ClassFile.Reader.runAt r b' p = .ok (x, q) → ClassFile.Reader.runAt r' b (d + p) = .ok (x, d + q)
theorem jsh_pure {α : Type} {b b' : ByteArray} {d : Nat} (x : α) : jsh b b' d (Pure.pure x) (Pure.pure x) := by
  intro p y q h
  have h : (Except.ok (x, p) : Except ClassFile.DecodeError (α × Nat)) = .ok (y, q) := h
  injection h with h
  injection h with h1 h2
  subst h1; subst h2
  rfl
theorem jsh_throw {α : Type} {b b' : ByteArray} {d : Nat} (e : ClassFile.DecodeError) (r' : ClassFile.Decoder α) : jsh b b' d (throw e) r' := by
  intro p y q h
  have h : (Except.error e : Except ClassFile.DecodeError (α × Nat)) = .ok (y, q) := h
  exact absurd h (by simp)
theorem jsh_bind {α β : Type} {b b' : ByteArray} {d : Nat} {r r' : ClassFile.Decoder α} {f f' : α → ClassFile.Decoder β} (h1 : jsh b b' d r r') (h2 : ∀ x, jsh b b' d (f x) (f' x)) : jsh b b' d (r >>= f) (r' >>= f') := by
  intro p y q h
  have h : (ClassFile.Reader.runAt r b' p >>= fun z => ClassFile.Reader.runAt (f z.1) b' z.2) = .ok (y, q) := h
  show (ClassFile.Reader.runAt r' b (d + p) >>= fun z => ClassFile.Reader.runAt (f' z.1) b z.2) = .ok (y, d + q)
  cases hr : ClassFile.Reader.runAt r b' p with
  | error e => rw [hr] at h; exact nomatch (show (Except.error e : Except ClassFile.DecodeError (β × Nat)) = .ok (y, q) from h)
  | ok z =>
    rw [hr] at h
    rw [h1 p z.1 z.2 hr]
    exact h2 z.1 z.2 y q h
theorem ju1 (b : ByteArray) (p : Nat) : ClassFile.Reader.runAt (ClassFile.Reader.u1 : ClassFile.Decoder Nat) b p = (dite (p < b.size) (fun h => fun (_ : ByteArray) (_ : Nat) => (Except.ok ((b[p]'h).toNat, p + 1) : Except ClassFile.DecodeError (Nat × Nat))) (fun _ => fun _ _ => Except.error (.truncated p))) b p := rfl
theorem jsh_u1 {b b' : ByteArray} {d : Nat} (hs : jsl b b' d) : jsh b b' d (ClassFile.Reader.u1 : ClassFile.Decoder Nat) ClassFile.Reader.u1 := by
  intro p y q h
  by_cases hp : p < b'.size
  · obtain ⟨h2, h3⟩ := hs p hp
    have e1 : ClassFile.Reader.runAt (ClassFile.Reader.u1 : ClassFile.Decoder Nat) b' p = .ok (b'[p].toNat, p + 1) := by
      rw [ju1, dif_pos hp]
    have e2 : ClassFile.Reader.runAt (ClassFile.Reader.u1 : ClassFile.Decoder Nat) b (d + p) = .ok (b[d + p].toNat, d + p + 1) := by
      rw [ju1, dif_pos h2]
    rw [e1] at h
    injection h with h
    injection h with h4 h5
    rw [e2, h3, ← h4, ← h5]
    rfl
  · exfalso
    have e1 : ClassFile.Reader.runAt (ClassFile.Reader.u1 : ClassFile.Decoder Nat) b' p = .error (.truncated p) := by
      rw [ju1, dif_neg hp]
    rw [e1] at h
    exact absurd h (by simp)
theorem jsh_map {α β : Type} {b b' : ByteArray} {d : Nat} {r r' : ClassFile.Decoder α} (g : α → β) (h1 : jsh b b' d r r') : jsh b b' d (g <$> r) (g <$> r') := by
  have h := jsh_bind (f := fun x => Pure.pure (g x)) (f' := fun x => Pure.pure (g x)) h1 (fun x => jsh_pure (g x))
  exact h
theorem jsh_s1 {b b' : ByteArray} {d : Nat} (hs : jsl b b' d) : jsh b b' d (ClassFile.Reader.s1 : ClassFile.Decoder Int) ClassFile.Reader.s1 := jsh_map _ (jsh_u1 hs)
theorem jsh_u2 {b b' : ByteArray} {d : Nat} (hs : jsl b b' d) : jsh b b' d (ClassFile.Reader.u2 : ClassFile.Decoder Nat) ClassFile.Reader.u2 := jsh_bind (jsh_u1 hs) (fun _ => jsh_bind (jsh_u1 hs) (fun _ => jsh_pure _))
theorem jsh_s2 {b b' : ByteArray} {d : Nat} (hs : jsl b b' d) : jsh b b' d (ClassFile.Reader.s2 : ClassFile.Decoder Int) ClassFile.Reader.s2 := jsh_map _ (jsh_u2 hs)
/-- opcodes whose reading asks for nothing but bytes -/
def jop (x : Nat) : Bool := x != 170 && x != 171 && x != 185 && x != 186 && x != 188 && x != 196 && x != 197 && x != 200 && x != 201
theorem jsh_at {α : Type} {b b' : ByteArray} {d : Nat} (hs : jsl b b' d) {f f' : Nat → ClassFile.Decoder α} {p : Nat} (hp : p < b'.size) (h2 : jsh b b' d (f b'[p].toNat) (f' b'[p].toNat)) : ∀ x q, ClassFile.Reader.runAt ((ClassFile.Reader.u1 : ClassFile.Decoder Nat) >>= f) b' p = .ok (x, q) → ClassFile.Reader.runAt ((ClassFile.Reader.u1 : ClassFile.Decoder Nat) >>= f') b (d + p) = .ok (x, d + q) := by
  intro y q h
  have e1 : ClassFile.Reader.runAt (ClassFile.Reader.u1 : ClassFile.Decoder Nat) b' p = .ok (b'[p].toNat, p + 1) := by
    rw [ju1, dif_pos hp]
  have h : (ClassFile.Reader.runAt (ClassFile.Reader.u1 : ClassFile.Decoder Nat) b' p >>= fun z => ClassFile.Reader.runAt (f z.1) b' z.2) = .ok (y, q) := h
  show (ClassFile.Reader.runAt (ClassFile.Reader.u1 : ClassFile.Decoder Nat) b (d + p) >>= fun z => ClassFile.Reader.runAt (f' z.1) b z.2) = .ok (y, d + q)
  rw [jsh_u1 hs p _ _ e1]
  rw [e1] at h
  exact h2 _ y q h
set_option maxHeartbeats 16000000 in
set_option maxRecDepth 100000 in
theorem jsh_instr {b b' : ByteArray} {d : Nat} (hs : jsl b b' d) (n n' : Nat) {p : Nat} (hp : p < b'.size) (hj : jop b'[p].toNat = true) : ∀ x q, ClassFile.Reader.runAt (ClassFile.Decoder.instr n) b' p = .ok (x, q) → ClassFile.Reader.runAt (ClassFile.Decoder.instr n') b (d + p) = .ok (x, d + q) := by
  unfold ClassFile.Decoder.instr
  refine jsh_at hs hp ?_
  generalize b'[p].toNat = o at hj
  split <;> first | with_reducible exact jsh_pure _ | with_reducible exact jsh_bind (jsh_s1 hs) (fun _ => jsh_pure _) | with_reducible exact jsh_bind (jsh_s2 hs) (fun _ => jsh_pure _) | with_reducible exact jsh_bind (jsh_u1 hs) (fun _ => jsh_pure _) | with_reducible exact jsh_bind (jsh_u2 hs) (fun _ => jsh_pure _) | with_reducible exact jsh_bind (jsh_u1 hs) (fun _ => jsh_bind (jsh_s1 hs) (fun _ => jsh_pure _)) | with_reducible exact jsh_throw _ _ | exact absurd hj (by decide) | exact jsh_throw _ _
theorem jsl_dec {b b' : ByteArray} {d : Nat} (hs : jsl b b' d) {p n : Nat} {i : Instr} (hp : p < b'.size) (hj : jop b'[p].toNat = true) (h : decode b' p = .ok (i, n)) : decode b (d + p) = .ok (i, n) := by
  have h : (ClassFile.Reader.runAt (ClassFile.Decoder.instr p) b' p >>= fun z => (Pure.pure (z.1, z.2 - p) : Except ClassFile.DecodeError (Instr × Nat))) = .ok (i, n) := h
  show (ClassFile.Reader.runAt (ClassFile.Decoder.instr (d + p)) b (d + p) >>= fun z => (Pure.pure (z.1, z.2 - (d + p)) : Except ClassFile.DecodeError (Instr × Nat))) = .ok (i, n)
  cases hr : ClassFile.Reader.runAt (ClassFile.Decoder.instr p) b' p with
  | error e => rw [hr] at h; exact nomatch (show (Except.error e : Except ClassFile.DecodeError (Instr × Nat)) = .ok (i, n) from h)
  | ok z =>
    obtain ⟨x, q⟩ := z
    rw [hr] at h
    rw [jsh_instr hs p (d + p) hp hj x q hr]
    have h : (Except.ok (x, q - p) : Except ClassFile.DecodeError (Instr × Nat)) = .ok (i, n) := h
    show (Except.ok (x, d + q - (d + p)) : Except ClassFile.DecodeError (Instr × Nat)) = .ok (i, n)
    rw [Nat.add_sub_add_left]
    exact h
def jopB (b : ByteArray) (p : Nat) : Bool := match b.data.toList[p]? with
  | some x => jop x.toNat
  | none => false
theorem dl_all {b b' : ByteArray} {d : Nat} (hs : jsl b b' d) {e : List (Nat × Instr × Nat)} (h : e.all (fun q => decide (d ≤ q.1) && (jopB b' (q.1 - d) && decide (decode b' (q.1 - d) = .ok q.2))) = true) : e.all (fun q => decide (decode b q.1 = .ok q.2)) = true := by
  refine List.all_eq_true.mpr (fun q hq => ?_)
  have h1 := List.all_eq_true.mp h q hq
  rw [Bool.and_eq_true, Bool.and_eq_true] at h1
  obtain ⟨h2, h3, h4⟩ := h1
  have h2 := of_decide_eq_true h2
  have h4 := of_decide_eq_true h4
  have hb : ∃ hp : q.1 - d < b'.size, jop b'[q.1 - d].toNat = true := by
    unfold jopB at h3
    cases hx : b'.data.toList[q.1 - d]? with
    | none => rw [hx] at h3; exact absurd h3 (by decide)
    | some x =>
      rw [hx] at h3
      obtain ⟨h5, h6⟩ := List.getElem?_eq_some_iff.mp hx
      have h5' : q.1 - d < b'.size := h5
      refine ⟨h5', ?_⟩
      have : b'[q.1 - d] = x := by simpa [ByteArray.getElem_eq_getElem_data] using h6
      rw [this]; exact h3
  obtain ⟨hp, hj⟩ := hb
  have h5 := jsl_dec hs hp hj h4
  rw [Nat.add_sub_cancel' h2] at h5
  exact decide_eq_true h5
def eL_low_0 : List (Nat × Instr × Nat) := [(0, .iload_n 0, 1), (1, .ldc 7, 2), (3, .iand, 1), (4, .iload_n 1, 1), (5, .irem, 1), (6, .ireturn, 1)]
theorem dL_low_0 : eL_low_0.all (fun q => decide (decode cL_low q.1 = .ok q.2)) = true := by decide +kernel
def eL_cell_0 : List (Nat × Instr × Nat) := [(0, .iload_n 1, 1), (1, .aload_n 0, 1), (2, .arraylength, 1), (3, .if_icmp .ge 9, 3), (6, .aload_n 0, 1), (7, .iload_n 1, 1), (8, .iaload, 1), (9, .goto 11, 3), (12, .ldc 8, 2), (14, .iload_n 1, 1), (15, .imul, 1), (16, .sipush 977, 3), (19, .iadd, 1), (20, .ireturn, 1)]
theorem dL_cell_0 : eL_cell_0.all (fun q => decide (decode cL_cell q.1 = .ok q.2)) = true := by decide +kernel
def eL_end_0 : List (Nat × Instr × Nat) := [(0, .iload_n 0, 1), (1, .iload_n 1, 1), (2, .iconst 2, 1), (3, .iadd, 1), (4, .invokestatic 9, 3), (7, .istore_n 2, 1), (8, .iload_n 2, 1), (9, .iload_n 1, 1), (10, .if_icmp .ge 7, 3), (13, .iload_n 2, 1), (14, .goto 9, 3), (17, .bipush 20, 2), (19, .iload_n 2, 1), (20, .iadd, 1), (21, .iload_n 1, 1), (22, .isub, 1), (23, .ireturn, 1)]
theorem dL_end_0 : eL_end_0.all (fun q => decide (decode cL_end q.1 = .ok q.2)) = true := by decide +kernel
def eL_acts_0 : List (Nat × Instr × Nat) := [(0, .iload_n 1, 1), (1, .ifCond .ne 23, 3), (4, .aload_n 0, 1), (5, .iload_n 2, 1), (6, .iload_n 3, 1), (7, .iconst 1, 1), (8, .if_icmp .ne 7, 3), (11, .iconst 1, 1), (12, .goto 4, 3), (15, .iconst 0, 1), (16, .iload 4, 2), (18, .invokevirtual 15, 3), (21, .goto 52, 3), (24, .iload_n 1, 1), (25, .iconst 1, 1), (26, .if_icmp .ne 11, 3), (29, .aload_n 0, 1), (30, .iload_n 2, 1), (31, .invokevirtual 21, 3), (34, .goto 39, 3), (37, .iload_n 1, 1), (38, .iconst 2, 1), (39, .if_icmp .ne 14, 3), (42, .aload_n 0, 1), (43, .iload_n 2, 1), (44, .iload_n 3, 1), (45, .iload 4, 2), (47, .invokevirtual 25, 3), (50, .goto 23, 3), (53, .iload_n 1, 1), (54, .iconst 3, 1), (55, .if_icmp .ne 14, 3), (58, .aload_n 0, 1), (59, .iload_n 2, 1), (60, .iload_n 3, 1), (61, .iload 4, 2), (63, .invokevirtual 29, 3), (66, .goto 7, 3), (69, .aload_n 0, 1), (70, .invokevirtual 32, 3)]
theorem dL_acts_0 : eL_acts_0.all (fun q => decide (decode cL_acts q.1 = .ok q.2)) = true := by decide +kernel
def eL_acts_1 : List (Nat × Instr × Nat) := [(73, .ireturn, 1), (74, .astore 5, 2), (76, .bipush (-9), 2), (78, .ireturn, 1)]
theorem dL_acts_1 : eL_acts_1.all (fun q => decide (decode cL_acts q.1 = .ok q.2)) = true := by decide +kernel
def eL_water_0 : List (Nat × Instr × Nat) := [(0, .lconst 0, 1), (1, .lstore_n 2, 1), (2, .iconst 1, 1), (3, .istore 4, 2), (5, .iconst 0, 1), (6, .istore 5, 2), (8, .iload 5, 2), (10, .iload_n 1, 1), (11, .if_icmp .ge 65, 3), (14, .iload 4, 2), (16, .ifCond .eq 60, 3), (19, .lload_n 2, 1), (20, .aload_n 0, 1), (21, .iload 5, 2), (23, .invokevirtual 38, 3), (26, .ladd, 1), (27, .lstore_n 2, 1), (28, .aload_n 0, 1), (29, .iload 5, 2), (31, .invokevirtual 38, 3), (34, .lconst 0, 1), (35, .lcmp, 1), (36, .ifCond .lt 31, 3), (39, .aload_n 0, 1), (40, .iload 5, 2), (42, .invokevirtual 42, 3), (45, .lconst 0, 1), (46, .lcmp, 1), (47, .ifCond .lt 20, 3), (50, .aload_n 0, 1), (51, .iload 5, 2), (53, .invokevirtual 45, 3), (56, .ldc2_w 48, 3), (59, .lcmp, 1), (60, .ifCond .lt 7, 3), (63, .iconst 1, 1), (64, .goto 4, 3), (67, .iconst 0, 1), (68, .istore 4, 2), (70, .iinc 5 1, 3)]
theorem dL_water_0 : eL_water_0.all (fun q => decide (decode cL_water q.1 = .ok q.2)) = true := by decide +kernel
def eL_water_1 : List (Nat × Instr × Nat) := [(73, .goto (-65), 3), (76, .iload 4, 2), (78, .ifCond .eq 35, 3), (81, .lload_n 2, 1), (82, .aload_n 0, 1), (83, .iconst 0, 1), (84, .invokevirtual 50, 3), (87, .aload_n 0, 1), (88, .iconst 1, 1), (89, .invokevirtual 50, 3), (92, .ladd, 1), (93, .aload_n 0, 1), (94, .iconst 2, 1), (95, .invokevirtual 50, 3), (98, .ladd, 1), (99, .aload_n 0, 1), (100, .iconst 3, 1), (101, .invokevirtual 50, 3), (104, .lsub, 1), (105, .lcmp, 1), (106, .ifCond .ne 7, 3), (109, .iconst 1, 1), (110, .goto 4, 3), (113, .iconst 0, 1), (114, .ireturn, 1)]
theorem dL_water_1 : eL_water_1.all (fun q => decide (decode cL_water q.1 = .ok q.2)) = true := by decide +kernel
def eL_things_0 : List (Nat × Instr × Nat) := [(0, .aload_n 0, 1), (1, .invokevirtual 53, 3), (4, .ifCond .lt 37, 3), (7, .aload_n 0, 1), (8, .bipush 20, 2), (10, .invokevirtual 45, 3), (13, .aload_n 0, 1), (14, .aload_n 0, 1), (15, .invokevirtual 56, 3), (18, .invokevirtual 59, 3), (21, .lcmp, 1), (22, .ifCond .ne 19, 3), (25, .aload_n 0, 1), (26, .invokevirtual 62, 3), (29, .aload_n 0, 1), (30, .invokevirtual 66, 3), (33, .lcmp, 1), (34, .ifCond .ne 7, 3), (37, .iconst 1, 1), (38, .goto 4, 3), (41, .iconst 0, 1), (42, .istore_n 3, 1), (43, .iconst 0, 1), (44, .istore 4, 2), (46, .iload 4, 2), (48, .iload_n 1, 1), (49, .if_icmp .ge 51, 3), (52, .iload_n 3, 1), (53, .ifCond .eq 47, 3), (56, .aload_n 0, 1), (57, .iload 4, 2), (59, .iconst 2, 1), (60, .invokevirtual 69, 3), (63, .ifCond .lt 29, 3), (66, .aload_n 0, 1), (67, .iload 4, 2), (69, .iconst 2, 1), (70, .invokevirtual 69, 3), (73, .bipush 10, 2), (75, .if_icmp .gt 17, 3)]
theorem dL_things_0 : eL_things_0.all (fun q => decide (decode cL_things q.1 = .ok q.2)) = true := by decide +kernel
def eL_things_1 : List (Nat × Instr × Nat) := [(78, .aload_n 0, 1), (79, .iload 4, 2), (81, .iconst 1, 1), (82, .invokevirtual 69, 3), (85, .ifCond .lt 7, 3), (88, .iconst 1, 1), (89, .goto 4, 3), (92, .iconst 0, 1), (93, .istore_n 3, 1), (94, .iinc 4 1, 3), (97, .goto (-51), 3), (100, .iconst 0, 1), (101, .istore 4, 2), (103, .iload 4, 2), (105, .iload_n 2, 1), (106, .if_icmp .ge 39, 3), (109, .iload_n 3, 1), (110, .ifCond .eq 35, 3), (113, .aload_n 0, 1), (114, .iload 4, 2), (116, .iconst 1, 1), (117, .invokevirtual 72, 3), (120, .ifCond .lt 17, 3), (123, .aload_n 0, 1), (124, .iload 4, 2), (126, .iconst 2, 1), (127, .invokevirtual 72, 3), (130, .ifCond .lt 7, 3), (133, .iconst 1, 1), (134, .goto 4, 3), (137, .iconst 0, 1), (138, .istore_n 3, 1), (139, .iinc 4 1, 3), (142, .goto (-39), 3), (145, .iconst 0, 1), (146, .istore 4, 2), (148, .iload 4, 2), (150, .iconst 3, 1), (151, .if_icmp .ge 40, 3), (154, .iload_n 3, 1)]
theorem dL_things_1 : eL_things_1.all (fun q => decide (decode cL_things q.1 = .ok q.2)) = true := by decide +kernel
def eL_things_2 : List (Nat × Instr × Nat) := [(155, .ifCond .eq 36, 3), (158, .aload_n 0, 1), (159, .iload 4, 2), (161, .iconst 1, 1), (162, .invokevirtual 75, 3), (165, .ifCond .lt 18, 3), (168, .aload_n 0, 1), (169, .iload 4, 2), (171, .iconst 2, 1), (172, .invokevirtual 75, 3), (175, .iload_n 1, 1), (176, .if_icmp .ge 7, 3), (179, .iconst 1, 1), (180, .goto 4, 3), (183, .iconst 0, 1), (184, .istore_n 3, 1), (185, .iinc 4 1, 3), (188, .goto (-40), 3), (191, .iload_n 3, 1), (192, .ireturn, 1)]
theorem dL_things_2 : eL_things_2.all (fun q => decide (decode cL_things q.1 = .ok q.2)) = true := by decide +kernel
def eL_shares_0 : List (Nat × Instr × Nat) := [(0, .iconst 0, 1), (1, .istore_n 3, 1), (2, .iconst 0, 1), (3, .istore 4, 2), (5, .iload 4, 2), (7, .iload_n 1, 1), (8, .if_icmp .ge 19, 3), (11, .iload_n 3, 1), (12, .aload_n 0, 1), (13, .iload_n 2, 1), (14, .iload 4, 2), (16, .invokevirtual 78, 3), (19, .iadd, 1), (20, .istore_n 3, 1), (21, .iinc 4 1, 3), (24, .goto (-19), 3), (27, .iload_n 3, 1), (28, .ifCond .eq 8, 3), (31, .iload_n 3, 1), (32, .iload_n 2, 1), (33, .if_icmp .ne 7, 3), (36, .iconst 1, 1), (37, .goto 4, 3), (40, .iconst 0, 1), (41, .ireturn, 1)]
theorem dL_shares_0 : eL_shares_0.all (fun q => decide (decode cL_shares q.1 = .ok q.2)) = true := by decide +kernel
-- the law's instructions, decoded by pieces
def eL_law_0 : List (Nat × Instr × Nat) := [(0, .new 16, 3), (3, .dup, 1), (4, .invokespecial 81, 3), (7, .astore_n 1, 1), (8, .iconst 2, 1), (9, .aload_n 0, 1), (10, .iconst 1, 1), (11, .invokestatic 82, 3), (14, .iconst 3, 1), (15, .invokestatic 9, 3), (18, .iadd, 1), (19, .istore_n 2, 1), (20, .iconst 0, 1), (21, .istore_n 3, 1), (22, .iconst 0, 1), (23, .istore 4, 2), (25, .iconst 0, 1), (26, .istore 5, 2), (28, .iconst 0, 1), (29, .istore 6, 2), (31, .iconst 1, 1), (32, .istore 7, 2), (34, .iconst 0, 1), (35, .istore 8, 2), (37, .iload 8, 2), (39, .iload_n 2, 1), (40, .if_icmp .ge 128, 3), (43, .iload 7, 2), (45, .ifCond .eq 123, 3), (48, .aload_n 0, 1), (49, .iconst 2, 1), (50, .iload 8, 2), (52, .iadd, 1), (53, .invokestatic 82, 3), (56, .istore 9, 2), (58, .aload_n 1, 1), (59, .iconst 1, 1), (60, .iload 9, 2), (62, .bipush 100, 2), (64, .invokestatic 9, 3)]
def bL_law_0 : ByteArray := .mk #[187, 0, 16, 89, 183, 0, 81, 76, 5, 42, 4, 184, 0, 82, 6, 184, 0, 9, 96, 61, 3, 62, 3, 54, 4, 3, 54, 5, 3, 54, 6, 4, 54, 7, 3, 54, 8, 21, 8, 28, 162, 0, 128, 21, 7, 153, 0, 123, 42, 5, 21, 8, 96, 184, 0, 82, 54, 9, 43, 4, 21, 9, 16, 100, 184, 0, 9]
theorem hL_law_0 : jsl cL_law bL_law_0 0 := jsl_of (by decide +kernel)
theorem dL_law_0 : eL_law_0.all (fun q => decide (decode cL_law q.1 = .ok q.2)) = true := dl_all hL_law_0 (by decide +kernel)
def eL_law_1 : List (Nat × Instr × Nat) := [(67, .iadd, 1), (68, .iload 9, 2), (70, .bipush 7, 2), (72, .ishr, 1), (73, .bipush 9, 2), (75, .invokestatic 9, 3), (78, .bipush 6, 2), (80, .isub, 1), (81, .invokevirtual 86, 3), (84, .iload 8, 2), (86, .if_icmp .ne 7, 3), (89, .iconst 1, 1), (90, .goto 4, 3), (93, .iconst 0, 1), (94, .istore 7, 2), (96, .aload_n 1, 1), (97, .iload 8, 2), (99, .iload 9, 2), (101, .iconst 3, 1), (102, .ishr, 1), (103, .iconst 3, 1), (104, .invokestatic 9, 3), (107, .iload 9, 2), (109, .iconst 5, 1), (110, .ishr, 1), (111, .sipush 200, 3), (114, .invokestatic 9, 3), (117, .iload 9, 2), (119, .bipush 9, 2), (121, .ishr, 1), (122, .iconst 5, 1), (123, .invokestatic 9, 3), (126, .invokevirtual 89, 3), (129, .iload 7, 2), (131, .ifCond .eq 28, 3), (134, .aload_n 1, 1), (135, .iload 8, 2), (137, .iload 9, 2), (139, .iconst 4, 1), (140, .ishr, 1)]
def bL_law_1 : ByteArray := .mk #[96, 21, 9, 16, 7, 122, 16, 9, 184, 0, 9, 16, 6, 100, 182, 0, 86, 21, 8, 160, 0, 7, 4, 167, 0, 4, 3, 54, 7, 43, 21, 8, 21, 9, 6, 122, 6, 184, 0, 9, 21, 9, 8, 122, 17, 0, 200, 184, 0, 9, 21, 9, 16, 9, 122, 8, 184, 0, 9, 182, 0, 89, 21, 7, 153, 0, 28, 43, 21, 8, 21, 9, 7, 122]
theorem hL_law_1 : jsl cL_law bL_law_1 67 := jsl_of (by decide +kernel)
theorem dL_law_1 : eL_law_1.all (fun q => decide (decode cL_law q.1 = .ok q.2)) = true := dl_all hL_law_1 (by decide +kernel)
def eL_law_2 : List (Nat × Instr × Nat) := [(141, .sipush 2000, 3), (144, .invokestatic 9, 3), (147, .invokevirtual 93, 3), (150, .lconst 0, 1), (151, .lcmp, 1), (152, .ifCond .lt 7, 3), (155, .iconst 1, 1), (156, .goto 4, 3), (159, .iconst 0, 1), (160, .istore 7, 2), (162, .iinc 8 1, 3), (165, .goto (-128), 3), (168, .iload 7, 2), (170, .ifCond .eq 22, 3), (173, .aload_n 1, 1), (174, .bipush 50, 2), (176, .sipush 500, 3), (179, .invokevirtual 97, 3), (182, .sipush 500, 3), (185, .if_icmp .ne 7, 3), (188, .iconst 1, 1), (189, .goto 4, 3), (192, .iconst 0, 1), (193, .istore 7, 2), (195, .bipush 8, 2), (197, .aload_n 0, 1), (198, .iconst 0, 1), (199, .invokestatic 82, 3), (202, .bipush 46, 2), (204, .invokestatic 9, 3), (207, .iadd, 1), (208, .istore 8, 2), (210, .iconst 0, 1), (211, .istore 9, 2), (213, .iload 9, 2), (215, .iload 8, 2), (217, .if_icmp .ge 1034, 3), (220, .iload 7, 2), (222, .ifCond .eq 1029, 3), (225, .aload_n 0, 1)]
def bL_law_2 : ByteArray := .mk #[17, 7, 208, 184, 0, 9, 182, 0, 93, 9, 148, 155, 0, 7, 4, 167, 0, 4, 3, 54, 7, 132, 8, 1, 167, 255, 128, 21, 7, 153, 0, 22, 43, 16, 50, 17, 1, 244, 182, 0, 97, 17, 1, 244, 160, 0, 7, 4, 167, 0, 4, 3, 54, 7, 16, 8, 42, 3, 184, 0, 82, 16, 46, 184, 0, 9, 96, 54, 8, 3, 54, 9, 21, 9, 21, 8, 162, 4, 10, 21, 7, 153, 4, 5, 42]
theorem hL_law_2 : jsl cL_law bL_law_2 141 := jsl_of (by decide +kernel)
theorem dL_law_2 : eL_law_2.all (fun q => decide (decode cL_law q.1 = .ok q.2)) = true := dl_all hL_law_2 (by decide +kernel)
def eL_law_3 : List (Nat × Instr × Nat) := [(226, .bipush 7, 2), (228, .iload 9, 2), (230, .iadd, 1), (231, .invokestatic 82, 3), (234, .istore 10, 2), (236, .iload 10, 2), (238, .bipush 20, 2), (240, .ishr, 1), (241, .bipush 20, 2), (243, .invokestatic 9, 3), (246, .istore 11, 2), (248, .iload 10, 2), (250, .iconst 3, 1), (251, .ishr, 1), (252, .iload_n 2, 1), (253, .invokestatic 9, 3), (256, .istore 12, 2), (258, .iload 10, 2), (260, .iconst 5, 1), (261, .ishr, 1), (262, .iload_n 2, 1), (263, .invokestatic 100, 3), (266, .istore 13, 2), (268, .iload 11, 2), (270, .iconst 2, 1), (271, .if_icmp .ge 60, 3), (274, .iload 12, 2), (276, .iload 13, 2), (278, .if_icmp .eq 53, 3), (281, .iload_n 3, 1), (282, .bipush 8, 2), (284, .if_icmp .ge 47, 3), (287, .aload_n 1, 1), (288, .iload 12, 2), (290, .iload 13, 2), (292, .iconst 1, 1), (293, .iload 10, 2), (295, .bipush 8, 2), (297, .ishr, 1), (298, .sipush 900, 3)]
def bL_law_3 : ByteArray := .mk #[16, 7, 21, 9, 96, 184, 0, 82, 54, 10, 21, 10, 16, 20, 122, 16, 20, 184, 0, 9, 54, 11, 21, 10, 6, 122, 28, 184, 0, 9, 54, 12, 21, 10, 8, 122, 28, 184, 0, 100, 54, 13, 21, 11, 5, 162, 0, 60, 21, 12, 21, 13, 159, 0, 53, 29, 16, 8, 162, 0, 47, 43, 21, 12, 21, 13, 4, 21, 10, 16, 8, 122, 17, 3, 132]
theorem hL_law_3 : jsl cL_law bL_law_3 226 := jsl_of (by decide +kernel)
theorem dL_law_3 : eL_law_3.all (fun q => decide (decode cL_law q.1 = .ok q.2)) = true := dl_all hL_law_3 (by decide +kernel)
def eL_law_4 : List (Nat × Instr × Nat) := [(301, .invokestatic 9, 3), (304, .iadd, 1), (305, .iload 10, 2), (307, .iconst 3, 1), (308, .invokestatic 9, 3), (311, .invokevirtual 103, 3), (314, .iload_n 3, 1), (315, .if_icmp .ne 7, 3), (318, .iconst 1, 1), (319, .goto 4, 3), (322, .iconst 0, 1), (323, .istore 7, 2), (325, .iinc 3 1, 3), (328, .goto 886, 3), (331, .iload 11, 2), (333, .iconst 4, 1), (334, .if_icmp .ge 75, 3), (337, .iload 12, 2), (339, .iload 13, 2), (341, .if_icmp .eq 68, 3), (344, .iload 4, 2), (346, .bipush 8, 2), (348, .if_icmp .ge 61, 3), (351, .aload_n 1, 1), (352, .iload 12, 2), (354, .iload 13, 2), (356, .iconst 1, 1), (357, .iload 10, 2), (359, .bipush 8, 2), (361, .ishr, 1), (362, .sipush 300, 3), (365, .invokestatic 9, 3), (368, .iadd, 1), (369, .iload 10, 2), (371, .bipush 9, 2), (373, .ishr, 1), (374, .bipush 20, 2), (376, .invokestatic 9, 3), (379, .iconst 1, 1), (380, .iload 10, 2)]
def bL_law_4 : ByteArray := .mk #[184, 0, 9, 96, 21, 10, 6, 184, 0, 9, 182, 0, 103, 29, 160, 0, 7, 4, 167, 0, 4, 3, 54, 7, 132, 3, 1, 167, 3, 118, 21, 11, 7, 162, 0, 75, 21, 12, 21, 13, 159, 0, 68, 21, 4, 16, 8, 162, 0, 61, 43, 21, 12, 21, 13, 4, 21, 10, 16, 8, 122, 17, 1, 44, 184, 0, 9, 96, 21, 10, 16, 9, 122, 16, 20, 184, 0, 9, 4, 21, 10]
theorem hL_law_4 : jsl cL_law bL_law_4 301 := jsl_of (by decide +kernel)
theorem dL_law_4 : eL_law_4.all (fun q => decide (decode cL_law q.1 = .ok q.2)) = true := dl_all hL_law_4 (by decide +kernel)
def eL_law_5 : List (Nat × Instr × Nat) := [(382, .bipush 9, 2), (384, .invokestatic 9, 3), (387, .iadd, 1), (388, .invokevirtual 107, 3), (391, .iload 4, 2), (393, .if_icmp .ne 7, 3), (396, .iconst 1, 1), (397, .goto 4, 3), (400, .iconst 0, 1), (401, .istore 7, 2), (403, .iinc 4 1, 3), (406, .goto 808, 3), (409, .iload 11, 2), (411, .bipush 7, 2), (413, .if_icmp .ge 77, 3), (416, .iload 12, 2), (418, .iload 13, 2), (420, .if_icmp .eq 70, 3), (423, .iload 5, 2), (425, .bipush 8, 2), (427, .if_icmp .ge 63, 3), (430, .aload_n 1, 1), (431, .iload 12, 2), (433, .iload 13, 2), (435, .iload 10, 2), (437, .bipush 8, 2), (439, .ishr, 1), (440, .bipush 12, 2), (442, .invokestatic 9, 3), (445, .iconst 4, 1), (446, .isub, 1), (447, .iconst 1, 1), (448, .iload 10, 2), (450, .bipush 9, 2), (452, .ishr, 1), (453, .bipush 60, 2), (455, .invokestatic 9, 3), (458, .iadd, 1), (459, .iload 10, 2), (461, .bipush 11, 2)]
def bL_law_5 : ByteArray := .mk #[16, 9, 184, 0, 9, 96, 182, 0, 107, 21, 4, 160, 0, 7, 4, 167, 0, 4, 3, 54, 7, 132, 4, 1, 167, 3, 40, 21, 11, 16, 7, 162, 0, 77, 21, 12, 21, 13, 159, 0, 70, 21, 5, 16, 8, 162, 0, 63, 43, 21, 12, 21, 13, 21, 10, 16, 8, 122, 16, 12, 184, 0, 9, 7, 100, 4, 21, 10, 16, 9, 122, 16, 60, 184, 0, 9, 96, 21, 10, 16, 11]
theorem hL_law_5 : jsl cL_law bL_law_5 382 := jsl_of (by decide +kernel)
theorem dL_law_5 : eL_law_5.all (fun q => decide (decode cL_law q.1 = .ok q.2)) = true := dl_all hL_law_5 (by decide +kernel)
def eL_law_6 : List (Nat × Instr × Nat) := [(463, .ishr, 1), (464, .bipush 99, 2), (466, .invokestatic 9, 3), (469, .invokevirtual 111, 3), (472, .iload 5, 2), (474, .if_icmp .ne 7, 3), (477, .iconst 1, 1), (478, .goto 4, 3), (481, .iconst 0, 1), (482, .istore 7, 2), (484, .iinc 5 1, 3), (487, .goto 727, 3), (490, .iload 11, 2), (492, .bipush 9, 2), (494, .if_icmp .ge 102, 3), (497, .iload_n 3, 1), (498, .ifCond .le 98, 3), (501, .iload 10, 2), (503, .iconst 4, 1), (504, .ishr, 1), (505, .iload_n 3, 1), (506, .invokestatic 9, 3), (509, .istore 14, 2), (511, .aload_n 1, 1), (512, .iload 14, 2), (514, .invokevirtual 114, 3), (517, .istore 15, 2), (519, .iload 10, 2), (521, .iconst 2, 1), (522, .invokestatic 9, 3), (525, .ifCond .ne 7, 3), (528, .iconst 1, 1), (529, .goto 4, 3), (532, .iconst 0, 1), (533, .istore 16, 2), (535, .aload_n 1, 1), (536, .iload 14, 2), (538, .iload 16, 2), (540, .iload 10, 2), (542, .bipush 7, 2)]
def bL_law_6 : ByteArray := .mk #[122, 16, 99, 184, 0, 9, 182, 0, 111, 21, 5, 160, 0, 7, 4, 167, 0, 4, 3, 54, 7, 132, 5, 1, 167, 2, 215, 21, 11, 16, 9, 162, 0, 102, 29, 158, 0, 98, 21, 10, 7, 122, 29, 184, 0, 9, 54, 14, 43, 21, 14, 182, 0, 114, 54, 15, 21, 10, 5, 184, 0, 9, 154, 0, 7, 4, 167, 0, 4, 3, 54, 16, 43, 21, 14, 21, 16, 21, 10, 16, 7]
theorem hL_law_6 : jsl cL_law bL_law_6 463 := jsl_of (by decide +kernel)
theorem dL_law_6 : eL_law_6.all (fun q => decide (decode cL_law q.1 = .ok q.2)) = true := dl_all hL_law_6 (by decide +kernel)
def eL_law_7 : List (Nat × Instr × Nat) := [(544, .ishr, 1), (545, .iconst 4, 1), (546, .invokestatic 9, 3), (549, .invokevirtual 118, 3), (552, .istore 17, 2), (554, .iload 17, 2), (556, .ifCond .lt 34, 3), (559, .iload 17, 2), (561, .iconst 3, 1), (562, .if_icmp .gt 28, 3), (565, .aload_n 1, 1), (566, .iload 14, 2), (568, .invokevirtual 114, 3), (571, .iload 17, 2), (573, .ifCond .ne 8, 3), (576, .iload 16, 2), (578, .goto 5, 3), (581, .iload 15, 2), (583, .if_icmp .ne 7, 3), (586, .iconst 1, 1), (587, .goto 4, 3), (590, .iconst 0, 1), (591, .istore 7, 2), (593, .goto 621, 3), (596, .iload 11, 2), (598, .bipush 11, 2), (600, .if_icmp .ge 127, 3), (603, .iload 4, 2), (605, .ifCond .le 122, 3), (608, .iload 10, 2), (610, .iconst 4, 1), (611, .ishr, 1), (612, .iload 4, 2), (614, .invokestatic 9, 3), (617, .istore 14, 2), (619, .aload_n 1, 1), (620, .iload 14, 2), (622, .iconst 1, 1), (623, .invokevirtual 72, 3), (626, .istore 15, 2)]
def bL_law_7 : ByteArray := .mk #[122, 7, 184, 0, 9, 182, 0, 118, 54, 17, 21, 17, 155, 0, 34, 21, 17, 6, 163, 0, 28, 43, 21, 14, 182, 0, 114, 21, 17, 154, 0, 8, 21, 16, 167, 0, 5, 21, 15, 160, 0, 7, 4, 167, 0, 4, 3, 54, 7, 167, 2, 109, 21, 11, 16, 11, 162, 0, 127, 21, 4, 158, 0, 122, 21, 10, 7, 122, 21, 4, 184, 0, 9, 54, 14, 43, 21, 14, 4, 182, 0, 72, 54, 15]
theorem hL_law_7 : jsl cL_law bL_law_7 544 := jsl_of (by decide +kernel)
theorem dL_law_7 : eL_law_7.all (fun q => decide (decode cL_law q.1 = .ok q.2)) = true := dl_all hL_law_7 (by decide +kernel)
def eL_law_8 : List (Nat × Instr × Nat) := [(628, .aload_n 1, 1), (629, .invokevirtual 53, 3), (632, .istore 16, 2), (634, .iload 10, 2), (636, .bipush 7, 2), (638, .ishr, 1), (639, .bipush 30, 2), (641, .invokestatic 9, 3), (644, .istore 17, 2), (646, .aload_n 1, 1), (647, .iconst 0, 1), (648, .iload 14, 2), (650, .iload 10, 2), (652, .iconst 3, 1), (653, .invokestatic 9, 3), (656, .ifCond .ne 7, 3), (659, .iconst 0, 1), (660, .goto 4, 3), (663, .iconst 1, 1), (664, .iload 17, 2), (666, .invokestatic 121, 3), (669, .istore 18, 2), (671, .iload 18, 2), (673, .iload 16, 2), (675, .iload 17, 2), (677, .if_icmp .ge 8, 3), (680, .bipush (-9), 2), (682, .goto 8, 3), (685, .iload 15, 2), (687, .iload 17, 2), (689, .iadd, 1), (690, .if_icmp .ne 31, 3), (693, .aload_n 1, 1), (694, .invokevirtual 53, 3), (697, .iload 16, 2), (699, .iload 17, 2), (701, .if_icmp .ge 8, 3), (704, .iload 16, 2), (706, .goto 8, 3), (709, .iload 16, 2)]
def bL_law_8 : ByteArray := .mk #[43, 182, 0, 53, 54, 16, 21, 10, 16, 7, 122, 16, 30, 184, 0, 9, 54, 17, 43, 3, 21, 14, 21, 10, 6, 184, 0, 9, 154, 0, 7, 3, 167, 0, 4, 4, 21, 17, 184, 0, 121, 54, 18, 21, 18, 21, 16, 21, 17, 162, 0, 8, 16, 247, 167, 0, 8, 21, 15, 21, 17, 96, 160, 0, 31, 43, 182, 0, 53, 21, 16, 21, 17, 162, 0, 8, 21, 16, 167, 0, 8, 21, 16]
theorem hL_law_8 : jsl cL_law bL_law_8 628 := jsl_of (by decide +kernel)
theorem dL_law_8 : eL_law_8.all (fun q => decide (decode cL_law q.1 = .ok q.2)) = true := dl_all hL_law_8 (by decide +kernel)
def eL_law_9 : List (Nat × Instr × Nat) := [(711, .iload 17, 2), (713, .isub, 1), (714, .if_icmp .ne 7, 3), (717, .iconst 1, 1), (718, .goto 4, 3), (721, .iconst 0, 1), (722, .istore 7, 2), (724, .goto 490, 3), (727, .iload 11, 2), (729, .bipush 12, 2), (731, .if_icmp .ge 83, 3), (734, .iload 4, 2), (736, .ifCond .le 78, 3), (739, .aload_n 1, 1), (740, .iload 10, 2), (742, .iconst 4, 1), (743, .ishr, 1), (744, .iload 4, 2), (746, .invokestatic 9, 3), (749, .iconst 2, 1), (750, .invokevirtual 72, 3), (753, .istore 14, 2), (755, .aload_n 1, 1), (756, .iconst 1, 1), (757, .iload 10, 2), (759, .iconst 4, 1), (760, .ishr, 1), (761, .iload 4, 2), (763, .invokestatic 9, 3), (766, .iconst 0, 1), (767, .iconst 0, 1), (768, .invokestatic 121, 3), (771, .istore 15, 2), (773, .iload 15, 2), (775, .bipush (-9), 2), (777, .if_icmp .eq 27, 3), (780, .iload 15, 2), (782, .iload 14, 2), (784, .if_icmp .ne 24, 3), (787, .aload_n 1, 1)]
def bL_law_9 : ByteArray := .mk #[21, 17, 100, 160, 0, 7, 4, 167, 0, 4, 3, 54, 7, 167, 1, 234, 21, 11, 16, 12, 162, 0, 83, 21, 4, 158, 0, 78, 43, 21, 10, 7, 122, 21, 4, 184, 0, 9, 5, 182, 0, 72, 54, 14, 43, 4, 21, 10, 7, 122, 21, 4, 184, 0, 9, 3, 3, 184, 0, 121, 54, 15, 21, 15, 16, 247, 159, 0, 27, 21, 15, 21, 14, 160, 0, 24, 43]
theorem hL_law_9 : jsl cL_law bL_law_9 711 := jsl_of (by decide +kernel)
theorem dL_law_9 : eL_law_9.all (fun q => decide (decode cL_law q.1 = .ok q.2)) = true := dl_all hL_law_9 (by decide +kernel)
def eL_law_10 : List (Nat × Instr × Nat) := [(788, .iload 10, 2), (790, .iconst 4, 1), (791, .ishr, 1), (792, .iload 4, 2), (794, .invokestatic 9, 3), (797, .iconst 2, 1), (798, .invokevirtual 72, 3), (801, .ifCond .ne 7, 3), (804, .iconst 1, 1), (805, .goto 4, 3), (808, .iconst 0, 1), (809, .istore 7, 2), (811, .goto 403, 3), (814, .iload 11, 2), (816, .bipush 13, 2), (818, .if_icmp .ge 101, 3), (821, .iload 5, 2), (823, .ifCond .le 96, 3), (826, .aload_n 1, 1), (827, .iconst 2, 1), (828, .iload 10, 2), (830, .iconst 3, 1), (831, .invokestatic 9, 3), (834, .iload 10, 2), (836, .iconst 4, 1), (837, .ishr, 1), (838, .iload 5, 2), (840, .invokestatic 9, 3), (843, .iload 10, 2), (845, .bipush 9, 2), (847, .ishr, 1), (848, .bipush 12, 2), (850, .invokestatic 9, 3), (853, .invokestatic 121, 3), (856, .istore 14, 2), (858, .iload 14, 2), (860, .bipush (-9), 2), (862, .if_icmp .eq 47, 3), (865, .iload 14, 2), (867, .ifCond .lt 46, 3)]
def bL_law_10 : ByteArray := .mk #[21, 10, 7, 122, 21, 4, 184, 0, 9, 5, 182, 0, 72, 154, 0, 7, 4, 167, 0, 4, 3, 54, 7, 167, 1, 147, 21, 11, 16, 13, 162, 0, 101, 21, 5, 158, 0, 96, 43, 5, 21, 10, 6, 184, 0, 9, 21, 10, 7, 122, 21, 5, 184, 0, 9, 21, 10, 16, 9, 122, 16, 12, 184, 0, 9, 184, 0, 121, 54, 14, 21, 14, 16, 247, 159, 0, 47, 21, 14, 155, 0, 46]
theorem hL_law_10 : jsl cL_law bL_law_10 788 := jsl_of (by decide +kernel)
theorem dL_law_10 : eL_law_10.all (fun q => decide (decode cL_law q.1 = .ok q.2)) = true := dl_all hL_law_10 (by decide +kernel)
def eL_law_11 : List (Nat × Instr × Nat) := [(870, .aload_n 1, 1), (871, .iload 10, 2), (873, .iconst 3, 1), (874, .invokestatic 9, 3), (877, .iconst 2, 1), (878, .invokevirtual 75, 3), (881, .iload 10, 2), (883, .iconst 4, 1), (884, .ishr, 1), (885, .iload 5, 2), (887, .invokestatic 9, 3), (890, .if_icmp .ne 23, 3), (893, .aload_n 1, 1), (894, .iload 10, 2), (896, .iconst 3, 1), (897, .invokestatic 9, 3), (900, .iconst 1, 1), (901, .invokevirtual 75, 3), (904, .iload 14, 2), (906, .if_icmp .ne 7, 3), (909, .iconst 1, 1), (910, .goto 4, 3), (913, .iconst 0, 1), (914, .istore 7, 2), (916, .goto 298, 3), (919, .iload 11, 2), (921, .bipush 14, 2), (923, .if_icmp .ge 45, 3), (926, .aload_n 1, 1), (927, .iload 12, 2), (929, .iload 12, 2), (931, .iconst 1, 1), (932, .iadd, 1), (933, .iload_n 2, 1), (934, .irem, 1), (935, .iconst 1, 1), (936, .invokevirtual 125, 3), (939, .ifCond .eq 19, 3), (942, .aload_n 1, 1), (943, .iload 12, 2)]
def bL_law_11 : ByteArray := .mk #[43, 21, 10, 6, 184, 0, 9, 5, 182, 0, 75, 21, 10, 7, 122, 21, 5, 184, 0, 9, 160, 0, 23, 43, 21, 10, 6, 184, 0, 9, 4, 182, 0, 75, 21, 14, 160, 0, 7, 4, 167, 0, 4, 3, 54, 7, 167, 1, 42, 21, 11, 16, 14, 162, 0, 45, 43, 21, 12, 21, 12, 4, 96, 28, 112, 4, 182, 0, 125, 153, 0, 19, 43, 21, 12]
theorem hL_law_11 : jsl cL_law bL_law_11 870 := jsl_of (by decide +kernel)
theorem dL_law_11 : eL_law_11.all (fun q => decide (decode cL_law q.1 = .ok q.2)) = true := dl_all hL_law_11 (by decide +kernel)
def eL_law_12 : List (Nat × Instr × Nat) := [(945, .iload 12, 2), (947, .iconst 1, 1), (948, .iadd, 1), (949, .iload_n 2, 1), (950, .irem, 1), (951, .iconst 1, 1), (952, .invokevirtual 125, 3), (955, .ifCond .eq 7, 3), (958, .iconst 1, 1), (959, .goto 4, 3), (962, .iconst 0, 1), (963, .istore 7, 2), (965, .goto 249, 3), (968, .iload 11, 2), (970, .bipush 15, 2), (972, .if_icmp .ge 75, 3), (975, .iload 5, 2), (977, .ifCond .ne 8, 3), (980, .bipush (-9), 2), (982, .goto 37, 3), (985, .aload_n 1, 1), (986, .iconst 3, 1), (987, .iload 10, 2), (989, .iload 5, 2), (991, .invokestatic 9, 3), (994, .iconst 1, 1), (995, .iload 10, 2), (997, .iconst 4, 1), (998, .ishr, 1), (999, .bipush 9, 2), (1001, .invokestatic 9, 3), (1004, .iadd, 1), (1005, .iconst 1, 1), (1006, .iload 10, 2), (1008, .bipush 8, 2), (1010, .ishr, 1), (1011, .iconst 3, 1), (1012, .invokestatic 9, 3), (1015, .iadd, 1), (1016, .invokestatic 121, 3)]
def bL_law_12 : ByteArray := .mk #[21, 12, 4, 96, 28, 112, 4, 182, 0, 125, 153, 0, 7, 4, 167, 0, 4, 3, 54, 7, 167, 0, 249, 21, 11, 16, 15, 162, 0, 75, 21, 5, 154, 0, 8, 16, 247, 167, 0, 37, 43, 6, 21, 10, 21, 5, 184, 0, 9, 4, 21, 10, 7, 122, 16, 9, 184, 0, 9, 96, 4, 21, 10, 16, 8, 122, 6, 184, 0, 9, 96, 184, 0, 121]
theorem hL_law_12 : jsl cL_law bL_law_12 945 := jsl_of (by decide +kernel)
theorem dL_law_12 : eL_law_12.all (fun q => decide (decode cL_law q.1 = .ok q.2)) = true := dl_all hL_law_12 (by decide +kernel)
def eL_law_13 : List (Nat × Instr × Nat) := [(1019, .istore 14, 2), (1021, .iload 14, 2), (1023, .bipush (-9), 2), (1025, .if_icmp .eq 12, 3), (1028, .iload 14, 2), (1030, .aload_n 1, 1), (1031, .invokevirtual 53, 3), (1034, .if_icmp .ne 7, 3), (1037, .iconst 1, 1), (1038, .goto 4, 3), (1041, .iconst 0, 1), (1042, .istore 7, 2), (1044, .goto 170, 3), (1047, .iload 11, 2), (1049, .bipush 16, 2), (1051, .if_icmp .ge 61, 3), (1054, .aload_n 1, 1), (1055, .iconst 4, 1), (1056, .iconst 0, 1), (1057, .iconst 0, 1), (1058, .iconst 0, 1), (1059, .invokestatic 121, 3), (1062, .istore 14, 2), (1064, .iload 14, 2), (1066, .iload 6, 2), (1068, .bipush 20, 2), (1070, .if_icmp .ne 8, 3), (1073, .bipush (-9), 2), (1075, .goto 7, 3), (1078, .iload 6, 2), (1080, .iconst 1, 1), (1081, .iadd, 1), (1082, .if_icmp .ne 7, 3), (1085, .iconst 1, 1), (1086, .goto 4, 3), (1089, .iconst 0, 1), (1090, .istore 7, 2), (1092, .iload 6, 2), (1094, .iload 14, 2), (1096, .bipush (-9), 2)]
def bL_law_13 : ByteArray := .mk #[54, 14, 21, 14, 16, 247, 159, 0, 12, 21, 14, 43, 182, 0, 53, 160, 0, 7, 4, 167, 0, 4, 3, 54, 7, 167, 0, 170, 21, 11, 16, 16, 162, 0, 61, 43, 7, 3, 3, 3, 184, 0, 121, 54, 14, 21, 14, 21, 6, 16, 20, 160, 0, 8, 16, 247, 167, 0, 7, 21, 6, 4, 96, 160, 0, 7, 4, 167, 0, 4, 3, 54, 7, 21, 6, 21, 14, 16, 247]
theorem hL_law_13 : jsl cL_law bL_law_13 1019 := jsl_of (by decide +kernel)
theorem dL_law_13 : eL_law_13.all (fun q => decide (decode cL_law q.1 = .ok q.2)) = true := dl_all hL_law_13 (by decide +kernel)
def eL_law_14 : List (Nat × Instr × Nat) := [(1098, .if_icmp .ne 7, 3), (1101, .iconst 0, 1), (1102, .goto 4, 3), (1105, .iconst 1, 1), (1106, .iadd, 1), (1107, .istore 6, 2), (1109, .goto 105, 3), (1112, .iload 11, 2), (1114, .bipush 17, 2), (1116, .if_icmp .ge 60, 3), (1119, .aload_n 1, 1), (1120, .iload 10, 2), (1122, .bipush 9, 2), (1124, .invokestatic 9, 3), (1127, .iconst 4, 1), (1128, .isub, 1), (1129, .iload 10, 2), (1131, .iconst 4, 1), (1132, .ishr, 1), (1133, .bipush 20, 2), (1135, .invokestatic 9, 3), (1138, .iload 10, 2), (1140, .bipush 7, 2), (1142, .ishr, 1), (1143, .sipush 2000, 3), (1146, .invokestatic 9, 3), (1149, .sipush 500, 3), (1152, .isub, 1), (1153, .invokevirtual 129, 3), (1156, .aload_n 1, 1), (1157, .iload_n 2, 1), (1158, .iload 10, 2), (1160, .iconst 3, 1), (1161, .ishr, 1), (1162, .sipush 1000, 3), (1165, .invokestatic 9, 3), (1168, .invokestatic 133, 3), (1171, .istore 7, 2), (1173, .goto 41, 3), (1176, .aload_n 1, 1)]
def bL_law_14 : ByteArray := .mk #[160, 0, 7, 3, 167, 0, 4, 4, 96, 54, 6, 167, 0, 105, 21, 11, 16, 17, 162, 0, 60, 43, 21, 10, 16, 9, 184, 0, 9, 7, 100, 21, 10, 7, 122, 16, 20, 184, 0, 9, 21, 10, 16, 7, 122, 17, 7, 208, 184, 0, 9, 17, 1, 244, 100, 182, 0, 129, 43, 28, 21, 10, 6, 122, 17, 3, 232, 184, 0, 9, 184, 0, 133, 54, 7, 167, 0, 41, 43]
theorem hL_law_14 : jsl cL_law bL_law_14 1098 := jsl_of (by decide +kernel)
theorem dL_law_14 : eL_law_14.all (fun q => decide (decode cL_law q.1 = .ok q.2)) = true := dl_all hL_law_14 (by decide +kernel)
def eL_law_15 : List (Nat × Instr × Nat) := [(1177, .invokevirtual 56, 3), (1180, .istore 14, 2), (1182, .iconst 1, 1), (1183, .iload 10, 2), (1185, .bipush 12, 2), (1187, .invokestatic 9, 3), (1190, .iadd, 1), (1191, .istore 15, 2), (1193, .aload_n 1, 1), (1194, .iload 15, 2), (1196, .invokevirtual 137, 3), (1199, .iload 14, 2), (1201, .iload 15, 2), (1203, .iadd, 1), (1204, .if_icmp .ne 7, 3), (1207, .iconst 1, 1), (1208, .goto 4, 3), (1211, .iconst 0, 1), (1212, .istore 7, 2), (1214, .iload 7, 2), (1216, .ifCond .eq 26, 3), (1219, .aload_n 1, 1), (1220, .iload_n 2, 1), (1221, .invokestatic 140, 3), (1224, .ifCond .eq 18, 3), (1227, .aload_n 1, 1), (1228, .iload 5, 2), (1230, .iload 4, 2), (1232, .invokestatic 143, 3), (1235, .ifCond .eq 7, 3), (1238, .iconst 1, 1), (1239, .goto 4, 3), (1242, .iconst 0, 1), (1243, .istore 7, 2), (1245, .iinc 9 1, 3), (1248, .goto (-1035), 3), (1251, .iload 7, 2), (1253, .ireturn, 1)]
def bL_law_15 : ByteArray := .mk #[182, 0, 56, 54, 14, 4, 21, 10, 16, 12, 184, 0, 9, 96, 54, 15, 43, 21, 15, 182, 0, 137, 21, 14, 21, 15, 96, 160, 0, 7, 4, 167, 0, 4, 3, 54, 7, 21, 7, 153, 0, 26, 43, 28, 184, 0, 140, 153, 0, 18, 43, 21, 5, 21, 4, 184, 0, 143, 153, 0, 7, 4, 167, 0, 4, 3, 54, 7, 132, 9, 1, 167, 251, 245, 21, 7, 172]
theorem hL_law_15 : jsl cL_law bL_law_15 1177 := jsl_of (by decide +kernel)
theorem dL_law_15 : eL_law_15.all (fun q => decide (decode cL_law q.1 = .ok q.2)) = true := dl_all hL_law_15 (by decide +kernel)
abbrev rmLaw : Room := { frames := 11, cells := 600086, slots := 7301442, locals := 460 }
