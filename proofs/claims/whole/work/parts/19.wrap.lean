def eL_addBasin_0 : List (Nat × Instr × Nat) := [(0, .aload_n 3, 1), (1, .iconst 0, 1), (2, .aload_n 0, 1), (3, .iload_n 1, 1), (4, .iload_n 2, 1), (5, .invokevirtual 7, 3), (8, .i2l, 1), (9, .lastore, 1), (10, .goto 11, 3), (13, .astore 4, 2), (15, .iconst 1, 1), (16, .ireturn, 1), (17, .astore 4, 2), (19, .iconst 2, 1), (20, .ireturn, 1), (21, .iconst 0, 1), (22, .ireturn, 1)]
theorem dL_addBasin_0 : eL_addBasin_0.all (fun q => decide (decode cL_addBasin q.1 = .ok q.2)) = true := by decide +kernel
def eL_setLand_0 : List (Nat × Instr × Nat) := [(0, .aload_n 0, 1), (1, .iload_n 1, 1), (2, .iload_n 2, 1), (3, .iload_n 3, 1), (4, .iload 4, 2), (6, .invokevirtual 17, 3), (9, .goto 11, 3), (12, .astore 5, 2), (14, .iconst 1, 1), (15, .ireturn, 1), (16, .astore 5, 2), (18, .iconst 2, 1), (19, .ireturn, 1), (20, .iconst 0, 1), (21, .ireturn, 1)]
theorem dL_setLand_0 : eL_setLand_0.all (fun q => decide (decode cL_setLand q.1 = .ok q.2)) = true := by decide +kernel
def eL_pour_0 : List (Nat × Instr × Nat) := [(0, .aload_n 3, 1), (1, .iconst 0, 1), (2, .aload_n 0, 1), (3, .iload_n 1, 1), (4, .iload_n 2, 1), (5, .invokevirtual 23, 3), (8, .lastore, 1), (9, .goto 11, 3), (12, .astore 4, 2), (14, .iconst 1, 1), (15, .ireturn, 1), (16, .astore 4, 2), (18, .iconst 2, 1), (19, .ireturn, 1), (20, .iconst 0, 1), (21, .ireturn, 1)]
theorem dL_pour_0 : eL_pour_0.all (fun q => decide (decode cL_pour q.1 = .ok q.2)) = true := by decide +kernel
def eL_road_0 : List (Nat × Instr × Nat) := [(0, .aload 4, 2), (2, .iconst 0, 1), (3, .aload_n 0, 1), (4, .iload_n 1, 1), (5, .iload_n 2, 1), (6, .iload_n 3, 1), (7, .invokevirtual 27, 3), (10, .ifCond .eq 7, 3), (13, .lconst 1, 1), (14, .goto 4, 3), (17, .lconst 0, 1), (18, .lastore, 1), (19, .goto 11, 3), (22, .astore 5, 2), (24, .iconst 1, 1), (25, .ireturn, 1), (26, .astore 5, 2), (28, .iconst 2, 1), (29, .ireturn, 1), (30, .iconst 0, 1), (31, .ireturn, 1)]
theorem dL_road_0 : eL_road_0.all (fun q => decide (decode cL_road q.1 = .ok q.2)) = true := by decide +kernel
def eL_addGate_0 : List (Nat × Instr × Nat) := [(0, .aload 5, 2), (2, .iconst 0, 1), (3, .aload_n 0, 1), (4, .iload_n 1, 1), (5, .iload_n 2, 1), (6, .iload_n 3, 1), (7, .iload 4, 2), (9, .invokevirtual 31, 3), (12, .i2l, 1), (13, .lastore, 1), (14, .goto 15, 3), (17, .astore 6, 2), (19, .iconst 1, 1), (20, .ireturn, 1), (21, .astore 6, 2), (23, .iconst 2, 1), (24, .ireturn, 1), (25, .astore 6, 2), (27, .iconst 3, 1), (28, .ireturn, 1), (29, .iconst 0, 1), (30, .ireturn, 1)]
theorem dL_addGate_0 : eL_addGate_0.all (fun q => decide (decode cL_addGate q.1 = .ok q.2)) = true := by decide +kernel
def eL_addPump_0 : List (Nat × Instr × Nat) := [(0, .aload 6, 2), (2, .iconst 0, 1), (3, .aload_n 0, 1), (4, .iload_n 1, 1), (5, .iload_n 2, 1), (6, .iload_n 3, 1), (7, .iload 4, 2), (9, .iload 5, 2), (11, .invokevirtual 35, 3), (14, .i2l, 1), (15, .lastore, 1), (16, .goto 15, 3), (19, .astore 7, 2), (21, .iconst 1, 1), (22, .ireturn, 1), (23, .astore 7, 2), (25, .iconst 2, 1), (26, .ireturn, 1), (27, .astore 7, 2), (29, .iconst 3, 1), (30, .ireturn, 1), (31, .iconst 0, 1), (32, .ireturn, 1)]
theorem dL_addPump_0 : eL_addPump_0.all (fun q => decide (decode cL_addPump q.1 = .ok q.2)) = true := by decide +kernel
def eL_addDyke_0 : List (Nat × Instr × Nat) := [(0, .aload 6, 2), (2, .iconst 0, 1), (3, .aload_n 0, 1), (4, .iload_n 1, 1), (5, .iload_n 2, 1), (6, .iload_n 3, 1), (7, .iload 4, 2), (9, .iload 5, 2), (11, .invokevirtual 39, 3), (14, .i2l, 1), (15, .lastore, 1), (16, .goto 15, 3), (19, .astore 7, 2), (21, .iconst 1, 1), (22, .ireturn, 1), (23, .astore 7, 2), (25, .iconst 2, 1), (26, .ireturn, 1), (27, .astore 7, 2), (29, .iconst 3, 1), (30, .ireturn, 1), (31, .iconst 0, 1), (32, .ireturn, 1)]
theorem dL_addDyke_0 : eL_addDyke_0.all (fun q => decide (decode cL_addDyke q.1 = .ok q.2)) = true := by decide +kernel
def eL_setOutside_0 : List (Nat × Instr × Nat) := [(0, .aload_n 0, 1), (1, .iload_n 1, 1), (2, .iload_n 2, 1), (3, .iload_n 3, 1), (4, .invokevirtual 42, 3), (7, .goto 7, 3), (10, .astore 4, 2), (12, .iconst 1, 1), (13, .ireturn, 1), (14, .iconst 0, 1), (15, .ireturn, 1)]
theorem dL_setOutside_0 : eL_setOutside_0.all (fun q => decide (decode cL_setOutside q.1 = .ok q.2)) = true := by decide +kernel
def eL_storm_0 : List (Nat × Instr × Nat) := [(0, .aload 4, 2), (2, .iconst 0, 1), (3, .aload_n 0, 1), (4, .iload_n 1, 1), (5, .iload_n 2, 1), (6, .iload_n 3, 1), (7, .invokevirtual 46, 3), (10, .i2l, 1), (11, .lastore, 1), (12, .goto 11, 3), (15, .astore 5, 2), (17, .iconst 1, 1), (18, .ireturn, 1), (19, .astore 5, 2), (21, .iconst 2, 1), (22, .ireturn, 1), (23, .iconst 0, 1), (24, .ireturn, 1)]
theorem dL_storm_0 : eL_storm_0.all (fun q => decide (decode cL_storm q.1 = .ok q.2)) = true := by decide +kernel
def eL_rain_0 : List (Nat × Instr × Nat) := [(0, .aload 5, 2), (2, .iconst 0, 1), (3, .aload_n 0, 1), (4, .iload_n 1, 1), (5, .iload_n 2, 1), (6, .iload_n 3, 1), (7, .iload 4, 2), (9, .invokevirtual 50, 3), (12, .i2l, 1), (13, .lastore, 1), (14, .goto 15, 3), (17, .astore 6, 2), (19, .iconst 1, 1), (20, .ireturn, 1), (21, .astore 6, 2), (23, .iconst 2, 1), (24, .ireturn, 1), (25, .astore 6, 2), (27, .iconst 3, 1), (28, .ireturn, 1), (29, .iconst 0, 1), (30, .ireturn, 1)]
theorem dL_rain_0 : eL_rain_0.all (fun q => decide (decode cL_rain q.1 = .ok q.2)) = true := by decide +kernel
def eL_setSeed_0 : List (Nat × Instr × Nat) := [(0, .aload_n 2, 1), (1, .iconst 0, 1), (2, .aload_n 0, 1), (3, .iload_n 1, 1), (4, .invokevirtual 53, 3), (7, .i2l, 1), (8, .lastore, 1), (9, .goto 6, 3), (12, .astore_n 3, 1), (13, .iconst 1, 1), (14, .ireturn, 1), (15, .iconst 0, 1), (16, .ireturn, 1)]
theorem dL_setSeed_0 : eL_setSeed_0.all (fun q => decide (decode cL_setSeed q.1 = .ok q.2)) = true := by decide +kernel
def eL_command_0 : List (Nat × Instr × Nat) := [(0, .aload 4, 2), (2, .iconst 0, 1), (3, .aload_n 0, 1), (4, .iload_n 1, 1), (5, .iload_n 2, 1), (6, .iload_n 3, 1), (7, .invokevirtual 57, 3), (10, .i2l, 1), (11, .lastore, 1), (12, .goto 11, 3), (15, .astore 5, 2), (17, .iconst 1, 1), (18, .ireturn, 1), (19, .astore 5, 2), (21, .iconst 2, 1), (22, .ireturn, 1), (23, .iconst 0, 1), (24, .ireturn, 1)]
theorem dL_command_0 : eL_command_0.all (fun q => decide (decode cL_command q.1 = .ok q.2)) = true := by decide +kernel
def eL_drive_0 : List (Nat × Instr × Nat) := [(0, .aload 4, 2), (2, .iconst 0, 1), (3, .aload_n 0, 1), (4, .iload_n 1, 1), (5, .iload_n 2, 1), (6, .iload_n 3, 1), (7, .invokevirtual 61, 3), (10, .i2l, 1), (11, .lastore, 1), (12, .goto 15, 3), (15, .astore 5, 2), (17, .iconst 1, 1), (18, .ireturn, 1), (19, .astore 5, 2), (21, .iconst 2, 1), (22, .ireturn, 1), (23, .astore 5, 2), (25, .iconst 3, 1), (26, .ireturn, 1), (27, .iconst 0, 1), (28, .ireturn, 1)]
theorem dL_drive_0 : eL_drive_0.all (fun q => decide (decode cL_drive q.1 = .ok q.2)) = true := by decide +kernel
def eL_mend_0 : List (Nat × Instr × Nat) := [(0, .aload_n 2, 1), (1, .iconst 0, 1), (2, .aload_n 0, 1), (3, .iload_n 1, 1), (4, .invokevirtual 64, 3), (7, .i2l, 1), (8, .lastore, 1), (9, .goto 9, 3), (12, .astore_n 3, 1), (13, .iconst 1, 1), (14, .ireturn, 1), (15, .astore_n 3, 1), (16, .iconst 2, 1), (17, .ireturn, 1), (18, .iconst 0, 1), (19, .ireturn, 1)]
theorem dL_mend_0 : eL_mend_0.all (fun q => decide (decode cL_mend q.1 = .ok q.2)) = true := by decide +kernel
def eL_send_0 : List (Nat × Instr × Nat) := [(0, .aload 4, 2), (2, .iconst 0, 1), (3, .aload_n 0, 1), (4, .iload_n 1, 1), (5, .iload_n 2, 1), (6, .iload_n 3, 1), (7, .invokevirtual 67, 3), (10, .i2l, 1), (11, .lastore, 1), (12, .goto 15, 3), (15, .astore 5, 2), (17, .iconst 1, 1), (18, .ireturn, 1), (19, .astore 5, 2), (21, .iconst 2, 1), (22, .ireturn, 1), (23, .astore 5, 2), (25, .iconst 3, 1), (26, .ireturn, 1), (27, .iconst 0, 1), (28, .ireturn, 1)]
theorem dL_send_0 : eL_send_0.all (fun q => decide (decode cL_send q.1 = .ok q.2)) = true := by decide +kernel
def eL_budget_0 : List (Nat × Instr × Nat) := [(0, .aload_n 3, 1), (1, .iconst 0, 1), (2, .aload_n 0, 1), (3, .iload_n 1, 1), (4, .iload_n 2, 1), (5, .invokevirtual 70, 3), (8, .i2l, 1), (9, .lastore, 1), (10, .goto 7, 3), (13, .astore 4, 2), (15, .iconst 1, 1), (16, .ireturn, 1), (17, .iconst 0, 1), (18, .ireturn, 1)]
theorem dL_budget_0 : eL_budget_0.all (fun q => decide (decode cL_budget q.1 = .ok q.2)) = true := by decide +kernel
def eL_raise_0 : List (Nat × Instr × Nat) := [(0, .aload 4, 2), (2, .iconst 0, 1), (3, .aload_n 0, 1), (4, .iload_n 1, 1), (5, .iload_n 2, 1), (6, .iload_n 3, 1), (7, .invokevirtual 73, 3), (10, .i2l, 1), (11, .lastore, 1), (12, .goto 15, 3), (15, .astore 5, 2), (17, .iconst 1, 1), (18, .ireturn, 1), (19, .astore 5, 2), (21, .iconst 2, 1), (22, .ireturn, 1), (23, .astore 5, 2), (25, .iconst 3, 1), (26, .ireturn, 1), (27, .iconst 0, 1), (28, .ireturn, 1)]
theorem dL_raise_0 : eL_raise_0.all (fun q => decide (decode cL_raise q.1 = .ok q.2)) = true := by decide +kernel
def eL_run_0 : List (Nat × Instr × Nat) := [(0, .aload_n 2, 1), (1, .iconst 0, 1), (2, .aload_n 0, 1), (3, .iload_n 1, 1), (4, .invokevirtual 76, 3), (7, .i2l, 1), (8, .lastore, 1), (9, .goto 9, 3), (12, .astore_n 3, 1), (13, .iconst 1, 1), (14, .ireturn, 1), (15, .astore_n 3, 1), (16, .iconst 2, 1), (17, .ireturn, 1), (18, .iconst 0, 1), (19, .ireturn, 1)]
theorem dL_run_0 : eL_run_0.all (fun q => decide (decode cL_run q.1 = .ok q.2)) = true := by decide +kernel
def eL_endYear_0 : List (Nat × Instr × Nat) := [(0, .aload_n 1, 1), (1, .iconst 0, 1), (2, .aload_n 0, 1), (3, .invokevirtual 79, 3), (6, .i2l, 1), (7, .lastore, 1), (8, .goto 6, 3), (11, .astore_n 2, 1), (12, .iconst 1, 1), (13, .ireturn, 1), (14, .iconst 0, 1), (15, .ireturn, 1)]
theorem dL_endYear_0 : eL_endYear_0.all (fun q => decide (decode cL_endYear q.1 = .ok q.2)) = true := by decide +kernel
def eL_level_0 : List (Nat × Instr × Nat) := [(0, .aload_n 2, 1), (1, .iconst 0, 1), (2, .aload_n 0, 1), (3, .iload_n 1, 1), (4, .invokevirtual 83, 3), (7, .lastore, 1), (8, .goto 6, 3), (11, .astore_n 3, 1), (12, .iconst 1, 1), (13, .ireturn, 1), (14, .iconst 0, 1), (15, .ireturn, 1)]
theorem dL_level_0 : eL_level_0.all (fun q => decide (decode cL_level q.1 = .ok q.2)) = true := by decide +kernel
def eL_water_0 : List (Nat × Instr × Nat) := [(0, .aload_n 2, 1), (1, .iconst 0, 1), (2, .aload_n 0, 1), (3, .iload_n 1, 1), (4, .invokevirtual 87, 3), (7, .lastore, 1), (8, .goto 6, 3), (11, .astore_n 3, 1), (12, .iconst 1, 1), (13, .ireturn, 1), (14, .iconst 0, 1), (15, .ireturn, 1)]
theorem dL_water_0 : eL_water_0.all (fun q => decide (decode cL_water q.1 = .ok q.2)) = true := by decide +kernel
def eL_harm_0 : List (Nat × Instr × Nat) := [(0, .aload_n 2, 1), (1, .iconst 0, 1), (2, .aload_n 0, 1), (3, .iload_n 1, 1), (4, .invokevirtual 90, 3), (7, .lastore, 1), (8, .goto 6, 3), (11, .astore_n 3, 1), (12, .iconst 1, 1), (13, .ireturn, 1), (14, .iconst 0, 1), (15, .ireturn, 1)]
theorem dL_harm_0 : eL_harm_0.all (fun q => decide (decode cL_harm q.1 = .ok q.2)) = true := by decide +kernel
def eL_ledger_0 : List (Nat × Instr × Nat) := [(0, .aload_n 2, 1), (1, .iconst 0, 1), (2, .aload_n 0, 1), (3, .iload_n 1, 1), (4, .invokevirtual 93, 3), (7, .lastore, 1), (8, .goto 6, 3), (11, .astore_n 3, 1), (12, .iconst 1, 1), (13, .ireturn, 1), (14, .iconst 0, 1), (15, .ireturn, 1)]
theorem dL_ledger_0 : eL_ledger_0.all (fun q => decide (decode cL_ledger q.1 = .ok q.2)) = true := by decide +kernel
def eL_isOpen_0 : List (Nat × Instr × Nat) := [(0, .aload_n 2, 1), (1, .iconst 0, 1), (2, .aload_n 0, 1), (3, .iload_n 1, 1), (4, .invokevirtual 96, 3), (7, .ifCond .eq 7, 3), (10, .lconst 1, 1), (11, .goto 4, 3), (14, .lconst 0, 1), (15, .lastore, 1), (16, .goto 6, 3), (19, .astore_n 3, 1), (20, .iconst 1, 1), (21, .ireturn, 1), (22, .iconst 0, 1), (23, .ireturn, 1)]
theorem dL_isOpen_0 : eL_isOpen_0.all (fun q => decide (decode cL_isOpen q.1 = .ok q.2)) = true := by decide +kernel
def eL_pump_0 : List (Nat × Instr × Nat) := [(0, .aload_n 3, 1), (1, .iconst 0, 1), (2, .aload_n 0, 1), (3, .iload_n 1, 1), (4, .iload_n 2, 1), (5, .invokevirtual 100, 3), (8, .i2l, 1), (9, .lastore, 1), (10, .goto 11, 3), (13, .astore 4, 2), (15, .iconst 1, 1), (16, .ireturn, 1), (17, .astore 4, 2), (19, .iconst 2, 1), (20, .ireturn, 1), (21, .iconst 0, 1), (22, .ireturn, 1)]
theorem dL_pump_0 : eL_pump_0.all (fun q => decide (decode cL_pump q.1 = .ok q.2)) = true := by decide +kernel
def eL_dyke_0 : List (Nat × Instr × Nat) := [(0, .aload_n 3, 1), (1, .iconst 0, 1), (2, .aload_n 0, 1), (3, .iload_n 1, 1), (4, .iload_n 2, 1), (5, .invokevirtual 103, 3), (8, .i2l, 1), (9, .lastore, 1), (10, .goto 11, 3), (13, .astore 4, 2), (15, .iconst 1, 1), (16, .ireturn, 1), (17, .astore 4, 2), (19, .iconst 2, 1), (20, .ireturn, 1), (21, .iconst 0, 1), (22, .ireturn, 1)]
theorem dL_dyke_0 : eL_dyke_0.all (fun q => decide (decode cL_dyke q.1 = .ok q.2)) = true := by decide +kernel
def eL_crew_0 : List (Nat × Instr × Nat) := [(0, .aload_n 3, 1), (1, .iconst 0, 1), (2, .aload_n 0, 1), (3, .iload_n 1, 1), (4, .iload_n 2, 1), (5, .invokevirtual 106, 3), (8, .i2l, 1), (9, .lastore, 1), (10, .goto 11, 3), (13, .astore 4, 2), (15, .iconst 1, 1), (16, .ireturn, 1), (17, .astore 4, 2), (19, .iconst 2, 1), (20, .ireturn, 1), (21, .iconst 0, 1), (22, .ireturn, 1)]
theorem dL_crew_0 : eL_crew_0.all (fun q => decide (decode cL_crew q.1 = .ok q.2)) = true := by decide +kernel
def eL_sea_0 : List (Nat × Instr × Nat) := [(0, .aload_n 2, 1), (1, .iconst 0, 1), (2, .aload_n 0, 1), (3, .iload_n 1, 1), (4, .invokevirtual 109, 3), (7, .lastore, 1), (8, .goto 6, 3), (11, .astore_n 3, 1), (12, .iconst 1, 1), (13, .ireturn, 1), (14, .iconst 0, 1), (15, .ireturn, 1)]
theorem dL_sea_0 : eL_sea_0.all (fun q => decide (decode cL_sea q.1 = .ok q.2)) = true := by decide +kernel
def eL_forecast_0 : List (Nat × Instr × Nat) := [(0, .aload_n 2, 1), (1, .iconst 0, 1), (2, .aload_n 0, 1), (3, .iload_n 1, 1), (4, .invokevirtual 112, 3), (7, .lastore, 1), (8, .goto 6, 3), (11, .astore_n 3, 1), (12, .iconst 1, 1), (13, .ireturn, 1), (14, .iconst 0, 1), (15, .ireturn, 1)]
theorem dL_forecast_0 : eL_forecast_0.all (fun q => decide (decode cL_forecast q.1 = .ok q.2)) = true := by decide +kernel
def eL_record_0 : List (Nat × Instr × Nat) := [(0, .aload_n 2, 1), (1, .iconst 0, 1), (2, .aload_n 0, 1), (3, .iload_n 1, 1), (4, .invokevirtual 115, 3), (7, .lastore, 1), (8, .goto 6, 3), (11, .astore_n 3, 1), (12, .iconst 1, 1), (13, .ireturn, 1), (14, .iconst 0, 1), (15, .ireturn, 1)]
theorem dL_record_0 : eL_record_0.all (fun q => decide (decode cL_record q.1 = .ok q.2)) = true := by decide +kernel
def eL_nextHeight_0 : List (Nat × Instr × Nat) := [(0, .aload_n 3, 1), (1, .iconst 0, 1), (2, .aload_n 0, 1), (3, .iload_n 1, 1), (4, .iload_n 2, 1), (5, .invokevirtual 118, 3), (8, .lastore, 1), (9, .goto 11, 3), (12, .astore 4, 2), (14, .iconst 1, 1), (15, .ireturn, 1), (16, .astore 4, 2), (18, .iconst 2, 1), (19, .ireturn, 1), (20, .iconst 0, 1), (21, .ireturn, 1)]
theorem dL_nextHeight_0 : eL_nextHeight_0.all (fun q => decide (decode cL_nextHeight q.1 = .ok q.2)) = true := by decide +kernel
def eL_share_0 : List (Nat × Instr × Nat) := [(0, .aload_n 3, 1), (1, .iconst 0, 1), (2, .aload_n 0, 1), (3, .iload_n 1, 1), (4, .iload_n 2, 1), (5, .invokevirtual 121, 3), (8, .i2l, 1), (9, .lastore, 1), (10, .goto 11, 3), (13, .astore 4, 2), (15, .iconst 1, 1), (16, .ireturn, 1), (17, .astore 4, 2), (19, .iconst 2, 1), (20, .ireturn, 1), (21, .iconst 0, 1), (22, .ireturn, 1)]
theorem dL_share_0 : eL_share_0.all (fun q => decide (decode cL_share q.1 = .ok q.2)) = true := by decide +kernel
def wk (a b c : Nat) (k : Nat) : Int32 := if k = a then 1 else if k = b then 2 else if k = c then 3 else 0
abbrev rmL_addBasin : Room := { frames := 8, cells := 9, slots := 64, locals := 203 }
abbrev rmL_setLand : Room := { frames := 8, cells := 9, slots := 64, locals := 205 }
abbrev rmL_pour : Room := { frames := 8, cells := 9, slots := 64, locals := 203 }
abbrev rmL_road : Room := { frames := 8, cells := 9, slots := 64, locals := 204 }
abbrev rmL_addGate : Room := { frames := 9, cells := 9, slots := 64, locals := 205 }
abbrev rmL_addPump : Room := { frames := 9, cells := 9, slots := 64, locals := 206 }
abbrev rmL_addDyke : Room := { frames := 9, cells := 9, slots := 64, locals := 206 }
abbrev rmL_setOutside : Room := { frames := 8, cells := 9, slots := 64, locals := 204 }
abbrev rmL_storm : Room := { frames := 8, cells := 9, slots := 64, locals := 204 }
abbrev rmL_rain : Room := { frames := 8, cells := 9, slots := 64, locals := 205 }
abbrev rmL_setSeed : Room := { frames := 8, cells := 9, slots := 64, locals := 202 }
abbrev rmL_command : Room := { frames := 8, cells := 9, slots := 64, locals := 204 }
abbrev rmL_drive : Room := { frames := 8, cells := 9, slots := 64, locals := 204 }
abbrev rmL_mend : Room := { frames := 8, cells := 9, slots := 64, locals := 202 }
abbrev rmL_send : Room := { frames := 8, cells := 9, slots := 64, locals := 204 }
abbrev rmL_budget : Room := { frames := 8, cells := 9, slots := 64, locals := 203 }
abbrev rmL_raise : Room := { frames := 8, cells := 9, slots := 64, locals := 204 }
abbrev rmL_run : Room := { frames := 8, cells := 9, slots := 64, locals := 202 }
abbrev rmL_endYear : Room := { frames := 8, cells := 9, slots := 64, locals := 201 }
abbrev rmL_level : Room := { frames := 8, cells := 9, slots := 64, locals := 132 }
abbrev rmL_water : Room := { frames := 8, cells := 9, slots := 64, locals := 133 }
abbrev rmL_harm : Room := { frames := 8, cells := 9, slots := 64, locals := 133 }
abbrev rmL_ledger : Room := { frames := 8, cells := 9, slots := 64, locals := 134 }
abbrev rmL_isOpen : Room := { frames := 8, cells := 9, slots := 64, locals := 133 }
abbrev rmL_pump : Room := { frames := 8, cells := 9, slots := 64, locals := 136 }
abbrev rmL_dyke : Room := { frames := 8, cells := 9, slots := 64, locals := 136 }
abbrev rmL_crew : Room := { frames := 8, cells := 9, slots := 64, locals := 136 }
abbrev rmL_sea : Room := { frames := 8, cells := 9, slots := 64, locals := 134 }
abbrev rmL_forecast : Room := { frames := 8, cells := 9, slots := 64, locals := 137 }
abbrev rmL_record : Room := { frames := 7, cells := 9, slots := 64, locals := 111 }
abbrev rmL_nextHeight : Room := { frames := 8, cells := 9, slots := 64, locals := 137 }
abbrev rmL_share : Room := { frames := 8, cells := 9, slots := 64, locals := 148 }
set_option maxHeartbeats 4000000 in
set_option maxRecDepth 100000 in
theorem qL_addBasin (l : Launch) (hl9 : l.stackTraces = false) (D : va_G) (yy : Nat → ClassId) (oa h0 an : Nat) (O : Nat → Int64) (B B2 : Nat → Nat) (F : jF) (G : jG) (F2 : jF) (G2 : jG) (M : jF) (Y : va_W) (sz : Nat) (p1 : Int32) (p2 : Int32) (hok : okX11_addBasin F G M p1 p2) (hcod : (gX11_addBasin F G M p1 p2).1 = 0 ∨ (gX11_addBasin F G M p1 p2).1 = 2 ∨ (gX11_addBasin F G M p1 p2).1 = 3) : Met l yL_addBasin (Cond.codeWith yL_addBasin cL_addBasin 5 (some .int) [(0, 10, 13, 13), (0, 10, 17, 15)] :: wsL_law) rmL_addBasin (va_Pc [.ref h0, .int p1, .int p2, .ref oa] (jZ D yy (wW yy oa O (pV yy h0 an B B2 F G F2 G2 M) Y) sz)) (va_Qi (fun (r : Int32) (u : (((Nat → Nat) × jS) × jF) × (Nat → Int64)) => ((∃ x, (gX11_addBasin F G M p1 p2) = (0, (x, (u.1.1.2, u.1.2))) ∧ r = 0 ∧ u.2 = vp_updL O 0 (Int32.toInt64 x)) ∨ ((gX11_addBasin F G M p1 p2).1 ≠ 0 ∧ r = wk 2 3 9 (gX11_addBasin F G M p1 p2).1 ∧ u = (((B, (F, G)), M), O))) ∧ ∀ k, k < 100 → u.1.1.1 k = B k) (fun u t => jB D yy (va_A (wW yy oa O (pV yy h0 an B B2 F G F2 G2 M) Y) sz) (wW yy oa u.2 (pV yy h0 an u.1.1.1 B2 u.1.1.2.1 u.1.1.2.2 F2 G2 u.1.2) Y) t) (va_A (wW yy oa O (pV yy h0 an B B2 F G F2 G2 M) Y) sz)) 9 64 (va_A (wW yy oa O (pV yy h0 an B B2 F G F2 G2 M) Y) sz) := by
  refine jMW (vs := [.ref h0, .int p1, .int p2, .ref oa]) (own := RL) (by decide +kernel) rfl (Nat.le_of_ble_eq_true rfl) ?_
  intro p e s m args below meth c ls Q hQ hargs S hr hlk htab hB hl
  obtain ⟨hx, hb, hml, hown, hts⟩ := S
  have hl : lv_has ls 5 [(0, .ref h0), (1, .int p1), (2, .int p2), (3, .ref oa)] := hl
  obtain ⟨⟨⟨hsz, hV, hK, hD0⟩, hT⟩, hN⟩ := hB
  subst hsz
  have hD := hD0.self (sz := s.heap.size)
  generalize hZ : va_A (wW yy oa O (pV yy h0 an B B2 F G F2 G2 M) Y) s.heap.size = Z at hD hQ hT
  have hA : ∀ q : Nat, s.heap.size ≤ q → Z q := fun q h => by rw [← hZ]; exact Or.inr h
  obtain ⟨H, hH⟩ : ∃ z, z = s.heap := ⟨_, rfl⟩
  obtain ⟨locs, hlocs⟩ : ∃ z : List Loc, z = [] := ⟨_, rfl⟩
  have hS : va_S Z s.heap H locs := by rw [hH, hlocs]; exact va_S.rf
  rw [← hH] at hV
  suffices hgo : W p l e rmL_addBasin s m args below meth c H locs 0 0 Q (F0 m 0 ls []) by rw [hH, hlocs] at hgo; exact hgo
  refine lv_aload_n hx hb (dd_of dL_addBasin_0 0 rfl) rfl (lv_at hl 3 rfl) ?_
  refine lv_iconst (v := 0) hx hb (dd_of dL_addBasin_0 1 rfl) (by decide) ?_
  refine lv_aload_n hx hb (dd_of dL_addBasin_0 2 rfl) rfl (lv_at hl 0 rfl) ?_
  refine lv_iload_n hx hb (dd_of dL_addBasin_0 3 rfl) rfl (lv_at hl 1 rfl) ?_
  refine lv_iload_n hx hb (dd_of dL_addBasin_0 4 rfl) rfl (lv_at hl 2 rfl) ?_
  refine jq_i (As := [.int p1, .int p2]) (rest := [.int 0, .ref oa]) (D := D) (yy := yy) (oa := oa) (O := O) (P0 := pV yy h0 an B B2 F G F2 G2 M) (Y := Y) (gc := (gX11_addBasin F G M p1 p2).1) (w1 := fun u : ((Nat → Nat) × jS) × jF => pV yy h0 an u.1.1 B2 u.1.2.1 u.1.2.2 F2 G2 u.2) ⟨hx, hb, hml, hown, hts⟩ (qX11_addBasin l hl9 D yy h0 an B B2 F G F2 G2 M H.size p1 p2 hok) (cwV 2 hts (jgV gw177 gw178 gw179 gw2 gw180) rfl rfl rfl (by decide +kernel) ⟨Nat.le_of_ble_eq_true rfl, Nat.le_of_ble_eq_true rfl⟩) hV hK hT hD hS hA (va_recv hK (wW_P hV) (ci := 11) (q0 := 0) rfl rfl) rfl hl.1 rfl (Nat.le_of_ble_eq_true rfl) (dd_of dL_addBasin_0 5 rfl) ⟨Nat.le_of_ble_eq_true rfl, Nat.le_of_ble_eq_true rfl⟩ (fun E ce q9 H locs hg0 hE9 hV hS z1 z2 z3 => ?_) (fun x u H locs hp hV hD hS => ?_)
  · rcases hcod with hcod | hcod | hcod
    · exact absurd hcod hg0
    · have hE9 : E = xA := by rw [hE9, hcod]; rfl
      subst hE9
      refine jcat hown hts htab [] (0, 10, 13, 13) [(0, 10, 17, 15)] rfl (fun z hz => absurd hz List.not_mem_nil) (by decide) (by decide) gw175 (va_Nw.use rfl (hT.2.1.1 xA (Or.inr (Or.inl rfl)))) z1 z2 z3 ?_
      refine lv_astore hx hb (dd_of dL_addBasin_0 9 rfl) hl (by decide) rfl (fun ls hl => ?_)
      refine lv_iconst (v := 1) hx hb (dd_of dL_addBasin_0 10 rfl) (by decide) ?_
      subst hQ
      refine W.widen (k := 9) (n := 64) (Nat.le_of_ble_eq_true rfl) (Nat.le_of_ble_eq_true rfl) ?_
      exact W.iret (v := 1) hx hb hr (fun t ht hW => ⟨⟨1, (((B, (F, G)), M), O), rfl, ⟨Or.inr ⟨hg0, by rw [hcod]; rfl, rfl⟩, fun _ _ => rfl⟩, by rw [ht]; exact hV, va_K.moved hW.alike hK, hD⟩, hS.F ht⟩) hS.2.2 (dd_of dL_addBasin_0 11 rfl) hlk
    · have hE9 : E = xS := by rw [hE9, hcod]; rfl
      subst hE9
      refine jcat hown hts htab [(0, 10, 13, 13)] (0, 10, 17, 15) [] rfl (fun z hz => by obtain rfl := List.mem_singleton.mp hz; exact ⟨by decide, xA, gw175, hN.2.2.2⟩) (by decide) (by decide) gw176 (va_Nw.use rfl (hT.2.1.1 xS (Or.inr (Or.inr rfl)))) z1 z2 z3 ?_
      refine lv_astore hx hb (dd_of dL_addBasin_0 12 rfl) hl (by decide) rfl (fun ls hl => ?_)
      refine lv_iconst (v := 2) hx hb (dd_of dL_addBasin_0 13 rfl) (by decide) ?_
      subst hQ
      refine W.widen (k := 9) (n := 64) (Nat.le_of_ble_eq_true rfl) (Nat.le_of_ble_eq_true rfl) ?_
      exact W.iret (v := 2) hx hb hr (fun t ht hW => ⟨⟨2, (((B, (F, G)), M), O), rfl, ⟨Or.inr ⟨hg0, by rw [hcod]; rfl, rfl⟩, fun _ _ => rfl⟩, by rw [ht]; exact hV, va_K.moved hW.alike hK, hD⟩, hS.F ht⟩) hS.2.2 (dd_of dL_addBasin_0 14 rfl) hlk
  · skip
    obtain ⟨⟨B1, F1, G1⟩, M1⟩ := u
    obtain ⟨hp, hB1⟩ := hp
    have hB1 : ∀ k, k < 100 → B1 k = B k := hB1
    have hp : (gX11_addBasin F G M p1 p2) = (0, (x, ((F1, G1), M1))) := hp
    have hV : va_P D vwCl (wW yy oa O (pV yy h0 an B1 B2 F1 G1 F2 G2 M1) Y) H := hV
    have hD : va_D Z (wW yy oa O (pV yy h0 an B1 B2 F1 G1 F2 G2 M1) Y) := hD
    refine lv_i2l (v := (Int32.toInt64 x)) hx hb (dd_of dL_addBasin_0 6 rfl) rfl ?_
    obtain ⟨P9, hP9⟩ : ∃ z, z = (pV yy h0 an B1 B2 F1 G1 F2 G2 M1) := ⟨_, rfl⟩
    rw [← hP9] at hV hD
    refine va_last hx hb hK hV hD hS 0 1 rfl rfl (vin_lit (by decide)) (dd_of dL_addBasin_0 7 rfl) (fun H locs hV hD hS => ?_)
    have hV : va_P D vwCl (wW yy oa (vp_updL O 0 (Int32.toInt64 x)) P9 Y) H := hV
    have hD : va_D Z (wW yy oa (vp_updL O 0 (Int32.toInt64 x)) P9 Y) := hD
    rw [hP9] at hV hD
    refine lv_goto (tgt := 21) hx hb (dd_of dL_addBasin_0 8 rfl) (by decide) ?_
    refine lv_iconst (v := 0) hx hb (dd_of dL_addBasin_0 15 rfl) (by decide) ?_
    subst hQ
    refine W.widen (k := 9) (n := 64) (Nat.le_of_ble_eq_true rfl) (Nat.le_of_ble_eq_true rfl) ?_
    exact W.iret (v := 0) hx hb hr (fun t ht hW => ⟨⟨0, (((B1, (F1, G1)), M1), (vp_updL O 0 (Int32.toInt64 x))), rfl, ⟨Or.inl ⟨x, hp, rfl, rfl⟩, hB1⟩, by rw [ht]; exact hV, va_K.moved hW.alike hK, hD⟩, hS.F ht⟩) hS.2.2 (dd_of dL_addBasin_0 16 rfl) hlk
set_option maxHeartbeats 4000000 in
set_option maxRecDepth 100000 in
theorem qL_setLand (l : Launch) (hl9 : l.stackTraces = false) (D : va_G) (yy : Nat → ClassId) (oa h0 an : Nat) (O : Nat → Int64) (B B2 : Nat → Nat) (F : jF) (G : jG) (F2 : jF) (G2 : jG) (M : jF) (Y : va_W) (sz : Nat) (p1 : Int32) (p2 : Int32) (p3 : Int32) (p4 : Int32) (hok : okX11_setLand F G M p1 p2 p3 p4) (hcod : (gX11_setLand F G M p1 p2 p3 p4).1 = 0 ∨ (gX11_setLand F G M p1 p2 p3 p4).1 = 1 ∨ (gX11_setLand F G M p1 p2 p3 p4).1 = 2) : Met l yL_setLand (Cond.codeWith yL_setLand cL_setLand 6 (some .int) [(0, 9, 12, 21), (0, 9, 16, 13)] :: wsL_law) rmL_setLand (va_Pc [.ref h0, .int p1, .int p2, .int p3, .int p4] (jZ D yy (wW yy oa O (pV yy h0 an B B2 F G F2 G2 M) Y) sz)) (va_Qi (fun (r : Int32) (u : (((Nat → Nat) × jS) × jF) × (Nat → Int64)) => (((gX11_setLand F G M p1 p2 p3 p4) = (0, (u.1.1.2, u.1.2)) ∧ r = 0 ∧ u.2 = O) ∨ ((gX11_setLand F G M p1 p2 p3 p4).1 ≠ 0 ∧ r = wk 1 2 9 (gX11_setLand F G M p1 p2 p3 p4).1 ∧ u = (((B, (F, G)), M), O))) ∧ ∀ k, k < 100 → u.1.1.1 k = B k) (fun u t => jB D yy (va_A (wW yy oa O (pV yy h0 an B B2 F G F2 G2 M) Y) sz) (wW yy oa u.2 (pV yy h0 an u.1.1.1 B2 u.1.1.2.1 u.1.1.2.2 F2 G2 u.1.2) Y) t) (va_A (wW yy oa O (pV yy h0 an B B2 F G F2 G2 M) Y) sz)) 9 64 (va_A (wW yy oa O (pV yy h0 an B B2 F G F2 G2 M) Y) sz) := by
  refine jMW (vs := [.ref h0, .int p1, .int p2, .int p3, .int p4]) (own := RL) (by decide +kernel) rfl (Nat.le_of_ble_eq_true rfl) ?_
  intro p e s m args below meth c ls Q hQ hargs S hr hlk htab hB hl
  obtain ⟨hx, hb, hml, hown, hts⟩ := S
  have hl : lv_has ls 6 [(0, .ref h0), (1, .int p1), (2, .int p2), (3, .int p3), (4, .int p4)] := hl
  obtain ⟨⟨⟨hsz, hV, hK, hD0⟩, hT⟩, hN⟩ := hB
  subst hsz
  have hD := hD0.self (sz := s.heap.size)
  generalize hZ : va_A (wW yy oa O (pV yy h0 an B B2 F G F2 G2 M) Y) s.heap.size = Z at hD hQ hT
  have hA : ∀ q : Nat, s.heap.size ≤ q → Z q := fun q h => by rw [← hZ]; exact Or.inr h
  obtain ⟨H, hH⟩ : ∃ z, z = s.heap := ⟨_, rfl⟩
  obtain ⟨locs, hlocs⟩ : ∃ z : List Loc, z = [] := ⟨_, rfl⟩
  have hS : va_S Z s.heap H locs := by rw [hH, hlocs]; exact va_S.rf
  rw [← hH] at hV
  suffices hgo : W p l e rmL_setLand s m args below meth c H locs 0 0 Q (F0 m 0 ls []) by rw [hH, hlocs] at hgo; exact hgo
  refine lv_aload_n hx hb (dd_of dL_setLand_0 0 rfl) rfl (lv_at hl 0 rfl) ?_
  refine lv_iload_n hx hb (dd_of dL_setLand_0 1 rfl) rfl (lv_at hl 1 rfl) ?_
  refine lv_iload_n hx hb (dd_of dL_setLand_0 2 rfl) rfl (lv_at hl 2 rfl) ?_
  refine lv_iload_n hx hb (dd_of dL_setLand_0 3 rfl) rfl (lv_at hl 3 rfl) ?_
  refine lv_iload hx hb (dd_of dL_setLand_0 4 rfl) (lv_at hl 4 rfl) ?_
  refine jq_v (As := [.int p1, .int p2, .int p3, .int p4]) (rest := []) (D := D) (yy := yy) (oa := oa) (O := O) (P0 := pV yy h0 an B B2 F G F2 G2 M) (Y := Y) (gc := (gX11_setLand F G M p1 p2 p3 p4).1) (w1 := fun u : ((Nat → Nat) × jS) × jF => pV yy h0 an u.1.1 B2 u.1.2.1 u.1.2.2 F2 G2 u.2) ⟨hx, hb, hml, hown, hts⟩ (qX11_setLand l hl9 D yy h0 an B B2 F G F2 G2 M H.size p1 p2 p3 p4 hok) (cwV 4 hts (jgV gw602 gw603 gw604 gw2 gw605) rfl rfl rfl (by decide +kernel) ⟨Nat.le_of_ble_eq_true rfl, Nat.le_of_ble_eq_true rfl⟩) hV hK hT hD hS hA (va_recv hK (wW_P hV) (ci := 11) (q0 := 0) rfl rfl) rfl hl.1 rfl (Nat.le_of_ble_eq_true rfl) (dd_of dL_setLand_0 5 rfl) ⟨Nat.le_of_ble_eq_true rfl, Nat.le_of_ble_eq_true rfl⟩ (fun E ce q9 H locs hg0 hE9 hV hS z1 z2 z3 => ?_) (fun u H locs hp hV hD hS => ?_)
  · rcases hcod with hcod | hcod | hcod
    · exact absurd hcod hg0
    · have hE9 : E = xI := by rw [hE9, hcod]; rfl
      subst hE9
      refine jcat hown hts htab [] (0, 9, 12, 21) [(0, 9, 16, 13)] rfl (fun z hz => absurd hz List.not_mem_nil) (by decide) (by decide) gw601 (va_Nw.use rfl (hT.2.1.1 xI (Or.inl rfl))) z1 z2 z3 ?_
      refine lv_astore hx hb (dd_of dL_setLand_0 7 rfl) hl (by decide) rfl (fun ls hl => ?_)
      refine lv_iconst (v := 1) hx hb (dd_of dL_setLand_0 8 rfl) (by decide) ?_
      subst hQ
      refine W.widen (k := 9) (n := 64) (Nat.le_of_ble_eq_true rfl) (Nat.le_of_ble_eq_true rfl) ?_
      exact W.iret (v := 1) hx hb hr (fun t ht hW => ⟨⟨1, (((B, (F, G)), M), O), rfl, ⟨Or.inr ⟨hg0, by rw [hcod]; rfl, rfl⟩, fun _ _ => rfl⟩, by rw [ht]; exact hV, va_K.moved hW.alike hK, hD⟩, hS.F ht⟩) hS.2.2 (dd_of dL_setLand_0 9 rfl) hlk
    · have hE9 : E = xA := by rw [hE9, hcod]; rfl
      subst hE9
      refine jcat hown hts htab [(0, 9, 12, 21)] (0, 9, 16, 13) [] rfl (fun z hz => by obtain rfl := List.mem_singleton.mp hz; exact ⟨by decide, xI, gw601, hN.2.1.1⟩) (by decide) (by decide) gw175 (va_Nw.use rfl (hT.2.1.1 xA (Or.inr (Or.inl rfl)))) z1 z2 z3 ?_
      refine lv_astore hx hb (dd_of dL_setLand_0 10 rfl) hl (by decide) rfl (fun ls hl => ?_)
      refine lv_iconst (v := 2) hx hb (dd_of dL_setLand_0 11 rfl) (by decide) ?_
      subst hQ
      refine W.widen (k := 9) (n := 64) (Nat.le_of_ble_eq_true rfl) (Nat.le_of_ble_eq_true rfl) ?_
      exact W.iret (v := 2) hx hb hr (fun t ht hW => ⟨⟨2, (((B, (F, G)), M), O), rfl, ⟨Or.inr ⟨hg0, by rw [hcod]; rfl, rfl⟩, fun _ _ => rfl⟩, by rw [ht]; exact hV, va_K.moved hW.alike hK, hD⟩, hS.F ht⟩) hS.2.2 (dd_of dL_setLand_0 12 rfl) hlk
  · skip
    obtain ⟨⟨B1, F1, G1⟩, M1⟩ := u
    obtain ⟨hp, hB1⟩ := hp
    have hB1 : ∀ k, k < 100 → B1 k = B k := hB1
    have hp : (gX11_setLand F G M p1 p2 p3 p4) = (0, ((F1, G1), M1)) := hp
    have hV : va_P D vwCl (wW yy oa O (pV yy h0 an B1 B2 F1 G1 F2 G2 M1) Y) H := hV
    have hD : va_D Z (wW yy oa O (pV yy h0 an B1 B2 F1 G1 F2 G2 M1) Y) := hD
    refine lv_goto (tgt := 20) hx hb (dd_of dL_setLand_0 6 rfl) (by decide) ?_
    refine lv_iconst (v := 0) hx hb (dd_of dL_setLand_0 13 rfl) (by decide) ?_
    subst hQ
    refine W.widen (k := 9) (n := 64) (Nat.le_of_ble_eq_true rfl) (Nat.le_of_ble_eq_true rfl) ?_
    exact W.iret (v := 0) hx hb hr (fun t ht hW => ⟨⟨0, (((B1, (F1, G1)), M1), O), rfl, ⟨Or.inl ⟨hp, rfl, rfl⟩, hB1⟩, by rw [ht]; exact hV, va_K.moved hW.alike hK, hD⟩, hS.F ht⟩) hS.2.2 (dd_of dL_setLand_0 14 rfl) hlk
set_option maxHeartbeats 4000000 in
set_option maxRecDepth 100000 in
theorem qL_pour (l : Launch) (hl9 : l.stackTraces = false) (D : va_G) (yy : Nat → ClassId) (oa h0 an : Nat) (O : Nat → Int64) (B B2 : Nat → Nat) (F : jF) (G : jG) (F2 : jF) (G2 : jG) (M : jF) (Y : va_W) (sz : Nat) (p1 : Int32) (p2 : Int32) (hok : okX11_pour F G M p1 p2) (hcod : (gX11_pour F G M p1 p2).1 = 0 ∨ (gX11_pour F G M p1 p2).1 = 1 ∨ (gX11_pour F G M p1 p2).1 = 2) : Met l yL_pour (Cond.codeWith yL_pour cL_pour 5 (some .int) [(0, 9, 12, 21), (0, 9, 16, 13)] :: wsL_law) rmL_pour (va_Pc [.ref h0, .int p1, .int p2, .ref oa] (jZ D yy (wW yy oa O (pV yy h0 an B B2 F G F2 G2 M) Y) sz)) (va_Qi (fun (r : Int32) (u : (((Nat → Nat) × jS) × jF) × (Nat → Int64)) => ((∃ x, (gX11_pour F G M p1 p2) = (0, (x, (u.1.1.2, u.1.2))) ∧ r = 0 ∧ u.2 = vp_updL O 0 x) ∨ ((gX11_pour F G M p1 p2).1 ≠ 0 ∧ r = wk 1 2 9 (gX11_pour F G M p1 p2).1 ∧ u = (((B, (F, G)), M), O))) ∧ ∀ k, k < 100 → u.1.1.1 k = B k) (fun u t => jB D yy (va_A (wW yy oa O (pV yy h0 an B B2 F G F2 G2 M) Y) sz) (wW yy oa u.2 (pV yy h0 an u.1.1.1 B2 u.1.1.2.1 u.1.1.2.2 F2 G2 u.1.2) Y) t) (va_A (wW yy oa O (pV yy h0 an B B2 F G F2 G2 M) Y) sz)) 9 64 (va_A (wW yy oa O (pV yy h0 an B B2 F G F2 G2 M) Y) sz) := by
  refine jMW (vs := [.ref h0, .int p1, .int p2, .ref oa]) (own := RL) (by decide +kernel) rfl (Nat.le_of_ble_eq_true rfl) ?_
  intro p e s m args below meth c ls Q hQ hargs S hr hlk htab hB hl
  obtain ⟨hx, hb, hml, hown, hts⟩ := S
  have hl : lv_has ls 5 [(0, .ref h0), (1, .int p1), (2, .int p2), (3, .ref oa)] := hl
  obtain ⟨⟨⟨hsz, hV, hK, hD0⟩, hT⟩, hN⟩ := hB
  subst hsz
  have hD := hD0.self (sz := s.heap.size)
  generalize hZ : va_A (wW yy oa O (pV yy h0 an B B2 F G F2 G2 M) Y) s.heap.size = Z at hD hQ hT
  have hA : ∀ q : Nat, s.heap.size ≤ q → Z q := fun q h => by rw [← hZ]; exact Or.inr h
  obtain ⟨H, hH⟩ : ∃ z, z = s.heap := ⟨_, rfl⟩
  obtain ⟨locs, hlocs⟩ : ∃ z : List Loc, z = [] := ⟨_, rfl⟩
  have hS : va_S Z s.heap H locs := by rw [hH, hlocs]; exact va_S.rf
  rw [← hH] at hV
  suffices hgo : W p l e rmL_pour s m args below meth c H locs 0 0 Q (F0 m 0 ls []) by rw [hH, hlocs] at hgo; exact hgo
  refine lv_aload_n hx hb (dd_of dL_pour_0 0 rfl) rfl (lv_at hl 3 rfl) ?_
  refine lv_iconst (v := 0) hx hb (dd_of dL_pour_0 1 rfl) (by decide) ?_
  refine lv_aload_n hx hb (dd_of dL_pour_0 2 rfl) rfl (lv_at hl 0 rfl) ?_
  refine lv_iload_n hx hb (dd_of dL_pour_0 3 rfl) rfl (lv_at hl 1 rfl) ?_
  refine lv_iload_n hx hb (dd_of dL_pour_0 4 rfl) rfl (lv_at hl 2 rfl) ?_
  refine jq_l (As := [.int p1, .int p2]) (rest := [.int 0, .ref oa]) (D := D) (yy := yy) (oa := oa) (O := O) (P0 := pV yy h0 an B B2 F G F2 G2 M) (Y := Y) (gc := (gX11_pour F G M p1 p2).1) (w1 := fun u : ((Nat → Nat) × jS) × jF => pV yy h0 an u.1.1 B2 u.1.2.1 u.1.2.2 F2 G2 u.2) ⟨hx, hb, hml, hown, hts⟩ (qX11_pour l hl9 D yy h0 an B B2 F G F2 G2 M H.size p1 p2 hok) (cwV 2 hts (jgV gw624 gw625 gw626 gw2 gw627) rfl rfl rfl (by decide +kernel) ⟨Nat.le_of_ble_eq_true rfl, Nat.le_of_ble_eq_true rfl⟩) hV hK hT hD hS hA (va_recv hK (wW_P hV) (ci := 11) (q0 := 0) rfl rfl) rfl hl.1 rfl (Nat.le_of_ble_eq_true rfl) (dd_of dL_pour_0 5 rfl) ⟨Nat.le_of_ble_eq_true rfl, Nat.le_of_ble_eq_true rfl⟩ (fun E ce q9 H locs hg0 hE9 hV hS z1 z2 z3 => ?_) (fun x u H locs hp hV hD hS => ?_)
  · rcases hcod with hcod | hcod | hcod
    · exact absurd hcod hg0
    · have hE9 : E = xI := by rw [hE9, hcod]; rfl
      subst hE9
      refine jcat hown hts htab [] (0, 9, 12, 21) [(0, 9, 16, 13)] rfl (fun z hz => absurd hz List.not_mem_nil) (by decide) (by decide) gw601 (va_Nw.use rfl (hT.2.1.1 xI (Or.inl rfl))) z1 z2 z3 ?_
      refine lv_astore hx hb (dd_of dL_pour_0 8 rfl) hl (by decide) rfl (fun ls hl => ?_)
      refine lv_iconst (v := 1) hx hb (dd_of dL_pour_0 9 rfl) (by decide) ?_
      subst hQ
      refine W.widen (k := 9) (n := 64) (Nat.le_of_ble_eq_true rfl) (Nat.le_of_ble_eq_true rfl) ?_
      exact W.iret (v := 1) hx hb hr (fun t ht hW => ⟨⟨1, (((B, (F, G)), M), O), rfl, ⟨Or.inr ⟨hg0, by rw [hcod]; rfl, rfl⟩, fun _ _ => rfl⟩, by rw [ht]; exact hV, va_K.moved hW.alike hK, hD⟩, hS.F ht⟩) hS.2.2 (dd_of dL_pour_0 10 rfl) hlk
    · have hE9 : E = xA := by rw [hE9, hcod]; rfl
      subst hE9
      refine jcat hown hts htab [(0, 9, 12, 21)] (0, 9, 16, 13) [] rfl (fun z hz => by obtain rfl := List.mem_singleton.mp hz; exact ⟨by decide, xI, gw601, hN.2.1.1⟩) (by decide) (by decide) gw175 (va_Nw.use rfl (hT.2.1.1 xA (Or.inr (Or.inl rfl)))) z1 z2 z3 ?_
      refine lv_astore hx hb (dd_of dL_pour_0 11 rfl) hl (by decide) rfl (fun ls hl => ?_)
      refine lv_iconst (v := 2) hx hb (dd_of dL_pour_0 12 rfl) (by decide) ?_
      subst hQ
      refine W.widen (k := 9) (n := 64) (Nat.le_of_ble_eq_true rfl) (Nat.le_of_ble_eq_true rfl) ?_
      exact W.iret (v := 2) hx hb hr (fun t ht hW => ⟨⟨2, (((B, (F, G)), M), O), rfl, ⟨Or.inr ⟨hg0, by rw [hcod]; rfl, rfl⟩, fun _ _ => rfl⟩, by rw [ht]; exact hV, va_K.moved hW.alike hK, hD⟩, hS.F ht⟩) hS.2.2 (dd_of dL_pour_0 13 rfl) hlk
  · skip
    obtain ⟨⟨B1, F1, G1⟩, M1⟩ := u
    obtain ⟨hp, hB1⟩ := hp
    have hB1 : ∀ k, k < 100 → B1 k = B k := hB1
    have hp : (gX11_pour F G M p1 p2) = (0, (x, ((F1, G1), M1))) := hp
    have hV : va_P D vwCl (wW yy oa O (pV yy h0 an B1 B2 F1 G1 F2 G2 M1) Y) H := hV
    have hD : va_D Z (wW yy oa O (pV yy h0 an B1 B2 F1 G1 F2 G2 M1) Y) := hD
    obtain ⟨P9, hP9⟩ : ∃ z, z = (pV yy h0 an B1 B2 F1 G1 F2 G2 M1) := ⟨_, rfl⟩
    rw [← hP9] at hV hD
    refine va_last hx hb hK hV hD hS 0 1 rfl rfl (vin_lit (by decide)) (dd_of dL_pour_0 6 rfl) (fun H locs hV hD hS => ?_)
    have hV : va_P D vwCl (wW yy oa (vp_updL O 0 x) P9 Y) H := hV
    have hD : va_D Z (wW yy oa (vp_updL O 0 x) P9 Y) := hD
    rw [hP9] at hV hD
    refine lv_goto (tgt := 20) hx hb (dd_of dL_pour_0 7 rfl) (by decide) ?_
    refine lv_iconst (v := 0) hx hb (dd_of dL_pour_0 14 rfl) (by decide) ?_
    subst hQ
    refine W.widen (k := 9) (n := 64) (Nat.le_of_ble_eq_true rfl) (Nat.le_of_ble_eq_true rfl) ?_
    exact W.iret (v := 0) hx hb hr (fun t ht hW => ⟨⟨0, (((B1, (F1, G1)), M1), (vp_updL O 0 x)), rfl, ⟨Or.inl ⟨x, hp, rfl, rfl⟩, hB1⟩, by rw [ht]; exact hV, va_K.moved hW.alike hK, hD⟩, hS.F ht⟩) hS.2.2 (dd_of dL_pour_0 15 rfl) hlk
set_option maxHeartbeats 4000000 in
set_option maxRecDepth 100000 in
theorem qL_road (l : Launch) (hl9 : l.stackTraces = false) (D : va_G) (yy : Nat → ClassId) (oa h0 an : Nat) (O : Nat → Int64) (B B2 : Nat → Nat) (F : jF) (G : jG) (F2 : jF) (G2 : jG) (M : jF) (Y : va_W) (sz : Nat) (p1 : Int32) (p2 : Int32) (p3 : Int32) (hok : okX11_road F G M p1 p2 p3) (hcod : (gX11_road F G M p1 p2 p3).1 = 0 ∨ (gX11_road F G M p1 p2 p3).1 = 1 ∨ (gX11_road F G M p1 p2 p3).1 = 2) : Met l yL_road (Cond.codeWith yL_road cL_road 6 (some .int) [(0, 19, 22, 21), (0, 19, 26, 13)] :: wsL_law) rmL_road (va_Pc [.ref h0, .int p1, .int p2, .int p3, .ref oa] (jZ D yy (wW yy oa O (pV yy h0 an B B2 F G F2 G2 M) Y) sz)) (va_Qi (fun (r : Int32) (u : (((Nat → Nat) × jS) × jF) × (Nat → Int64)) => ((∃ x, (gX11_road F G M p1 p2 p3) = (0, (x, (u.1.1.2, u.1.2))) ∧ r = 0 ∧ u.2 = vp_updL O 0 (if x = 0 then (0 : Int64) else 1)) ∨ ((gX11_road F G M p1 p2 p3).1 ≠ 0 ∧ r = wk 1 2 9 (gX11_road F G M p1 p2 p3).1 ∧ u = (((B, (F, G)), M), O))) ∧ ∀ k, k < 100 → u.1.1.1 k = B k) (fun u t => jB D yy (va_A (wW yy oa O (pV yy h0 an B B2 F G F2 G2 M) Y) sz) (wW yy oa u.2 (pV yy h0 an u.1.1.1 B2 u.1.1.2.1 u.1.1.2.2 F2 G2 u.1.2) Y) t) (va_A (wW yy oa O (pV yy h0 an B B2 F G F2 G2 M) Y) sz)) 9 64 (va_A (wW yy oa O (pV yy h0 an B B2 F G F2 G2 M) Y) sz) := by
  refine jMW (vs := [.ref h0, .int p1, .int p2, .int p3, .ref oa]) (own := RL) (by decide +kernel) rfl (Nat.le_of_ble_eq_true rfl) ?_
  intro p e s m args below meth c ls Q hQ hargs S hr hlk htab hB hl
  obtain ⟨hx, hb, hml, hown, hts⟩ := S
  have hl : lv_has ls 6 [(0, .ref h0), (1, .int p1), (2, .int p2), (3, .int p3), (4, .ref oa)] := hl
  obtain ⟨⟨⟨hsz, hV, hK, hD0⟩, hT⟩, hN⟩ := hB
  subst hsz
  have hD := hD0.self (sz := s.heap.size)
  generalize hZ : va_A (wW yy oa O (pV yy h0 an B B2 F G F2 G2 M) Y) s.heap.size = Z at hD hQ hT
  have hA : ∀ q : Nat, s.heap.size ≤ q → Z q := fun q h => by rw [← hZ]; exact Or.inr h
  obtain ⟨H, hH⟩ : ∃ z, z = s.heap := ⟨_, rfl⟩
  obtain ⟨locs, hlocs⟩ : ∃ z : List Loc, z = [] := ⟨_, rfl⟩
  have hS : va_S Z s.heap H locs := by rw [hH, hlocs]; exact va_S.rf
  rw [← hH] at hV
  suffices hgo : W p l e rmL_road s m args below meth c H locs 0 0 Q (F0 m 0 ls []) by rw [hH, hlocs] at hgo; exact hgo
  refine lv_aload hx hb (dd_of dL_road_0 0 rfl) (lv_at hl 4 rfl) ?_
  refine lv_iconst (v := 0) hx hb (dd_of dL_road_0 1 rfl) (by decide) ?_
  refine lv_aload_n hx hb (dd_of dL_road_0 2 rfl) rfl (lv_at hl 0 rfl) ?_
  refine lv_iload_n hx hb (dd_of dL_road_0 3 rfl) rfl (lv_at hl 1 rfl) ?_
  refine lv_iload_n hx hb (dd_of dL_road_0 4 rfl) rfl (lv_at hl 2 rfl) ?_
  refine lv_iload_n hx hb (dd_of dL_road_0 5 rfl) rfl (lv_at hl 3 rfl) ?_
  refine jq_i (As := [.int p1, .int p2, .int p3]) (rest := [.int 0, .ref oa]) (D := D) (yy := yy) (oa := oa) (O := O) (P0 := pV yy h0 an B B2 F G F2 G2 M) (Y := Y) (gc := (gX11_road F G M p1 p2 p3).1) (w1 := fun u : ((Nat → Nat) × jS) × jF => pV yy h0 an u.1.1 B2 u.1.2.1 u.1.2.2 F2 G2 u.2) ⟨hx, hb, hml, hown, hts⟩ (qX11_road l hl9 D yy h0 an B B2 F G F2 G2 M H.size p1 p2 p3 hok) (cwV 3 hts (jgV gw637 gw638 gw639 gw2 gw640) rfl rfl rfl (by decide +kernel) ⟨Nat.le_of_ble_eq_true rfl, Nat.le_of_ble_eq_true rfl⟩) hV hK hT hD hS hA (va_recv hK (wW_P hV) (ci := 11) (q0 := 0) rfl rfl) rfl hl.1 rfl (Nat.le_of_ble_eq_true rfl) (dd_of dL_road_0 6 rfl) ⟨Nat.le_of_ble_eq_true rfl, Nat.le_of_ble_eq_true rfl⟩ (fun E ce q9 H locs hg0 hE9 hV hS z1 z2 z3 => ?_) (fun x u H locs hp hV hD hS => ?_)
  · rcases hcod with hcod | hcod | hcod
    · exact absurd hcod hg0
    · have hE9 : E = xI := by rw [hE9, hcod]; rfl
      subst hE9
      refine jcat hown hts htab [] (0, 19, 22, 21) [(0, 19, 26, 13)] rfl (fun z hz => absurd hz List.not_mem_nil) (by decide) (by decide) gw601 (va_Nw.use rfl (hT.2.1.1 xI (Or.inl rfl))) z1 z2 z3 ?_
      refine lv_astore hx hb (dd_of dL_road_0 13 rfl) hl (by decide) rfl (fun ls hl => ?_)
      refine lv_iconst (v := 1) hx hb (dd_of dL_road_0 14 rfl) (by decide) ?_
      subst hQ
      refine W.widen (k := 9) (n := 64) (Nat.le_of_ble_eq_true rfl) (Nat.le_of_ble_eq_true rfl) ?_
      exact W.iret (v := 1) hx hb hr (fun t ht hW => ⟨⟨1, (((B, (F, G)), M), O), rfl, ⟨Or.inr ⟨hg0, by rw [hcod]; rfl, rfl⟩, fun _ _ => rfl⟩, by rw [ht]; exact hV, va_K.moved hW.alike hK, hD⟩, hS.F ht⟩) hS.2.2 (dd_of dL_road_0 15 rfl) hlk
    · have hE9 : E = xA := by rw [hE9, hcod]; rfl
      subst hE9
      refine jcat hown hts htab [(0, 19, 22, 21)] (0, 19, 26, 13) [] rfl (fun z hz => by obtain rfl := List.mem_singleton.mp hz; exact ⟨by decide, xI, gw601, hN.2.1.1⟩) (by decide) (by decide) gw175 (va_Nw.use rfl (hT.2.1.1 xA (Or.inr (Or.inl rfl)))) z1 z2 z3 ?_
      refine lv_astore hx hb (dd_of dL_road_0 16 rfl) hl (by decide) rfl (fun ls hl => ?_)
      refine lv_iconst (v := 2) hx hb (dd_of dL_road_0 17 rfl) (by decide) ?_
      subst hQ
      refine W.widen (k := 9) (n := 64) (Nat.le_of_ble_eq_true rfl) (Nat.le_of_ble_eq_true rfl) ?_
      exact W.iret (v := 2) hx hb hr (fun t ht hW => ⟨⟨2, (((B, (F, G)), M), O), rfl, ⟨Or.inr ⟨hg0, by rw [hcod]; rfl, rfl⟩, fun _ _ => rfl⟩, by rw [ht]; exact hV, va_K.moved hW.alike hK, hD⟩, hS.F ht⟩) hS.2.2 (dd_of dL_road_0 18 rfl) hlk
  · skip
    obtain ⟨⟨B1, F1, G1⟩, M1⟩ := u
    obtain ⟨hp, hB1⟩ := hp
    have hB1 : ∀ k, k < 100 → B1 k = B k := hB1
    have hp : (gX11_road F G M p1 p2 p3) = (0, (x, ((F1, G1), M1))) := hp
    have hV : va_P D vwCl (wW yy oa O (pV yy h0 an B1 B2 F1 G1 F2 G2 M1) Y) H := hV
    have hD : va_D Z (wW yy oa O (pV yy h0 an B1 B2 F1 G1 F2 G2 M1) Y) := hD
    refine lv_if_eq (tgt := 17) hx hb (dd_of dL_road_0 7 rfl) (by decide) (fun c9 => ?_) (fun c9 => ?_)
    · skip
      refine lv_lconst (v := 0) hx hb (dd_of dL_road_0 10 rfl) (by decide) ?_
      obtain ⟨P9, hP9⟩ : ∃ z, z = (pV yy h0 an B1 B2 F1 G1 F2 G2 M1) := ⟨_, rfl⟩
      rw [← hP9] at hV hD
      refine va_last hx hb hK hV hD hS 0 1 rfl rfl (vin_lit (by decide)) (dd_of dL_road_0 11 rfl) (fun H locs hV hD hS => ?_)
      have hV : va_P D vwCl (wW yy oa (vp_updL O 0 0) P9 Y) H := hV
      have hD : va_D Z (wW yy oa (vp_updL O 0 0) P9 Y) := hD
      rw [hP9] at hV hD
      refine lv_goto (tgt := 30) hx hb (dd_of dL_road_0 12 rfl) (by decide) ?_
      refine lv_iconst (v := 0) hx hb (dd_of dL_road_0 19 rfl) (by decide) ?_
      subst hQ
      refine W.widen (k := 9) (n := 64) (Nat.le_of_ble_eq_true rfl) (Nat.le_of_ble_eq_true rfl) ?_
      exact W.iret (v := 0) hx hb hr (fun t ht hW => ⟨⟨0, (((B1, (F1, G1)), M1), (vp_updL O 0 0)), rfl, ⟨Or.inl ⟨x, hp, rfl, by rw [if_pos c9]⟩, hB1⟩, by rw [ht]; exact hV, va_K.moved hW.alike hK, hD⟩, hS.F ht⟩) hS.2.2 (dd_of dL_road_0 20 rfl) hlk
    · skip
      refine lv_lconst (v := 1) hx hb (dd_of dL_road_0 8 rfl) (by decide) ?_
      refine lv_goto (tgt := 18) hx hb (dd_of dL_road_0 9 rfl) (by decide) ?_
      obtain ⟨P9, hP9⟩ : ∃ z, z = (pV yy h0 an B1 B2 F1 G1 F2 G2 M1) := ⟨_, rfl⟩
      rw [← hP9] at hV hD
      refine va_last hx hb hK hV hD hS 0 1 rfl rfl (vin_lit (by decide)) (dd_of dL_road_0 11 rfl) (fun H locs hV hD hS => ?_)
      have hV : va_P D vwCl (wW yy oa (vp_updL O 0 1) P9 Y) H := hV
      have hD : va_D Z (wW yy oa (vp_updL O 0 1) P9 Y) := hD
      rw [hP9] at hV hD
      refine lv_goto (tgt := 30) hx hb (dd_of dL_road_0 12 rfl) (by decide) ?_
      refine lv_iconst (v := 0) hx hb (dd_of dL_road_0 19 rfl) (by decide) ?_
      subst hQ
      refine W.widen (k := 9) (n := 64) (Nat.le_of_ble_eq_true rfl) (Nat.le_of_ble_eq_true rfl) ?_
      exact W.iret (v := 0) hx hb hr (fun t ht hW => ⟨⟨0, (((B1, (F1, G1)), M1), (vp_updL O 0 1)), rfl, ⟨Or.inl ⟨x, hp, rfl, by rw [if_neg c9]⟩, hB1⟩, by rw [ht]; exact hV, va_K.moved hW.alike hK, hD⟩, hS.F ht⟩) hS.2.2 (dd_of dL_road_0 20 rfl) hlk
set_option maxHeartbeats 4000000 in
set_option maxRecDepth 100000 in
theorem qL_addGate (l : Launch) (hl9 : l.stackTraces = false) (D : va_G) (yy : Nat → ClassId) (oa h0 an : Nat) (O : Nat → Int64) (B B2 : Nat → Nat) (F : jF) (G : jG) (F2 : jF) (G2 : jG) (M : jF) (Y : va_W) (sz : Nat) (p1 : Int32) (p2 : Int32) (p3 : Int32) (p4 : Int32) (hok : okX11_addGate F G M p1 p2 p3 p4) (hcod : (gX11_addGate F G M p1 p2 p3 p4).1 = 0 ∨ (gX11_addGate F G M p1 p2 p3 p4).1 = 1 ∨ (gX11_addGate F G M p1 p2 p3 p4).1 = 2 ∨ (gX11_addGate F G M p1 p2 p3 p4).1 = 3) : Met l yL_addGate (Cond.codeWith yL_addGate cL_addGate 7 (some .int) [(0, 14, 17, 21), (0, 14, 21, 13), (0, 14, 25, 15)] :: wsL_law) rmL_addGate (va_Pc [.ref h0, .int p1, .int p2, .int p3, .int p4, .ref oa] (jZ D yy (wW yy oa O (pV yy h0 an B B2 F G F2 G2 M) Y) sz)) (va_Qi (fun (r : Int32) (u : (((Nat → Nat) × jS) × jF) × (Nat → Int64)) => ((∃ x, (gX11_addGate F G M p1 p2 p3 p4) = (0, (x, (u.1.1.2, u.1.2))) ∧ r = 0 ∧ u.2 = vp_updL O 0 (Int32.toInt64 x)) ∨ ((gX11_addGate F G M p1 p2 p3 p4).1 ≠ 0 ∧ r = wk 1 2 3 (gX11_addGate F G M p1 p2 p3 p4).1 ∧ u = (((B, (F, G)), M), O))) ∧ ∀ k, k < 100 → u.1.1.1 k = B k) (fun u t => jB D yy (va_A (wW yy oa O (pV yy h0 an B B2 F G F2 G2 M) Y) sz) (wW yy oa u.2 (pV yy h0 an u.1.1.1 B2 u.1.1.2.1 u.1.1.2.2 F2 G2 u.1.2) Y) t) (va_A (wW yy oa O (pV yy h0 an B B2 F G F2 G2 M) Y) sz)) 9 64 (va_A (wW yy oa O (pV yy h0 an B B2 F G F2 G2 M) Y) sz) := by
  refine jMW (vs := [.ref h0, .int p1, .int p2, .int p3, .int p4, .ref oa]) (own := RL) (by decide +kernel) rfl (Nat.le_of_ble_eq_true rfl) ?_
  intro p e s m args below meth c ls Q hQ hargs S hr hlk htab hB hl
  obtain ⟨hx, hb, hml, hown, hts⟩ := S
  have hl : lv_has ls 7 [(0, .ref h0), (1, .int p1), (2, .int p2), (3, .int p3), (4, .int p4), (5, .ref oa)] := hl
  obtain ⟨⟨⟨hsz, hV, hK, hD0⟩, hT⟩, hN⟩ := hB
  subst hsz
  have hD := hD0.self (sz := s.heap.size)
  generalize hZ : va_A (wW yy oa O (pV yy h0 an B B2 F G F2 G2 M) Y) s.heap.size = Z at hD hQ hT
  have hA : ∀ q : Nat, s.heap.size ≤ q → Z q := fun q h => by rw [← hZ]; exact Or.inr h
  obtain ⟨H, hH⟩ : ∃ z, z = s.heap := ⟨_, rfl⟩
  obtain ⟨locs, hlocs⟩ : ∃ z : List Loc, z = [] := ⟨_, rfl⟩
  have hS : va_S Z s.heap H locs := by rw [hH, hlocs]; exact va_S.rf
  rw [← hH] at hV
  suffices hgo : W p l e rmL_addGate s m args below meth c H locs 0 0 Q (F0 m 0 ls []) by rw [hH, hlocs] at hgo; exact hgo
  refine lv_aload hx hb (dd_of dL_addGate_0 0 rfl) (lv_at hl 5 rfl) ?_
  refine lv_iconst (v := 0) hx hb (dd_of dL_addGate_0 1 rfl) (by decide) ?_
  refine lv_aload_n hx hb (dd_of dL_addGate_0 2 rfl) rfl (lv_at hl 0 rfl) ?_
  refine lv_iload_n hx hb (dd_of dL_addGate_0 3 rfl) rfl (lv_at hl 1 rfl) ?_
  refine lv_iload_n hx hb (dd_of dL_addGate_0 4 rfl) rfl (lv_at hl 2 rfl) ?_
  refine lv_iload_n hx hb (dd_of dL_addGate_0 5 rfl) rfl (lv_at hl 3 rfl) ?_
  refine lv_iload hx hb (dd_of dL_addGate_0 6 rfl) (lv_at hl 4 rfl) ?_
  refine jq_i (As := [.int p1, .int p2, .int p3, .int p4]) (rest := [.int 0, .ref oa]) (D := D) (yy := yy) (oa := oa) (O := O) (P0 := pV yy h0 an B B2 F G F2 G2 M) (Y := Y) (gc := (gX11_addGate F G M p1 p2 p3 p4).1) (w1 := fun u : ((Nat → Nat) × jS) × jF => pV yy h0 an u.1.1 B2 u.1.2.1 u.1.2.2 F2 G2 u.2) ⟨hx, hb, hml, hown, hts⟩ (qX11_addGate l hl9 D yy h0 an B B2 F G F2 G2 M H.size p1 p2 p3 p4 hok) (cwV 4 hts (jgV gw652 gw653 gw654 gw2 gw655) rfl rfl rfl (by decide +kernel) ⟨Nat.le_of_ble_eq_true rfl, Nat.le_of_ble_eq_true rfl⟩) hV hK hT hD hS hA (va_recv hK (wW_P hV) (ci := 11) (q0 := 0) rfl rfl) rfl hl.1 rfl (Nat.le_of_ble_eq_true rfl) (dd_of dL_addGate_0 7 rfl) ⟨Nat.le_of_ble_eq_true rfl, Nat.le_of_ble_eq_true rfl⟩ (fun E ce q9 H locs hg0 hE9 hV hS z1 z2 z3 => ?_) (fun x u H locs hp hV hD hS => ?_)
  · rcases hcod with hcod | hcod | hcod | hcod
    · exact absurd hcod hg0
    · have hE9 : E = xI := by rw [hE9, hcod]; rfl
      subst hE9
      refine jcat hown hts htab [] (0, 14, 17, 21) [(0, 14, 21, 13), (0, 14, 25, 15)] rfl (fun z hz => absurd hz List.not_mem_nil) (by decide) (by decide) gw601 (va_Nw.use rfl (hT.2.1.1 xI (Or.inl rfl))) z1 z2 z3 ?_
      refine lv_astore hx hb (dd_of dL_addGate_0 11 rfl) hl (by decide) rfl (fun ls hl => ?_)
      refine lv_iconst (v := 1) hx hb (dd_of dL_addGate_0 12 rfl) (by decide) ?_
      subst hQ
      refine W.widen (k := 9) (n := 64) (Nat.le_of_ble_eq_true rfl) (Nat.le_of_ble_eq_true rfl) ?_
      exact W.iret (v := 1) hx hb hr (fun t ht hW => ⟨⟨1, (((B, (F, G)), M), O), rfl, ⟨Or.inr ⟨hg0, by rw [hcod]; rfl, rfl⟩, fun _ _ => rfl⟩, by rw [ht]; exact hV, va_K.moved hW.alike hK, hD⟩, hS.F ht⟩) hS.2.2 (dd_of dL_addGate_0 13 rfl) hlk
    · have hE9 : E = xA := by rw [hE9, hcod]; rfl
      subst hE9
      refine jcat hown hts htab [(0, 14, 17, 21)] (0, 14, 21, 13) [(0, 14, 25, 15)] rfl (fun z hz => by obtain rfl := List.mem_singleton.mp hz; exact ⟨by decide, xI, gw601, hN.2.1.1⟩) (by decide) (by decide) gw175 (va_Nw.use rfl (hT.2.1.1 xA (Or.inr (Or.inl rfl)))) z1 z2 z3 ?_
      refine lv_astore hx hb (dd_of dL_addGate_0 14 rfl) hl (by decide) rfl (fun ls hl => ?_)
      refine lv_iconst (v := 2) hx hb (dd_of dL_addGate_0 15 rfl) (by decide) ?_
      subst hQ
      refine W.widen (k := 9) (n := 64) (Nat.le_of_ble_eq_true rfl) (Nat.le_of_ble_eq_true rfl) ?_
      exact W.iret (v := 2) hx hb hr (fun t ht hW => ⟨⟨2, (((B, (F, G)), M), O), rfl, ⟨Or.inr ⟨hg0, by rw [hcod]; rfl, rfl⟩, fun _ _ => rfl⟩, by rw [ht]; exact hV, va_K.moved hW.alike hK, hD⟩, hS.F ht⟩) hS.2.2 (dd_of dL_addGate_0 16 rfl) hlk
    · have hE9 : E = xS := by rw [hE9, hcod]; rfl
      subst hE9
      refine jcat hown hts htab [(0, 14, 17, 21), (0, 14, 21, 13)] (0, 14, 25, 15) [] rfl (fun z hz => by simp only [List.mem_cons, List.not_mem_nil, or_false] at hz; rcases hz with rfl | rfl <;> first | exact ⟨by decide, xI, gw601, hN.2.2.1⟩ | exact ⟨by decide, xA, gw175, hN.2.2.2⟩) (by decide) (by decide) gw176 (va_Nw.use rfl (hT.2.1.1 xS (Or.inr (Or.inr rfl)))) z1 z2 z3 ?_
      refine lv_astore hx hb (dd_of dL_addGate_0 17 rfl) hl (by decide) rfl (fun ls hl => ?_)
      refine lv_iconst (v := 3) hx hb (dd_of dL_addGate_0 18 rfl) (by decide) ?_
      subst hQ
      refine W.widen (k := 9) (n := 64) (Nat.le_of_ble_eq_true rfl) (Nat.le_of_ble_eq_true rfl) ?_
      exact W.iret (v := 3) hx hb hr (fun t ht hW => ⟨⟨3, (((B, (F, G)), M), O), rfl, ⟨Or.inr ⟨hg0, by rw [hcod]; rfl, rfl⟩, fun _ _ => rfl⟩, by rw [ht]; exact hV, va_K.moved hW.alike hK, hD⟩, hS.F ht⟩) hS.2.2 (dd_of dL_addGate_0 19 rfl) hlk
  · skip
    obtain ⟨⟨B1, F1, G1⟩, M1⟩ := u
    obtain ⟨hp, hB1⟩ := hp
    have hB1 : ∀ k, k < 100 → B1 k = B k := hB1
    have hp : (gX11_addGate F G M p1 p2 p3 p4) = (0, (x, ((F1, G1), M1))) := hp
    have hV : va_P D vwCl (wW yy oa O (pV yy h0 an B1 B2 F1 G1 F2 G2 M1) Y) H := hV
    have hD : va_D Z (wW yy oa O (pV yy h0 an B1 B2 F1 G1 F2 G2 M1) Y) := hD
    refine lv_i2l (v := (Int32.toInt64 x)) hx hb (dd_of dL_addGate_0 8 rfl) rfl ?_
    obtain ⟨P9, hP9⟩ : ∃ z, z = (pV yy h0 an B1 B2 F1 G1 F2 G2 M1) := ⟨_, rfl⟩
    rw [← hP9] at hV hD
    refine va_last hx hb hK hV hD hS 0 1 rfl rfl (vin_lit (by decide)) (dd_of dL_addGate_0 9 rfl) (fun H locs hV hD hS => ?_)
    have hV : va_P D vwCl (wW yy oa (vp_updL O 0 (Int32.toInt64 x)) P9 Y) H := hV
    have hD : va_D Z (wW yy oa (vp_updL O 0 (Int32.toInt64 x)) P9 Y) := hD
    rw [hP9] at hV hD
    refine lv_goto (tgt := 29) hx hb (dd_of dL_addGate_0 10 rfl) (by decide) ?_
    refine lv_iconst (v := 0) hx hb (dd_of dL_addGate_0 20 rfl) (by decide) ?_
    subst hQ
    refine W.widen (k := 9) (n := 64) (Nat.le_of_ble_eq_true rfl) (Nat.le_of_ble_eq_true rfl) ?_
    exact W.iret (v := 0) hx hb hr (fun t ht hW => ⟨⟨0, (((B1, (F1, G1)), M1), (vp_updL O 0 (Int32.toInt64 x))), rfl, ⟨Or.inl ⟨x, hp, rfl, rfl⟩, hB1⟩, by rw [ht]; exact hV, va_K.moved hW.alike hK, hD⟩, hS.F ht⟩) hS.2.2 (dd_of dL_addGate_0 21 rfl) hlk
set_option maxHeartbeats 4000000 in
set_option maxRecDepth 100000 in
theorem qL_addPump (l : Launch) (hl9 : l.stackTraces = false) (D : va_G) (yy : Nat → ClassId) (oa h0 an : Nat) (O : Nat → Int64) (B B2 : Nat → Nat) (F : jF) (G : jG) (F2 : jF) (G2 : jG) (M : jF) (Y : va_W) (sz : Nat) (p1 : Int32) (p2 : Int32) (p3 : Int32) (p4 : Int32) (p5 : Int32) (hok : okX11_addPump F G M p1 p2 p3 p4 p5) (hcod : (gX11_addPump F G M p1 p2 p3 p4 p5).1 = 0 ∨ (gX11_addPump F G M p1 p2 p3 p4 p5).1 = 1 ∨ (gX11_addPump F G M p1 p2 p3 p4 p5).1 = 2 ∨ (gX11_addPump F G M p1 p2 p3 p4 p5).1 = 3) : Met l yL_addPump (Cond.codeWith yL_addPump cL_addPump 8 (some .int) [(0, 16, 19, 21), (0, 16, 23, 13), (0, 16, 27, 15)] :: wsL_law) rmL_addPump (va_Pc [.ref h0, .int p1, .int p2, .int p3, .int p4, .int p5, .ref oa] (jZ D yy (wW yy oa O (pV yy h0 an B B2 F G F2 G2 M) Y) sz)) (va_Qi (fun (r : Int32) (u : (((Nat → Nat) × jS) × jF) × (Nat → Int64)) => ((∃ x, (gX11_addPump F G M p1 p2 p3 p4 p5) = (0, (x, (u.1.1.2, u.1.2))) ∧ r = 0 ∧ u.2 = vp_updL O 0 (Int32.toInt64 x)) ∨ ((gX11_addPump F G M p1 p2 p3 p4 p5).1 ≠ 0 ∧ r = wk 1 2 3 (gX11_addPump F G M p1 p2 p3 p4 p5).1 ∧ u = (((B, (F, G)), M), O))) ∧ ∀ k, k < 100 → u.1.1.1 k = B k) (fun u t => jB D yy (va_A (wW yy oa O (pV yy h0 an B B2 F G F2 G2 M) Y) sz) (wW yy oa u.2 (pV yy h0 an u.1.1.1 B2 u.1.1.2.1 u.1.1.2.2 F2 G2 u.1.2) Y) t) (va_A (wW yy oa O (pV yy h0 an B B2 F G F2 G2 M) Y) sz)) 9 64 (va_A (wW yy oa O (pV yy h0 an B B2 F G F2 G2 M) Y) sz) := by
  refine jMW (vs := [.ref h0, .int p1, .int p2, .int p3, .int p4, .int p5, .ref oa]) (own := RL) (by decide +kernel) rfl (Nat.le_of_ble_eq_true rfl) ?_
  intro p e s m args below meth c ls Q hQ hargs S hr hlk htab hB hl
  obtain ⟨hx, hb, hml, hown, hts⟩ := S
  have hl : lv_has ls 8 [(0, .ref h0), (1, .int p1), (2, .int p2), (3, .int p3), (4, .int p4), (5, .int p5), (6, .ref oa)] := hl
  obtain ⟨⟨⟨hsz, hV, hK, hD0⟩, hT⟩, hN⟩ := hB
  subst hsz
  have hD := hD0.self (sz := s.heap.size)
  generalize hZ : va_A (wW yy oa O (pV yy h0 an B B2 F G F2 G2 M) Y) s.heap.size = Z at hD hQ hT
  have hA : ∀ q : Nat, s.heap.size ≤ q → Z q := fun q h => by rw [← hZ]; exact Or.inr h
  obtain ⟨H, hH⟩ : ∃ z, z = s.heap := ⟨_, rfl⟩
  obtain ⟨locs, hlocs⟩ : ∃ z : List Loc, z = [] := ⟨_, rfl⟩
  have hS : va_S Z s.heap H locs := by rw [hH, hlocs]; exact va_S.rf
  rw [← hH] at hV
  suffices hgo : W p l e rmL_addPump s m args below meth c H locs 0 0 Q (F0 m 0 ls []) by rw [hH, hlocs] at hgo; exact hgo
  refine lv_aload hx hb (dd_of dL_addPump_0 0 rfl) (lv_at hl 6 rfl) ?_
  refine lv_iconst (v := 0) hx hb (dd_of dL_addPump_0 1 rfl) (by decide) ?_
  refine lv_aload_n hx hb (dd_of dL_addPump_0 2 rfl) rfl (lv_at hl 0 rfl) ?_
  refine lv_iload_n hx hb (dd_of dL_addPump_0 3 rfl) rfl (lv_at hl 1 rfl) ?_
  refine lv_iload_n hx hb (dd_of dL_addPump_0 4 rfl) rfl (lv_at hl 2 rfl) ?_
  refine lv_iload_n hx hb (dd_of dL_addPump_0 5 rfl) rfl (lv_at hl 3 rfl) ?_
  refine lv_iload hx hb (dd_of dL_addPump_0 6 rfl) (lv_at hl 4 rfl) ?_
  refine lv_iload hx hb (dd_of dL_addPump_0 7 rfl) (lv_at hl 5 rfl) ?_
  refine jq_i (As := [.int p1, .int p2, .int p3, .int p4, .int p5]) (rest := [.int 0, .ref oa]) (D := D) (yy := yy) (oa := oa) (O := O) (P0 := pV yy h0 an B B2 F G F2 G2 M) (Y := Y) (gc := (gX11_addPump F G M p1 p2 p3 p4 p5).1) (w1 := fun u : ((Nat → Nat) × jS) × jF => pV yy h0 an u.1.1 B2 u.1.2.1 u.1.2.2 F2 G2 u.2) ⟨hx, hb, hml, hown, hts⟩ (qX11_addPump l hl9 D yy h0 an B B2 F G F2 G2 M H.size p1 p2 p3 p4 p5 hok) (cwV 5 hts (jgV gw685 gw686 gw687 gw2 gw688) rfl rfl rfl (by decide +kernel) ⟨Nat.le_of_ble_eq_true rfl, Nat.le_of_ble_eq_true rfl⟩) hV hK hT hD hS hA (va_recv hK (wW_P hV) (ci := 11) (q0 := 0) rfl rfl) rfl hl.1 rfl (Nat.le_of_ble_eq_true rfl) (dd_of dL_addPump_0 8 rfl) ⟨Nat.le_of_ble_eq_true rfl, Nat.le_of_ble_eq_true rfl⟩ (fun E ce q9 H locs hg0 hE9 hV hS z1 z2 z3 => ?_) (fun x u H locs hp hV hD hS => ?_)
  · rcases hcod with hcod | hcod | hcod | hcod
    · exact absurd hcod hg0
    · have hE9 : E = xI := by rw [hE9, hcod]; rfl
      subst hE9
      refine jcat hown hts htab [] (0, 16, 19, 21) [(0, 16, 23, 13), (0, 16, 27, 15)] rfl (fun z hz => absurd hz List.not_mem_nil) (by decide) (by decide) gw601 (va_Nw.use rfl (hT.2.1.1 xI (Or.inl rfl))) z1 z2 z3 ?_
      refine lv_astore hx hb (dd_of dL_addPump_0 12 rfl) hl (by decide) rfl (fun ls hl => ?_)
      refine lv_iconst (v := 1) hx hb (dd_of dL_addPump_0 13 rfl) (by decide) ?_
      subst hQ
      refine W.widen (k := 9) (n := 64) (Nat.le_of_ble_eq_true rfl) (Nat.le_of_ble_eq_true rfl) ?_
      exact W.iret (v := 1) hx hb hr (fun t ht hW => ⟨⟨1, (((B, (F, G)), M), O), rfl, ⟨Or.inr ⟨hg0, by rw [hcod]; rfl, rfl⟩, fun _ _ => rfl⟩, by rw [ht]; exact hV, va_K.moved hW.alike hK, hD⟩, hS.F ht⟩) hS.2.2 (dd_of dL_addPump_0 14 rfl) hlk
    · have hE9 : E = xA := by rw [hE9, hcod]; rfl
      subst hE9
      refine jcat hown hts htab [(0, 16, 19, 21)] (0, 16, 23, 13) [(0, 16, 27, 15)] rfl (fun z hz => by obtain rfl := List.mem_singleton.mp hz; exact ⟨by decide, xI, gw601, hN.2.1.1⟩) (by decide) (by decide) gw175 (va_Nw.use rfl (hT.2.1.1 xA (Or.inr (Or.inl rfl)))) z1 z2 z3 ?_
      refine lv_astore hx hb (dd_of dL_addPump_0 15 rfl) hl (by decide) rfl (fun ls hl => ?_)
      refine lv_iconst (v := 2) hx hb (dd_of dL_addPump_0 16 rfl) (by decide) ?_
      subst hQ
      refine W.widen (k := 9) (n := 64) (Nat.le_of_ble_eq_true rfl) (Nat.le_of_ble_eq_true rfl) ?_
      exact W.iret (v := 2) hx hb hr (fun t ht hW => ⟨⟨2, (((B, (F, G)), M), O), rfl, ⟨Or.inr ⟨hg0, by rw [hcod]; rfl, rfl⟩, fun _ _ => rfl⟩, by rw [ht]; exact hV, va_K.moved hW.alike hK, hD⟩, hS.F ht⟩) hS.2.2 (dd_of dL_addPump_0 17 rfl) hlk
    · have hE9 : E = xS := by rw [hE9, hcod]; rfl
      subst hE9
      refine jcat hown hts htab [(0, 16, 19, 21), (0, 16, 23, 13)] (0, 16, 27, 15) [] rfl (fun z hz => by simp only [List.mem_cons, List.not_mem_nil, or_false] at hz; rcases hz with rfl | rfl <;> first | exact ⟨by decide, xI, gw601, hN.2.2.1⟩ | exact ⟨by decide, xA, gw175, hN.2.2.2⟩) (by decide) (by decide) gw176 (va_Nw.use rfl (hT.2.1.1 xS (Or.inr (Or.inr rfl)))) z1 z2 z3 ?_
      refine lv_astore hx hb (dd_of dL_addPump_0 18 rfl) hl (by decide) rfl (fun ls hl => ?_)
      refine lv_iconst (v := 3) hx hb (dd_of dL_addPump_0 19 rfl) (by decide) ?_
      subst hQ
      refine W.widen (k := 9) (n := 64) (Nat.le_of_ble_eq_true rfl) (Nat.le_of_ble_eq_true rfl) ?_
      exact W.iret (v := 3) hx hb hr (fun t ht hW => ⟨⟨3, (((B, (F, G)), M), O), rfl, ⟨Or.inr ⟨hg0, by rw [hcod]; rfl, rfl⟩, fun _ _ => rfl⟩, by rw [ht]; exact hV, va_K.moved hW.alike hK, hD⟩, hS.F ht⟩) hS.2.2 (dd_of dL_addPump_0 20 rfl) hlk
  · skip
    obtain ⟨⟨B1, F1, G1⟩, M1⟩ := u
    obtain ⟨hp, hB1⟩ := hp
    have hB1 : ∀ k, k < 100 → B1 k = B k := hB1
    have hp : (gX11_addPump F G M p1 p2 p3 p4 p5) = (0, (x, ((F1, G1), M1))) := hp
    have hV : va_P D vwCl (wW yy oa O (pV yy h0 an B1 B2 F1 G1 F2 G2 M1) Y) H := hV
    have hD : va_D Z (wW yy oa O (pV yy h0 an B1 B2 F1 G1 F2 G2 M1) Y) := hD
    refine lv_i2l (v := (Int32.toInt64 x)) hx hb (dd_of dL_addPump_0 9 rfl) rfl ?_
    obtain ⟨P9, hP9⟩ : ∃ z, z = (pV yy h0 an B1 B2 F1 G1 F2 G2 M1) := ⟨_, rfl⟩
    rw [← hP9] at hV hD
    refine va_last hx hb hK hV hD hS 0 1 rfl rfl (vin_lit (by decide)) (dd_of dL_addPump_0 10 rfl) (fun H locs hV hD hS => ?_)
    have hV : va_P D vwCl (wW yy oa (vp_updL O 0 (Int32.toInt64 x)) P9 Y) H := hV
    have hD : va_D Z (wW yy oa (vp_updL O 0 (Int32.toInt64 x)) P9 Y) := hD
    rw [hP9] at hV hD
    refine lv_goto (tgt := 31) hx hb (dd_of dL_addPump_0 11 rfl) (by decide) ?_
    refine lv_iconst (v := 0) hx hb (dd_of dL_addPump_0 21 rfl) (by decide) ?_
    subst hQ
    refine W.widen (k := 9) (n := 64) (Nat.le_of_ble_eq_true rfl) (Nat.le_of_ble_eq_true rfl) ?_
    exact W.iret (v := 0) hx hb hr (fun t ht hW => ⟨⟨0, (((B1, (F1, G1)), M1), (vp_updL O 0 (Int32.toInt64 x))), rfl, ⟨Or.inl ⟨x, hp, rfl, rfl⟩, hB1⟩, by rw [ht]; exact hV, va_K.moved hW.alike hK, hD⟩, hS.F ht⟩) hS.2.2 (dd_of dL_addPump_0 22 rfl) hlk
set_option maxHeartbeats 4000000 in
set_option maxRecDepth 100000 in
theorem qL_addDyke (l : Launch) (hl9 : l.stackTraces = false) (D : va_G) (yy : Nat → ClassId) (oa h0 an : Nat) (O : Nat → Int64) (B B2 : Nat → Nat) (F : jF) (G : jG) (F2 : jF) (G2 : jG) (M : jF) (Y : va_W) (sz : Nat) (p1 : Int32) (p2 : Int32) (p3 : Int32) (p4 : Int32) (p5 : Int32) (hok : okX11_addDyke F G M p1 p2 p3 p4 p5) (hcod : (gX11_addDyke F G M p1 p2 p3 p4 p5).1 = 0 ∨ (gX11_addDyke F G M p1 p2 p3 p4 p5).1 = 1 ∨ (gX11_addDyke F G M p1 p2 p3 p4 p5).1 = 2 ∨ (gX11_addDyke F G M p1 p2 p3 p4 p5).1 = 3) : Met l yL_addDyke (Cond.codeWith yL_addDyke cL_addDyke 8 (some .int) [(0, 16, 19, 21), (0, 16, 23, 13), (0, 16, 27, 15)] :: wsL_law) rmL_addDyke (va_Pc [.ref h0, .int p1, .int p2, .int p3, .int p4, .int p5, .ref oa] (jZ D yy (wW yy oa O (pV yy h0 an B B2 F G F2 G2 M) Y) sz)) (va_Qi (fun (r : Int32) (u : (((Nat → Nat) × jS) × jF) × (Nat → Int64)) => ((∃ x, (gX11_addDyke F G M p1 p2 p3 p4 p5) = (0, (x, (u.1.1.2, u.1.2))) ∧ r = 0 ∧ u.2 = vp_updL O 0 (Int32.toInt64 x)) ∨ ((gX11_addDyke F G M p1 p2 p3 p4 p5).1 ≠ 0 ∧ r = wk 1 2 3 (gX11_addDyke F G M p1 p2 p3 p4 p5).1 ∧ u = (((B, (F, G)), M), O))) ∧ ∀ k, k < 100 → u.1.1.1 k = B k) (fun u t => jB D yy (va_A (wW yy oa O (pV yy h0 an B B2 F G F2 G2 M) Y) sz) (wW yy oa u.2 (pV yy h0 an u.1.1.1 B2 u.1.1.2.1 u.1.1.2.2 F2 G2 u.1.2) Y) t) (va_A (wW yy oa O (pV yy h0 an B B2 F G F2 G2 M) Y) sz)) 9 64 (va_A (wW yy oa O (pV yy h0 an B B2 F G F2 G2 M) Y) sz) := by
  refine jMW (vs := [.ref h0, .int p1, .int p2, .int p3, .int p4, .int p5, .ref oa]) (own := RL) (by decide +kernel) rfl (Nat.le_of_ble_eq_true rfl) ?_
  intro p e s m args below meth c ls Q hQ hargs S hr hlk htab hB hl
  obtain ⟨hx, hb, hml, hown, hts⟩ := S
  have hl : lv_has ls 8 [(0, .ref h0), (1, .int p1), (2, .int p2), (3, .int p3), (4, .int p4), (5, .int p5), (6, .ref oa)] := hl
  obtain ⟨⟨⟨hsz, hV, hK, hD0⟩, hT⟩, hN⟩ := hB
  subst hsz
  have hD := hD0.self (sz := s.heap.size)
  generalize hZ : va_A (wW yy oa O (pV yy h0 an B B2 F G F2 G2 M) Y) s.heap.size = Z at hD hQ hT
  have hA : ∀ q : Nat, s.heap.size ≤ q → Z q := fun q h => by rw [← hZ]; exact Or.inr h
  obtain ⟨H, hH⟩ : ∃ z, z = s.heap := ⟨_, rfl⟩
  obtain ⟨locs, hlocs⟩ : ∃ z : List Loc, z = [] := ⟨_, rfl⟩
  have hS : va_S Z s.heap H locs := by rw [hH, hlocs]; exact va_S.rf
  rw [← hH] at hV
  suffices hgo : W p l e rmL_addDyke s m args below meth c H locs 0 0 Q (F0 m 0 ls []) by rw [hH, hlocs] at hgo; exact hgo
  refine lv_aload hx hb (dd_of dL_addDyke_0 0 rfl) (lv_at hl 6 rfl) ?_
  refine lv_iconst (v := 0) hx hb (dd_of dL_addDyke_0 1 rfl) (by decide) ?_
  refine lv_aload_n hx hb (dd_of dL_addDyke_0 2 rfl) rfl (lv_at hl 0 rfl) ?_
  refine lv_iload_n hx hb (dd_of dL_addDyke_0 3 rfl) rfl (lv_at hl 1 rfl) ?_
  refine lv_iload_n hx hb (dd_of dL_addDyke_0 4 rfl) rfl (lv_at hl 2 rfl) ?_
  refine lv_iload_n hx hb (dd_of dL_addDyke_0 5 rfl) rfl (lv_at hl 3 rfl) ?_
  refine lv_iload hx hb (dd_of dL_addDyke_0 6 rfl) (lv_at hl 4 rfl) ?_
  refine lv_iload hx hb (dd_of dL_addDyke_0 7 rfl) (lv_at hl 5 rfl) ?_
  refine jq_i (As := [.int p1, .int p2, .int p3, .int p4, .int p5]) (rest := [.int 0, .ref oa]) (D := D) (yy := yy) (oa := oa) (O := O) (P0 := pV yy h0 an B B2 F G F2 G2 M) (Y := Y) (gc := (gX11_addDyke F G M p1 p2 p3 p4 p5).1) (w1 := fun u : ((Nat → Nat) × jS) × jF => pV yy h0 an u.1.1 B2 u.1.2.1 u.1.2.2 F2 G2 u.2) ⟨hx, hb, hml, hown, hts⟩ (qX11_addDyke l hl9 D yy h0 an B B2 F G F2 G2 M H.size p1 p2 p3 p4 p5 hok) (cwV 5 hts (jgV gw698 gw699 gw700 gw2 gw701) rfl rfl rfl (by decide +kernel) ⟨Nat.le_of_ble_eq_true rfl, Nat.le_of_ble_eq_true rfl⟩) hV hK hT hD hS hA (va_recv hK (wW_P hV) (ci := 11) (q0 := 0) rfl rfl) rfl hl.1 rfl (Nat.le_of_ble_eq_true rfl) (dd_of dL_addDyke_0 8 rfl) ⟨Nat.le_of_ble_eq_true rfl, Nat.le_of_ble_eq_true rfl⟩ (fun E ce q9 H locs hg0 hE9 hV hS z1 z2 z3 => ?_) (fun x u H locs hp hV hD hS => ?_)
  · rcases hcod with hcod | hcod | hcod | hcod
    · exact absurd hcod hg0
    · have hE9 : E = xI := by rw [hE9, hcod]; rfl
      subst hE9
      refine jcat hown hts htab [] (0, 16, 19, 21) [(0, 16, 23, 13), (0, 16, 27, 15)] rfl (fun z hz => absurd hz List.not_mem_nil) (by decide) (by decide) gw601 (va_Nw.use rfl (hT.2.1.1 xI (Or.inl rfl))) z1 z2 z3 ?_
      refine lv_astore hx hb (dd_of dL_addDyke_0 12 rfl) hl (by decide) rfl (fun ls hl => ?_)
      refine lv_iconst (v := 1) hx hb (dd_of dL_addDyke_0 13 rfl) (by decide) ?_
      subst hQ
      refine W.widen (k := 9) (n := 64) (Nat.le_of_ble_eq_true rfl) (Nat.le_of_ble_eq_true rfl) ?_
      exact W.iret (v := 1) hx hb hr (fun t ht hW => ⟨⟨1, (((B, (F, G)), M), O), rfl, ⟨Or.inr ⟨hg0, by rw [hcod]; rfl, rfl⟩, fun _ _ => rfl⟩, by rw [ht]; exact hV, va_K.moved hW.alike hK, hD⟩, hS.F ht⟩) hS.2.2 (dd_of dL_addDyke_0 14 rfl) hlk
    · have hE9 : E = xA := by rw [hE9, hcod]; rfl
      subst hE9
      refine jcat hown hts htab [(0, 16, 19, 21)] (0, 16, 23, 13) [(0, 16, 27, 15)] rfl (fun z hz => by obtain rfl := List.mem_singleton.mp hz; exact ⟨by decide, xI, gw601, hN.2.1.1⟩) (by decide) (by decide) gw175 (va_Nw.use rfl (hT.2.1.1 xA (Or.inr (Or.inl rfl)))) z1 z2 z3 ?_
      refine lv_astore hx hb (dd_of dL_addDyke_0 15 rfl) hl (by decide) rfl (fun ls hl => ?_)
      refine lv_iconst (v := 2) hx hb (dd_of dL_addDyke_0 16 rfl) (by decide) ?_
      subst hQ
      refine W.widen (k := 9) (n := 64) (Nat.le_of_ble_eq_true rfl) (Nat.le_of_ble_eq_true rfl) ?_
      exact W.iret (v := 2) hx hb hr (fun t ht hW => ⟨⟨2, (((B, (F, G)), M), O), rfl, ⟨Or.inr ⟨hg0, by rw [hcod]; rfl, rfl⟩, fun _ _ => rfl⟩, by rw [ht]; exact hV, va_K.moved hW.alike hK, hD⟩, hS.F ht⟩) hS.2.2 (dd_of dL_addDyke_0 17 rfl) hlk
    · have hE9 : E = xS := by rw [hE9, hcod]; rfl
      subst hE9
      refine jcat hown hts htab [(0, 16, 19, 21), (0, 16, 23, 13)] (0, 16, 27, 15) [] rfl (fun z hz => by simp only [List.mem_cons, List.not_mem_nil, or_false] at hz; rcases hz with rfl | rfl <;> first | exact ⟨by decide, xI, gw601, hN.2.2.1⟩ | exact ⟨by decide, xA, gw175, hN.2.2.2⟩) (by decide) (by decide) gw176 (va_Nw.use rfl (hT.2.1.1 xS (Or.inr (Or.inr rfl)))) z1 z2 z3 ?_
      refine lv_astore hx hb (dd_of dL_addDyke_0 18 rfl) hl (by decide) rfl (fun ls hl => ?_)
      refine lv_iconst (v := 3) hx hb (dd_of dL_addDyke_0 19 rfl) (by decide) ?_
      subst hQ
      refine W.widen (k := 9) (n := 64) (Nat.le_of_ble_eq_true rfl) (Nat.le_of_ble_eq_true rfl) ?_
      exact W.iret (v := 3) hx hb hr (fun t ht hW => ⟨⟨3, (((B, (F, G)), M), O), rfl, ⟨Or.inr ⟨hg0, by rw [hcod]; rfl, rfl⟩, fun _ _ => rfl⟩, by rw [ht]; exact hV, va_K.moved hW.alike hK, hD⟩, hS.F ht⟩) hS.2.2 (dd_of dL_addDyke_0 20 rfl) hlk
  · skip
    obtain ⟨⟨B1, F1, G1⟩, M1⟩ := u
    obtain ⟨hp, hB1⟩ := hp
    have hB1 : ∀ k, k < 100 → B1 k = B k := hB1
    have hp : (gX11_addDyke F G M p1 p2 p3 p4 p5) = (0, (x, ((F1, G1), M1))) := hp
    have hV : va_P D vwCl (wW yy oa O (pV yy h0 an B1 B2 F1 G1 F2 G2 M1) Y) H := hV
    have hD : va_D Z (wW yy oa O (pV yy h0 an B1 B2 F1 G1 F2 G2 M1) Y) := hD
    refine lv_i2l (v := (Int32.toInt64 x)) hx hb (dd_of dL_addDyke_0 9 rfl) rfl ?_
    obtain ⟨P9, hP9⟩ : ∃ z, z = (pV yy h0 an B1 B2 F1 G1 F2 G2 M1) := ⟨_, rfl⟩
    rw [← hP9] at hV hD
    refine va_last hx hb hK hV hD hS 0 1 rfl rfl (vin_lit (by decide)) (dd_of dL_addDyke_0 10 rfl) (fun H locs hV hD hS => ?_)
    have hV : va_P D vwCl (wW yy oa (vp_updL O 0 (Int32.toInt64 x)) P9 Y) H := hV
    have hD : va_D Z (wW yy oa (vp_updL O 0 (Int32.toInt64 x)) P9 Y) := hD
    rw [hP9] at hV hD
    refine lv_goto (tgt := 31) hx hb (dd_of dL_addDyke_0 11 rfl) (by decide) ?_
    refine lv_iconst (v := 0) hx hb (dd_of dL_addDyke_0 21 rfl) (by decide) ?_
    subst hQ
    refine W.widen (k := 9) (n := 64) (Nat.le_of_ble_eq_true rfl) (Nat.le_of_ble_eq_true rfl) ?_
    exact W.iret (v := 0) hx hb hr (fun t ht hW => ⟨⟨0, (((B1, (F1, G1)), M1), (vp_updL O 0 (Int32.toInt64 x))), rfl, ⟨Or.inl ⟨x, hp, rfl, rfl⟩, hB1⟩, by rw [ht]; exact hV, va_K.moved hW.alike hK, hD⟩, hS.F ht⟩) hS.2.2 (dd_of dL_addDyke_0 22 rfl) hlk
set_option maxHeartbeats 4000000 in
set_option maxRecDepth 100000 in
theorem qL_setOutside (l : Launch) (hl9 : l.stackTraces = false) (D : va_G) (yy : Nat → ClassId) (oa h0 an : Nat) (O : Nat → Int64) (B B2 : Nat → Nat) (F : jF) (G : jG) (F2 : jF) (G2 : jG) (M : jF) (Y : va_W) (sz : Nat) (p1 : Int32) (p2 : Int32) (p3 : Int32) (hok : okX11_setOutside F G M p1 p2 p3) (hcod : (gX11_setOutside F G M p1 p2 p3).1 = 0 ∨ (gX11_setOutside F G M p1 p2 p3).1 = 2) : Met l yL_setOutside (Cond.codeWith yL_setOutside cL_setOutside 5 (some .int) [(0, 7, 10, 13)] :: wsL_law) rmL_setOutside (va_Pc [.ref h0, .int p1, .int p2, .int p3] (jZ D yy (wW yy oa O (pV yy h0 an B B2 F G F2 G2 M) Y) sz)) (va_Qi (fun (r : Int32) (u : (((Nat → Nat) × jS) × jF) × (Nat → Int64)) => (((gX11_setOutside F G M p1 p2 p3) = (0, (u.1.1.2, u.1.2)) ∧ r = 0 ∧ u.2 = O) ∨ ((gX11_setOutside F G M p1 p2 p3).1 ≠ 0 ∧ r = wk 2 9 9 (gX11_setOutside F G M p1 p2 p3).1 ∧ u = (((B, (F, G)), M), O))) ∧ ∀ k, k < 100 → u.1.1.1 k = B k) (fun u t => jB D yy (va_A (wW yy oa O (pV yy h0 an B B2 F G F2 G2 M) Y) sz) (wW yy oa u.2 (pV yy h0 an u.1.1.1 B2 u.1.1.2.1 u.1.1.2.2 F2 G2 u.1.2) Y) t) (va_A (wW yy oa O (pV yy h0 an B B2 F G F2 G2 M) Y) sz)) 9 64 (va_A (wW yy oa O (pV yy h0 an B B2 F G F2 G2 M) Y) sz) := by
  refine jMW (vs := [.ref h0, .int p1, .int p2, .int p3]) (own := RL) (by decide +kernel) rfl (Nat.le_of_ble_eq_true rfl) ?_
  intro p e s m args below meth c ls Q hQ hargs S hr hlk htab hB hl
  obtain ⟨hx, hb, hml, hown, hts⟩ := S
  have hl : lv_has ls 5 [(0, .ref h0), (1, .int p1), (2, .int p2), (3, .int p3)] := hl
  obtain ⟨⟨⟨hsz, hV, hK, hD0⟩, hT⟩, hN⟩ := hB
  subst hsz
  have hD := hD0.self (sz := s.heap.size)
  generalize hZ : va_A (wW yy oa O (pV yy h0 an B B2 F G F2 G2 M) Y) s.heap.size = Z at hD hQ hT
  have hA : ∀ q : Nat, s.heap.size ≤ q → Z q := fun q h => by rw [← hZ]; exact Or.inr h
  obtain ⟨H, hH⟩ : ∃ z, z = s.heap := ⟨_, rfl⟩
  obtain ⟨locs, hlocs⟩ : ∃ z : List Loc, z = [] := ⟨_, rfl⟩
  have hS : va_S Z s.heap H locs := by rw [hH, hlocs]; exact va_S.rf
  rw [← hH] at hV
  suffices hgo : W p l e rmL_setOutside s m args below meth c H locs 0 0 Q (F0 m 0 ls []) by rw [hH, hlocs] at hgo; exact hgo
  refine lv_aload_n hx hb (dd_of dL_setOutside_0 0 rfl) rfl (lv_at hl 0 rfl) ?_
  refine lv_iload_n hx hb (dd_of dL_setOutside_0 1 rfl) rfl (lv_at hl 1 rfl) ?_
  refine lv_iload_n hx hb (dd_of dL_setOutside_0 2 rfl) rfl (lv_at hl 2 rfl) ?_
  refine lv_iload_n hx hb (dd_of dL_setOutside_0 3 rfl) rfl (lv_at hl 3 rfl) ?_
  refine jq_v (As := [.int p1, .int p2, .int p3]) (rest := []) (D := D) (yy := yy) (oa := oa) (O := O) (P0 := pV yy h0 an B B2 F G F2 G2 M) (Y := Y) (gc := (gX11_setOutside F G M p1 p2 p3).1) (w1 := fun u : ((Nat → Nat) × jS) × jF => pV yy h0 an u.1.1 B2 u.1.2.1 u.1.2.2 F2 G2 u.2) ⟨hx, hb, hml, hown, hts⟩ (qX11_setOutside l hl9 D yy h0 an B B2 F G F2 G2 M H.size p1 p2 p3 hok) (cwV 3 hts (jgV gw711 gw712 gw713 gw2 gw714) rfl rfl rfl (by decide +kernel) ⟨Nat.le_of_ble_eq_true rfl, Nat.le_of_ble_eq_true rfl⟩) hV hK hT hD hS hA (va_recv hK (wW_P hV) (ci := 11) (q0 := 0) rfl rfl) rfl hl.1 rfl (Nat.le_of_ble_eq_true rfl) (dd_of dL_setOutside_0 4 rfl) ⟨Nat.le_of_ble_eq_true rfl, Nat.le_of_ble_eq_true rfl⟩ (fun E ce q9 H locs hg0 hE9 hV hS z1 z2 z3 => ?_) (fun u H locs hp hV hD hS => ?_)
  · rcases hcod with hcod | hcod
    · exact absurd hcod hg0
    · have hE9 : E = xA := by rw [hE9, hcod]; rfl
      subst hE9
      refine jcat hown hts htab [] (0, 7, 10, 13) [] rfl (fun z hz => absurd hz List.not_mem_nil) (by decide) (by decide) gw175 (va_Nw.use rfl (hT.2.1.1 xA (Or.inr (Or.inl rfl)))) z1 z2 z3 ?_
      refine lv_astore hx hb (dd_of dL_setOutside_0 6 rfl) hl (by decide) rfl (fun ls hl => ?_)
      refine lv_iconst (v := 1) hx hb (dd_of dL_setOutside_0 7 rfl) (by decide) ?_
      subst hQ
      refine W.widen (k := 9) (n := 64) (Nat.le_of_ble_eq_true rfl) (Nat.le_of_ble_eq_true rfl) ?_
      exact W.iret (v := 1) hx hb hr (fun t ht hW => ⟨⟨1, (((B, (F, G)), M), O), rfl, ⟨Or.inr ⟨hg0, by rw [hcod]; rfl, rfl⟩, fun _ _ => rfl⟩, by rw [ht]; exact hV, va_K.moved hW.alike hK, hD⟩, hS.F ht⟩) hS.2.2 (dd_of dL_setOutside_0 8 rfl) hlk
  · skip
    obtain ⟨⟨B1, F1, G1⟩, M1⟩ := u
    obtain ⟨hp, hB1⟩ := hp
    have hB1 : ∀ k, k < 100 → B1 k = B k := hB1
    have hp : (gX11_setOutside F G M p1 p2 p3) = (0, ((F1, G1), M1)) := hp
    have hV : va_P D vwCl (wW yy oa O (pV yy h0 an B1 B2 F1 G1 F2 G2 M1) Y) H := hV
    have hD : va_D Z (wW yy oa O (pV yy h0 an B1 B2 F1 G1 F2 G2 M1) Y) := hD
    refine lv_goto (tgt := 14) hx hb (dd_of dL_setOutside_0 5 rfl) (by decide) ?_
    refine lv_iconst (v := 0) hx hb (dd_of dL_setOutside_0 9 rfl) (by decide) ?_
    subst hQ
    refine W.widen (k := 9) (n := 64) (Nat.le_of_ble_eq_true rfl) (Nat.le_of_ble_eq_true rfl) ?_
    exact W.iret (v := 0) hx hb hr (fun t ht hW => ⟨⟨0, (((B1, (F1, G1)), M1), O), rfl, ⟨Or.inl ⟨hp, rfl, rfl⟩, hB1⟩, by rw [ht]; exact hV, va_K.moved hW.alike hK, hD⟩, hS.F ht⟩) hS.2.2 (dd_of dL_setOutside_0 10 rfl) hlk
set_option maxHeartbeats 4000000 in
set_option maxRecDepth 100000 in
theorem qL_storm (l : Launch) (hl9 : l.stackTraces = false) (D : va_G) (yy : Nat → ClassId) (oa h0 an : Nat) (O : Nat → Int64) (B B2 : Nat → Nat) (F : jF) (G : jG) (F2 : jF) (G2 : jG) (M : jF) (Y : va_W) (sz : Nat) (p1 : Int32) (p2 : Int32) (p3 : Int32) (hok : okX11_storm F G M p1 p2 p3) (hcod : (gX11_storm F G M p1 p2 p3).1 = 0 ∨ (gX11_storm F G M p1 p2 p3).1 = 2 ∨ (gX11_storm F G M p1 p2 p3).1 = 3) : Met l yL_storm (Cond.codeWith yL_storm cL_storm 6 (some .int) [(0, 12, 15, 13), (0, 12, 19, 15)] :: wsL_law) rmL_storm (va_Pc [.ref h0, .int p1, .int p2, .int p3, .ref oa] (jZ D yy (wW yy oa O (pV yy h0 an B B2 F G F2 G2 M) Y) sz)) (va_Qi (fun (r : Int32) (u : (((Nat → Nat) × jS) × jF) × (Nat → Int64)) => ((∃ x, (gX11_storm F G M p1 p2 p3) = (0, (x, (u.1.1.2, u.1.2))) ∧ r = 0 ∧ u.2 = vp_updL O 0 (Int32.toInt64 x)) ∨ ((gX11_storm F G M p1 p2 p3).1 ≠ 0 ∧ r = wk 2 3 9 (gX11_storm F G M p1 p2 p3).1 ∧ u = (((B, (F, G)), M), O))) ∧ ∀ k, k < 100 → u.1.1.1 k = B k) (fun u t => jB D yy (va_A (wW yy oa O (pV yy h0 an B B2 F G F2 G2 M) Y) sz) (wW yy oa u.2 (pV yy h0 an u.1.1.1 B2 u.1.1.2.1 u.1.1.2.2 F2 G2 u.1.2) Y) t) (va_A (wW yy oa O (pV yy h0 an B B2 F G F2 G2 M) Y) sz)) 9 64 (va_A (wW yy oa O (pV yy h0 an B B2 F G F2 G2 M) Y) sz) := by
  refine jMW (vs := [.ref h0, .int p1, .int p2, .int p3, .ref oa]) (own := RL) (by decide +kernel) rfl (Nat.le_of_ble_eq_true rfl) ?_
  intro p e s m args below meth c ls Q hQ hargs S hr hlk htab hB hl
  obtain ⟨hx, hb, hml, hown, hts⟩ := S
  have hl : lv_has ls 6 [(0, .ref h0), (1, .int p1), (2, .int p2), (3, .int p3), (4, .ref oa)] := hl
  obtain ⟨⟨⟨hsz, hV, hK, hD0⟩, hT⟩, hN⟩ := hB
  subst hsz
  have hD := hD0.self (sz := s.heap.size)
  generalize hZ : va_A (wW yy oa O (pV yy h0 an B B2 F G F2 G2 M) Y) s.heap.size = Z at hD hQ hT
  have hA : ∀ q : Nat, s.heap.size ≤ q → Z q := fun q h => by rw [← hZ]; exact Or.inr h
  obtain ⟨H, hH⟩ : ∃ z, z = s.heap := ⟨_, rfl⟩
  obtain ⟨locs, hlocs⟩ : ∃ z : List Loc, z = [] := ⟨_, rfl⟩
  have hS : va_S Z s.heap H locs := by rw [hH, hlocs]; exact va_S.rf
  rw [← hH] at hV
  suffices hgo : W p l e rmL_storm s m args below meth c H locs 0 0 Q (F0 m 0 ls []) by rw [hH, hlocs] at hgo; exact hgo
  refine lv_aload hx hb (dd_of dL_storm_0 0 rfl) (lv_at hl 4 rfl) ?_
  refine lv_iconst (v := 0) hx hb (dd_of dL_storm_0 1 rfl) (by decide) ?_
  refine lv_aload_n hx hb (dd_of dL_storm_0 2 rfl) rfl (lv_at hl 0 rfl) ?_
  refine lv_iload_n hx hb (dd_of dL_storm_0 3 rfl) rfl (lv_at hl 1 rfl) ?_
  refine lv_iload_n hx hb (dd_of dL_storm_0 4 rfl) rfl (lv_at hl 2 rfl) ?_
  refine lv_iload_n hx hb (dd_of dL_storm_0 5 rfl) rfl (lv_at hl 3 rfl) ?_
  refine jq_i (As := [.int p1, .int p2, .int p3]) (rest := [.int 0, .ref oa]) (D := D) (yy := yy) (oa := oa) (O := O) (P0 := pV yy h0 an B B2 F G F2 G2 M) (Y := Y) (gc := (gX11_storm F G M p1 p2 p3).1) (w1 := fun u : ((Nat → Nat) × jS) × jF => pV yy h0 an u.1.1 B2 u.1.2.1 u.1.2.2 F2 G2 u.2) ⟨hx, hb, hml, hown, hts⟩ (qX11_storm l hl9 D yy h0 an B B2 F G F2 G2 M H.size p1 p2 p3 hok) (cwV 3 hts (jgV gw726 gw727 gw728 gw2 gw729) rfl rfl rfl (by decide +kernel) ⟨Nat.le_of_ble_eq_true rfl, Nat.le_of_ble_eq_true rfl⟩) hV hK hT hD hS hA (va_recv hK (wW_P hV) (ci := 11) (q0 := 0) rfl rfl) rfl hl.1 rfl (Nat.le_of_ble_eq_true rfl) (dd_of dL_storm_0 6 rfl) ⟨Nat.le_of_ble_eq_true rfl, Nat.le_of_ble_eq_true rfl⟩ (fun E ce q9 H locs hg0 hE9 hV hS z1 z2 z3 => ?_) (fun x u H locs hp hV hD hS => ?_)
  · rcases hcod with hcod | hcod | hcod
    · exact absurd hcod hg0
    · have hE9 : E = xA := by rw [hE9, hcod]; rfl
      subst hE9
      refine jcat hown hts htab [] (0, 12, 15, 13) [(0, 12, 19, 15)] rfl (fun z hz => absurd hz List.not_mem_nil) (by decide) (by decide) gw175 (va_Nw.use rfl (hT.2.1.1 xA (Or.inr (Or.inl rfl)))) z1 z2 z3 ?_
      refine lv_astore hx hb (dd_of dL_storm_0 10 rfl) hl (by decide) rfl (fun ls hl => ?_)
      refine lv_iconst (v := 1) hx hb (dd_of dL_storm_0 11 rfl) (by decide) ?_
      subst hQ
      refine W.widen (k := 9) (n := 64) (Nat.le_of_ble_eq_true rfl) (Nat.le_of_ble_eq_true rfl) ?_
      exact W.iret (v := 1) hx hb hr (fun t ht hW => ⟨⟨1, (((B, (F, G)), M), O), rfl, ⟨Or.inr ⟨hg0, by rw [hcod]; rfl, rfl⟩, fun _ _ => rfl⟩, by rw [ht]; exact hV, va_K.moved hW.alike hK, hD⟩, hS.F ht⟩) hS.2.2 (dd_of dL_storm_0 12 rfl) hlk
    · have hE9 : E = xS := by rw [hE9, hcod]; rfl
      subst hE9
      refine jcat hown hts htab [(0, 12, 15, 13)] (0, 12, 19, 15) [] rfl (fun z hz => by obtain rfl := List.mem_singleton.mp hz; exact ⟨by decide, xA, gw175, hN.2.2.2⟩) (by decide) (by decide) gw176 (va_Nw.use rfl (hT.2.1.1 xS (Or.inr (Or.inr rfl)))) z1 z2 z3 ?_
      refine lv_astore hx hb (dd_of dL_storm_0 13 rfl) hl (by decide) rfl (fun ls hl => ?_)
      refine lv_iconst (v := 2) hx hb (dd_of dL_storm_0 14 rfl) (by decide) ?_
      subst hQ
      refine W.widen (k := 9) (n := 64) (Nat.le_of_ble_eq_true rfl) (Nat.le_of_ble_eq_true rfl) ?_
      exact W.iret (v := 2) hx hb hr (fun t ht hW => ⟨⟨2, (((B, (F, G)), M), O), rfl, ⟨Or.inr ⟨hg0, by rw [hcod]; rfl, rfl⟩, fun _ _ => rfl⟩, by rw [ht]; exact hV, va_K.moved hW.alike hK, hD⟩, hS.F ht⟩) hS.2.2 (dd_of dL_storm_0 15 rfl) hlk
  · skip
    obtain ⟨⟨B1, F1, G1⟩, M1⟩ := u
    obtain ⟨hp, hB1⟩ := hp
    have hB1 : ∀ k, k < 100 → B1 k = B k := hB1
    have hp : (gX11_storm F G M p1 p2 p3) = (0, (x, ((F1, G1), M1))) := hp
    have hV : va_P D vwCl (wW yy oa O (pV yy h0 an B1 B2 F1 G1 F2 G2 M1) Y) H := hV
    have hD : va_D Z (wW yy oa O (pV yy h0 an B1 B2 F1 G1 F2 G2 M1) Y) := hD
    refine lv_i2l (v := (Int32.toInt64 x)) hx hb (dd_of dL_storm_0 7 rfl) rfl ?_
    obtain ⟨P9, hP9⟩ : ∃ z, z = (pV yy h0 an B1 B2 F1 G1 F2 G2 M1) := ⟨_, rfl⟩
    rw [← hP9] at hV hD
    refine va_last hx hb hK hV hD hS 0 1 rfl rfl (vin_lit (by decide)) (dd_of dL_storm_0 8 rfl) (fun H locs hV hD hS => ?_)
    have hV : va_P D vwCl (wW yy oa (vp_updL O 0 (Int32.toInt64 x)) P9 Y) H := hV
    have hD : va_D Z (wW yy oa (vp_updL O 0 (Int32.toInt64 x)) P9 Y) := hD
    rw [hP9] at hV hD
    refine lv_goto (tgt := 23) hx hb (dd_of dL_storm_0 9 rfl) (by decide) ?_
    refine lv_iconst (v := 0) hx hb (dd_of dL_storm_0 16 rfl) (by decide) ?_
    subst hQ
    refine W.widen (k := 9) (n := 64) (Nat.le_of_ble_eq_true rfl) (Nat.le_of_ble_eq_true rfl) ?_
    exact W.iret (v := 0) hx hb hr (fun t ht hW => ⟨⟨0, (((B1, (F1, G1)), M1), (vp_updL O 0 (Int32.toInt64 x))), rfl, ⟨Or.inl ⟨x, hp, rfl, rfl⟩, hB1⟩, by rw [ht]; exact hV, va_K.moved hW.alike hK, hD⟩, hS.F ht⟩) hS.2.2 (dd_of dL_storm_0 17 rfl) hlk
set_option maxHeartbeats 4000000 in
set_option maxRecDepth 100000 in
theorem qL_rain (l : Launch) (hl9 : l.stackTraces = false) (D : va_G) (yy : Nat → ClassId) (oa h0 an : Nat) (O : Nat → Int64) (B B2 : Nat → Nat) (F : jF) (G : jG) (F2 : jF) (G2 : jG) (M : jF) (Y : va_W) (sz : Nat) (p1 : Int32) (p2 : Int32) (p3 : Int32) (p4 : Int32) (hok : okX11_rain F G M p1 p2 p3 p4) (hcod : (gX11_rain F G M p1 p2 p3 p4).1 = 0 ∨ (gX11_rain F G M p1 p2 p3 p4).1 = 1 ∨ (gX11_rain F G M p1 p2 p3 p4).1 = 2 ∨ (gX11_rain F G M p1 p2 p3 p4).1 = 3) : Met l yL_rain (Cond.codeWith yL_rain cL_rain 7 (some .int) [(0, 14, 17, 21), (0, 14, 21, 13), (0, 14, 25, 15)] :: wsL_law) rmL_rain (va_Pc [.ref h0, .int p1, .int p2, .int p3, .int p4, .ref oa] (jZ D yy (wW yy oa O (pV yy h0 an B B2 F G F2 G2 M) Y) sz)) (va_Qi (fun (r : Int32) (u : (((Nat → Nat) × jS) × jF) × (Nat → Int64)) => ((∃ x, (gX11_rain F G M p1 p2 p3 p4) = (0, (x, (u.1.1.2, u.1.2))) ∧ r = 0 ∧ u.2 = vp_updL O 0 (Int32.toInt64 x)) ∨ ((gX11_rain F G M p1 p2 p3 p4).1 ≠ 0 ∧ r = wk 1 2 3 (gX11_rain F G M p1 p2 p3 p4).1 ∧ u = (((B, (F, G)), M), O))) ∧ ∀ k, k < 100 → u.1.1.1 k = B k) (fun u t => jB D yy (va_A (wW yy oa O (pV yy h0 an B B2 F G F2 G2 M) Y) sz) (wW yy oa u.2 (pV yy h0 an u.1.1.1 B2 u.1.1.2.1 u.1.1.2.2 F2 G2 u.1.2) Y) t) (va_A (wW yy oa O (pV yy h0 an B B2 F G F2 G2 M) Y) sz)) 9 64 (va_A (wW yy oa O (pV yy h0 an B B2 F G F2 G2 M) Y) sz) := by
  refine jMW (vs := [.ref h0, .int p1, .int p2, .int p3, .int p4, .ref oa]) (own := RL) (by decide +kernel) rfl (Nat.le_of_ble_eq_true rfl) ?_
  intro p e s m args below meth c ls Q hQ hargs S hr hlk htab hB hl
  obtain ⟨hx, hb, hml, hown, hts⟩ := S
  have hl : lv_has ls 7 [(0, .ref h0), (1, .int p1), (2, .int p2), (3, .int p3), (4, .int p4), (5, .ref oa)] := hl
  obtain ⟨⟨⟨hsz, hV, hK, hD0⟩, hT⟩, hN⟩ := hB
  subst hsz
  have hD := hD0.self (sz := s.heap.size)
  generalize hZ : va_A (wW yy oa O (pV yy h0 an B B2 F G F2 G2 M) Y) s.heap.size = Z at hD hQ hT
  have hA : ∀ q : Nat, s.heap.size ≤ q → Z q := fun q h => by rw [← hZ]; exact Or.inr h
  obtain ⟨H, hH⟩ : ∃ z, z = s.heap := ⟨_, rfl⟩
  obtain ⟨locs, hlocs⟩ : ∃ z : List Loc, z = [] := ⟨_, rfl⟩
  have hS : va_S Z s.heap H locs := by rw [hH, hlocs]; exact va_S.rf
  rw [← hH] at hV
  suffices hgo : W p l e rmL_rain s m args below meth c H locs 0 0 Q (F0 m 0 ls []) by rw [hH, hlocs] at hgo; exact hgo
  refine lv_aload hx hb (dd_of dL_rain_0 0 rfl) (lv_at hl 5 rfl) ?_
  refine lv_iconst (v := 0) hx hb (dd_of dL_rain_0 1 rfl) (by decide) ?_
  refine lv_aload_n hx hb (dd_of dL_rain_0 2 rfl) rfl (lv_at hl 0 rfl) ?_
  refine lv_iload_n hx hb (dd_of dL_rain_0 3 rfl) rfl (lv_at hl 1 rfl) ?_
  refine lv_iload_n hx hb (dd_of dL_rain_0 4 rfl) rfl (lv_at hl 2 rfl) ?_
  refine lv_iload_n hx hb (dd_of dL_rain_0 5 rfl) rfl (lv_at hl 3 rfl) ?_
  refine lv_iload hx hb (dd_of dL_rain_0 6 rfl) (lv_at hl 4 rfl) ?_
  refine jq_i (As := [.int p1, .int p2, .int p3, .int p4]) (rest := [.int 0, .ref oa]) (D := D) (yy := yy) (oa := oa) (O := O) (P0 := pV yy h0 an B B2 F G F2 G2 M) (Y := Y) (gc := (gX11_rain F G M p1 p2 p3 p4).1) (w1 := fun u : ((Nat → Nat) × jS) × jF => pV yy h0 an u.1.1 B2 u.1.2.1 u.1.2.2 F2 G2 u.2) ⟨hx, hb, hml, hown, hts⟩ (qX11_rain l hl9 D yy h0 an B B2 F G F2 G2 M H.size p1 p2 p3 p4 hok) (cwV 4 hts (jgV gw740 gw741 gw742 gw2 gw743) rfl rfl rfl (by decide +kernel) ⟨Nat.le_of_ble_eq_true rfl, Nat.le_of_ble_eq_true rfl⟩) hV hK hT hD hS hA (va_recv hK (wW_P hV) (ci := 11) (q0 := 0) rfl rfl) rfl hl.1 rfl (Nat.le_of_ble_eq_true rfl) (dd_of dL_rain_0 7 rfl) ⟨Nat.le_of_ble_eq_true rfl, Nat.le_of_ble_eq_true rfl⟩ (fun E ce q9 H locs hg0 hE9 hV hS z1 z2 z3 => ?_) (fun x u H locs hp hV hD hS => ?_)
  · rcases hcod with hcod | hcod | hcod | hcod
    · exact absurd hcod hg0
    · have hE9 : E = xI := by rw [hE9, hcod]; rfl
      subst hE9
      refine jcat hown hts htab [] (0, 14, 17, 21) [(0, 14, 21, 13), (0, 14, 25, 15)] rfl (fun z hz => absurd hz List.not_mem_nil) (by decide) (by decide) gw601 (va_Nw.use rfl (hT.2.1.1 xI (Or.inl rfl))) z1 z2 z3 ?_
      refine lv_astore hx hb (dd_of dL_rain_0 11 rfl) hl (by decide) rfl (fun ls hl => ?_)
      refine lv_iconst (v := 1) hx hb (dd_of dL_rain_0 12 rfl) (by decide) ?_
      subst hQ
      refine W.widen (k := 9) (n := 64) (Nat.le_of_ble_eq_true rfl) (Nat.le_of_ble_eq_true rfl) ?_
      exact W.iret (v := 1) hx hb hr (fun t ht hW => ⟨⟨1, (((B, (F, G)), M), O), rfl, ⟨Or.inr ⟨hg0, by rw [hcod]; rfl, rfl⟩, fun _ _ => rfl⟩, by rw [ht]; exact hV, va_K.moved hW.alike hK, hD⟩, hS.F ht⟩) hS.2.2 (dd_of dL_rain_0 13 rfl) hlk
    · have hE9 : E = xA := by rw [hE9, hcod]; rfl
      subst hE9
      refine jcat hown hts htab [(0, 14, 17, 21)] (0, 14, 21, 13) [(0, 14, 25, 15)] rfl (fun z hz => by obtain rfl := List.mem_singleton.mp hz; exact ⟨by decide, xI, gw601, hN.2.1.1⟩) (by decide) (by decide) gw175 (va_Nw.use rfl (hT.2.1.1 xA (Or.inr (Or.inl rfl)))) z1 z2 z3 ?_
      refine lv_astore hx hb (dd_of dL_rain_0 14 rfl) hl (by decide) rfl (fun ls hl => ?_)
      refine lv_iconst (v := 2) hx hb (dd_of dL_rain_0 15 rfl) (by decide) ?_
      subst hQ
      refine W.widen (k := 9) (n := 64) (Nat.le_of_ble_eq_true rfl) (Nat.le_of_ble_eq_true rfl) ?_
      exact W.iret (v := 2) hx hb hr (fun t ht hW => ⟨⟨2, (((B, (F, G)), M), O), rfl, ⟨Or.inr ⟨hg0, by rw [hcod]; rfl, rfl⟩, fun _ _ => rfl⟩, by rw [ht]; exact hV, va_K.moved hW.alike hK, hD⟩, hS.F ht⟩) hS.2.2 (dd_of dL_rain_0 16 rfl) hlk
    · have hE9 : E = xS := by rw [hE9, hcod]; rfl
      subst hE9
      refine jcat hown hts htab [(0, 14, 17, 21), (0, 14, 21, 13)] (0, 14, 25, 15) [] rfl (fun z hz => by simp only [List.mem_cons, List.not_mem_nil, or_false] at hz; rcases hz with rfl | rfl <;> first | exact ⟨by decide, xI, gw601, hN.2.2.1⟩ | exact ⟨by decide, xA, gw175, hN.2.2.2⟩) (by decide) (by decide) gw176 (va_Nw.use rfl (hT.2.1.1 xS (Or.inr (Or.inr rfl)))) z1 z2 z3 ?_
      refine lv_astore hx hb (dd_of dL_rain_0 17 rfl) hl (by decide) rfl (fun ls hl => ?_)
      refine lv_iconst (v := 3) hx hb (dd_of dL_rain_0 18 rfl) (by decide) ?_
      subst hQ
      refine W.widen (k := 9) (n := 64) (Nat.le_of_ble_eq_true rfl) (Nat.le_of_ble_eq_true rfl) ?_
      exact W.iret (v := 3) hx hb hr (fun t ht hW => ⟨⟨3, (((B, (F, G)), M), O), rfl, ⟨Or.inr ⟨hg0, by rw [hcod]; rfl, rfl⟩, fun _ _ => rfl⟩, by rw [ht]; exact hV, va_K.moved hW.alike hK, hD⟩, hS.F ht⟩) hS.2.2 (dd_of dL_rain_0 19 rfl) hlk
  · skip
    obtain ⟨⟨B1, F1, G1⟩, M1⟩ := u
    obtain ⟨hp, hB1⟩ := hp
    have hB1 : ∀ k, k < 100 → B1 k = B k := hB1
    have hp : (gX11_rain F G M p1 p2 p3 p4) = (0, (x, ((F1, G1), M1))) := hp
    have hV : va_P D vwCl (wW yy oa O (pV yy h0 an B1 B2 F1 G1 F2 G2 M1) Y) H := hV
    have hD : va_D Z (wW yy oa O (pV yy h0 an B1 B2 F1 G1 F2 G2 M1) Y) := hD
    refine lv_i2l (v := (Int32.toInt64 x)) hx hb (dd_of dL_rain_0 8 rfl) rfl ?_
    obtain ⟨P9, hP9⟩ : ∃ z, z = (pV yy h0 an B1 B2 F1 G1 F2 G2 M1) := ⟨_, rfl⟩
    rw [← hP9] at hV hD
    refine va_last hx hb hK hV hD hS 0 1 rfl rfl (vin_lit (by decide)) (dd_of dL_rain_0 9 rfl) (fun H locs hV hD hS => ?_)
    have hV : va_P D vwCl (wW yy oa (vp_updL O 0 (Int32.toInt64 x)) P9 Y) H := hV
    have hD : va_D Z (wW yy oa (vp_updL O 0 (Int32.toInt64 x)) P9 Y) := hD
    rw [hP9] at hV hD
    refine lv_goto (tgt := 29) hx hb (dd_of dL_rain_0 10 rfl) (by decide) ?_
    refine lv_iconst (v := 0) hx hb (dd_of dL_rain_0 20 rfl) (by decide) ?_
    subst hQ
    refine W.widen (k := 9) (n := 64) (Nat.le_of_ble_eq_true rfl) (Nat.le_of_ble_eq_true rfl) ?_
    exact W.iret (v := 0) hx hb hr (fun t ht hW => ⟨⟨0, (((B1, (F1, G1)), M1), (vp_updL O 0 (Int32.toInt64 x))), rfl, ⟨Or.inl ⟨x, hp, rfl, rfl⟩, hB1⟩, by rw [ht]; exact hV, va_K.moved hW.alike hK, hD⟩, hS.F ht⟩) hS.2.2 (dd_of dL_rain_0 21 rfl) hlk
set_option maxHeartbeats 4000000 in
set_option maxRecDepth 100000 in
theorem qL_setSeed (l : Launch) (hl9 : l.stackTraces = false) (D : va_G) (yy : Nat → ClassId) (oa h0 an : Nat) (O : Nat → Int64) (B B2 : Nat → Nat) (F : jF) (G : jG) (F2 : jF) (G2 : jG) (M : jF) (Y : va_W) (sz : Nat) (p1 : Int32) (hok : okX11_setSeed F G M p1) (hcod : (gX11_setSeed F G M p1).1 = 0 ∨ (gX11_setSeed F G M p1).1 = 2) : Met l yL_setSeed (Cond.codeWith yL_setSeed cL_setSeed 4 (some .int) [(0, 9, 12, 13)] :: wsL_law) rmL_setSeed (va_Pc [.ref h0, .int p1, .ref oa] (jZ D yy (wW yy oa O (pV yy h0 an B B2 F G F2 G2 M) Y) sz)) (va_Qi (fun (r : Int32) (u : (((Nat → Nat) × jS) × jF) × (Nat → Int64)) => ((∃ x, (gX11_setSeed F G M p1) = (0, (x, (u.1.1.2, u.1.2))) ∧ r = 0 ∧ u.2 = vp_updL O 0 (Int32.toInt64 x)) ∨ ((gX11_setSeed F G M p1).1 ≠ 0 ∧ r = wk 2 9 9 (gX11_setSeed F G M p1).1 ∧ u = (((B, (F, G)), M), O))) ∧ ∀ k, k < 100 → u.1.1.1 k = B k) (fun u t => jB D yy (va_A (wW yy oa O (pV yy h0 an B B2 F G F2 G2 M) Y) sz) (wW yy oa u.2 (pV yy h0 an u.1.1.1 B2 u.1.1.2.1 u.1.1.2.2 F2 G2 u.1.2) Y) t) (va_A (wW yy oa O (pV yy h0 an B B2 F G F2 G2 M) Y) sz)) 9 64 (va_A (wW yy oa O (pV yy h0 an B B2 F G F2 G2 M) Y) sz) := by
  refine jMW (vs := [.ref h0, .int p1, .ref oa]) (own := RL) (by decide +kernel) rfl (Nat.le_of_ble_eq_true rfl) ?_
  intro p e s m args below meth c ls Q hQ hargs S hr hlk htab hB hl
  obtain ⟨hx, hb, hml, hown, hts⟩ := S
  have hl : lv_has ls 4 [(0, .ref h0), (1, .int p1), (2, .ref oa)] := hl
  obtain ⟨⟨⟨hsz, hV, hK, hD0⟩, hT⟩, hN⟩ := hB
  subst hsz
  have hD := hD0.self (sz := s.heap.size)
  generalize hZ : va_A (wW yy oa O (pV yy h0 an B B2 F G F2 G2 M) Y) s.heap.size = Z at hD hQ hT
  have hA : ∀ q : Nat, s.heap.size ≤ q → Z q := fun q h => by rw [← hZ]; exact Or.inr h
  obtain ⟨H, hH⟩ : ∃ z, z = s.heap := ⟨_, rfl⟩
  obtain ⟨locs, hlocs⟩ : ∃ z : List Loc, z = [] := ⟨_, rfl⟩
  have hS : va_S Z s.heap H locs := by rw [hH, hlocs]; exact va_S.rf
  rw [← hH] at hV
  suffices hgo : W p l e rmL_setSeed s m args below meth c H locs 0 0 Q (F0 m 0 ls []) by rw [hH, hlocs] at hgo; exact hgo
  refine lv_aload_n hx hb (dd_of dL_setSeed_0 0 rfl) rfl (lv_at hl 2 rfl) ?_
  refine lv_iconst (v := 0) hx hb (dd_of dL_setSeed_0 1 rfl) (by decide) ?_
  refine lv_aload_n hx hb (dd_of dL_setSeed_0 2 rfl) rfl (lv_at hl 0 rfl) ?_
  refine lv_iload_n hx hb (dd_of dL_setSeed_0 3 rfl) rfl (lv_at hl 1 rfl) ?_
  refine jq_i (As := [.int p1]) (rest := [.int 0, .ref oa]) (D := D) (yy := yy) (oa := oa) (O := O) (P0 := pV yy h0 an B B2 F G F2 G2 M) (Y := Y) (gc := (gX11_setSeed F G M p1).1) (w1 := fun u : ((Nat → Nat) × jS) × jF => pV yy h0 an u.1.1 B2 u.1.2.1 u.1.2.2 F2 G2 u.2) ⟨hx, hb, hml, hown, hts⟩ (qX11_setSeed l hl9 D yy h0 an B B2 F G F2 G2 M H.size p1 hok) (cwV 1 hts (jgV gw753 gw754 gw755 gw2 gw756) rfl rfl rfl (by decide +kernel) ⟨Nat.le_of_ble_eq_true rfl, Nat.le_of_ble_eq_true rfl⟩) hV hK hT hD hS hA (va_recv hK (wW_P hV) (ci := 11) (q0 := 0) rfl rfl) rfl hl.1 rfl (Nat.le_of_ble_eq_true rfl) (dd_of dL_setSeed_0 4 rfl) ⟨Nat.le_of_ble_eq_true rfl, Nat.le_of_ble_eq_true rfl⟩ (fun E ce q9 H locs hg0 hE9 hV hS z1 z2 z3 => ?_) (fun x u H locs hp hV hD hS => ?_)
  · rcases hcod with hcod | hcod
    · exact absurd hcod hg0
    · have hE9 : E = xA := by rw [hE9, hcod]; rfl
      subst hE9
      refine jcat hown hts htab [] (0, 9, 12, 13) [] rfl (fun z hz => absurd hz List.not_mem_nil) (by decide) (by decide) gw175 (va_Nw.use rfl (hT.2.1.1 xA (Or.inr (Or.inl rfl)))) z1 z2 z3 ?_
      refine lv_astore_n hx hb (dd_of dL_setSeed_0 8 rfl) rfl hl (by decide) rfl (fun ls hl => ?_)
      refine lv_iconst (v := 1) hx hb (dd_of dL_setSeed_0 9 rfl) (by decide) ?_
      subst hQ
      refine W.widen (k := 9) (n := 64) (Nat.le_of_ble_eq_true rfl) (Nat.le_of_ble_eq_true rfl) ?_
      exact W.iret (v := 1) hx hb hr (fun t ht hW => ⟨⟨1, (((B, (F, G)), M), O), rfl, ⟨Or.inr ⟨hg0, by rw [hcod]; rfl, rfl⟩, fun _ _ => rfl⟩, by rw [ht]; exact hV, va_K.moved hW.alike hK, hD⟩, hS.F ht⟩) hS.2.2 (dd_of dL_setSeed_0 10 rfl) hlk
  · skip
    obtain ⟨⟨B1, F1, G1⟩, M1⟩ := u
    obtain ⟨hp, hB1⟩ := hp
    have hB1 : ∀ k, k < 100 → B1 k = B k := hB1
    have hp : (gX11_setSeed F G M p1) = (0, (x, ((F1, G1), M1))) := hp
    have hV : va_P D vwCl (wW yy oa O (pV yy h0 an B1 B2 F1 G1 F2 G2 M1) Y) H := hV
    have hD : va_D Z (wW yy oa O (pV yy h0 an B1 B2 F1 G1 F2 G2 M1) Y) := hD
    refine lv_i2l (v := (Int32.toInt64 x)) hx hb (dd_of dL_setSeed_0 5 rfl) rfl ?_
    obtain ⟨P9, hP9⟩ : ∃ z, z = (pV yy h0 an B1 B2 F1 G1 F2 G2 M1) := ⟨_, rfl⟩
    rw [← hP9] at hV hD
    refine va_last hx hb hK hV hD hS 0 1 rfl rfl (vin_lit (by decide)) (dd_of dL_setSeed_0 6 rfl) (fun H locs hV hD hS => ?_)
    have hV : va_P D vwCl (wW yy oa (vp_updL O 0 (Int32.toInt64 x)) P9 Y) H := hV
    have hD : va_D Z (wW yy oa (vp_updL O 0 (Int32.toInt64 x)) P9 Y) := hD
    rw [hP9] at hV hD
    refine lv_goto (tgt := 15) hx hb (dd_of dL_setSeed_0 7 rfl) (by decide) ?_
    refine lv_iconst (v := 0) hx hb (dd_of dL_setSeed_0 11 rfl) (by decide) ?_
    subst hQ
    refine W.widen (k := 9) (n := 64) (Nat.le_of_ble_eq_true rfl) (Nat.le_of_ble_eq_true rfl) ?_
    exact W.iret (v := 0) hx hb hr (fun t ht hW => ⟨⟨0, (((B1, (F1, G1)), M1), (vp_updL O 0 (Int32.toInt64 x))), rfl, ⟨Or.inl ⟨x, hp, rfl, rfl⟩, hB1⟩, by rw [ht]; exact hV, va_K.moved hW.alike hK, hD⟩, hS.F ht⟩) hS.2.2 (dd_of dL_setSeed_0 12 rfl) hlk
set_option maxHeartbeats 4000000 in
set_option maxRecDepth 100000 in
theorem qL_command (l : Launch) (hl9 : l.stackTraces = false) (D : va_G) (yy : Nat → ClassId) (oa h0 an : Nat) (O : Nat → Int64) (B B2 : Nat → Nat) (F : jF) (G : jG) (F2 : jF) (G2 : jG) (M : jF) (Y : va_W) (sz : Nat) (p1 : Int32) (p2 : Int32) (p3 : Int32) (hok : okX11_command F G M p1 p2 p3) (hcod : (gX11_command F G M p1 p2 p3).1 = 0 ∨ (gX11_command F G M p1 p2 p3).1 = 1 ∨ (gX11_command F G M p1 p2 p3).1 = 2) : Met l yL_command (Cond.codeWith yL_command cL_command 6 (some .int) [(0, 12, 15, 21), (0, 12, 19, 13)] :: wsL_law) rmL_command (va_Pc [.ref h0, .int p1, .int p2, .int p3, .ref oa] (jZ D yy (wW yy oa O (pV yy h0 an B B2 F G F2 G2 M) Y) sz)) (va_Qi (fun (r : Int32) (u : (((Nat → Nat) × jS) × jF) × (Nat → Int64)) => ((∃ x, (gX11_command F G M p1 p2 p3) = (0, (x, (u.1.1.2, u.1.2))) ∧ r = 0 ∧ u.2 = vp_updL O 0 (Int32.toInt64 x)) ∨ ((gX11_command F G M p1 p2 p3).1 ≠ 0 ∧ r = wk 1 2 9 (gX11_command F G M p1 p2 p3).1 ∧ u = (((B, (F, G)), M), O))) ∧ ∀ k, k < 100 → u.1.1.1 k = B k) (fun u t => jB D yy (va_A (wW yy oa O (pV yy h0 an B B2 F G F2 G2 M) Y) sz) (wW yy oa u.2 (pV yy h0 an u.1.1.1 B2 u.1.1.2.1 u.1.1.2.2 F2 G2 u.1.2) Y) t) (va_A (wW yy oa O (pV yy h0 an B B2 F G F2 G2 M) Y) sz)) 9 64 (va_A (wW yy oa O (pV yy h0 an B B2 F G F2 G2 M) Y) sz) := by
  refine jMW (vs := [.ref h0, .int p1, .int p2, .int p3, .ref oa]) (own := RL) (by decide +kernel) rfl (Nat.le_of_ble_eq_true rfl) ?_
  intro p e s m args below meth c ls Q hQ hargs S hr hlk htab hB hl
  obtain ⟨hx, hb, hml, hown, hts⟩ := S
  have hl : lv_has ls 6 [(0, .ref h0), (1, .int p1), (2, .int p2), (3, .int p3), (4, .ref oa)] := hl
  obtain ⟨⟨⟨hsz, hV, hK, hD0⟩, hT⟩, hN⟩ := hB
  subst hsz
  have hD := hD0.self (sz := s.heap.size)
  generalize hZ : va_A (wW yy oa O (pV yy h0 an B B2 F G F2 G2 M) Y) s.heap.size = Z at hD hQ hT
  have hA : ∀ q : Nat, s.heap.size ≤ q → Z q := fun q h => by rw [← hZ]; exact Or.inr h
  obtain ⟨H, hH⟩ : ∃ z, z = s.heap := ⟨_, rfl⟩
  obtain ⟨locs, hlocs⟩ : ∃ z : List Loc, z = [] := ⟨_, rfl⟩
  have hS : va_S Z s.heap H locs := by rw [hH, hlocs]; exact va_S.rf
  rw [← hH] at hV
  suffices hgo : W p l e rmL_command s m args below meth c H locs 0 0 Q (F0 m 0 ls []) by rw [hH, hlocs] at hgo; exact hgo
  refine lv_aload hx hb (dd_of dL_command_0 0 rfl) (lv_at hl 4 rfl) ?_
  refine lv_iconst (v := 0) hx hb (dd_of dL_command_0 1 rfl) (by decide) ?_
  refine lv_aload_n hx hb (dd_of dL_command_0 2 rfl) rfl (lv_at hl 0 rfl) ?_
  refine lv_iload_n hx hb (dd_of dL_command_0 3 rfl) rfl (lv_at hl 1 rfl) ?_
  refine lv_iload_n hx hb (dd_of dL_command_0 4 rfl) rfl (lv_at hl 2 rfl) ?_
  refine lv_iload_n hx hb (dd_of dL_command_0 5 rfl) rfl (lv_at hl 3 rfl) ?_
  refine jq_i (As := [.int p1, .int p2, .int p3]) (rest := [.int 0, .ref oa]) (D := D) (yy := yy) (oa := oa) (O := O) (P0 := pV yy h0 an B B2 F G F2 G2 M) (Y := Y) (gc := (gX11_command F G M p1 p2 p3).1) (w1 := fun u : ((Nat → Nat) × jS) × jF => pV yy h0 an u.1.1 B2 u.1.2.1 u.1.2.2 F2 G2 u.2) ⟨hx, hb, hml, hown, hts⟩ (qX11_command l hl9 D yy h0 an B B2 F G F2 G2 M H.size p1 p2 p3 hok) (cwV 3 hts (jgV gw764 gw765 gw766 gw2 gw767) rfl rfl rfl (by decide +kernel) ⟨Nat.le_of_ble_eq_true rfl, Nat.le_of_ble_eq_true rfl⟩) hV hK hT hD hS hA (va_recv hK (wW_P hV) (ci := 11) (q0 := 0) rfl rfl) rfl hl.1 rfl (Nat.le_of_ble_eq_true rfl) (dd_of dL_command_0 6 rfl) ⟨Nat.le_of_ble_eq_true rfl, Nat.le_of_ble_eq_true rfl⟩ (fun E ce q9 H locs hg0 hE9 hV hS z1 z2 z3 => ?_) (fun x u H locs hp hV hD hS => ?_)
  · rcases hcod with hcod | hcod | hcod
    · exact absurd hcod hg0
    · have hE9 : E = xI := by rw [hE9, hcod]; rfl
      subst hE9
      refine jcat hown hts htab [] (0, 12, 15, 21) [(0, 12, 19, 13)] rfl (fun z hz => absurd hz List.not_mem_nil) (by decide) (by decide) gw601 (va_Nw.use rfl (hT.2.1.1 xI (Or.inl rfl))) z1 z2 z3 ?_
      refine lv_astore hx hb (dd_of dL_command_0 10 rfl) hl (by decide) rfl (fun ls hl => ?_)
      refine lv_iconst (v := 1) hx hb (dd_of dL_command_0 11 rfl) (by decide) ?_
      subst hQ
      refine W.widen (k := 9) (n := 64) (Nat.le_of_ble_eq_true rfl) (Nat.le_of_ble_eq_true rfl) ?_
      exact W.iret (v := 1) hx hb hr (fun t ht hW => ⟨⟨1, (((B, (F, G)), M), O), rfl, ⟨Or.inr ⟨hg0, by rw [hcod]; rfl, rfl⟩, fun _ _ => rfl⟩, by rw [ht]; exact hV, va_K.moved hW.alike hK, hD⟩, hS.F ht⟩) hS.2.2 (dd_of dL_command_0 12 rfl) hlk
    · have hE9 : E = xA := by rw [hE9, hcod]; rfl
      subst hE9
      refine jcat hown hts htab [(0, 12, 15, 21)] (0, 12, 19, 13) [] rfl (fun z hz => by obtain rfl := List.mem_singleton.mp hz; exact ⟨by decide, xI, gw601, hN.2.1.1⟩) (by decide) (by decide) gw175 (va_Nw.use rfl (hT.2.1.1 xA (Or.inr (Or.inl rfl)))) z1 z2 z3 ?_
      refine lv_astore hx hb (dd_of dL_command_0 13 rfl) hl (by decide) rfl (fun ls hl => ?_)
      refine lv_iconst (v := 2) hx hb (dd_of dL_command_0 14 rfl) (by decide) ?_
      subst hQ
      refine W.widen (k := 9) (n := 64) (Nat.le_of_ble_eq_true rfl) (Nat.le_of_ble_eq_true rfl) ?_
      exact W.iret (v := 2) hx hb hr (fun t ht hW => ⟨⟨2, (((B, (F, G)), M), O), rfl, ⟨Or.inr ⟨hg0, by rw [hcod]; rfl, rfl⟩, fun _ _ => rfl⟩, by rw [ht]; exact hV, va_K.moved hW.alike hK, hD⟩, hS.F ht⟩) hS.2.2 (dd_of dL_command_0 15 rfl) hlk
  · skip
    obtain ⟨⟨B1, F1, G1⟩, M1⟩ := u
    obtain ⟨hp, hB1⟩ := hp
    have hB1 : ∀ k, k < 100 → B1 k = B k := hB1
    have hp : (gX11_command F G M p1 p2 p3) = (0, (x, ((F1, G1), M1))) := hp
    have hV : va_P D vwCl (wW yy oa O (pV yy h0 an B1 B2 F1 G1 F2 G2 M1) Y) H := hV
    have hD : va_D Z (wW yy oa O (pV yy h0 an B1 B2 F1 G1 F2 G2 M1) Y) := hD
    refine lv_i2l (v := (Int32.toInt64 x)) hx hb (dd_of dL_command_0 7 rfl) rfl ?_
    obtain ⟨P9, hP9⟩ : ∃ z, z = (pV yy h0 an B1 B2 F1 G1 F2 G2 M1) := ⟨_, rfl⟩
    rw [← hP9] at hV hD
    refine va_last hx hb hK hV hD hS 0 1 rfl rfl (vin_lit (by decide)) (dd_of dL_command_0 8 rfl) (fun H locs hV hD hS => ?_)
    have hV : va_P D vwCl (wW yy oa (vp_updL O 0 (Int32.toInt64 x)) P9 Y) H := hV
    have hD : va_D Z (wW yy oa (vp_updL O 0 (Int32.toInt64 x)) P9 Y) := hD
    rw [hP9] at hV hD
    refine lv_goto (tgt := 23) hx hb (dd_of dL_command_0 9 rfl) (by decide) ?_
    refine lv_iconst (v := 0) hx hb (dd_of dL_command_0 16 rfl) (by decide) ?_
    subst hQ
    refine W.widen (k := 9) (n := 64) (Nat.le_of_ble_eq_true rfl) (Nat.le_of_ble_eq_true rfl) ?_
    exact W.iret (v := 0) hx hb hr (fun t ht hW => ⟨⟨0, (((B1, (F1, G1)), M1), (vp_updL O 0 (Int32.toInt64 x))), rfl, ⟨Or.inl ⟨x, hp, rfl, rfl⟩, hB1⟩, by rw [ht]; exact hV, va_K.moved hW.alike hK, hD⟩, hS.F ht⟩) hS.2.2 (dd_of dL_command_0 17 rfl) hlk
set_option maxHeartbeats 4000000 in
set_option maxRecDepth 100000 in
theorem qL_drive (l : Launch) (hl9 : l.stackTraces = false) (D : va_G) (yy : Nat → ClassId) (oa h0 an : Nat) (O : Nat → Int64) (B B2 : Nat → Nat) (F : jF) (G : jG) (F2 : jF) (G2 : jG) (M : jF) (Y : va_W) (sz : Nat) (p1 : Int32) (p2 : Int32) (p3 : Int32) (hok : okX11_drive F G M p1 p2 p3) (hcod : (gX11_drive F G M p1 p2 p3).1 = 0 ∨ (gX11_drive F G M p1 p2 p3).1 = 1 ∨ (gX11_drive F G M p1 p2 p3).1 = 2 ∨ (gX11_drive F G M p1 p2 p3).1 = 3) : Met l yL_drive (Cond.codeWith yL_drive cL_drive 6 (some .int) [(0, 12, 15, 21), (0, 12, 19, 13), (0, 12, 23, 15)] :: wsL_law) rmL_drive (va_Pc [.ref h0, .int p1, .int p2, .int p3, .ref oa] (jZ D yy (wW yy oa O (pV yy h0 an B B2 F G F2 G2 M) Y) sz)) (va_Qi (fun (r : Int32) (u : (((Nat → Nat) × jS) × jF) × (Nat → Int64)) => ((∃ x, (gX11_drive F G M p1 p2 p3) = (0, (x, (u.1.1.2, u.1.2))) ∧ r = 0 ∧ u.2 = vp_updL O 0 (Int32.toInt64 x)) ∨ ((gX11_drive F G M p1 p2 p3).1 ≠ 0 ∧ r = wk 1 2 3 (gX11_drive F G M p1 p2 p3).1 ∧ u = (((B, (F, G)), M), O))) ∧ ∀ k, k < 100 → u.1.1.1 k = B k) (fun u t => jB D yy (va_A (wW yy oa O (pV yy h0 an B B2 F G F2 G2 M) Y) sz) (wW yy oa u.2 (pV yy h0 an u.1.1.1 B2 u.1.1.2.1 u.1.1.2.2 F2 G2 u.1.2) Y) t) (va_A (wW yy oa O (pV yy h0 an B B2 F G F2 G2 M) Y) sz)) 9 64 (va_A (wW yy oa O (pV yy h0 an B B2 F G F2 G2 M) Y) sz) := by
  refine jMW (vs := [.ref h0, .int p1, .int p2, .int p3, .ref oa]) (own := RL) (by decide +kernel) rfl (Nat.le_of_ble_eq_true rfl) ?_
  intro p e s m args below meth c ls Q hQ hargs S hr hlk htab hB hl
  obtain ⟨hx, hb, hml, hown, hts⟩ := S
  have hl : lv_has ls 6 [(0, .ref h0), (1, .int p1), (2, .int p2), (3, .int p3), (4, .ref oa)] := hl
  obtain ⟨⟨⟨hsz, hV, hK, hD0⟩, hT⟩, hN⟩ := hB
  subst hsz
  have hD := hD0.self (sz := s.heap.size)
  generalize hZ : va_A (wW yy oa O (pV yy h0 an B B2 F G F2 G2 M) Y) s.heap.size = Z at hD hQ hT
  have hA : ∀ q : Nat, s.heap.size ≤ q → Z q := fun q h => by rw [← hZ]; exact Or.inr h
  obtain ⟨H, hH⟩ : ∃ z, z = s.heap := ⟨_, rfl⟩
  obtain ⟨locs, hlocs⟩ : ∃ z : List Loc, z = [] := ⟨_, rfl⟩
  have hS : va_S Z s.heap H locs := by rw [hH, hlocs]; exact va_S.rf
  rw [← hH] at hV
  suffices hgo : W p l e rmL_drive s m args below meth c H locs 0 0 Q (F0 m 0 ls []) by rw [hH, hlocs] at hgo; exact hgo
  refine lv_aload hx hb (dd_of dL_drive_0 0 rfl) (lv_at hl 4 rfl) ?_
  refine lv_iconst (v := 0) hx hb (dd_of dL_drive_0 1 rfl) (by decide) ?_
  refine lv_aload_n hx hb (dd_of dL_drive_0 2 rfl) rfl (lv_at hl 0 rfl) ?_
  refine lv_iload_n hx hb (dd_of dL_drive_0 3 rfl) rfl (lv_at hl 1 rfl) ?_
  refine lv_iload_n hx hb (dd_of dL_drive_0 4 rfl) rfl (lv_at hl 2 rfl) ?_
  refine lv_iload_n hx hb (dd_of dL_drive_0 5 rfl) rfl (lv_at hl 3 rfl) ?_
  refine jq_i (As := [.int p1, .int p2, .int p3]) (rest := [.int 0, .ref oa]) (D := D) (yy := yy) (oa := oa) (O := O) (P0 := pV yy h0 an B B2 F G F2 G2 M) (Y := Y) (gc := (gX11_drive F G M p1 p2 p3).1) (w1 := fun u : ((Nat → Nat) × jS) × jF => pV yy h0 an u.1.1 B2 u.1.2.1 u.1.2.2 F2 G2 u.2) ⟨hx, hb, hml, hown, hts⟩ (qX11_drive l hl9 D yy h0 an B B2 F G F2 G2 M H.size p1 p2 p3 hok) (cwV 3 hts (jgV gw795 gw796 gw797 gw2 gw798) rfl rfl rfl (by decide +kernel) ⟨Nat.le_of_ble_eq_true rfl, Nat.le_of_ble_eq_true rfl⟩) hV hK hT hD hS hA (va_recv hK (wW_P hV) (ci := 11) (q0 := 0) rfl rfl) rfl hl.1 rfl (Nat.le_of_ble_eq_true rfl) (dd_of dL_drive_0 6 rfl) ⟨Nat.le_of_ble_eq_true rfl, Nat.le_of_ble_eq_true rfl⟩ (fun E ce q9 H locs hg0 hE9 hV hS z1 z2 z3 => ?_) (fun x u H locs hp hV hD hS => ?_)
  · rcases hcod with hcod | hcod | hcod | hcod
    · exact absurd hcod hg0
    · have hE9 : E = xI := by rw [hE9, hcod]; rfl
      subst hE9
      refine jcat hown hts htab [] (0, 12, 15, 21) [(0, 12, 19, 13), (0, 12, 23, 15)] rfl (fun z hz => absurd hz List.not_mem_nil) (by decide) (by decide) gw601 (va_Nw.use rfl (hT.2.1.1 xI (Or.inl rfl))) z1 z2 z3 ?_
      refine lv_astore hx hb (dd_of dL_drive_0 10 rfl) hl (by decide) rfl (fun ls hl => ?_)
      refine lv_iconst (v := 1) hx hb (dd_of dL_drive_0 11 rfl) (by decide) ?_
      subst hQ
      refine W.widen (k := 9) (n := 64) (Nat.le_of_ble_eq_true rfl) (Nat.le_of_ble_eq_true rfl) ?_
      exact W.iret (v := 1) hx hb hr (fun t ht hW => ⟨⟨1, (((B, (F, G)), M), O), rfl, ⟨Or.inr ⟨hg0, by rw [hcod]; rfl, rfl⟩, fun _ _ => rfl⟩, by rw [ht]; exact hV, va_K.moved hW.alike hK, hD⟩, hS.F ht⟩) hS.2.2 (dd_of dL_drive_0 12 rfl) hlk
    · have hE9 : E = xA := by rw [hE9, hcod]; rfl
      subst hE9
      refine jcat hown hts htab [(0, 12, 15, 21)] (0, 12, 19, 13) [(0, 12, 23, 15)] rfl (fun z hz => by obtain rfl := List.mem_singleton.mp hz; exact ⟨by decide, xI, gw601, hN.2.1.1⟩) (by decide) (by decide) gw175 (va_Nw.use rfl (hT.2.1.1 xA (Or.inr (Or.inl rfl)))) z1 z2 z3 ?_
      refine lv_astore hx hb (dd_of dL_drive_0 13 rfl) hl (by decide) rfl (fun ls hl => ?_)
      refine lv_iconst (v := 2) hx hb (dd_of dL_drive_0 14 rfl) (by decide) ?_
      subst hQ
      refine W.widen (k := 9) (n := 64) (Nat.le_of_ble_eq_true rfl) (Nat.le_of_ble_eq_true rfl) ?_
      exact W.iret (v := 2) hx hb hr (fun t ht hW => ⟨⟨2, (((B, (F, G)), M), O), rfl, ⟨Or.inr ⟨hg0, by rw [hcod]; rfl, rfl⟩, fun _ _ => rfl⟩, by rw [ht]; exact hV, va_K.moved hW.alike hK, hD⟩, hS.F ht⟩) hS.2.2 (dd_of dL_drive_0 15 rfl) hlk
    · have hE9 : E = xS := by rw [hE9, hcod]; rfl
      subst hE9
      refine jcat hown hts htab [(0, 12, 15, 21), (0, 12, 19, 13)] (0, 12, 23, 15) [] rfl (fun z hz => by simp only [List.mem_cons, List.not_mem_nil, or_false] at hz; rcases hz with rfl | rfl <;> first | exact ⟨by decide, xI, gw601, hN.2.2.1⟩ | exact ⟨by decide, xA, gw175, hN.2.2.2⟩) (by decide) (by decide) gw176 (va_Nw.use rfl (hT.2.1.1 xS (Or.inr (Or.inr rfl)))) z1 z2 z3 ?_
      refine lv_astore hx hb (dd_of dL_drive_0 16 rfl) hl (by decide) rfl (fun ls hl => ?_)
      refine lv_iconst (v := 3) hx hb (dd_of dL_drive_0 17 rfl) (by decide) ?_
      subst hQ
      refine W.widen (k := 9) (n := 64) (Nat.le_of_ble_eq_true rfl) (Nat.le_of_ble_eq_true rfl) ?_
      exact W.iret (v := 3) hx hb hr (fun t ht hW => ⟨⟨3, (((B, (F, G)), M), O), rfl, ⟨Or.inr ⟨hg0, by rw [hcod]; rfl, rfl⟩, fun _ _ => rfl⟩, by rw [ht]; exact hV, va_K.moved hW.alike hK, hD⟩, hS.F ht⟩) hS.2.2 (dd_of dL_drive_0 18 rfl) hlk
  · skip
    obtain ⟨⟨B1, F1, G1⟩, M1⟩ := u
    obtain ⟨hp, hB1⟩ := hp
    have hB1 : ∀ k, k < 100 → B1 k = B k := hB1
    have hp : (gX11_drive F G M p1 p2 p3) = (0, (x, ((F1, G1), M1))) := hp
    have hV : va_P D vwCl (wW yy oa O (pV yy h0 an B1 B2 F1 G1 F2 G2 M1) Y) H := hV
    have hD : va_D Z (wW yy oa O (pV yy h0 an B1 B2 F1 G1 F2 G2 M1) Y) := hD
    refine lv_i2l (v := (Int32.toInt64 x)) hx hb (dd_of dL_drive_0 7 rfl) rfl ?_
    obtain ⟨P9, hP9⟩ : ∃ z, z = (pV yy h0 an B1 B2 F1 G1 F2 G2 M1) := ⟨_, rfl⟩
    rw [← hP9] at hV hD
    refine va_last hx hb hK hV hD hS 0 1 rfl rfl (vin_lit (by decide)) (dd_of dL_drive_0 8 rfl) (fun H locs hV hD hS => ?_)
    have hV : va_P D vwCl (wW yy oa (vp_updL O 0 (Int32.toInt64 x)) P9 Y) H := hV
    have hD : va_D Z (wW yy oa (vp_updL O 0 (Int32.toInt64 x)) P9 Y) := hD
    rw [hP9] at hV hD
    refine lv_goto (tgt := 27) hx hb (dd_of dL_drive_0 9 rfl) (by decide) ?_
    refine lv_iconst (v := 0) hx hb (dd_of dL_drive_0 19 rfl) (by decide) ?_
    subst hQ
    refine W.widen (k := 9) (n := 64) (Nat.le_of_ble_eq_true rfl) (Nat.le_of_ble_eq_true rfl) ?_
    exact W.iret (v := 0) hx hb hr (fun t ht hW => ⟨⟨0, (((B1, (F1, G1)), M1), (vp_updL O 0 (Int32.toInt64 x))), rfl, ⟨Or.inl ⟨x, hp, rfl, rfl⟩, hB1⟩, by rw [ht]; exact hV, va_K.moved hW.alike hK, hD⟩, hS.F ht⟩) hS.2.2 (dd_of dL_drive_0 20 rfl) hlk
set_option maxHeartbeats 4000000 in
set_option maxRecDepth 100000 in
theorem qL_mend (l : Launch) (hl9 : l.stackTraces = false) (D : va_G) (yy : Nat → ClassId) (oa h0 an : Nat) (O : Nat → Int64) (B B2 : Nat → Nat) (F : jF) (G : jG) (F2 : jF) (G2 : jG) (M : jF) (Y : va_W) (sz : Nat) (p1 : Int32) (hok : okX11_mend F G M p1) (hcod : (gX11_mend F G M p1).1 = 0 ∨ (gX11_mend F G M p1).1 = 1 ∨ (gX11_mend F G M p1).1 = 3) : Met l yL_mend (Cond.codeWith yL_mend cL_mend 4 (some .int) [(0, 9, 12, 21), (0, 9, 15, 15)] :: wsL_law) rmL_mend (va_Pc [.ref h0, .int p1, .ref oa] (jZ D yy (wW yy oa O (pV yy h0 an B B2 F G F2 G2 M) Y) sz)) (va_Qi (fun (r : Int32) (u : (((Nat → Nat) × jS) × jF) × (Nat → Int64)) => ((∃ x, (gX11_mend F G M p1) = (0, (x, (u.1.1.2, u.1.2))) ∧ r = 0 ∧ u.2 = vp_updL O 0 (Int32.toInt64 x)) ∨ ((gX11_mend F G M p1).1 ≠ 0 ∧ r = wk 1 3 9 (gX11_mend F G M p1).1 ∧ u = (((B, (F, G)), M), O))) ∧ ∀ k, k < 100 → u.1.1.1 k = B k) (fun u t => jB D yy (va_A (wW yy oa O (pV yy h0 an B B2 F G F2 G2 M) Y) sz) (wW yy oa u.2 (pV yy h0 an u.1.1.1 B2 u.1.1.2.1 u.1.1.2.2 F2 G2 u.1.2) Y) t) (va_A (wW yy oa O (pV yy h0 an B B2 F G F2 G2 M) Y) sz)) 9 64 (va_A (wW yy oa O (pV yy h0 an B B2 F G F2 G2 M) Y) sz) := by
  refine jMW (vs := [.ref h0, .int p1, .ref oa]) (own := RL) (by decide +kernel) rfl (Nat.le_of_ble_eq_true rfl) ?_
  intro p e s m args below meth c ls Q hQ hargs S hr hlk htab hB hl
  obtain ⟨hx, hb, hml, hown, hts⟩ := S
  have hl : lv_has ls 4 [(0, .ref h0), (1, .int p1), (2, .ref oa)] := hl
  obtain ⟨⟨⟨hsz, hV, hK, hD0⟩, hT⟩, hN⟩ := hB
  subst hsz
  have hD := hD0.self (sz := s.heap.size)
  generalize hZ : va_A (wW yy oa O (pV yy h0 an B B2 F G F2 G2 M) Y) s.heap.size = Z at hD hQ hT
  have hA : ∀ q : Nat, s.heap.size ≤ q → Z q := fun q h => by rw [← hZ]; exact Or.inr h
  obtain ⟨H, hH⟩ : ∃ z, z = s.heap := ⟨_, rfl⟩
  obtain ⟨locs, hlocs⟩ : ∃ z : List Loc, z = [] := ⟨_, rfl⟩
  have hS : va_S Z s.heap H locs := by rw [hH, hlocs]; exact va_S.rf
  rw [← hH] at hV
  suffices hgo : W p l e rmL_mend s m args below meth c H locs 0 0 Q (F0 m 0 ls []) by rw [hH, hlocs] at hgo; exact hgo
  refine lv_aload_n hx hb (dd_of dL_mend_0 0 rfl) rfl (lv_at hl 2 rfl) ?_
  refine lv_iconst (v := 0) hx hb (dd_of dL_mend_0 1 rfl) (by decide) ?_
  refine lv_aload_n hx hb (dd_of dL_mend_0 2 rfl) rfl (lv_at hl 0 rfl) ?_
  refine lv_iload_n hx hb (dd_of dL_mend_0 3 rfl) rfl (lv_at hl 1 rfl) ?_
  refine jq_i (As := [.int p1]) (rest := [.int 0, .ref oa]) (D := D) (yy := yy) (oa := oa) (O := O) (P0 := pV yy h0 an B B2 F G F2 G2 M) (Y := Y) (gc := (gX11_mend F G M p1).1) (w1 := fun u : ((Nat → Nat) × jS) × jF => pV yy h0 an u.1.1 B2 u.1.2.1 u.1.2.2 F2 G2 u.2) ⟨hx, hb, hml, hown, hts⟩ (qX11_mend l hl9 D yy h0 an B B2 F G F2 G2 M H.size p1 hok) (cwV 1 hts (jgV gw818 gw819 gw820 gw2 gw821) rfl rfl rfl (by decide +kernel) ⟨Nat.le_of_ble_eq_true rfl, Nat.le_of_ble_eq_true rfl⟩) hV hK hT hD hS hA (va_recv hK (wW_P hV) (ci := 11) (q0 := 0) rfl rfl) rfl hl.1 rfl (Nat.le_of_ble_eq_true rfl) (dd_of dL_mend_0 4 rfl) ⟨Nat.le_of_ble_eq_true rfl, Nat.le_of_ble_eq_true rfl⟩ (fun E ce q9 H locs hg0 hE9 hV hS z1 z2 z3 => ?_) (fun x u H locs hp hV hD hS => ?_)
  · rcases hcod with hcod | hcod | hcod
    · exact absurd hcod hg0
    · have hE9 : E = xI := by rw [hE9, hcod]; rfl
      subst hE9
      refine jcat hown hts htab [] (0, 9, 12, 21) [(0, 9, 15, 15)] rfl (fun z hz => absurd hz List.not_mem_nil) (by decide) (by decide) gw601 (va_Nw.use rfl (hT.2.1.1 xI (Or.inl rfl))) z1 z2 z3 ?_
      refine lv_astore_n hx hb (dd_of dL_mend_0 8 rfl) rfl hl (by decide) rfl (fun ls hl => ?_)
      refine lv_iconst (v := 1) hx hb (dd_of dL_mend_0 9 rfl) (by decide) ?_
      subst hQ
      refine W.widen (k := 9) (n := 64) (Nat.le_of_ble_eq_true rfl) (Nat.le_of_ble_eq_true rfl) ?_
      exact W.iret (v := 1) hx hb hr (fun t ht hW => ⟨⟨1, (((B, (F, G)), M), O), rfl, ⟨Or.inr ⟨hg0, by rw [hcod]; rfl, rfl⟩, fun _ _ => rfl⟩, by rw [ht]; exact hV, va_K.moved hW.alike hK, hD⟩, hS.F ht⟩) hS.2.2 (dd_of dL_mend_0 10 rfl) hlk
    · have hE9 : E = xS := by rw [hE9, hcod]; rfl
      subst hE9
      refine jcat hown hts htab [(0, 9, 12, 21)] (0, 9, 15, 15) [] rfl (fun z hz => by obtain rfl := List.mem_singleton.mp hz; exact ⟨by decide, xI, gw601, hN.2.2.1⟩) (by decide) (by decide) gw176 (va_Nw.use rfl (hT.2.1.1 xS (Or.inr (Or.inr rfl)))) z1 z2 z3 ?_
      refine lv_astore_n hx hb (dd_of dL_mend_0 11 rfl) rfl hl (by decide) rfl (fun ls hl => ?_)
      refine lv_iconst (v := 2) hx hb (dd_of dL_mend_0 12 rfl) (by decide) ?_
      subst hQ
      refine W.widen (k := 9) (n := 64) (Nat.le_of_ble_eq_true rfl) (Nat.le_of_ble_eq_true rfl) ?_
      exact W.iret (v := 2) hx hb hr (fun t ht hW => ⟨⟨2, (((B, (F, G)), M), O), rfl, ⟨Or.inr ⟨hg0, by rw [hcod]; rfl, rfl⟩, fun _ _ => rfl⟩, by rw [ht]; exact hV, va_K.moved hW.alike hK, hD⟩, hS.F ht⟩) hS.2.2 (dd_of dL_mend_0 13 rfl) hlk
  · skip
    obtain ⟨⟨B1, F1, G1⟩, M1⟩ := u
    obtain ⟨hp, hB1⟩ := hp
    have hB1 : ∀ k, k < 100 → B1 k = B k := hB1
    have hp : (gX11_mend F G M p1) = (0, (x, ((F1, G1), M1))) := hp
    have hV : va_P D vwCl (wW yy oa O (pV yy h0 an B1 B2 F1 G1 F2 G2 M1) Y) H := hV
    have hD : va_D Z (wW yy oa O (pV yy h0 an B1 B2 F1 G1 F2 G2 M1) Y) := hD
    refine lv_i2l (v := (Int32.toInt64 x)) hx hb (dd_of dL_mend_0 5 rfl) rfl ?_
    obtain ⟨P9, hP9⟩ : ∃ z, z = (pV yy h0 an B1 B2 F1 G1 F2 G2 M1) := ⟨_, rfl⟩
    rw [← hP9] at hV hD
    refine va_last hx hb hK hV hD hS 0 1 rfl rfl (vin_lit (by decide)) (dd_of dL_mend_0 6 rfl) (fun H locs hV hD hS => ?_)
    have hV : va_P D vwCl (wW yy oa (vp_updL O 0 (Int32.toInt64 x)) P9 Y) H := hV
    have hD : va_D Z (wW yy oa (vp_updL O 0 (Int32.toInt64 x)) P9 Y) := hD
    rw [hP9] at hV hD
    refine lv_goto (tgt := 18) hx hb (dd_of dL_mend_0 7 rfl) (by decide) ?_
    refine lv_iconst (v := 0) hx hb (dd_of dL_mend_0 14 rfl) (by decide) ?_
    subst hQ
    refine W.widen (k := 9) (n := 64) (Nat.le_of_ble_eq_true rfl) (Nat.le_of_ble_eq_true rfl) ?_
    exact W.iret (v := 0) hx hb hr (fun t ht hW => ⟨⟨0, (((B1, (F1, G1)), M1), (vp_updL O 0 (Int32.toInt64 x))), rfl, ⟨Or.inl ⟨x, hp, rfl, rfl⟩, hB1⟩, by rw [ht]; exact hV, va_K.moved hW.alike hK, hD⟩, hS.F ht⟩) hS.2.2 (dd_of dL_mend_0 15 rfl) hlk
set_option maxHeartbeats 4000000 in
set_option maxRecDepth 100000 in
theorem qL_send (l : Launch) (hl9 : l.stackTraces = false) (D : va_G) (yy : Nat → ClassId) (oa h0 an : Nat) (O : Nat → Int64) (B B2 : Nat → Nat) (F : jF) (G : jG) (F2 : jF) (G2 : jG) (M : jF) (Y : va_W) (sz : Nat) (p1 : Int32) (p2 : Int32) (p3 : Int32) (hok : okX11_send F G M p1 p2 p3) (hcod : (gX11_send F G M p1 p2 p3).1 = 0 ∨ (gX11_send F G M p1 p2 p3).1 = 1 ∨ (gX11_send F G M p1 p2 p3).1 = 2 ∨ (gX11_send F G M p1 p2 p3).1 = 3) : Met l yL_send (Cond.codeWith yL_send cL_send 6 (some .int) [(0, 12, 15, 21), (0, 12, 19, 13), (0, 12, 23, 15)] :: wsL_law) rmL_send (va_Pc [.ref h0, .int p1, .int p2, .int p3, .ref oa] (jZ D yy (wW yy oa O (pV yy h0 an B B2 F G F2 G2 M) Y) sz)) (va_Qi (fun (r : Int32) (u : (((Nat → Nat) × jS) × jF) × (Nat → Int64)) => ((∃ x, (gX11_send F G M p1 p2 p3) = (0, (x, (u.1.1.2, u.1.2))) ∧ r = 0 ∧ u.2 = vp_updL O 0 (Int32.toInt64 x)) ∨ ((gX11_send F G M p1 p2 p3).1 ≠ 0 ∧ r = wk 1 2 3 (gX11_send F G M p1 p2 p3).1 ∧ u = (((B, (F, G)), M), O))) ∧ ∀ k, k < 100 → u.1.1.1 k = B k) (fun u t => jB D yy (va_A (wW yy oa O (pV yy h0 an B B2 F G F2 G2 M) Y) sz) (wW yy oa u.2 (pV yy h0 an u.1.1.1 B2 u.1.1.2.1 u.1.1.2.2 F2 G2 u.1.2) Y) t) (va_A (wW yy oa O (pV yy h0 an B B2 F G F2 G2 M) Y) sz)) 9 64 (va_A (wW yy oa O (pV yy h0 an B B2 F G F2 G2 M) Y) sz) := by
  refine jMW (vs := [.ref h0, .int p1, .int p2, .int p3, .ref oa]) (own := RL) (by decide +kernel) rfl (Nat.le_of_ble_eq_true rfl) ?_
  intro p e s m args below meth c ls Q hQ hargs S hr hlk htab hB hl
  obtain ⟨hx, hb, hml, hown, hts⟩ := S
  have hl : lv_has ls 6 [(0, .ref h0), (1, .int p1), (2, .int p2), (3, .int p3), (4, .ref oa)] := hl
  obtain ⟨⟨⟨hsz, hV, hK, hD0⟩, hT⟩, hN⟩ := hB
  subst hsz
  have hD := hD0.self (sz := s.heap.size)
  generalize hZ : va_A (wW yy oa O (pV yy h0 an B B2 F G F2 G2 M) Y) s.heap.size = Z at hD hQ hT
  have hA : ∀ q : Nat, s.heap.size ≤ q → Z q := fun q h => by rw [← hZ]; exact Or.inr h
  obtain ⟨H, hH⟩ : ∃ z, z = s.heap := ⟨_, rfl⟩
  obtain ⟨locs, hlocs⟩ : ∃ z : List Loc, z = [] := ⟨_, rfl⟩
  have hS : va_S Z s.heap H locs := by rw [hH, hlocs]; exact va_S.rf
  rw [← hH] at hV
  suffices hgo : W p l e rmL_send s m args below meth c H locs 0 0 Q (F0 m 0 ls []) by rw [hH, hlocs] at hgo; exact hgo
  refine lv_aload hx hb (dd_of dL_send_0 0 rfl) (lv_at hl 4 rfl) ?_
  refine lv_iconst (v := 0) hx hb (dd_of dL_send_0 1 rfl) (by decide) ?_
  refine lv_aload_n hx hb (dd_of dL_send_0 2 rfl) rfl (lv_at hl 0 rfl) ?_
  refine lv_iload_n hx hb (dd_of dL_send_0 3 rfl) rfl (lv_at hl 1 rfl) ?_
  refine lv_iload_n hx hb (dd_of dL_send_0 4 rfl) rfl (lv_at hl 2 rfl) ?_
  refine lv_iload_n hx hb (dd_of dL_send_0 5 rfl) rfl (lv_at hl 3 rfl) ?_
  refine jq_i (As := [.int p1, .int p2, .int p3]) (rest := [.int 0, .ref oa]) (D := D) (yy := yy) (oa := oa) (O := O) (P0 := pV yy h0 an B B2 F G F2 G2 M) (Y := Y) (gc := (gX11_send F G M p1 p2 p3).1) (w1 := fun u : ((Nat → Nat) × jS) × jF => pV yy h0 an u.1.1 B2 u.1.2.1 u.1.2.2 F2 G2 u.2) ⟨hx, hb, hml, hown, hts⟩ (qX11_send l hl9 D yy h0 an B B2 F G F2 G2 M H.size p1 p2 p3 hok) (cwV 3 hts (jgV gw830 gw831 gw832 gw2 gw833) rfl rfl rfl (by decide +kernel) ⟨Nat.le_of_ble_eq_true rfl, Nat.le_of_ble_eq_true rfl⟩) hV hK hT hD hS hA (va_recv hK (wW_P hV) (ci := 11) (q0 := 0) rfl rfl) rfl hl.1 rfl (Nat.le_of_ble_eq_true rfl) (dd_of dL_send_0 6 rfl) ⟨Nat.le_of_ble_eq_true rfl, Nat.le_of_ble_eq_true rfl⟩ (fun E ce q9 H locs hg0 hE9 hV hS z1 z2 z3 => ?_) (fun x u H locs hp hV hD hS => ?_)
  · rcases hcod with hcod | hcod | hcod | hcod
    · exact absurd hcod hg0
    · have hE9 : E = xI := by rw [hE9, hcod]; rfl
      subst hE9
      refine jcat hown hts htab [] (0, 12, 15, 21) [(0, 12, 19, 13), (0, 12, 23, 15)] rfl (fun z hz => absurd hz List.not_mem_nil) (by decide) (by decide) gw601 (va_Nw.use rfl (hT.2.1.1 xI (Or.inl rfl))) z1 z2 z3 ?_
      refine lv_astore hx hb (dd_of dL_send_0 10 rfl) hl (by decide) rfl (fun ls hl => ?_)
      refine lv_iconst (v := 1) hx hb (dd_of dL_send_0 11 rfl) (by decide) ?_
      subst hQ
      refine W.widen (k := 9) (n := 64) (Nat.le_of_ble_eq_true rfl) (Nat.le_of_ble_eq_true rfl) ?_
      exact W.iret (v := 1) hx hb hr (fun t ht hW => ⟨⟨1, (((B, (F, G)), M), O), rfl, ⟨Or.inr ⟨hg0, by rw [hcod]; rfl, rfl⟩, fun _ _ => rfl⟩, by rw [ht]; exact hV, va_K.moved hW.alike hK, hD⟩, hS.F ht⟩) hS.2.2 (dd_of dL_send_0 12 rfl) hlk
    · have hE9 : E = xA := by rw [hE9, hcod]; rfl
      subst hE9
      refine jcat hown hts htab [(0, 12, 15, 21)] (0, 12, 19, 13) [(0, 12, 23, 15)] rfl (fun z hz => by obtain rfl := List.mem_singleton.mp hz; exact ⟨by decide, xI, gw601, hN.2.1.1⟩) (by decide) (by decide) gw175 (va_Nw.use rfl (hT.2.1.1 xA (Or.inr (Or.inl rfl)))) z1 z2 z3 ?_
      refine lv_astore hx hb (dd_of dL_send_0 13 rfl) hl (by decide) rfl (fun ls hl => ?_)
      refine lv_iconst (v := 2) hx hb (dd_of dL_send_0 14 rfl) (by decide) ?_
      subst hQ
      refine W.widen (k := 9) (n := 64) (Nat.le_of_ble_eq_true rfl) (Nat.le_of_ble_eq_true rfl) ?_
      exact W.iret (v := 2) hx hb hr (fun t ht hW => ⟨⟨2, (((B, (F, G)), M), O), rfl, ⟨Or.inr ⟨hg0, by rw [hcod]; rfl, rfl⟩, fun _ _ => rfl⟩, by rw [ht]; exact hV, va_K.moved hW.alike hK, hD⟩, hS.F ht⟩) hS.2.2 (dd_of dL_send_0 15 rfl) hlk
    · have hE9 : E = xS := by rw [hE9, hcod]; rfl
      subst hE9
      refine jcat hown hts htab [(0, 12, 15, 21), (0, 12, 19, 13)] (0, 12, 23, 15) [] rfl (fun z hz => by simp only [List.mem_cons, List.not_mem_nil, or_false] at hz; rcases hz with rfl | rfl <;> first | exact ⟨by decide, xI, gw601, hN.2.2.1⟩ | exact ⟨by decide, xA, gw175, hN.2.2.2⟩) (by decide) (by decide) gw176 (va_Nw.use rfl (hT.2.1.1 xS (Or.inr (Or.inr rfl)))) z1 z2 z3 ?_
      refine lv_astore hx hb (dd_of dL_send_0 16 rfl) hl (by decide) rfl (fun ls hl => ?_)
      refine lv_iconst (v := 3) hx hb (dd_of dL_send_0 17 rfl) (by decide) ?_
      subst hQ
      refine W.widen (k := 9) (n := 64) (Nat.le_of_ble_eq_true rfl) (Nat.le_of_ble_eq_true rfl) ?_
      exact W.iret (v := 3) hx hb hr (fun t ht hW => ⟨⟨3, (((B, (F, G)), M), O), rfl, ⟨Or.inr ⟨hg0, by rw [hcod]; rfl, rfl⟩, fun _ _ => rfl⟩, by rw [ht]; exact hV, va_K.moved hW.alike hK, hD⟩, hS.F ht⟩) hS.2.2 (dd_of dL_send_0 18 rfl) hlk
  · skip
    obtain ⟨⟨B1, F1, G1⟩, M1⟩ := u
    obtain ⟨hp, hB1⟩ := hp
    have hB1 : ∀ k, k < 100 → B1 k = B k := hB1
    have hp : (gX11_send F G M p1 p2 p3) = (0, (x, ((F1, G1), M1))) := hp
    have hV : va_P D vwCl (wW yy oa O (pV yy h0 an B1 B2 F1 G1 F2 G2 M1) Y) H := hV
    have hD : va_D Z (wW yy oa O (pV yy h0 an B1 B2 F1 G1 F2 G2 M1) Y) := hD
    refine lv_i2l (v := (Int32.toInt64 x)) hx hb (dd_of dL_send_0 7 rfl) rfl ?_
    obtain ⟨P9, hP9⟩ : ∃ z, z = (pV yy h0 an B1 B2 F1 G1 F2 G2 M1) := ⟨_, rfl⟩
    rw [← hP9] at hV hD
    refine va_last hx hb hK hV hD hS 0 1 rfl rfl (vin_lit (by decide)) (dd_of dL_send_0 8 rfl) (fun H locs hV hD hS => ?_)
    have hV : va_P D vwCl (wW yy oa (vp_updL O 0 (Int32.toInt64 x)) P9 Y) H := hV
    have hD : va_D Z (wW yy oa (vp_updL O 0 (Int32.toInt64 x)) P9 Y) := hD
    rw [hP9] at hV hD
    refine lv_goto (tgt := 27) hx hb (dd_of dL_send_0 9 rfl) (by decide) ?_
    refine lv_iconst (v := 0) hx hb (dd_of dL_send_0 19 rfl) (by decide) ?_
    subst hQ
    refine W.widen (k := 9) (n := 64) (Nat.le_of_ble_eq_true rfl) (Nat.le_of_ble_eq_true rfl) ?_
    exact W.iret (v := 0) hx hb hr (fun t ht hW => ⟨⟨0, (((B1, (F1, G1)), M1), (vp_updL O 0 (Int32.toInt64 x))), rfl, ⟨Or.inl ⟨x, hp, rfl, rfl⟩, hB1⟩, by rw [ht]; exact hV, va_K.moved hW.alike hK, hD⟩, hS.F ht⟩) hS.2.2 (dd_of dL_send_0 20 rfl) hlk
set_option maxHeartbeats 4000000 in
set_option maxRecDepth 100000 in
theorem qL_budget (l : Launch) (hl9 : l.stackTraces = false) (D : va_G) (yy : Nat → ClassId) (oa h0 an : Nat) (O : Nat → Int64) (B B2 : Nat → Nat) (F : jF) (G : jG) (F2 : jF) (G2 : jG) (M : jF) (Y : va_W) (sz : Nat) (p1 : Int32) (p2 : Int32) (hok : okX11_budget F G M p1 p2) (hcod : (gX11_budget F G M p1 p2).1 = 0 ∨ (gX11_budget F G M p1 p2).1 = 2) : Met l yL_budget (Cond.codeWith yL_budget cL_budget 5 (some .int) [(0, 10, 13, 13)] :: wsL_law) rmL_budget (va_Pc [.ref h0, .int p1, .int p2, .ref oa] (jZ D yy (wW yy oa O (pV yy h0 an B B2 F G F2 G2 M) Y) sz)) (va_Qi (fun (r : Int32) (u : (((Nat → Nat) × jS) × jF) × (Nat → Int64)) => ((∃ x, (gX11_budget F G M p1 p2) = (0, (x, (u.1.1.2, u.1.2))) ∧ r = 0 ∧ u.2 = vp_updL O 0 (Int32.toInt64 x)) ∨ ((gX11_budget F G M p1 p2).1 ≠ 0 ∧ r = wk 2 9 9 (gX11_budget F G M p1 p2).1 ∧ u = (((B, (F, G)), M), O))) ∧ ∀ k, k < 100 → u.1.1.1 k = B k) (fun u t => jB D yy (va_A (wW yy oa O (pV yy h0 an B B2 F G F2 G2 M) Y) sz) (wW yy oa u.2 (pV yy h0 an u.1.1.1 B2 u.1.1.2.1 u.1.1.2.2 F2 G2 u.1.2) Y) t) (va_A (wW yy oa O (pV yy h0 an B B2 F G F2 G2 M) Y) sz)) 9 64 (va_A (wW yy oa O (pV yy h0 an B B2 F G F2 G2 M) Y) sz) := by
  refine jMW (vs := [.ref h0, .int p1, .int p2, .ref oa]) (own := RL) (by decide +kernel) rfl (Nat.le_of_ble_eq_true rfl) ?_
  intro p e s m args below meth c ls Q hQ hargs S hr hlk htab hB hl
  obtain ⟨hx, hb, hml, hown, hts⟩ := S
  have hl : lv_has ls 5 [(0, .ref h0), (1, .int p1), (2, .int p2), (3, .ref oa)] := hl
  obtain ⟨⟨⟨hsz, hV, hK, hD0⟩, hT⟩, hN⟩ := hB
  subst hsz
  have hD := hD0.self (sz := s.heap.size)
  generalize hZ : va_A (wW yy oa O (pV yy h0 an B B2 F G F2 G2 M) Y) s.heap.size = Z at hD hQ hT
  have hA : ∀ q : Nat, s.heap.size ≤ q → Z q := fun q h => by rw [← hZ]; exact Or.inr h
  obtain ⟨H, hH⟩ : ∃ z, z = s.heap := ⟨_, rfl⟩
  obtain ⟨locs, hlocs⟩ : ∃ z : List Loc, z = [] := ⟨_, rfl⟩
  have hS : va_S Z s.heap H locs := by rw [hH, hlocs]; exact va_S.rf
  rw [← hH] at hV
  suffices hgo : W p l e rmL_budget s m args below meth c H locs 0 0 Q (F0 m 0 ls []) by rw [hH, hlocs] at hgo; exact hgo
  refine lv_aload_n hx hb (dd_of dL_budget_0 0 rfl) rfl (lv_at hl 3 rfl) ?_
  refine lv_iconst (v := 0) hx hb (dd_of dL_budget_0 1 rfl) (by decide) ?_
  refine lv_aload_n hx hb (dd_of dL_budget_0 2 rfl) rfl (lv_at hl 0 rfl) ?_
  refine lv_iload_n hx hb (dd_of dL_budget_0 3 rfl) rfl (lv_at hl 1 rfl) ?_
  refine lv_iload_n hx hb (dd_of dL_budget_0 4 rfl) rfl (lv_at hl 2 rfl) ?_
  refine jq_i (As := [.int p1, .int p2]) (rest := [.int 0, .ref oa]) (D := D) (yy := yy) (oa := oa) (O := O) (P0 := pV yy h0 an B B2 F G F2 G2 M) (Y := Y) (gc := (gX11_budget F G M p1 p2).1) (w1 := fun u : ((Nat → Nat) × jS) × jF => pV yy h0 an u.1.1 B2 u.1.2.1 u.1.2.2 F2 G2 u.2) ⟨hx, hb, hml, hown, hts⟩ (qX11_budget l hl9 D yy h0 an B B2 F G F2 G2 M H.size p1 p2 hok) (cwV 2 hts (jgV gw851 gw852 gw853 gw2 gw854) rfl rfl rfl (by decide +kernel) ⟨Nat.le_of_ble_eq_true rfl, Nat.le_of_ble_eq_true rfl⟩) hV hK hT hD hS hA (va_recv hK (wW_P hV) (ci := 11) (q0 := 0) rfl rfl) rfl hl.1 rfl (Nat.le_of_ble_eq_true rfl) (dd_of dL_budget_0 5 rfl) ⟨Nat.le_of_ble_eq_true rfl, Nat.le_of_ble_eq_true rfl⟩ (fun E ce q9 H locs hg0 hE9 hV hS z1 z2 z3 => ?_) (fun x u H locs hp hV hD hS => ?_)
  · rcases hcod with hcod | hcod
    · exact absurd hcod hg0
    · have hE9 : E = xA := by rw [hE9, hcod]; rfl
      subst hE9
      refine jcat hown hts htab [] (0, 10, 13, 13) [] rfl (fun z hz => absurd hz List.not_mem_nil) (by decide) (by decide) gw175 (va_Nw.use rfl (hT.2.1.1 xA (Or.inr (Or.inl rfl)))) z1 z2 z3 ?_
      refine lv_astore hx hb (dd_of dL_budget_0 9 rfl) hl (by decide) rfl (fun ls hl => ?_)
      refine lv_iconst (v := 1) hx hb (dd_of dL_budget_0 10 rfl) (by decide) ?_
      subst hQ
      refine W.widen (k := 9) (n := 64) (Nat.le_of_ble_eq_true rfl) (Nat.le_of_ble_eq_true rfl) ?_
      exact W.iret (v := 1) hx hb hr (fun t ht hW => ⟨⟨1, (((B, (F, G)), M), O), rfl, ⟨Or.inr ⟨hg0, by rw [hcod]; rfl, rfl⟩, fun _ _ => rfl⟩, by rw [ht]; exact hV, va_K.moved hW.alike hK, hD⟩, hS.F ht⟩) hS.2.2 (dd_of dL_budget_0 11 rfl) hlk
  · skip
    obtain ⟨⟨B1, F1, G1⟩, M1⟩ := u
    obtain ⟨hp, hB1⟩ := hp
    have hB1 : ∀ k, k < 100 → B1 k = B k := hB1
    have hp : (gX11_budget F G M p1 p2) = (0, (x, ((F1, G1), M1))) := hp
    have hV : va_P D vwCl (wW yy oa O (pV yy h0 an B1 B2 F1 G1 F2 G2 M1) Y) H := hV
    have hD : va_D Z (wW yy oa O (pV yy h0 an B1 B2 F1 G1 F2 G2 M1) Y) := hD
    refine lv_i2l (v := (Int32.toInt64 x)) hx hb (dd_of dL_budget_0 6 rfl) rfl ?_
    obtain ⟨P9, hP9⟩ : ∃ z, z = (pV yy h0 an B1 B2 F1 G1 F2 G2 M1) := ⟨_, rfl⟩
    rw [← hP9] at hV hD
    refine va_last hx hb hK hV hD hS 0 1 rfl rfl (vin_lit (by decide)) (dd_of dL_budget_0 7 rfl) (fun H locs hV hD hS => ?_)
    have hV : va_P D vwCl (wW yy oa (vp_updL O 0 (Int32.toInt64 x)) P9 Y) H := hV
    have hD : va_D Z (wW yy oa (vp_updL O 0 (Int32.toInt64 x)) P9 Y) := hD
    rw [hP9] at hV hD
    refine lv_goto (tgt := 17) hx hb (dd_of dL_budget_0 8 rfl) (by decide) ?_
    refine lv_iconst (v := 0) hx hb (dd_of dL_budget_0 12 rfl) (by decide) ?_
    subst hQ
    refine W.widen (k := 9) (n := 64) (Nat.le_of_ble_eq_true rfl) (Nat.le_of_ble_eq_true rfl) ?_
    exact W.iret (v := 0) hx hb hr (fun t ht hW => ⟨⟨0, (((B1, (F1, G1)), M1), (vp_updL O 0 (Int32.toInt64 x))), rfl, ⟨Or.inl ⟨x, hp, rfl, rfl⟩, hB1⟩, by rw [ht]; exact hV, va_K.moved hW.alike hK, hD⟩, hS.F ht⟩) hS.2.2 (dd_of dL_budget_0 13 rfl) hlk
set_option maxHeartbeats 4000000 in
set_option maxRecDepth 100000 in
theorem qL_raise (l : Launch) (hl9 : l.stackTraces = false) (D : va_G) (yy : Nat → ClassId) (oa h0 an : Nat) (O : Nat → Int64) (B B2 : Nat → Nat) (F : jF) (G : jG) (F2 : jF) (G2 : jG) (M : jF) (Y : va_W) (sz : Nat) (p1 : Int32) (p2 : Int32) (p3 : Int32) (hok : okX11_raise F G M p1 p2 p3) (hcod : (gX11_raise F G M p1 p2 p3).1 = 0 ∨ (gX11_raise F G M p1 p2 p3).1 = 1 ∨ (gX11_raise F G M p1 p2 p3).1 = 2 ∨ (gX11_raise F G M p1 p2 p3).1 = 3) : Met l yL_raise (Cond.codeWith yL_raise cL_raise 6 (some .int) [(0, 12, 15, 21), (0, 12, 19, 13), (0, 12, 23, 15)] :: wsL_law) rmL_raise (va_Pc [.ref h0, .int p1, .int p2, .int p3, .ref oa] (jZ D yy (wW yy oa O (pV yy h0 an B B2 F G F2 G2 M) Y) sz)) (va_Qi (fun (r : Int32) (u : (((Nat → Nat) × jS) × jF) × (Nat → Int64)) => ((∃ x, (gX11_raise F G M p1 p2 p3) = (0, (x, (u.1.1.2, u.1.2))) ∧ r = 0 ∧ u.2 = vp_updL O 0 (Int32.toInt64 x)) ∨ ((gX11_raise F G M p1 p2 p3).1 ≠ 0 ∧ r = wk 1 2 3 (gX11_raise F G M p1 p2 p3).1 ∧ u = (((B, (F, G)), M), O))) ∧ ∀ k, k < 100 → u.1.1.1 k = B k) (fun u t => jB D yy (va_A (wW yy oa O (pV yy h0 an B B2 F G F2 G2 M) Y) sz) (wW yy oa u.2 (pV yy h0 an u.1.1.1 B2 u.1.1.2.1 u.1.1.2.2 F2 G2 u.1.2) Y) t) (va_A (wW yy oa O (pV yy h0 an B B2 F G F2 G2 M) Y) sz)) 9 64 (va_A (wW yy oa O (pV yy h0 an B B2 F G F2 G2 M) Y) sz) := by
  refine jMW (vs := [.ref h0, .int p1, .int p2, .int p3, .ref oa]) (own := RL) (by decide +kernel) rfl (Nat.le_of_ble_eq_true rfl) ?_
  intro p e s m args below meth c ls Q hQ hargs S hr hlk htab hB hl
  obtain ⟨hx, hb, hml, hown, hts⟩ := S
  have hl : lv_has ls 6 [(0, .ref h0), (1, .int p1), (2, .int p2), (3, .int p3), (4, .ref oa)] := hl
  obtain ⟨⟨⟨hsz, hV, hK, hD0⟩, hT⟩, hN⟩ := hB
  subst hsz
  have hD := hD0.self (sz := s.heap.size)
  generalize hZ : va_A (wW yy oa O (pV yy h0 an B B2 F G F2 G2 M) Y) s.heap.size = Z at hD hQ hT
  have hA : ∀ q : Nat, s.heap.size ≤ q → Z q := fun q h => by rw [← hZ]; exact Or.inr h
  obtain ⟨H, hH⟩ : ∃ z, z = s.heap := ⟨_, rfl⟩
  obtain ⟨locs, hlocs⟩ : ∃ z : List Loc, z = [] := ⟨_, rfl⟩
  have hS : va_S Z s.heap H locs := by rw [hH, hlocs]; exact va_S.rf
  rw [← hH] at hV
  suffices hgo : W p l e rmL_raise s m args below meth c H locs 0 0 Q (F0 m 0 ls []) by rw [hH, hlocs] at hgo; exact hgo
  refine lv_aload hx hb (dd_of dL_raise_0 0 rfl) (lv_at hl 4 rfl) ?_
  refine lv_iconst (v := 0) hx hb (dd_of dL_raise_0 1 rfl) (by decide) ?_
  refine lv_aload_n hx hb (dd_of dL_raise_0 2 rfl) rfl (lv_at hl 0 rfl) ?_
  refine lv_iload_n hx hb (dd_of dL_raise_0 3 rfl) rfl (lv_at hl 1 rfl) ?_
  refine lv_iload_n hx hb (dd_of dL_raise_0 4 rfl) rfl (lv_at hl 2 rfl) ?_
  refine lv_iload_n hx hb (dd_of dL_raise_0 5 rfl) rfl (lv_at hl 3 rfl) ?_
  refine jq_i (As := [.int p1, .int p2, .int p3]) (rest := [.int 0, .ref oa]) (D := D) (yy := yy) (oa := oa) (O := O) (P0 := pV yy h0 an B B2 F G F2 G2 M) (Y := Y) (gc := (gX11_raise F G M p1 p2 p3).1) (w1 := fun u : ((Nat → Nat) × jS) × jF => pV yy h0 an u.1.1 B2 u.1.2.1 u.1.2.2 F2 G2 u.2) ⟨hx, hb, hml, hown, hts⟩ (qX11_raise l hl9 D yy h0 an B B2 F G F2 G2 M H.size p1 p2 p3 hok) (cwV 3 hts (jgV gw863 gw864 gw865 gw2 gw866) rfl rfl rfl (by decide +kernel) ⟨Nat.le_of_ble_eq_true rfl, Nat.le_of_ble_eq_true rfl⟩) hV hK hT hD hS hA (va_recv hK (wW_P hV) (ci := 11) (q0 := 0) rfl rfl) rfl hl.1 rfl (Nat.le_of_ble_eq_true rfl) (dd_of dL_raise_0 6 rfl) ⟨Nat.le_of_ble_eq_true rfl, Nat.le_of_ble_eq_true rfl⟩ (fun E ce q9 H locs hg0 hE9 hV hS z1 z2 z3 => ?_) (fun x u H locs hp hV hD hS => ?_)
  · rcases hcod with hcod | hcod | hcod | hcod
    · exact absurd hcod hg0
    · have hE9 : E = xI := by rw [hE9, hcod]; rfl
      subst hE9
      refine jcat hown hts htab [] (0, 12, 15, 21) [(0, 12, 19, 13), (0, 12, 23, 15)] rfl (fun z hz => absurd hz List.not_mem_nil) (by decide) (by decide) gw601 (va_Nw.use rfl (hT.2.1.1 xI (Or.inl rfl))) z1 z2 z3 ?_
      refine lv_astore hx hb (dd_of dL_raise_0 10 rfl) hl (by decide) rfl (fun ls hl => ?_)
      refine lv_iconst (v := 1) hx hb (dd_of dL_raise_0 11 rfl) (by decide) ?_
      subst hQ
      refine W.widen (k := 9) (n := 64) (Nat.le_of_ble_eq_true rfl) (Nat.le_of_ble_eq_true rfl) ?_
      exact W.iret (v := 1) hx hb hr (fun t ht hW => ⟨⟨1, (((B, (F, G)), M), O), rfl, ⟨Or.inr ⟨hg0, by rw [hcod]; rfl, rfl⟩, fun _ _ => rfl⟩, by rw [ht]; exact hV, va_K.moved hW.alike hK, hD⟩, hS.F ht⟩) hS.2.2 (dd_of dL_raise_0 12 rfl) hlk
    · have hE9 : E = xA := by rw [hE9, hcod]; rfl
      subst hE9
      refine jcat hown hts htab [(0, 12, 15, 21)] (0, 12, 19, 13) [(0, 12, 23, 15)] rfl (fun z hz => by obtain rfl := List.mem_singleton.mp hz; exact ⟨by decide, xI, gw601, hN.2.1.1⟩) (by decide) (by decide) gw175 (va_Nw.use rfl (hT.2.1.1 xA (Or.inr (Or.inl rfl)))) z1 z2 z3 ?_
      refine lv_astore hx hb (dd_of dL_raise_0 13 rfl) hl (by decide) rfl (fun ls hl => ?_)
      refine lv_iconst (v := 2) hx hb (dd_of dL_raise_0 14 rfl) (by decide) ?_
      subst hQ
      refine W.widen (k := 9) (n := 64) (Nat.le_of_ble_eq_true rfl) (Nat.le_of_ble_eq_true rfl) ?_
      exact W.iret (v := 2) hx hb hr (fun t ht hW => ⟨⟨2, (((B, (F, G)), M), O), rfl, ⟨Or.inr ⟨hg0, by rw [hcod]; rfl, rfl⟩, fun _ _ => rfl⟩, by rw [ht]; exact hV, va_K.moved hW.alike hK, hD⟩, hS.F ht⟩) hS.2.2 (dd_of dL_raise_0 15 rfl) hlk
    · have hE9 : E = xS := by rw [hE9, hcod]; rfl
      subst hE9
      refine jcat hown hts htab [(0, 12, 15, 21), (0, 12, 19, 13)] (0, 12, 23, 15) [] rfl (fun z hz => by simp only [List.mem_cons, List.not_mem_nil, or_false] at hz; rcases hz with rfl | rfl <;> first | exact ⟨by decide, xI, gw601, hN.2.2.1⟩ | exact ⟨by decide, xA, gw175, hN.2.2.2⟩) (by decide) (by decide) gw176 (va_Nw.use rfl (hT.2.1.1 xS (Or.inr (Or.inr rfl)))) z1 z2 z3 ?_
      refine lv_astore hx hb (dd_of dL_raise_0 16 rfl) hl (by decide) rfl (fun ls hl => ?_)
      refine lv_iconst (v := 3) hx hb (dd_of dL_raise_0 17 rfl) (by decide) ?_
      subst hQ
      refine W.widen (k := 9) (n := 64) (Nat.le_of_ble_eq_true rfl) (Nat.le_of_ble_eq_true rfl) ?_
      exact W.iret (v := 3) hx hb hr (fun t ht hW => ⟨⟨3, (((B, (F, G)), M), O), rfl, ⟨Or.inr ⟨hg0, by rw [hcod]; rfl, rfl⟩, fun _ _ => rfl⟩, by rw [ht]; exact hV, va_K.moved hW.alike hK, hD⟩, hS.F ht⟩) hS.2.2 (dd_of dL_raise_0 18 rfl) hlk
  · skip
    obtain ⟨⟨B1, F1, G1⟩, M1⟩ := u
    obtain ⟨hp, hB1⟩ := hp
    have hB1 : ∀ k, k < 100 → B1 k = B k := hB1
    have hp : (gX11_raise F G M p1 p2 p3) = (0, (x, ((F1, G1), M1))) := hp
    have hV : va_P D vwCl (wW yy oa O (pV yy h0 an B1 B2 F1 G1 F2 G2 M1) Y) H := hV
    have hD : va_D Z (wW yy oa O (pV yy h0 an B1 B2 F1 G1 F2 G2 M1) Y) := hD
    refine lv_i2l (v := (Int32.toInt64 x)) hx hb (dd_of dL_raise_0 7 rfl) rfl ?_
    obtain ⟨P9, hP9⟩ : ∃ z, z = (pV yy h0 an B1 B2 F1 G1 F2 G2 M1) := ⟨_, rfl⟩
    rw [← hP9] at hV hD
    refine va_last hx hb hK hV hD hS 0 1 rfl rfl (vin_lit (by decide)) (dd_of dL_raise_0 8 rfl) (fun H locs hV hD hS => ?_)
    have hV : va_P D vwCl (wW yy oa (vp_updL O 0 (Int32.toInt64 x)) P9 Y) H := hV
    have hD : va_D Z (wW yy oa (vp_updL O 0 (Int32.toInt64 x)) P9 Y) := hD
    rw [hP9] at hV hD
    refine lv_goto (tgt := 27) hx hb (dd_of dL_raise_0 9 rfl) (by decide) ?_
    refine lv_iconst (v := 0) hx hb (dd_of dL_raise_0 19 rfl) (by decide) ?_
    subst hQ
    refine W.widen (k := 9) (n := 64) (Nat.le_of_ble_eq_true rfl) (Nat.le_of_ble_eq_true rfl) ?_
    exact W.iret (v := 0) hx hb hr (fun t ht hW => ⟨⟨0, (((B1, (F1, G1)), M1), (vp_updL O 0 (Int32.toInt64 x))), rfl, ⟨Or.inl ⟨x, hp, rfl, rfl⟩, hB1⟩, by rw [ht]; exact hV, va_K.moved hW.alike hK, hD⟩, hS.F ht⟩) hS.2.2 (dd_of dL_raise_0 20 rfl) hlk
set_option maxHeartbeats 4000000 in
set_option maxRecDepth 100000 in
theorem qL_run (l : Launch) (hl9 : l.stackTraces = false) (D : va_G) (yy : Nat → ClassId) (oa h0 an : Nat) (O : Nat → Int64) (B B2 : Nat → Nat) (F : jF) (G : jG) (F2 : jF) (G2 : jG) (M : jF) (Y : va_W) (sz : Nat) (p1 : Int32) (hok : okX11_run F G M p1) (hcod : (gX11_run F G M p1).1 = 0 ∨ (gX11_run F G M p1).1 = 2 ∨ (gX11_run F G M p1).1 = 3) : Met l yL_run (Cond.codeWith yL_run cL_run 4 (some .int) [(0, 9, 12, 13), (0, 9, 15, 15)] :: wsL_law) rmL_run (va_Pc [.ref h0, .int p1, .ref oa] (jZ D yy (wW yy oa O (pV yy h0 an B B2 F G F2 G2 M) Y) sz)) (va_Qi (fun (r : Int32) (u : (((Nat → Nat) × jS) × jF) × (Nat → Int64)) => ((∃ x, (gX11_run F G M p1) = (0, (x, (u.1.1.2, u.1.2))) ∧ r = 0 ∧ u.2 = vp_updL O 0 (Int32.toInt64 x)) ∨ ((gX11_run F G M p1).1 ≠ 0 ∧ r = wk 2 3 9 (gX11_run F G M p1).1 ∧ u = (((B, (F, G)), M), O))) ∧ ∀ k, k < 100 → u.1.1.1 k = B k) (fun u t => jB D yy (va_A (wW yy oa O (pV yy h0 an B B2 F G F2 G2 M) Y) sz) (wW yy oa u.2 (pV yy h0 an u.1.1.1 B2 u.1.1.2.1 u.1.1.2.2 F2 G2 u.1.2) Y) t) (va_A (wW yy oa O (pV yy h0 an B B2 F G F2 G2 M) Y) sz)) 9 64 (va_A (wW yy oa O (pV yy h0 an B B2 F G F2 G2 M) Y) sz) := by
  refine jMW (vs := [.ref h0, .int p1, .ref oa]) (own := RL) (by decide +kernel) rfl (Nat.le_of_ble_eq_true rfl) ?_
  intro p e s m args below meth c ls Q hQ hargs S hr hlk htab hB hl
  obtain ⟨hx, hb, hml, hown, hts⟩ := S
  have hl : lv_has ls 4 [(0, .ref h0), (1, .int p1), (2, .ref oa)] := hl
  obtain ⟨⟨⟨hsz, hV, hK, hD0⟩, hT⟩, hN⟩ := hB
  subst hsz
  have hD := hD0.self (sz := s.heap.size)
  generalize hZ : va_A (wW yy oa O (pV yy h0 an B B2 F G F2 G2 M) Y) s.heap.size = Z at hD hQ hT
  have hA : ∀ q : Nat, s.heap.size ≤ q → Z q := fun q h => by rw [← hZ]; exact Or.inr h
  obtain ⟨H, hH⟩ : ∃ z, z = s.heap := ⟨_, rfl⟩
  obtain ⟨locs, hlocs⟩ : ∃ z : List Loc, z = [] := ⟨_, rfl⟩
  have hS : va_S Z s.heap H locs := by rw [hH, hlocs]; exact va_S.rf
  rw [← hH] at hV
  suffices hgo : W p l e rmL_run s m args below meth c H locs 0 0 Q (F0 m 0 ls []) by rw [hH, hlocs] at hgo; exact hgo
  refine lv_aload_n hx hb (dd_of dL_run_0 0 rfl) rfl (lv_at hl 2 rfl) ?_
  refine lv_iconst (v := 0) hx hb (dd_of dL_run_0 1 rfl) (by decide) ?_
  refine lv_aload_n hx hb (dd_of dL_run_0 2 rfl) rfl (lv_at hl 0 rfl) ?_
  refine lv_iload_n hx hb (dd_of dL_run_0 3 rfl) rfl (lv_at hl 1 rfl) ?_
  refine jq_i (As := [.int p1]) (rest := [.int 0, .ref oa]) (D := D) (yy := yy) (oa := oa) (O := O) (P0 := pV yy h0 an B B2 F G F2 G2 M) (Y := Y) (gc := (gX11_run F G M p1).1) (w1 := fun u : ((Nat → Nat) × jS) × jF => pV yy h0 an u.1.1 B2 u.1.2.1 u.1.2.2 F2 G2 u.2) ⟨hx, hb, hml, hown, hts⟩ (qX11_run l hl9 D yy h0 an B B2 F G F2 G2 M H.size p1 hok) (cwV 1 hts (jgV gw880 gw881 gw882 gw2 gw883) rfl rfl rfl (by decide +kernel) ⟨Nat.le_of_ble_eq_true rfl, Nat.le_of_ble_eq_true rfl⟩) hV hK hT hD hS hA (va_recv hK (wW_P hV) (ci := 11) (q0 := 0) rfl rfl) rfl hl.1 rfl (Nat.le_of_ble_eq_true rfl) (dd_of dL_run_0 4 rfl) ⟨Nat.le_of_ble_eq_true rfl, Nat.le_of_ble_eq_true rfl⟩ (fun E ce q9 H locs hg0 hE9 hV hS z1 z2 z3 => ?_) (fun x u H locs hp hV hD hS => ?_)
  · rcases hcod with hcod | hcod | hcod
    · exact absurd hcod hg0
    · have hE9 : E = xA := by rw [hE9, hcod]; rfl
      subst hE9
      refine jcat hown hts htab [] (0, 9, 12, 13) [(0, 9, 15, 15)] rfl (fun z hz => absurd hz List.not_mem_nil) (by decide) (by decide) gw175 (va_Nw.use rfl (hT.2.1.1 xA (Or.inr (Or.inl rfl)))) z1 z2 z3 ?_
      refine lv_astore_n hx hb (dd_of dL_run_0 8 rfl) rfl hl (by decide) rfl (fun ls hl => ?_)
      refine lv_iconst (v := 1) hx hb (dd_of dL_run_0 9 rfl) (by decide) ?_
      subst hQ
      refine W.widen (k := 9) (n := 64) (Nat.le_of_ble_eq_true rfl) (Nat.le_of_ble_eq_true rfl) ?_
      exact W.iret (v := 1) hx hb hr (fun t ht hW => ⟨⟨1, (((B, (F, G)), M), O), rfl, ⟨Or.inr ⟨hg0, by rw [hcod]; rfl, rfl⟩, fun _ _ => rfl⟩, by rw [ht]; exact hV, va_K.moved hW.alike hK, hD⟩, hS.F ht⟩) hS.2.2 (dd_of dL_run_0 10 rfl) hlk
    · have hE9 : E = xS := by rw [hE9, hcod]; rfl
      subst hE9
      refine jcat hown hts htab [(0, 9, 12, 13)] (0, 9, 15, 15) [] rfl (fun z hz => by obtain rfl := List.mem_singleton.mp hz; exact ⟨by decide, xA, gw175, hN.2.2.2⟩) (by decide) (by decide) gw176 (va_Nw.use rfl (hT.2.1.1 xS (Or.inr (Or.inr rfl)))) z1 z2 z3 ?_
      refine lv_astore_n hx hb (dd_of dL_run_0 11 rfl) rfl hl (by decide) rfl (fun ls hl => ?_)
      refine lv_iconst (v := 2) hx hb (dd_of dL_run_0 12 rfl) (by decide) ?_
      subst hQ
      refine W.widen (k := 9) (n := 64) (Nat.le_of_ble_eq_true rfl) (Nat.le_of_ble_eq_true rfl) ?_
      exact W.iret (v := 2) hx hb hr (fun t ht hW => ⟨⟨2, (((B, (F, G)), M), O), rfl, ⟨Or.inr ⟨hg0, by rw [hcod]; rfl, rfl⟩, fun _ _ => rfl⟩, by rw [ht]; exact hV, va_K.moved hW.alike hK, hD⟩, hS.F ht⟩) hS.2.2 (dd_of dL_run_0 13 rfl) hlk
  · skip
    obtain ⟨⟨B1, F1, G1⟩, M1⟩ := u
    obtain ⟨hp, hB1⟩ := hp
    have hB1 : ∀ k, k < 100 → B1 k = B k := hB1
    have hp : (gX11_run F G M p1) = (0, (x, ((F1, G1), M1))) := hp
    have hV : va_P D vwCl (wW yy oa O (pV yy h0 an B1 B2 F1 G1 F2 G2 M1) Y) H := hV
    have hD : va_D Z (wW yy oa O (pV yy h0 an B1 B2 F1 G1 F2 G2 M1) Y) := hD
    refine lv_i2l (v := (Int32.toInt64 x)) hx hb (dd_of dL_run_0 5 rfl) rfl ?_
    obtain ⟨P9, hP9⟩ : ∃ z, z = (pV yy h0 an B1 B2 F1 G1 F2 G2 M1) := ⟨_, rfl⟩
    rw [← hP9] at hV hD
    refine va_last hx hb hK hV hD hS 0 1 rfl rfl (vin_lit (by decide)) (dd_of dL_run_0 6 rfl) (fun H locs hV hD hS => ?_)
    have hV : va_P D vwCl (wW yy oa (vp_updL O 0 (Int32.toInt64 x)) P9 Y) H := hV
    have hD : va_D Z (wW yy oa (vp_updL O 0 (Int32.toInt64 x)) P9 Y) := hD
    rw [hP9] at hV hD
    refine lv_goto (tgt := 18) hx hb (dd_of dL_run_0 7 rfl) (by decide) ?_
    refine lv_iconst (v := 0) hx hb (dd_of dL_run_0 14 rfl) (by decide) ?_
    subst hQ
    refine W.widen (k := 9) (n := 64) (Nat.le_of_ble_eq_true rfl) (Nat.le_of_ble_eq_true rfl) ?_
    exact W.iret (v := 0) hx hb hr (fun t ht hW => ⟨⟨0, (((B1, (F1, G1)), M1), (vp_updL O 0 (Int32.toInt64 x))), rfl, ⟨Or.inl ⟨x, hp, rfl, rfl⟩, hB1⟩, by rw [ht]; exact hV, va_K.moved hW.alike hK, hD⟩, hS.F ht⟩) hS.2.2 (dd_of dL_run_0 15 rfl) hlk
set_option maxHeartbeats 4000000 in
set_option maxRecDepth 100000 in
theorem qL_endYear (l : Launch) (hl9 : l.stackTraces = false) (D : va_G) (yy : Nat → ClassId) (oa h0 an : Nat) (O : Nat → Int64) (B B2 : Nat → Nat) (F : jF) (G : jG) (F2 : jF) (G2 : jG) (M : jF) (Y : va_W) (sz : Nat)  (hok : okX11_endYear F G M ) (hcod : (gX11_endYear F G M ).1 = 0 ∨ (gX11_endYear F G M ).1 = 3) : Met l yL_endYear (Cond.codeWith yL_endYear cL_endYear 3 (some .int) [(0, 8, 11, 15)] :: wsL_law) rmL_endYear (va_Pc [.ref h0, .ref oa] (jZ D yy (wW yy oa O (pV yy h0 an B B2 F G F2 G2 M) Y) sz)) (va_Qi (fun (r : Int32) (u : (((Nat → Nat) × jS) × jF) × (Nat → Int64)) => ((∃ x, (gX11_endYear F G M ) = (0, (x, (u.1.1.2, u.1.2))) ∧ r = 0 ∧ u.2 = vp_updL O 0 (Int32.toInt64 x)) ∨ ((gX11_endYear F G M ).1 ≠ 0 ∧ r = wk 3 9 9 (gX11_endYear F G M ).1 ∧ u = (((B, (F, G)), M), O))) ∧ ∀ k, k < 100 → u.1.1.1 k = B k) (fun u t => jB D yy (va_A (wW yy oa O (pV yy h0 an B B2 F G F2 G2 M) Y) sz) (wW yy oa u.2 (pV yy h0 an u.1.1.1 B2 u.1.1.2.1 u.1.1.2.2 F2 G2 u.1.2) Y) t) (va_A (wW yy oa O (pV yy h0 an B B2 F G F2 G2 M) Y) sz)) 9 64 (va_A (wW yy oa O (pV yy h0 an B B2 F G F2 G2 M) Y) sz) := by
  refine jMW (vs := [.ref h0, .ref oa]) (own := RL) (by decide +kernel) rfl (Nat.le_of_ble_eq_true rfl) ?_
  intro p e s m args below meth c ls Q hQ hargs S hr hlk htab hB hl
  obtain ⟨hx, hb, hml, hown, hts⟩ := S
  have hl : lv_has ls 3 [(0, .ref h0), (1, .ref oa)] := hl
  obtain ⟨⟨⟨hsz, hV, hK, hD0⟩, hT⟩, hN⟩ := hB
  subst hsz
  have hD := hD0.self (sz := s.heap.size)
  generalize hZ : va_A (wW yy oa O (pV yy h0 an B B2 F G F2 G2 M) Y) s.heap.size = Z at hD hQ hT
  have hA : ∀ q : Nat, s.heap.size ≤ q → Z q := fun q h => by rw [← hZ]; exact Or.inr h
  obtain ⟨H, hH⟩ : ∃ z, z = s.heap := ⟨_, rfl⟩
  obtain ⟨locs, hlocs⟩ : ∃ z : List Loc, z = [] := ⟨_, rfl⟩
  have hS : va_S Z s.heap H locs := by rw [hH, hlocs]; exact va_S.rf
  rw [← hH] at hV
  suffices hgo : W p l e rmL_endYear s m args below meth c H locs 0 0 Q (F0 m 0 ls []) by rw [hH, hlocs] at hgo; exact hgo
  refine lv_aload_n hx hb (dd_of dL_endYear_0 0 rfl) rfl (lv_at hl 1 rfl) ?_
  refine lv_iconst (v := 0) hx hb (dd_of dL_endYear_0 1 rfl) (by decide) ?_
  refine lv_aload_n hx hb (dd_of dL_endYear_0 2 rfl) rfl (lv_at hl 0 rfl) ?_
  refine jq_i (As := []) (rest := [.int 0, .ref oa]) (D := D) (yy := yy) (oa := oa) (O := O) (P0 := pV yy h0 an B B2 F G F2 G2 M) (Y := Y) (gc := (gX11_endYear F G M ).1) (w1 := fun u : ((Nat → Nat) × jS) × jF => pV yy h0 an u.1.1 B2 u.1.2.1 u.1.2.2 F2 G2 u.2) ⟨hx, hb, hml, hown, hts⟩ (qX11_endYear l hl9 D yy h0 an B B2 F G F2 G2 M H.size  hok) (cwV 0 hts (jgV gw959 gw960 gw961 gw2 gw962) rfl rfl rfl (by decide +kernel) ⟨Nat.le_of_ble_eq_true rfl, Nat.le_of_ble_eq_true rfl⟩) hV hK hT hD hS hA (va_recv hK (wW_P hV) (ci := 11) (q0 := 0) rfl rfl) rfl hl.1 rfl (Nat.le_of_ble_eq_true rfl) (dd_of dL_endYear_0 3 rfl) ⟨Nat.le_of_ble_eq_true rfl, Nat.le_of_ble_eq_true rfl⟩ (fun E ce q9 H locs hg0 hE9 hV hS z1 z2 z3 => ?_) (fun x u H locs hp hV hD hS => ?_)
  · rcases hcod with hcod | hcod
    · exact absurd hcod hg0
    · have hE9 : E = xS := by rw [hE9, hcod]; rfl
      subst hE9
      refine jcat hown hts htab [] (0, 8, 11, 15) [] rfl (fun z hz => absurd hz List.not_mem_nil) (by decide) (by decide) gw176 (va_Nw.use rfl (hT.2.1.1 xS (Or.inr (Or.inr rfl)))) z1 z2 z3 ?_
      refine lv_astore_n hx hb (dd_of dL_endYear_0 7 rfl) rfl hl (by decide) rfl (fun ls hl => ?_)
      refine lv_iconst (v := 1) hx hb (dd_of dL_endYear_0 8 rfl) (by decide) ?_
      subst hQ
      refine W.widen (k := 9) (n := 64) (Nat.le_of_ble_eq_true rfl) (Nat.le_of_ble_eq_true rfl) ?_
      exact W.iret (v := 1) hx hb hr (fun t ht hW => ⟨⟨1, (((B, (F, G)), M), O), rfl, ⟨Or.inr ⟨hg0, by rw [hcod]; rfl, rfl⟩, fun _ _ => rfl⟩, by rw [ht]; exact hV, va_K.moved hW.alike hK, hD⟩, hS.F ht⟩) hS.2.2 (dd_of dL_endYear_0 9 rfl) hlk
  · skip
    obtain ⟨⟨B1, F1, G1⟩, M1⟩ := u
    obtain ⟨hp, hB1⟩ := hp
    have hB1 : ∀ k, k < 100 → B1 k = B k := hB1
    have hp : (gX11_endYear F G M ) = (0, (x, ((F1, G1), M1))) := hp
    have hV : va_P D vwCl (wW yy oa O (pV yy h0 an B1 B2 F1 G1 F2 G2 M1) Y) H := hV
    have hD : va_D Z (wW yy oa O (pV yy h0 an B1 B2 F1 G1 F2 G2 M1) Y) := hD
    refine lv_i2l (v := (Int32.toInt64 x)) hx hb (dd_of dL_endYear_0 4 rfl) rfl ?_
    obtain ⟨P9, hP9⟩ : ∃ z, z = (pV yy h0 an B1 B2 F1 G1 F2 G2 M1) := ⟨_, rfl⟩
    rw [← hP9] at hV hD
    refine va_last hx hb hK hV hD hS 0 1 rfl rfl (vin_lit (by decide)) (dd_of dL_endYear_0 5 rfl) (fun H locs hV hD hS => ?_)
    have hV : va_P D vwCl (wW yy oa (vp_updL O 0 (Int32.toInt64 x)) P9 Y) H := hV
    have hD : va_D Z (wW yy oa (vp_updL O 0 (Int32.toInt64 x)) P9 Y) := hD
    rw [hP9] at hV hD
    refine lv_goto (tgt := 14) hx hb (dd_of dL_endYear_0 6 rfl) (by decide) ?_
    refine lv_iconst (v := 0) hx hb (dd_of dL_endYear_0 10 rfl) (by decide) ?_
    subst hQ
    refine W.widen (k := 9) (n := 64) (Nat.le_of_ble_eq_true rfl) (Nat.le_of_ble_eq_true rfl) ?_
    exact W.iret (v := 0) hx hb hr (fun t ht hW => ⟨⟨0, (((B1, (F1, G1)), M1), (vp_updL O 0 (Int32.toInt64 x))), rfl, ⟨Or.inl ⟨x, hp, rfl, rfl⟩, hB1⟩, by rw [ht]; exact hV, va_K.moved hW.alike hK, hD⟩, hS.F ht⟩) hS.2.2 (dd_of dL_endYear_0 11 rfl) hlk
set_option maxHeartbeats 4000000 in
set_option maxRecDepth 100000 in
theorem qL_level (l : Launch) (hl9 : l.stackTraces = false) (D : va_G) (yy : Nat → ClassId) (oa h0 an : Nat) (O : Nat → Int64) (B B2 : Nat → Nat) (F : jF) (G : jG) (F2 : jF) (G2 : jG) (M : jF) (Y : va_W) (sz : Nat) (p1 : Int32) (hok : okX11_level F G M p1) (hcod : (gX11_level F G M p1).1 = 0 ∨ (gX11_level F G M p1).1 = 1) : Met l yL_level (Cond.codeWith yL_level cL_level 4 (some .int) [(0, 8, 11, 21)] :: wsL_law) rmL_level (va_Pc [.ref h0, .int p1, .ref oa] (jZ D yy (wW yy oa O (pV yy h0 an B B2 F G F2 G2 M) Y) sz)) (va_Qi (fun (r : Int32) (u : Nat → Int64) => (∃ x, (gX11_level F G M p1) = (0, x) ∧ r = 0 ∧ u = vp_updL O 0 x) ∨ ((gX11_level F G M p1).1 ≠ 0 ∧ r = wk 1 9 9 (gX11_level F G M p1).1 ∧ u = O)) (fun u t => jB D yy (va_A (wW yy oa O (pV yy h0 an B B2 F G F2 G2 M) Y) sz) (wW yy oa u (pV yy h0 an B B2 F G F2 G2 M) Y) t) (va_A (wW yy oa O (pV yy h0 an B B2 F G F2 G2 M) Y) sz)) 9 64 (va_A (wW yy oa O (pV yy h0 an B B2 F G F2 G2 M) Y) sz) := by
  refine jMW (vs := [.ref h0, .int p1, .ref oa]) (own := RL) (by decide +kernel) rfl (Nat.le_of_ble_eq_true rfl) ?_
  intro p e s m args below meth c ls Q hQ hargs S hr hlk htab hB hl
  obtain ⟨hx, hb, hml, hown, hts⟩ := S
  have hl : lv_has ls 4 [(0, .ref h0), (1, .int p1), (2, .ref oa)] := hl
  obtain ⟨⟨⟨hsz, hV, hK, hD0⟩, hT⟩, hN⟩ := hB
  subst hsz
  have hD := hD0.self (sz := s.heap.size)
  generalize hZ : va_A (wW yy oa O (pV yy h0 an B B2 F G F2 G2 M) Y) s.heap.size = Z at hD hQ hT
  have hA : ∀ q : Nat, s.heap.size ≤ q → Z q := fun q h => by rw [← hZ]; exact Or.inr h
  obtain ⟨H, hH⟩ : ∃ z, z = s.heap := ⟨_, rfl⟩
  obtain ⟨locs, hlocs⟩ : ∃ z : List Loc, z = [] := ⟨_, rfl⟩
  have hS : va_S Z s.heap H locs := by rw [hH, hlocs]; exact va_S.rf
  rw [← hH] at hV
  suffices hgo : W p l e rmL_level s m args below meth c H locs 0 0 Q (F0 m 0 ls []) by rw [hH, hlocs] at hgo; exact hgo
  refine lv_aload_n hx hb (dd_of dL_level_0 0 rfl) rfl (lv_at hl 2 rfl) ?_
  refine lv_iconst (v := 0) hx hb (dd_of dL_level_0 1 rfl) (by decide) ?_
  refine lv_aload_n hx hb (dd_of dL_level_0 2 rfl) rfl (lv_at hl 0 rfl) ?_
  refine lv_iload_n hx hb (dd_of dL_level_0 3 rfl) rfl (lv_at hl 1 rfl) ?_
  refine jr_l (As := [.int p1]) (rest := [.int 0, .ref oa]) (D := D) (yy := yy) (oa := oa) (O := O) (P0 := pV yy h0 an B B2 F G F2 G2 M) (Y := Y) (gc := (gX11_level F G M p1).1) ⟨hx, hb, hml, hown, hts⟩ (qX11_level l hl9 D yy h0 an B B2 F G F2 G2 M H.size p1 hok) (cwV 1 hts (jgV gw988 gw989 gw990 gw2 gw991) rfl rfl rfl (by decide +kernel) ⟨Nat.le_of_ble_eq_true rfl, Nat.le_of_ble_eq_true rfl⟩) hV hK hT hS hA (va_recv hK (wW_P hV) (ci := 11) (q0 := 0) rfl rfl) rfl hl.1 rfl (Nat.le_of_ble_eq_true rfl) (dd_of dL_level_0 4 rfl) ⟨Nat.le_of_ble_eq_true rfl, Nat.le_of_ble_eq_true rfl⟩ (fun E ce q9 H locs hg0 hE9 hV hS z1 z2 z3 => ?_) (fun x H locs hp hV hS => ?_)
  · rcases hcod with hcod | hcod
    · exact absurd hcod hg0
    · have hE9 : E = xI := by rw [hE9, hcod]; rfl
      subst hE9
      refine jcat hown hts htab [] (0, 8, 11, 21) [] rfl (fun z hz => absurd hz List.not_mem_nil) (by decide) (by decide) gw601 (va_Nw.use rfl (hT.2.1.1 xI (Or.inl rfl))) z1 z2 z3 ?_
      refine lv_astore_n hx hb (dd_of dL_level_0 7 rfl) rfl hl (by decide) rfl (fun ls hl => ?_)
      refine lv_iconst (v := 1) hx hb (dd_of dL_level_0 8 rfl) (by decide) ?_
      subst hQ
      refine W.widen (k := 9) (n := 64) (Nat.le_of_ble_eq_true rfl) (Nat.le_of_ble_eq_true rfl) ?_
      exact W.iret (v := 1) hx hb hr (fun t ht hW => ⟨⟨1, O, rfl, Or.inr ⟨hg0, by rw [hcod]; rfl, rfl⟩, by rw [ht]; exact hV, va_K.moved hW.alike hK, hD⟩, hS.F ht⟩) hS.2.2 (dd_of dL_level_0 9 rfl) hlk
  · skip
    have hp : (gX11_level F G M p1) = (0, x) := hp
    obtain ⟨P9, hP9⟩ : ∃ z, z = (pV yy h0 an B B2 F G F2 G2 M) := ⟨_, rfl⟩
    rw [← hP9] at hV hD
    refine va_last hx hb hK hV hD hS 0 1 rfl rfl (vin_lit (by decide)) (dd_of dL_level_0 5 rfl) (fun H locs hV hD hS => ?_)
    have hV : va_P D vwCl (wW yy oa (vp_updL O 0 x) P9 Y) H := hV
    have hD : va_D Z (wW yy oa (vp_updL O 0 x) P9 Y) := hD
    rw [hP9] at hV hD
    refine lv_goto (tgt := 14) hx hb (dd_of dL_level_0 6 rfl) (by decide) ?_
    refine lv_iconst (v := 0) hx hb (dd_of dL_level_0 10 rfl) (by decide) ?_
    subst hQ
    refine W.widen (k := 9) (n := 64) (Nat.le_of_ble_eq_true rfl) (Nat.le_of_ble_eq_true rfl) ?_
    exact W.iret (v := 0) hx hb hr (fun t ht hW => ⟨⟨0, (vp_updL O 0 x), rfl, Or.inl ⟨x, hp, rfl, rfl⟩, by rw [ht]; exact hV, va_K.moved hW.alike hK, hD⟩, hS.F ht⟩) hS.2.2 (dd_of dL_level_0 11 rfl) hlk
set_option maxHeartbeats 4000000 in
set_option maxRecDepth 100000 in
theorem qL_water (l : Launch) (hl9 : l.stackTraces = false) (D : va_G) (yy : Nat → ClassId) (oa h0 an : Nat) (O : Nat → Int64) (B B2 : Nat → Nat) (F : jF) (G : jG) (F2 : jF) (G2 : jG) (M : jF) (Y : va_W) (sz : Nat) (p1 : Int32) (hok : okX11_water F G M p1) (hcod : (gX11_water F G M p1).1 = 0 ∨ (gX11_water F G M p1).1 = 1) : Met l yL_water (Cond.codeWith yL_water cL_water 4 (some .int) [(0, 8, 11, 21)] :: wsL_law) rmL_water (va_Pc [.ref h0, .int p1, .ref oa] (jZ D yy (wW yy oa O (pV yy h0 an B B2 F G F2 G2 M) Y) sz)) (va_Qi (fun (r : Int32) (u : Nat → Int64) => (∃ x, (gX11_water F G M p1) = (0, x) ∧ r = 0 ∧ u = vp_updL O 0 x) ∨ ((gX11_water F G M p1).1 ≠ 0 ∧ r = wk 1 9 9 (gX11_water F G M p1).1 ∧ u = O)) (fun u t => jB D yy (va_A (wW yy oa O (pV yy h0 an B B2 F G F2 G2 M) Y) sz) (wW yy oa u (pV yy h0 an B B2 F G F2 G2 M) Y) t) (va_A (wW yy oa O (pV yy h0 an B B2 F G F2 G2 M) Y) sz)) 9 64 (va_A (wW yy oa O (pV yy h0 an B B2 F G F2 G2 M) Y) sz) := by
  refine jMW (vs := [.ref h0, .int p1, .ref oa]) (own := RL) (by decide +kernel) rfl (Nat.le_of_ble_eq_true rfl) ?_
  intro p e s m args below meth c ls Q hQ hargs S hr hlk htab hB hl
  obtain ⟨hx, hb, hml, hown, hts⟩ := S
  have hl : lv_has ls 4 [(0, .ref h0), (1, .int p1), (2, .ref oa)] := hl
  obtain ⟨⟨⟨hsz, hV, hK, hD0⟩, hT⟩, hN⟩ := hB
  subst hsz
  have hD := hD0.self (sz := s.heap.size)
  generalize hZ : va_A (wW yy oa O (pV yy h0 an B B2 F G F2 G2 M) Y) s.heap.size = Z at hD hQ hT
  have hA : ∀ q : Nat, s.heap.size ≤ q → Z q := fun q h => by rw [← hZ]; exact Or.inr h
  obtain ⟨H, hH⟩ : ∃ z, z = s.heap := ⟨_, rfl⟩
  obtain ⟨locs, hlocs⟩ : ∃ z : List Loc, z = [] := ⟨_, rfl⟩
  have hS : va_S Z s.heap H locs := by rw [hH, hlocs]; exact va_S.rf
  rw [← hH] at hV
  suffices hgo : W p l e rmL_water s m args below meth c H locs 0 0 Q (F0 m 0 ls []) by rw [hH, hlocs] at hgo; exact hgo
  refine lv_aload_n hx hb (dd_of dL_water_0 0 rfl) rfl (lv_at hl 2 rfl) ?_
  refine lv_iconst (v := 0) hx hb (dd_of dL_water_0 1 rfl) (by decide) ?_
  refine lv_aload_n hx hb (dd_of dL_water_0 2 rfl) rfl (lv_at hl 0 rfl) ?_
  refine lv_iload_n hx hb (dd_of dL_water_0 3 rfl) rfl (lv_at hl 1 rfl) ?_
  refine jr_l (As := [.int p1]) (rest := [.int 0, .ref oa]) (D := D) (yy := yy) (oa := oa) (O := O) (P0 := pV yy h0 an B B2 F G F2 G2 M) (Y := Y) (gc := (gX11_water F G M p1).1) ⟨hx, hb, hml, hown, hts⟩ (qX11_water l hl9 D yy h0 an B B2 F G F2 G2 M H.size p1 hok) (cwV 1 hts (jgV gw1000 gw1001 gw1002 gw2 gw1003) rfl rfl rfl (by decide +kernel) ⟨Nat.le_of_ble_eq_true rfl, Nat.le_of_ble_eq_true rfl⟩) hV hK hT hS hA (va_recv hK (wW_P hV) (ci := 11) (q0 := 0) rfl rfl) rfl hl.1 rfl (Nat.le_of_ble_eq_true rfl) (dd_of dL_water_0 4 rfl) ⟨Nat.le_of_ble_eq_true rfl, Nat.le_of_ble_eq_true rfl⟩ (fun E ce q9 H locs hg0 hE9 hV hS z1 z2 z3 => ?_) (fun x H locs hp hV hS => ?_)
  · rcases hcod with hcod | hcod
    · exact absurd hcod hg0
    · have hE9 : E = xI := by rw [hE9, hcod]; rfl
      subst hE9
      refine jcat hown hts htab [] (0, 8, 11, 21) [] rfl (fun z hz => absurd hz List.not_mem_nil) (by decide) (by decide) gw601 (va_Nw.use rfl (hT.2.1.1 xI (Or.inl rfl))) z1 z2 z3 ?_
      refine lv_astore_n hx hb (dd_of dL_water_0 7 rfl) rfl hl (by decide) rfl (fun ls hl => ?_)
      refine lv_iconst (v := 1) hx hb (dd_of dL_water_0 8 rfl) (by decide) ?_
      subst hQ
      refine W.widen (k := 9) (n := 64) (Nat.le_of_ble_eq_true rfl) (Nat.le_of_ble_eq_true rfl) ?_
      exact W.iret (v := 1) hx hb hr (fun t ht hW => ⟨⟨1, O, rfl, Or.inr ⟨hg0, by rw [hcod]; rfl, rfl⟩, by rw [ht]; exact hV, va_K.moved hW.alike hK, hD⟩, hS.F ht⟩) hS.2.2 (dd_of dL_water_0 9 rfl) hlk
  · skip
    have hp : (gX11_water F G M p1) = (0, x) := hp
    obtain ⟨P9, hP9⟩ : ∃ z, z = (pV yy h0 an B B2 F G F2 G2 M) := ⟨_, rfl⟩
    rw [← hP9] at hV hD
    refine va_last hx hb hK hV hD hS 0 1 rfl rfl (vin_lit (by decide)) (dd_of dL_water_0 5 rfl) (fun H locs hV hD hS => ?_)
    have hV : va_P D vwCl (wW yy oa (vp_updL O 0 x) P9 Y) H := hV
    have hD : va_D Z (wW yy oa (vp_updL O 0 x) P9 Y) := hD
    rw [hP9] at hV hD
    refine lv_goto (tgt := 14) hx hb (dd_of dL_water_0 6 rfl) (by decide) ?_
    refine lv_iconst (v := 0) hx hb (dd_of dL_water_0 10 rfl) (by decide) ?_
    subst hQ
    refine W.widen (k := 9) (n := 64) (Nat.le_of_ble_eq_true rfl) (Nat.le_of_ble_eq_true rfl) ?_
    exact W.iret (v := 0) hx hb hr (fun t ht hW => ⟨⟨0, (vp_updL O 0 x), rfl, Or.inl ⟨x, hp, rfl, rfl⟩, by rw [ht]; exact hV, va_K.moved hW.alike hK, hD⟩, hS.F ht⟩) hS.2.2 (dd_of dL_water_0 11 rfl) hlk
set_option maxHeartbeats 4000000 in
set_option maxRecDepth 100000 in
theorem qL_harm (l : Launch) (hl9 : l.stackTraces = false) (D : va_G) (yy : Nat → ClassId) (oa h0 an : Nat) (O : Nat → Int64) (B B2 : Nat → Nat) (F : jF) (G : jG) (F2 : jF) (G2 : jG) (M : jF) (Y : va_W) (sz : Nat) (p1 : Int32) (hok : okX11_harm F G M p1) (hcod : (gX11_harm F G M p1).1 = 0 ∨ (gX11_harm F G M p1).1 = 1) : Met l yL_harm (Cond.codeWith yL_harm cL_harm 4 (some .int) [(0, 8, 11, 21)] :: wsL_law) rmL_harm (va_Pc [.ref h0, .int p1, .ref oa] (jZ D yy (wW yy oa O (pV yy h0 an B B2 F G F2 G2 M) Y) sz)) (va_Qi (fun (r : Int32) (u : Nat → Int64) => (∃ x, (gX11_harm F G M p1) = (0, x) ∧ r = 0 ∧ u = vp_updL O 0 x) ∨ ((gX11_harm F G M p1).1 ≠ 0 ∧ r = wk 1 9 9 (gX11_harm F G M p1).1 ∧ u = O)) (fun u t => jB D yy (va_A (wW yy oa O (pV yy h0 an B B2 F G F2 G2 M) Y) sz) (wW yy oa u (pV yy h0 an B B2 F G F2 G2 M) Y) t) (va_A (wW yy oa O (pV yy h0 an B B2 F G F2 G2 M) Y) sz)) 9 64 (va_A (wW yy oa O (pV yy h0 an B B2 F G F2 G2 M) Y) sz) := by
  refine jMW (vs := [.ref h0, .int p1, .ref oa]) (own := RL) (by decide +kernel) rfl (Nat.le_of_ble_eq_true rfl) ?_
  intro p e s m args below meth c ls Q hQ hargs S hr hlk htab hB hl
  obtain ⟨hx, hb, hml, hown, hts⟩ := S
  have hl : lv_has ls 4 [(0, .ref h0), (1, .int p1), (2, .ref oa)] := hl
  obtain ⟨⟨⟨hsz, hV, hK, hD0⟩, hT⟩, hN⟩ := hB
  subst hsz
  have hD := hD0.self (sz := s.heap.size)
  generalize hZ : va_A (wW yy oa O (pV yy h0 an B B2 F G F2 G2 M) Y) s.heap.size = Z at hD hQ hT
  have hA : ∀ q : Nat, s.heap.size ≤ q → Z q := fun q h => by rw [← hZ]; exact Or.inr h
  obtain ⟨H, hH⟩ : ∃ z, z = s.heap := ⟨_, rfl⟩
  obtain ⟨locs, hlocs⟩ : ∃ z : List Loc, z = [] := ⟨_, rfl⟩
  have hS : va_S Z s.heap H locs := by rw [hH, hlocs]; exact va_S.rf
  rw [← hH] at hV
  suffices hgo : W p l e rmL_harm s m args below meth c H locs 0 0 Q (F0 m 0 ls []) by rw [hH, hlocs] at hgo; exact hgo
  refine lv_aload_n hx hb (dd_of dL_harm_0 0 rfl) rfl (lv_at hl 2 rfl) ?_
  refine lv_iconst (v := 0) hx hb (dd_of dL_harm_0 1 rfl) (by decide) ?_
  refine lv_aload_n hx hb (dd_of dL_harm_0 2 rfl) rfl (lv_at hl 0 rfl) ?_
  refine lv_iload_n hx hb (dd_of dL_harm_0 3 rfl) rfl (lv_at hl 1 rfl) ?_
  refine jr_l (As := [.int p1]) (rest := [.int 0, .ref oa]) (D := D) (yy := yy) (oa := oa) (O := O) (P0 := pV yy h0 an B B2 F G F2 G2 M) (Y := Y) (gc := (gX11_harm F G M p1).1) ⟨hx, hb, hml, hown, hts⟩ (qX11_harm l hl9 D yy h0 an B B2 F G F2 G2 M H.size p1 hok) (cwV 1 hts (jgV gw1012 gw1013 gw1014 gw2 gw1015) rfl rfl rfl (by decide +kernel) ⟨Nat.le_of_ble_eq_true rfl, Nat.le_of_ble_eq_true rfl⟩) hV hK hT hS hA (va_recv hK (wW_P hV) (ci := 11) (q0 := 0) rfl rfl) rfl hl.1 rfl (Nat.le_of_ble_eq_true rfl) (dd_of dL_harm_0 4 rfl) ⟨Nat.le_of_ble_eq_true rfl, Nat.le_of_ble_eq_true rfl⟩ (fun E ce q9 H locs hg0 hE9 hV hS z1 z2 z3 => ?_) (fun x H locs hp hV hS => ?_)
  · rcases hcod with hcod | hcod
    · exact absurd hcod hg0
    · have hE9 : E = xI := by rw [hE9, hcod]; rfl
      subst hE9
      refine jcat hown hts htab [] (0, 8, 11, 21) [] rfl (fun z hz => absurd hz List.not_mem_nil) (by decide) (by decide) gw601 (va_Nw.use rfl (hT.2.1.1 xI (Or.inl rfl))) z1 z2 z3 ?_
      refine lv_astore_n hx hb (dd_of dL_harm_0 7 rfl) rfl hl (by decide) rfl (fun ls hl => ?_)
      refine lv_iconst (v := 1) hx hb (dd_of dL_harm_0 8 rfl) (by decide) ?_
      subst hQ
      refine W.widen (k := 9) (n := 64) (Nat.le_of_ble_eq_true rfl) (Nat.le_of_ble_eq_true rfl) ?_
      exact W.iret (v := 1) hx hb hr (fun t ht hW => ⟨⟨1, O, rfl, Or.inr ⟨hg0, by rw [hcod]; rfl, rfl⟩, by rw [ht]; exact hV, va_K.moved hW.alike hK, hD⟩, hS.F ht⟩) hS.2.2 (dd_of dL_harm_0 9 rfl) hlk
  · skip
    have hp : (gX11_harm F G M p1) = (0, x) := hp
    obtain ⟨P9, hP9⟩ : ∃ z, z = (pV yy h0 an B B2 F G F2 G2 M) := ⟨_, rfl⟩
    rw [← hP9] at hV hD
    refine va_last hx hb hK hV hD hS 0 1 rfl rfl (vin_lit (by decide)) (dd_of dL_harm_0 5 rfl) (fun H locs hV hD hS => ?_)
    have hV : va_P D vwCl (wW yy oa (vp_updL O 0 x) P9 Y) H := hV
    have hD : va_D Z (wW yy oa (vp_updL O 0 x) P9 Y) := hD
    rw [hP9] at hV hD
    refine lv_goto (tgt := 14) hx hb (dd_of dL_harm_0 6 rfl) (by decide) ?_
    refine lv_iconst (v := 0) hx hb (dd_of dL_harm_0 10 rfl) (by decide) ?_
    subst hQ
    refine W.widen (k := 9) (n := 64) (Nat.le_of_ble_eq_true rfl) (Nat.le_of_ble_eq_true rfl) ?_
    exact W.iret (v := 0) hx hb hr (fun t ht hW => ⟨⟨0, (vp_updL O 0 x), rfl, Or.inl ⟨x, hp, rfl, rfl⟩, by rw [ht]; exact hV, va_K.moved hW.alike hK, hD⟩, hS.F ht⟩) hS.2.2 (dd_of dL_harm_0 11 rfl) hlk
set_option maxHeartbeats 4000000 in
set_option maxRecDepth 100000 in
theorem qL_ledger (l : Launch) (hl9 : l.stackTraces = false) (D : va_G) (yy : Nat → ClassId) (oa h0 an : Nat) (O : Nat → Int64) (B B2 : Nat → Nat) (F : jF) (G : jG) (F2 : jF) (G2 : jG) (M : jF) (Y : va_W) (sz : Nat) (p1 : Int32) (hok : okX11_ledger F G M p1) (hcod : (gX11_ledger F G M p1).1 = 0 ∨ (gX11_ledger F G M p1).1 = 2) : Met l yL_ledger (Cond.codeWith yL_ledger cL_ledger 4 (some .int) [(0, 8, 11, 13)] :: wsL_law) rmL_ledger (va_Pc [.ref h0, .int p1, .ref oa] (jZ D yy (wW yy oa O (pV yy h0 an B B2 F G F2 G2 M) Y) sz)) (va_Qi (fun (r : Int32) (u : Nat → Int64) => (∃ x, (gX11_ledger F G M p1) = (0, x) ∧ r = 0 ∧ u = vp_updL O 0 x) ∨ ((gX11_ledger F G M p1).1 ≠ 0 ∧ r = wk 2 9 9 (gX11_ledger F G M p1).1 ∧ u = O)) (fun u t => jB D yy (va_A (wW yy oa O (pV yy h0 an B B2 F G F2 G2 M) Y) sz) (wW yy oa u (pV yy h0 an B B2 F G F2 G2 M) Y) t) (va_A (wW yy oa O (pV yy h0 an B B2 F G F2 G2 M) Y) sz)) 9 64 (va_A (wW yy oa O (pV yy h0 an B B2 F G F2 G2 M) Y) sz) := by
  refine jMW (vs := [.ref h0, .int p1, .ref oa]) (own := RL) (by decide +kernel) rfl (Nat.le_of_ble_eq_true rfl) ?_
  intro p e s m args below meth c ls Q hQ hargs S hr hlk htab hB hl
  obtain ⟨hx, hb, hml, hown, hts⟩ := S
  have hl : lv_has ls 4 [(0, .ref h0), (1, .int p1), (2, .ref oa)] := hl
  obtain ⟨⟨⟨hsz, hV, hK, hD0⟩, hT⟩, hN⟩ := hB
  subst hsz
  have hD := hD0.self (sz := s.heap.size)
  generalize hZ : va_A (wW yy oa O (pV yy h0 an B B2 F G F2 G2 M) Y) s.heap.size = Z at hD hQ hT
  have hA : ∀ q : Nat, s.heap.size ≤ q → Z q := fun q h => by rw [← hZ]; exact Or.inr h
  obtain ⟨H, hH⟩ : ∃ z, z = s.heap := ⟨_, rfl⟩
  obtain ⟨locs, hlocs⟩ : ∃ z : List Loc, z = [] := ⟨_, rfl⟩
  have hS : va_S Z s.heap H locs := by rw [hH, hlocs]; exact va_S.rf
  rw [← hH] at hV
  suffices hgo : W p l e rmL_ledger s m args below meth c H locs 0 0 Q (F0 m 0 ls []) by rw [hH, hlocs] at hgo; exact hgo
  refine lv_aload_n hx hb (dd_of dL_ledger_0 0 rfl) rfl (lv_at hl 2 rfl) ?_
  refine lv_iconst (v := 0) hx hb (dd_of dL_ledger_0 1 rfl) (by decide) ?_
  refine lv_aload_n hx hb (dd_of dL_ledger_0 2 rfl) rfl (lv_at hl 0 rfl) ?_
  refine lv_iload_n hx hb (dd_of dL_ledger_0 3 rfl) rfl (lv_at hl 1 rfl) ?_
  refine jr_l (As := [.int p1]) (rest := [.int 0, .ref oa]) (D := D) (yy := yy) (oa := oa) (O := O) (P0 := pV yy h0 an B B2 F G F2 G2 M) (Y := Y) (gc := (gX11_ledger F G M p1).1) ⟨hx, hb, hml, hown, hts⟩ (qX11_ledger l hl9 D yy h0 an B B2 F G F2 G2 M H.size p1 hok) (cwV 1 hts (jgV gw1024 gw1025 gw1026 gw2 gw1027) rfl rfl rfl (by decide +kernel) ⟨Nat.le_of_ble_eq_true rfl, Nat.le_of_ble_eq_true rfl⟩) hV hK hT hS hA (va_recv hK (wW_P hV) (ci := 11) (q0 := 0) rfl rfl) rfl hl.1 rfl (Nat.le_of_ble_eq_true rfl) (dd_of dL_ledger_0 4 rfl) ⟨Nat.le_of_ble_eq_true rfl, Nat.le_of_ble_eq_true rfl⟩ (fun E ce q9 H locs hg0 hE9 hV hS z1 z2 z3 => ?_) (fun x H locs hp hV hS => ?_)
  · rcases hcod with hcod | hcod
    · exact absurd hcod hg0
    · have hE9 : E = xA := by rw [hE9, hcod]; rfl
      subst hE9
      refine jcat hown hts htab [] (0, 8, 11, 13) [] rfl (fun z hz => absurd hz List.not_mem_nil) (by decide) (by decide) gw175 (va_Nw.use rfl (hT.2.1.1 xA (Or.inr (Or.inl rfl)))) z1 z2 z3 ?_
      refine lv_astore_n hx hb (dd_of dL_ledger_0 7 rfl) rfl hl (by decide) rfl (fun ls hl => ?_)
      refine lv_iconst (v := 1) hx hb (dd_of dL_ledger_0 8 rfl) (by decide) ?_
      subst hQ
      refine W.widen (k := 9) (n := 64) (Nat.le_of_ble_eq_true rfl) (Nat.le_of_ble_eq_true rfl) ?_
      exact W.iret (v := 1) hx hb hr (fun t ht hW => ⟨⟨1, O, rfl, Or.inr ⟨hg0, by rw [hcod]; rfl, rfl⟩, by rw [ht]; exact hV, va_K.moved hW.alike hK, hD⟩, hS.F ht⟩) hS.2.2 (dd_of dL_ledger_0 9 rfl) hlk
  · skip
    have hp : (gX11_ledger F G M p1) = (0, x) := hp
    obtain ⟨P9, hP9⟩ : ∃ z, z = (pV yy h0 an B B2 F G F2 G2 M) := ⟨_, rfl⟩
    rw [← hP9] at hV hD
    refine va_last hx hb hK hV hD hS 0 1 rfl rfl (vin_lit (by decide)) (dd_of dL_ledger_0 5 rfl) (fun H locs hV hD hS => ?_)
    have hV : va_P D vwCl (wW yy oa (vp_updL O 0 x) P9 Y) H := hV
    have hD : va_D Z (wW yy oa (vp_updL O 0 x) P9 Y) := hD
    rw [hP9] at hV hD
    refine lv_goto (tgt := 14) hx hb (dd_of dL_ledger_0 6 rfl) (by decide) ?_
    refine lv_iconst (v := 0) hx hb (dd_of dL_ledger_0 10 rfl) (by decide) ?_
    subst hQ
    refine W.widen (k := 9) (n := 64) (Nat.le_of_ble_eq_true rfl) (Nat.le_of_ble_eq_true rfl) ?_
    exact W.iret (v := 0) hx hb hr (fun t ht hW => ⟨⟨0, (vp_updL O 0 x), rfl, Or.inl ⟨x, hp, rfl, rfl⟩, by rw [ht]; exact hV, va_K.moved hW.alike hK, hD⟩, hS.F ht⟩) hS.2.2 (dd_of dL_ledger_0 11 rfl) hlk
set_option maxHeartbeats 4000000 in
set_option maxRecDepth 100000 in
theorem qL_isOpen (l : Launch) (hl9 : l.stackTraces = false) (D : va_G) (yy : Nat → ClassId) (oa h0 an : Nat) (O : Nat → Int64) (B B2 : Nat → Nat) (F : jF) (G : jG) (F2 : jF) (G2 : jG) (M : jF) (Y : va_W) (sz : Nat) (p1 : Int32) (hok : okX11_isOpen F G M p1) (hcod : (gX11_isOpen F G M p1).1 = 0 ∨ (gX11_isOpen F G M p1).1 = 1) : Met l yL_isOpen (Cond.codeWith yL_isOpen cL_isOpen 4 (some .int) [(0, 16, 19, 21)] :: wsL_law) rmL_isOpen (va_Pc [.ref h0, .int p1, .ref oa] (jZ D yy (wW yy oa O (pV yy h0 an B B2 F G F2 G2 M) Y) sz)) (va_Qi (fun (r : Int32) (u : Nat → Int64) => (∃ x, (gX11_isOpen F G M p1) = (0, x) ∧ r = 0 ∧ u = vp_updL O 0 (if x = 0 then (0 : Int64) else 1)) ∨ ((gX11_isOpen F G M p1).1 ≠ 0 ∧ r = wk 1 9 9 (gX11_isOpen F G M p1).1 ∧ u = O)) (fun u t => jB D yy (va_A (wW yy oa O (pV yy h0 an B B2 F G F2 G2 M) Y) sz) (wW yy oa u (pV yy h0 an B B2 F G F2 G2 M) Y) t) (va_A (wW yy oa O (pV yy h0 an B B2 F G F2 G2 M) Y) sz)) 9 64 (va_A (wW yy oa O (pV yy h0 an B B2 F G F2 G2 M) Y) sz) := by
  refine jMW (vs := [.ref h0, .int p1, .ref oa]) (own := RL) (by decide +kernel) rfl (Nat.le_of_ble_eq_true rfl) ?_
  intro p e s m args below meth c ls Q hQ hargs S hr hlk htab hB hl
  obtain ⟨hx, hb, hml, hown, hts⟩ := S
  have hl : lv_has ls 4 [(0, .ref h0), (1, .int p1), (2, .ref oa)] := hl
  obtain ⟨⟨⟨hsz, hV, hK, hD0⟩, hT⟩, hN⟩ := hB
  subst hsz
  have hD := hD0.self (sz := s.heap.size)
  generalize hZ : va_A (wW yy oa O (pV yy h0 an B B2 F G F2 G2 M) Y) s.heap.size = Z at hD hQ hT
  have hA : ∀ q : Nat, s.heap.size ≤ q → Z q := fun q h => by rw [← hZ]; exact Or.inr h
  obtain ⟨H, hH⟩ : ∃ z, z = s.heap := ⟨_, rfl⟩
  obtain ⟨locs, hlocs⟩ : ∃ z : List Loc, z = [] := ⟨_, rfl⟩
  have hS : va_S Z s.heap H locs := by rw [hH, hlocs]; exact va_S.rf
  rw [← hH] at hV
  suffices hgo : W p l e rmL_isOpen s m args below meth c H locs 0 0 Q (F0 m 0 ls []) by rw [hH, hlocs] at hgo; exact hgo
  refine lv_aload_n hx hb (dd_of dL_isOpen_0 0 rfl) rfl (lv_at hl 2 rfl) ?_
  refine lv_iconst (v := 0) hx hb (dd_of dL_isOpen_0 1 rfl) (by decide) ?_
  refine lv_aload_n hx hb (dd_of dL_isOpen_0 2 rfl) rfl (lv_at hl 0 rfl) ?_
  refine lv_iload_n hx hb (dd_of dL_isOpen_0 3 rfl) rfl (lv_at hl 1 rfl) ?_
  refine jr_i (As := [.int p1]) (rest := [.int 0, .ref oa]) (D := D) (yy := yy) (oa := oa) (O := O) (P0 := pV yy h0 an B B2 F G F2 G2 M) (Y := Y) (gc := (gX11_isOpen F G M p1).1) ⟨hx, hb, hml, hown, hts⟩ (qX11_isOpen l hl9 D yy h0 an B B2 F G F2 G2 M H.size p1 hok) (cwV 1 hts (jgV gw1039 gw1040 gw1041 gw2 gw1042) rfl rfl rfl (by decide +kernel) ⟨Nat.le_of_ble_eq_true rfl, Nat.le_of_ble_eq_true rfl⟩) hV hK hT hS hA (va_recv hK (wW_P hV) (ci := 11) (q0 := 0) rfl rfl) rfl hl.1 rfl (Nat.le_of_ble_eq_true rfl) (dd_of dL_isOpen_0 4 rfl) ⟨Nat.le_of_ble_eq_true rfl, Nat.le_of_ble_eq_true rfl⟩ (fun E ce q9 H locs hg0 hE9 hV hS z1 z2 z3 => ?_) (fun x H locs hp hV hS => ?_)
  · rcases hcod with hcod | hcod
    · exact absurd hcod hg0
    · have hE9 : E = xI := by rw [hE9, hcod]; rfl
      subst hE9
      refine jcat hown hts htab [] (0, 16, 19, 21) [] rfl (fun z hz => absurd hz List.not_mem_nil) (by decide) (by decide) gw601 (va_Nw.use rfl (hT.2.1.1 xI (Or.inl rfl))) z1 z2 z3 ?_
      refine lv_astore_n hx hb (dd_of dL_isOpen_0 11 rfl) rfl hl (by decide) rfl (fun ls hl => ?_)
      refine lv_iconst (v := 1) hx hb (dd_of dL_isOpen_0 12 rfl) (by decide) ?_
      subst hQ
      refine W.widen (k := 9) (n := 64) (Nat.le_of_ble_eq_true rfl) (Nat.le_of_ble_eq_true rfl) ?_
      exact W.iret (v := 1) hx hb hr (fun t ht hW => ⟨⟨1, O, rfl, Or.inr ⟨hg0, by rw [hcod]; rfl, rfl⟩, by rw [ht]; exact hV, va_K.moved hW.alike hK, hD⟩, hS.F ht⟩) hS.2.2 (dd_of dL_isOpen_0 13 rfl) hlk
  · skip
    have hp : (gX11_isOpen F G M p1) = (0, x) := hp
    refine lv_if_eq (tgt := 14) hx hb (dd_of dL_isOpen_0 5 rfl) (by decide) (fun c9 => ?_) (fun c9 => ?_)
    · skip
      refine lv_lconst (v := 0) hx hb (dd_of dL_isOpen_0 8 rfl) (by decide) ?_
      obtain ⟨P9, hP9⟩ : ∃ z, z = (pV yy h0 an B B2 F G F2 G2 M) := ⟨_, rfl⟩
      rw [← hP9] at hV hD
      refine va_last hx hb hK hV hD hS 0 1 rfl rfl (vin_lit (by decide)) (dd_of dL_isOpen_0 9 rfl) (fun H locs hV hD hS => ?_)
      have hV : va_P D vwCl (wW yy oa (vp_updL O 0 0) P9 Y) H := hV
      have hD : va_D Z (wW yy oa (vp_updL O 0 0) P9 Y) := hD
      rw [hP9] at hV hD
      refine lv_goto (tgt := 22) hx hb (dd_of dL_isOpen_0 10 rfl) (by decide) ?_
      refine lv_iconst (v := 0) hx hb (dd_of dL_isOpen_0 14 rfl) (by decide) ?_
      subst hQ
      refine W.widen (k := 9) (n := 64) (Nat.le_of_ble_eq_true rfl) (Nat.le_of_ble_eq_true rfl) ?_
      exact W.iret (v := 0) hx hb hr (fun t ht hW => ⟨⟨0, (vp_updL O 0 0), rfl, Or.inl ⟨x, hp, rfl, by rw [if_pos c9]⟩, by rw [ht]; exact hV, va_K.moved hW.alike hK, hD⟩, hS.F ht⟩) hS.2.2 (dd_of dL_isOpen_0 15 rfl) hlk
    · skip
      refine lv_lconst (v := 1) hx hb (dd_of dL_isOpen_0 6 rfl) (by decide) ?_
      refine lv_goto (tgt := 15) hx hb (dd_of dL_isOpen_0 7 rfl) (by decide) ?_
      obtain ⟨P9, hP9⟩ : ∃ z, z = (pV yy h0 an B B2 F G F2 G2 M) := ⟨_, rfl⟩
      rw [← hP9] at hV hD
      refine va_last hx hb hK hV hD hS 0 1 rfl rfl (vin_lit (by decide)) (dd_of dL_isOpen_0 9 rfl) (fun H locs hV hD hS => ?_)
      have hV : va_P D vwCl (wW yy oa (vp_updL O 0 1) P9 Y) H := hV
      have hD : va_D Z (wW yy oa (vp_updL O 0 1) P9 Y) := hD
      rw [hP9] at hV hD
      refine lv_goto (tgt := 22) hx hb (dd_of dL_isOpen_0 10 rfl) (by decide) ?_
      refine lv_iconst (v := 0) hx hb (dd_of dL_isOpen_0 14 rfl) (by decide) ?_
      subst hQ
      refine W.widen (k := 9) (n := 64) (Nat.le_of_ble_eq_true rfl) (Nat.le_of_ble_eq_true rfl) ?_
      exact W.iret (v := 0) hx hb hr (fun t ht hW => ⟨⟨0, (vp_updL O 0 1), rfl, Or.inl ⟨x, hp, rfl, by rw [if_neg c9]⟩, by rw [ht]; exact hV, va_K.moved hW.alike hK, hD⟩, hS.F ht⟩) hS.2.2 (dd_of dL_isOpen_0 15 rfl) hlk
set_option maxHeartbeats 4000000 in
set_option maxRecDepth 100000 in
theorem qL_pump (l : Launch) (hl9 : l.stackTraces = false) (D : va_G) (yy : Nat → ClassId) (oa h0 an : Nat) (O : Nat → Int64) (B B2 : Nat → Nat) (F : jF) (G : jG) (F2 : jF) (G2 : jG) (M : jF) (Y : va_W) (sz : Nat) (p1 : Int32) (p2 : Int32) (hok : okX11_pump F G M p1 p2) (hcod : (gX11_pump F G M p1 p2).1 = 0 ∨ (gX11_pump F G M p1 p2).1 = 1 ∨ (gX11_pump F G M p1 p2).1 = 2) : Met l yL_pump (Cond.codeWith yL_pump cL_pump 5 (some .int) [(0, 10, 13, 21), (0, 10, 17, 13)] :: wsL_law) rmL_pump (va_Pc [.ref h0, .int p1, .int p2, .ref oa] (jZ D yy (wW yy oa O (pV yy h0 an B B2 F G F2 G2 M) Y) sz)) (va_Qi (fun (r : Int32) (u : Nat → Int64) => (∃ x, (gX11_pump F G M p1 p2) = (0, x) ∧ r = 0 ∧ u = vp_updL O 0 (Int32.toInt64 x)) ∨ ((gX11_pump F G M p1 p2).1 ≠ 0 ∧ r = wk 1 2 9 (gX11_pump F G M p1 p2).1 ∧ u = O)) (fun u t => jB D yy (va_A (wW yy oa O (pV yy h0 an B B2 F G F2 G2 M) Y) sz) (wW yy oa u (pV yy h0 an B B2 F G F2 G2 M) Y) t) (va_A (wW yy oa O (pV yy h0 an B B2 F G F2 G2 M) Y) sz)) 9 64 (va_A (wW yy oa O (pV yy h0 an B B2 F G F2 G2 M) Y) sz) := by
  refine jMW (vs := [.ref h0, .int p1, .int p2, .ref oa]) (own := RL) (by decide +kernel) rfl (Nat.le_of_ble_eq_true rfl) ?_
  intro p e s m args below meth c ls Q hQ hargs S hr hlk htab hB hl
  obtain ⟨hx, hb, hml, hown, hts⟩ := S
  have hl : lv_has ls 5 [(0, .ref h0), (1, .int p1), (2, .int p2), (3, .ref oa)] := hl
  obtain ⟨⟨⟨hsz, hV, hK, hD0⟩, hT⟩, hN⟩ := hB
  subst hsz
  have hD := hD0.self (sz := s.heap.size)
  generalize hZ : va_A (wW yy oa O (pV yy h0 an B B2 F G F2 G2 M) Y) s.heap.size = Z at hD hQ hT
  have hA : ∀ q : Nat, s.heap.size ≤ q → Z q := fun q h => by rw [← hZ]; exact Or.inr h
  obtain ⟨H, hH⟩ : ∃ z, z = s.heap := ⟨_, rfl⟩
  obtain ⟨locs, hlocs⟩ : ∃ z : List Loc, z = [] := ⟨_, rfl⟩
  have hS : va_S Z s.heap H locs := by rw [hH, hlocs]; exact va_S.rf
  rw [← hH] at hV
  suffices hgo : W p l e rmL_pump s m args below meth c H locs 0 0 Q (F0 m 0 ls []) by rw [hH, hlocs] at hgo; exact hgo
  refine lv_aload_n hx hb (dd_of dL_pump_0 0 rfl) rfl (lv_at hl 3 rfl) ?_
  refine lv_iconst (v := 0) hx hb (dd_of dL_pump_0 1 rfl) (by decide) ?_
  refine lv_aload_n hx hb (dd_of dL_pump_0 2 rfl) rfl (lv_at hl 0 rfl) ?_
  refine lv_iload_n hx hb (dd_of dL_pump_0 3 rfl) rfl (lv_at hl 1 rfl) ?_
  refine lv_iload_n hx hb (dd_of dL_pump_0 4 rfl) rfl (lv_at hl 2 rfl) ?_
  refine jr_i (As := [.int p1, .int p2]) (rest := [.int 0, .ref oa]) (D := D) (yy := yy) (oa := oa) (O := O) (P0 := pV yy h0 an B B2 F G F2 G2 M) (Y := Y) (gc := (gX11_pump F G M p1 p2).1) ⟨hx, hb, hml, hown, hts⟩ (qX11_pump l hl9 D yy h0 an B B2 F G F2 G2 M H.size p1 p2 hok) (cwV 2 hts (jgV gw1051 gw1052 gw1053 gw2 gw1054) rfl rfl rfl (by decide +kernel) ⟨Nat.le_of_ble_eq_true rfl, Nat.le_of_ble_eq_true rfl⟩) hV hK hT hS hA (va_recv hK (wW_P hV) (ci := 11) (q0 := 0) rfl rfl) rfl hl.1 rfl (Nat.le_of_ble_eq_true rfl) (dd_of dL_pump_0 5 rfl) ⟨Nat.le_of_ble_eq_true rfl, Nat.le_of_ble_eq_true rfl⟩ (fun E ce q9 H locs hg0 hE9 hV hS z1 z2 z3 => ?_) (fun x H locs hp hV hS => ?_)
  · rcases hcod with hcod | hcod | hcod
    · exact absurd hcod hg0
    · have hE9 : E = xI := by rw [hE9, hcod]; rfl
      subst hE9
      refine jcat hown hts htab [] (0, 10, 13, 21) [(0, 10, 17, 13)] rfl (fun z hz => absurd hz List.not_mem_nil) (by decide) (by decide) gw601 (va_Nw.use rfl (hT.2.1.1 xI (Or.inl rfl))) z1 z2 z3 ?_
      refine lv_astore hx hb (dd_of dL_pump_0 9 rfl) hl (by decide) rfl (fun ls hl => ?_)
      refine lv_iconst (v := 1) hx hb (dd_of dL_pump_0 10 rfl) (by decide) ?_
      subst hQ
      refine W.widen (k := 9) (n := 64) (Nat.le_of_ble_eq_true rfl) (Nat.le_of_ble_eq_true rfl) ?_
      exact W.iret (v := 1) hx hb hr (fun t ht hW => ⟨⟨1, O, rfl, Or.inr ⟨hg0, by rw [hcod]; rfl, rfl⟩, by rw [ht]; exact hV, va_K.moved hW.alike hK, hD⟩, hS.F ht⟩) hS.2.2 (dd_of dL_pump_0 11 rfl) hlk
    · have hE9 : E = xA := by rw [hE9, hcod]; rfl
      subst hE9
      refine jcat hown hts htab [(0, 10, 13, 21)] (0, 10, 17, 13) [] rfl (fun z hz => by obtain rfl := List.mem_singleton.mp hz; exact ⟨by decide, xI, gw601, hN.2.1.1⟩) (by decide) (by decide) gw175 (va_Nw.use rfl (hT.2.1.1 xA (Or.inr (Or.inl rfl)))) z1 z2 z3 ?_
      refine lv_astore hx hb (dd_of dL_pump_0 12 rfl) hl (by decide) rfl (fun ls hl => ?_)
      refine lv_iconst (v := 2) hx hb (dd_of dL_pump_0 13 rfl) (by decide) ?_
      subst hQ
      refine W.widen (k := 9) (n := 64) (Nat.le_of_ble_eq_true rfl) (Nat.le_of_ble_eq_true rfl) ?_
      exact W.iret (v := 2) hx hb hr (fun t ht hW => ⟨⟨2, O, rfl, Or.inr ⟨hg0, by rw [hcod]; rfl, rfl⟩, by rw [ht]; exact hV, va_K.moved hW.alike hK, hD⟩, hS.F ht⟩) hS.2.2 (dd_of dL_pump_0 14 rfl) hlk
  · skip
    have hp : (gX11_pump F G M p1 p2) = (0, x) := hp
    refine lv_i2l (v := (Int32.toInt64 x)) hx hb (dd_of dL_pump_0 6 rfl) rfl ?_
    obtain ⟨P9, hP9⟩ : ∃ z, z = (pV yy h0 an B B2 F G F2 G2 M) := ⟨_, rfl⟩
    rw [← hP9] at hV hD
    refine va_last hx hb hK hV hD hS 0 1 rfl rfl (vin_lit (by decide)) (dd_of dL_pump_0 7 rfl) (fun H locs hV hD hS => ?_)
    have hV : va_P D vwCl (wW yy oa (vp_updL O 0 (Int32.toInt64 x)) P9 Y) H := hV
    have hD : va_D Z (wW yy oa (vp_updL O 0 (Int32.toInt64 x)) P9 Y) := hD
    rw [hP9] at hV hD
    refine lv_goto (tgt := 21) hx hb (dd_of dL_pump_0 8 rfl) (by decide) ?_
    refine lv_iconst (v := 0) hx hb (dd_of dL_pump_0 15 rfl) (by decide) ?_
    subst hQ
    refine W.widen (k := 9) (n := 64) (Nat.le_of_ble_eq_true rfl) (Nat.le_of_ble_eq_true rfl) ?_
    exact W.iret (v := 0) hx hb hr (fun t ht hW => ⟨⟨0, (vp_updL O 0 (Int32.toInt64 x)), rfl, Or.inl ⟨x, hp, rfl, rfl⟩, by rw [ht]; exact hV, va_K.moved hW.alike hK, hD⟩, hS.F ht⟩) hS.2.2 (dd_of dL_pump_0 16 rfl) hlk
set_option maxHeartbeats 4000000 in
set_option maxRecDepth 100000 in
theorem qL_dyke (l : Launch) (hl9 : l.stackTraces = false) (D : va_G) (yy : Nat → ClassId) (oa h0 an : Nat) (O : Nat → Int64) (B B2 : Nat → Nat) (F : jF) (G : jG) (F2 : jF) (G2 : jG) (M : jF) (Y : va_W) (sz : Nat) (p1 : Int32) (p2 : Int32) (hok : okX11_dyke F G M p1 p2) (hcod : (gX11_dyke F G M p1 p2).1 = 0 ∨ (gX11_dyke F G M p1 p2).1 = 1 ∨ (gX11_dyke F G M p1 p2).1 = 2) : Met l yL_dyke (Cond.codeWith yL_dyke cL_dyke 5 (some .int) [(0, 10, 13, 21), (0, 10, 17, 13)] :: wsL_law) rmL_dyke (va_Pc [.ref h0, .int p1, .int p2, .ref oa] (jZ D yy (wW yy oa O (pV yy h0 an B B2 F G F2 G2 M) Y) sz)) (va_Qi (fun (r : Int32) (u : Nat → Int64) => (∃ x, (gX11_dyke F G M p1 p2) = (0, x) ∧ r = 0 ∧ u = vp_updL O 0 (Int32.toInt64 x)) ∨ ((gX11_dyke F G M p1 p2).1 ≠ 0 ∧ r = wk 1 2 9 (gX11_dyke F G M p1 p2).1 ∧ u = O)) (fun u t => jB D yy (va_A (wW yy oa O (pV yy h0 an B B2 F G F2 G2 M) Y) sz) (wW yy oa u (pV yy h0 an B B2 F G F2 G2 M) Y) t) (va_A (wW yy oa O (pV yy h0 an B B2 F G F2 G2 M) Y) sz)) 9 64 (va_A (wW yy oa O (pV yy h0 an B B2 F G F2 G2 M) Y) sz) := by
  refine jMW (vs := [.ref h0, .int p1, .int p2, .ref oa]) (own := RL) (by decide +kernel) rfl (Nat.le_of_ble_eq_true rfl) ?_
  intro p e s m args below meth c ls Q hQ hargs S hr hlk htab hB hl
  obtain ⟨hx, hb, hml, hown, hts⟩ := S
  have hl : lv_has ls 5 [(0, .ref h0), (1, .int p1), (2, .int p2), (3, .ref oa)] := hl
  obtain ⟨⟨⟨hsz, hV, hK, hD0⟩, hT⟩, hN⟩ := hB
  subst hsz
  have hD := hD0.self (sz := s.heap.size)
  generalize hZ : va_A (wW yy oa O (pV yy h0 an B B2 F G F2 G2 M) Y) s.heap.size = Z at hD hQ hT
  have hA : ∀ q : Nat, s.heap.size ≤ q → Z q := fun q h => by rw [← hZ]; exact Or.inr h
  obtain ⟨H, hH⟩ : ∃ z, z = s.heap := ⟨_, rfl⟩
  obtain ⟨locs, hlocs⟩ : ∃ z : List Loc, z = [] := ⟨_, rfl⟩
  have hS : va_S Z s.heap H locs := by rw [hH, hlocs]; exact va_S.rf
  rw [← hH] at hV
  suffices hgo : W p l e rmL_dyke s m args below meth c H locs 0 0 Q (F0 m 0 ls []) by rw [hH, hlocs] at hgo; exact hgo
  refine lv_aload_n hx hb (dd_of dL_dyke_0 0 rfl) rfl (lv_at hl 3 rfl) ?_
  refine lv_iconst (v := 0) hx hb (dd_of dL_dyke_0 1 rfl) (by decide) ?_
  refine lv_aload_n hx hb (dd_of dL_dyke_0 2 rfl) rfl (lv_at hl 0 rfl) ?_
  refine lv_iload_n hx hb (dd_of dL_dyke_0 3 rfl) rfl (lv_at hl 1 rfl) ?_
  refine lv_iload_n hx hb (dd_of dL_dyke_0 4 rfl) rfl (lv_at hl 2 rfl) ?_
  refine jr_i (As := [.int p1, .int p2]) (rest := [.int 0, .ref oa]) (D := D) (yy := yy) (oa := oa) (O := O) (P0 := pV yy h0 an B B2 F G F2 G2 M) (Y := Y) (gc := (gX11_dyke F G M p1 p2).1) ⟨hx, hb, hml, hown, hts⟩ (qX11_dyke l hl9 D yy h0 an B B2 F G F2 G2 M H.size p1 p2 hok) (cwV 2 hts (jgV gw1065 gw1066 gw1067 gw2 gw1068) rfl rfl rfl (by decide +kernel) ⟨Nat.le_of_ble_eq_true rfl, Nat.le_of_ble_eq_true rfl⟩) hV hK hT hS hA (va_recv hK (wW_P hV) (ci := 11) (q0 := 0) rfl rfl) rfl hl.1 rfl (Nat.le_of_ble_eq_true rfl) (dd_of dL_dyke_0 5 rfl) ⟨Nat.le_of_ble_eq_true rfl, Nat.le_of_ble_eq_true rfl⟩ (fun E ce q9 H locs hg0 hE9 hV hS z1 z2 z3 => ?_) (fun x H locs hp hV hS => ?_)
  · rcases hcod with hcod | hcod | hcod
    · exact absurd hcod hg0
    · have hE9 : E = xI := by rw [hE9, hcod]; rfl
      subst hE9
      refine jcat hown hts htab [] (0, 10, 13, 21) [(0, 10, 17, 13)] rfl (fun z hz => absurd hz List.not_mem_nil) (by decide) (by decide) gw601 (va_Nw.use rfl (hT.2.1.1 xI (Or.inl rfl))) z1 z2 z3 ?_
      refine lv_astore hx hb (dd_of dL_dyke_0 9 rfl) hl (by decide) rfl (fun ls hl => ?_)
      refine lv_iconst (v := 1) hx hb (dd_of dL_dyke_0 10 rfl) (by decide) ?_
      subst hQ
      refine W.widen (k := 9) (n := 64) (Nat.le_of_ble_eq_true rfl) (Nat.le_of_ble_eq_true rfl) ?_
      exact W.iret (v := 1) hx hb hr (fun t ht hW => ⟨⟨1, O, rfl, Or.inr ⟨hg0, by rw [hcod]; rfl, rfl⟩, by rw [ht]; exact hV, va_K.moved hW.alike hK, hD⟩, hS.F ht⟩) hS.2.2 (dd_of dL_dyke_0 11 rfl) hlk
    · have hE9 : E = xA := by rw [hE9, hcod]; rfl
      subst hE9
      refine jcat hown hts htab [(0, 10, 13, 21)] (0, 10, 17, 13) [] rfl (fun z hz => by obtain rfl := List.mem_singleton.mp hz; exact ⟨by decide, xI, gw601, hN.2.1.1⟩) (by decide) (by decide) gw175 (va_Nw.use rfl (hT.2.1.1 xA (Or.inr (Or.inl rfl)))) z1 z2 z3 ?_
      refine lv_astore hx hb (dd_of dL_dyke_0 12 rfl) hl (by decide) rfl (fun ls hl => ?_)
      refine lv_iconst (v := 2) hx hb (dd_of dL_dyke_0 13 rfl) (by decide) ?_
      subst hQ
      refine W.widen (k := 9) (n := 64) (Nat.le_of_ble_eq_true rfl) (Nat.le_of_ble_eq_true rfl) ?_
      exact W.iret (v := 2) hx hb hr (fun t ht hW => ⟨⟨2, O, rfl, Or.inr ⟨hg0, by rw [hcod]; rfl, rfl⟩, by rw [ht]; exact hV, va_K.moved hW.alike hK, hD⟩, hS.F ht⟩) hS.2.2 (dd_of dL_dyke_0 14 rfl) hlk
  · skip
    have hp : (gX11_dyke F G M p1 p2) = (0, x) := hp
    refine lv_i2l (v := (Int32.toInt64 x)) hx hb (dd_of dL_dyke_0 6 rfl) rfl ?_
    obtain ⟨P9, hP9⟩ : ∃ z, z = (pV yy h0 an B B2 F G F2 G2 M) := ⟨_, rfl⟩
    rw [← hP9] at hV hD
    refine va_last hx hb hK hV hD hS 0 1 rfl rfl (vin_lit (by decide)) (dd_of dL_dyke_0 7 rfl) (fun H locs hV hD hS => ?_)
    have hV : va_P D vwCl (wW yy oa (vp_updL O 0 (Int32.toInt64 x)) P9 Y) H := hV
    have hD : va_D Z (wW yy oa (vp_updL O 0 (Int32.toInt64 x)) P9 Y) := hD
    rw [hP9] at hV hD
    refine lv_goto (tgt := 21) hx hb (dd_of dL_dyke_0 8 rfl) (by decide) ?_
    refine lv_iconst (v := 0) hx hb (dd_of dL_dyke_0 15 rfl) (by decide) ?_
    subst hQ
    refine W.widen (k := 9) (n := 64) (Nat.le_of_ble_eq_true rfl) (Nat.le_of_ble_eq_true rfl) ?_
    exact W.iret (v := 0) hx hb hr (fun t ht hW => ⟨⟨0, (vp_updL O 0 (Int32.toInt64 x)), rfl, Or.inl ⟨x, hp, rfl, rfl⟩, by rw [ht]; exact hV, va_K.moved hW.alike hK, hD⟩, hS.F ht⟩) hS.2.2 (dd_of dL_dyke_0 16 rfl) hlk
set_option maxHeartbeats 4000000 in
set_option maxRecDepth 100000 in
theorem qL_crew (l : Launch) (hl9 : l.stackTraces = false) (D : va_G) (yy : Nat → ClassId) (oa h0 an : Nat) (O : Nat → Int64) (B B2 : Nat → Nat) (F : jF) (G : jG) (F2 : jF) (G2 : jG) (M : jF) (Y : va_W) (sz : Nat) (p1 : Int32) (p2 : Int32) (hok : okX11_crew F G M p1 p2) (hcod : (gX11_crew F G M p1 p2).1 = 0 ∨ (gX11_crew F G M p1 p2).1 = 1 ∨ (gX11_crew F G M p1 p2).1 = 2) : Met l yL_crew (Cond.codeWith yL_crew cL_crew 5 (some .int) [(0, 10, 13, 21), (0, 10, 17, 13)] :: wsL_law) rmL_crew (va_Pc [.ref h0, .int p1, .int p2, .ref oa] (jZ D yy (wW yy oa O (pV yy h0 an B B2 F G F2 G2 M) Y) sz)) (va_Qi (fun (r : Int32) (u : Nat → Int64) => (∃ x, (gX11_crew F G M p1 p2) = (0, x) ∧ r = 0 ∧ u = vp_updL O 0 (Int32.toInt64 x)) ∨ ((gX11_crew F G M p1 p2).1 ≠ 0 ∧ r = wk 1 2 9 (gX11_crew F G M p1 p2).1 ∧ u = O)) (fun u t => jB D yy (va_A (wW yy oa O (pV yy h0 an B B2 F G F2 G2 M) Y) sz) (wW yy oa u (pV yy h0 an B B2 F G F2 G2 M) Y) t) (va_A (wW yy oa O (pV yy h0 an B B2 F G F2 G2 M) Y) sz)) 9 64 (va_A (wW yy oa O (pV yy h0 an B B2 F G F2 G2 M) Y) sz) := by
  refine jMW (vs := [.ref h0, .int p1, .int p2, .ref oa]) (own := RL) (by decide +kernel) rfl (Nat.le_of_ble_eq_true rfl) ?_
  intro p e s m args below meth c ls Q hQ hargs S hr hlk htab hB hl
  obtain ⟨hx, hb, hml, hown, hts⟩ := S
  have hl : lv_has ls 5 [(0, .ref h0), (1, .int p1), (2, .int p2), (3, .ref oa)] := hl
  obtain ⟨⟨⟨hsz, hV, hK, hD0⟩, hT⟩, hN⟩ := hB
  subst hsz
  have hD := hD0.self (sz := s.heap.size)
  generalize hZ : va_A (wW yy oa O (pV yy h0 an B B2 F G F2 G2 M) Y) s.heap.size = Z at hD hQ hT
  have hA : ∀ q : Nat, s.heap.size ≤ q → Z q := fun q h => by rw [← hZ]; exact Or.inr h
  obtain ⟨H, hH⟩ : ∃ z, z = s.heap := ⟨_, rfl⟩
  obtain ⟨locs, hlocs⟩ : ∃ z : List Loc, z = [] := ⟨_, rfl⟩
  have hS : va_S Z s.heap H locs := by rw [hH, hlocs]; exact va_S.rf
  rw [← hH] at hV
  suffices hgo : W p l e rmL_crew s m args below meth c H locs 0 0 Q (F0 m 0 ls []) by rw [hH, hlocs] at hgo; exact hgo
  refine lv_aload_n hx hb (dd_of dL_crew_0 0 rfl) rfl (lv_at hl 3 rfl) ?_
  refine lv_iconst (v := 0) hx hb (dd_of dL_crew_0 1 rfl) (by decide) ?_
  refine lv_aload_n hx hb (dd_of dL_crew_0 2 rfl) rfl (lv_at hl 0 rfl) ?_
  refine lv_iload_n hx hb (dd_of dL_crew_0 3 rfl) rfl (lv_at hl 1 rfl) ?_
  refine lv_iload_n hx hb (dd_of dL_crew_0 4 rfl) rfl (lv_at hl 2 rfl) ?_
  refine jr_i (As := [.int p1, .int p2]) (rest := [.int 0, .ref oa]) (D := D) (yy := yy) (oa := oa) (O := O) (P0 := pV yy h0 an B B2 F G F2 G2 M) (Y := Y) (gc := (gX11_crew F G M p1 p2).1) ⟨hx, hb, hml, hown, hts⟩ (qX11_crew l hl9 D yy h0 an B B2 F G F2 G2 M H.size p1 p2 hok) (cwV 2 hts (jgV gw1079 gw1080 gw1081 gw2 gw1082) rfl rfl rfl (by decide +kernel) ⟨Nat.le_of_ble_eq_true rfl, Nat.le_of_ble_eq_true rfl⟩) hV hK hT hS hA (va_recv hK (wW_P hV) (ci := 11) (q0 := 0) rfl rfl) rfl hl.1 rfl (Nat.le_of_ble_eq_true rfl) (dd_of dL_crew_0 5 rfl) ⟨Nat.le_of_ble_eq_true rfl, Nat.le_of_ble_eq_true rfl⟩ (fun E ce q9 H locs hg0 hE9 hV hS z1 z2 z3 => ?_) (fun x H locs hp hV hS => ?_)
  · rcases hcod with hcod | hcod | hcod
    · exact absurd hcod hg0
    · have hE9 : E = xI := by rw [hE9, hcod]; rfl
      subst hE9
      refine jcat hown hts htab [] (0, 10, 13, 21) [(0, 10, 17, 13)] rfl (fun z hz => absurd hz List.not_mem_nil) (by decide) (by decide) gw601 (va_Nw.use rfl (hT.2.1.1 xI (Or.inl rfl))) z1 z2 z3 ?_
      refine lv_astore hx hb (dd_of dL_crew_0 9 rfl) hl (by decide) rfl (fun ls hl => ?_)
      refine lv_iconst (v := 1) hx hb (dd_of dL_crew_0 10 rfl) (by decide) ?_
      subst hQ
      refine W.widen (k := 9) (n := 64) (Nat.le_of_ble_eq_true rfl) (Nat.le_of_ble_eq_true rfl) ?_
      exact W.iret (v := 1) hx hb hr (fun t ht hW => ⟨⟨1, O, rfl, Or.inr ⟨hg0, by rw [hcod]; rfl, rfl⟩, by rw [ht]; exact hV, va_K.moved hW.alike hK, hD⟩, hS.F ht⟩) hS.2.2 (dd_of dL_crew_0 11 rfl) hlk
    · have hE9 : E = xA := by rw [hE9, hcod]; rfl
      subst hE9
      refine jcat hown hts htab [(0, 10, 13, 21)] (0, 10, 17, 13) [] rfl (fun z hz => by obtain rfl := List.mem_singleton.mp hz; exact ⟨by decide, xI, gw601, hN.2.1.1⟩) (by decide) (by decide) gw175 (va_Nw.use rfl (hT.2.1.1 xA (Or.inr (Or.inl rfl)))) z1 z2 z3 ?_
      refine lv_astore hx hb (dd_of dL_crew_0 12 rfl) hl (by decide) rfl (fun ls hl => ?_)
      refine lv_iconst (v := 2) hx hb (dd_of dL_crew_0 13 rfl) (by decide) ?_
      subst hQ
      refine W.widen (k := 9) (n := 64) (Nat.le_of_ble_eq_true rfl) (Nat.le_of_ble_eq_true rfl) ?_
      exact W.iret (v := 2) hx hb hr (fun t ht hW => ⟨⟨2, O, rfl, Or.inr ⟨hg0, by rw [hcod]; rfl, rfl⟩, by rw [ht]; exact hV, va_K.moved hW.alike hK, hD⟩, hS.F ht⟩) hS.2.2 (dd_of dL_crew_0 14 rfl) hlk
  · skip
    have hp : (gX11_crew F G M p1 p2) = (0, x) := hp
    refine lv_i2l (v := (Int32.toInt64 x)) hx hb (dd_of dL_crew_0 6 rfl) rfl ?_
    obtain ⟨P9, hP9⟩ : ∃ z, z = (pV yy h0 an B B2 F G F2 G2 M) := ⟨_, rfl⟩
    rw [← hP9] at hV hD
    refine va_last hx hb hK hV hD hS 0 1 rfl rfl (vin_lit (by decide)) (dd_of dL_crew_0 7 rfl) (fun H locs hV hD hS => ?_)
    have hV : va_P D vwCl (wW yy oa (vp_updL O 0 (Int32.toInt64 x)) P9 Y) H := hV
    have hD : va_D Z (wW yy oa (vp_updL O 0 (Int32.toInt64 x)) P9 Y) := hD
    rw [hP9] at hV hD
    refine lv_goto (tgt := 21) hx hb (dd_of dL_crew_0 8 rfl) (by decide) ?_
    refine lv_iconst (v := 0) hx hb (dd_of dL_crew_0 15 rfl) (by decide) ?_
    subst hQ
    refine W.widen (k := 9) (n := 64) (Nat.le_of_ble_eq_true rfl) (Nat.le_of_ble_eq_true rfl) ?_
    exact W.iret (v := 0) hx hb hr (fun t ht hW => ⟨⟨0, (vp_updL O 0 (Int32.toInt64 x)), rfl, Or.inl ⟨x, hp, rfl, rfl⟩, by rw [ht]; exact hV, va_K.moved hW.alike hK, hD⟩, hS.F ht⟩) hS.2.2 (dd_of dL_crew_0 16 rfl) hlk
set_option maxHeartbeats 4000000 in
set_option maxRecDepth 100000 in
theorem qL_sea (l : Launch) (hl9 : l.stackTraces = false) (D : va_G) (yy : Nat → ClassId) (oa h0 an : Nat) (O : Nat → Int64) (B B2 : Nat → Nat) (F : jF) (G : jG) (F2 : jF) (G2 : jG) (M : jF) (Y : va_W) (sz : Nat) (p1 : Int32) (hok : okX11_sea F G M p1) (hcod : (gX11_sea F G M p1).1 = 0 ∨ (gX11_sea F G M p1).1 = 2) : Met l yL_sea (Cond.codeWith yL_sea cL_sea 4 (some .int) [(0, 8, 11, 13)] :: wsL_law) rmL_sea (va_Pc [.ref h0, .int p1, .ref oa] (jZ D yy (wW yy oa O (pV yy h0 an B B2 F G F2 G2 M) Y) sz)) (va_Qi (fun (r : Int32) (u : Nat → Int64) => (∃ x, (gX11_sea F G M p1) = (0, x) ∧ r = 0 ∧ u = vp_updL O 0 x) ∨ ((gX11_sea F G M p1).1 ≠ 0 ∧ r = wk 2 9 9 (gX11_sea F G M p1).1 ∧ u = O)) (fun u t => jB D yy (va_A (wW yy oa O (pV yy h0 an B B2 F G F2 G2 M) Y) sz) (wW yy oa u (pV yy h0 an B B2 F G F2 G2 M) Y) t) (va_A (wW yy oa O (pV yy h0 an B B2 F G F2 G2 M) Y) sz)) 9 64 (va_A (wW yy oa O (pV yy h0 an B B2 F G F2 G2 M) Y) sz) := by
  refine jMW (vs := [.ref h0, .int p1, .ref oa]) (own := RL) (by decide +kernel) rfl (Nat.le_of_ble_eq_true rfl) ?_
  intro p e s m args below meth c ls Q hQ hargs S hr hlk htab hB hl
  obtain ⟨hx, hb, hml, hown, hts⟩ := S
  have hl : lv_has ls 4 [(0, .ref h0), (1, .int p1), (2, .ref oa)] := hl
  obtain ⟨⟨⟨hsz, hV, hK, hD0⟩, hT⟩, hN⟩ := hB
  subst hsz
  have hD := hD0.self (sz := s.heap.size)
  generalize hZ : va_A (wW yy oa O (pV yy h0 an B B2 F G F2 G2 M) Y) s.heap.size = Z at hD hQ hT
  have hA : ∀ q : Nat, s.heap.size ≤ q → Z q := fun q h => by rw [← hZ]; exact Or.inr h
  obtain ⟨H, hH⟩ : ∃ z, z = s.heap := ⟨_, rfl⟩
  obtain ⟨locs, hlocs⟩ : ∃ z : List Loc, z = [] := ⟨_, rfl⟩
  have hS : va_S Z s.heap H locs := by rw [hH, hlocs]; exact va_S.rf
  rw [← hH] at hV
  suffices hgo : W p l e rmL_sea s m args below meth c H locs 0 0 Q (F0 m 0 ls []) by rw [hH, hlocs] at hgo; exact hgo
  refine lv_aload_n hx hb (dd_of dL_sea_0 0 rfl) rfl (lv_at hl 2 rfl) ?_
  refine lv_iconst (v := 0) hx hb (dd_of dL_sea_0 1 rfl) (by decide) ?_
  refine lv_aload_n hx hb (dd_of dL_sea_0 2 rfl) rfl (lv_at hl 0 rfl) ?_
  refine lv_iload_n hx hb (dd_of dL_sea_0 3 rfl) rfl (lv_at hl 1 rfl) ?_
  refine jr_l (As := [.int p1]) (rest := [.int 0, .ref oa]) (D := D) (yy := yy) (oa := oa) (O := O) (P0 := pV yy h0 an B B2 F G F2 G2 M) (Y := Y) (gc := (gX11_sea F G M p1).1) ⟨hx, hb, hml, hown, hts⟩ (qX11_sea l hl9 D yy h0 an B B2 F G F2 G2 M H.size p1 hok) (cwV 1 hts (jgV gw1093 gw1094 gw1095 gw2 gw1096) rfl rfl rfl (by decide +kernel) ⟨Nat.le_of_ble_eq_true rfl, Nat.le_of_ble_eq_true rfl⟩) hV hK hT hS hA (va_recv hK (wW_P hV) (ci := 11) (q0 := 0) rfl rfl) rfl hl.1 rfl (Nat.le_of_ble_eq_true rfl) (dd_of dL_sea_0 4 rfl) ⟨Nat.le_of_ble_eq_true rfl, Nat.le_of_ble_eq_true rfl⟩ (fun E ce q9 H locs hg0 hE9 hV hS z1 z2 z3 => ?_) (fun x H locs hp hV hS => ?_)
  · rcases hcod with hcod | hcod
    · exact absurd hcod hg0
    · have hE9 : E = xA := by rw [hE9, hcod]; rfl
      subst hE9
      refine jcat hown hts htab [] (0, 8, 11, 13) [] rfl (fun z hz => absurd hz List.not_mem_nil) (by decide) (by decide) gw175 (va_Nw.use rfl (hT.2.1.1 xA (Or.inr (Or.inl rfl)))) z1 z2 z3 ?_
      refine lv_astore_n hx hb (dd_of dL_sea_0 7 rfl) rfl hl (by decide) rfl (fun ls hl => ?_)
      refine lv_iconst (v := 1) hx hb (dd_of dL_sea_0 8 rfl) (by decide) ?_
      subst hQ
      refine W.widen (k := 9) (n := 64) (Nat.le_of_ble_eq_true rfl) (Nat.le_of_ble_eq_true rfl) ?_
      exact W.iret (v := 1) hx hb hr (fun t ht hW => ⟨⟨1, O, rfl, Or.inr ⟨hg0, by rw [hcod]; rfl, rfl⟩, by rw [ht]; exact hV, va_K.moved hW.alike hK, hD⟩, hS.F ht⟩) hS.2.2 (dd_of dL_sea_0 9 rfl) hlk
  · skip
    have hp : (gX11_sea F G M p1) = (0, x) := hp
    obtain ⟨P9, hP9⟩ : ∃ z, z = (pV yy h0 an B B2 F G F2 G2 M) := ⟨_, rfl⟩
    rw [← hP9] at hV hD
    refine va_last hx hb hK hV hD hS 0 1 rfl rfl (vin_lit (by decide)) (dd_of dL_sea_0 5 rfl) (fun H locs hV hD hS => ?_)
    have hV : va_P D vwCl (wW yy oa (vp_updL O 0 x) P9 Y) H := hV
    have hD : va_D Z (wW yy oa (vp_updL O 0 x) P9 Y) := hD
    rw [hP9] at hV hD
    refine lv_goto (tgt := 14) hx hb (dd_of dL_sea_0 6 rfl) (by decide) ?_
    refine lv_iconst (v := 0) hx hb (dd_of dL_sea_0 10 rfl) (by decide) ?_
    subst hQ
    refine W.widen (k := 9) (n := 64) (Nat.le_of_ble_eq_true rfl) (Nat.le_of_ble_eq_true rfl) ?_
    exact W.iret (v := 0) hx hb hr (fun t ht hW => ⟨⟨0, (vp_updL O 0 x), rfl, Or.inl ⟨x, hp, rfl, rfl⟩, by rw [ht]; exact hV, va_K.moved hW.alike hK, hD⟩, hS.F ht⟩) hS.2.2 (dd_of dL_sea_0 11 rfl) hlk
set_option maxHeartbeats 4000000 in
set_option maxRecDepth 100000 in
theorem qL_forecast (l : Launch) (hl9 : l.stackTraces = false) (D : va_G) (yy : Nat → ClassId) (oa h0 an : Nat) (O : Nat → Int64) (B B2 : Nat → Nat) (F : jF) (G : jG) (F2 : jF) (G2 : jG) (M : jF) (Y : va_W) (sz : Nat) (p1 : Int32) (hok : okX11_forecast F G M p1) (hcod : (gX11_forecast F G M p1).1 = 0 ∨ (gX11_forecast F G M p1).1 = 2) : Met l yL_forecast (Cond.codeWith yL_forecast cL_forecast 4 (some .int) [(0, 8, 11, 13)] :: wsL_law) rmL_forecast (va_Pc [.ref h0, .int p1, .ref oa] (jZ D yy (wW yy oa O (pV yy h0 an B B2 F G F2 G2 M) Y) sz)) (va_Qi (fun (r : Int32) (u : Nat → Int64) => (∃ x, (gX11_forecast F G M p1) = (0, x) ∧ r = 0 ∧ u = vp_updL O 0 x) ∨ ((gX11_forecast F G M p1).1 ≠ 0 ∧ r = wk 2 9 9 (gX11_forecast F G M p1).1 ∧ u = O)) (fun u t => jB D yy (va_A (wW yy oa O (pV yy h0 an B B2 F G F2 G2 M) Y) sz) (wW yy oa u (pV yy h0 an B B2 F G F2 G2 M) Y) t) (va_A (wW yy oa O (pV yy h0 an B B2 F G F2 G2 M) Y) sz)) 9 64 (va_A (wW yy oa O (pV yy h0 an B B2 F G F2 G2 M) Y) sz) := by
  refine jMW (vs := [.ref h0, .int p1, .ref oa]) (own := RL) (by decide +kernel) rfl (Nat.le_of_ble_eq_true rfl) ?_
  intro p e s m args below meth c ls Q hQ hargs S hr hlk htab hB hl
  obtain ⟨hx, hb, hml, hown, hts⟩ := S
  have hl : lv_has ls 4 [(0, .ref h0), (1, .int p1), (2, .ref oa)] := hl
  obtain ⟨⟨⟨hsz, hV, hK, hD0⟩, hT⟩, hN⟩ := hB
  subst hsz
  have hD := hD0.self (sz := s.heap.size)
  generalize hZ : va_A (wW yy oa O (pV yy h0 an B B2 F G F2 G2 M) Y) s.heap.size = Z at hD hQ hT
  have hA : ∀ q : Nat, s.heap.size ≤ q → Z q := fun q h => by rw [← hZ]; exact Or.inr h
  obtain ⟨H, hH⟩ : ∃ z, z = s.heap := ⟨_, rfl⟩
  obtain ⟨locs, hlocs⟩ : ∃ z : List Loc, z = [] := ⟨_, rfl⟩
  have hS : va_S Z s.heap H locs := by rw [hH, hlocs]; exact va_S.rf
  rw [← hH] at hV
  suffices hgo : W p l e rmL_forecast s m args below meth c H locs 0 0 Q (F0 m 0 ls []) by rw [hH, hlocs] at hgo; exact hgo
  refine lv_aload_n hx hb (dd_of dL_forecast_0 0 rfl) rfl (lv_at hl 2 rfl) ?_
  refine lv_iconst (v := 0) hx hb (dd_of dL_forecast_0 1 rfl) (by decide) ?_
  refine lv_aload_n hx hb (dd_of dL_forecast_0 2 rfl) rfl (lv_at hl 0 rfl) ?_
  refine lv_iload_n hx hb (dd_of dL_forecast_0 3 rfl) rfl (lv_at hl 1 rfl) ?_
  refine jr_l (As := [.int p1]) (rest := [.int 0, .ref oa]) (D := D) (yy := yy) (oa := oa) (O := O) (P0 := pV yy h0 an B B2 F G F2 G2 M) (Y := Y) (gc := (gX11_forecast F G M p1).1) ⟨hx, hb, hml, hown, hts⟩ (qX11_forecast l hl9 D yy h0 an B B2 F G F2 G2 M H.size p1 hok) (cwV 1 hts (jgV gw1105 gw1106 gw1107 gw2 gw1108) rfl rfl rfl (by decide +kernel) ⟨Nat.le_of_ble_eq_true rfl, Nat.le_of_ble_eq_true rfl⟩) hV hK hT hS hA (va_recv hK (wW_P hV) (ci := 11) (q0 := 0) rfl rfl) rfl hl.1 rfl (Nat.le_of_ble_eq_true rfl) (dd_of dL_forecast_0 4 rfl) ⟨Nat.le_of_ble_eq_true rfl, Nat.le_of_ble_eq_true rfl⟩ (fun E ce q9 H locs hg0 hE9 hV hS z1 z2 z3 => ?_) (fun x H locs hp hV hS => ?_)
  · rcases hcod with hcod | hcod
    · exact absurd hcod hg0
    · have hE9 : E = xA := by rw [hE9, hcod]; rfl
      subst hE9
      refine jcat hown hts htab [] (0, 8, 11, 13) [] rfl (fun z hz => absurd hz List.not_mem_nil) (by decide) (by decide) gw175 (va_Nw.use rfl (hT.2.1.1 xA (Or.inr (Or.inl rfl)))) z1 z2 z3 ?_
      refine lv_astore_n hx hb (dd_of dL_forecast_0 7 rfl) rfl hl (by decide) rfl (fun ls hl => ?_)
      refine lv_iconst (v := 1) hx hb (dd_of dL_forecast_0 8 rfl) (by decide) ?_
      subst hQ
      refine W.widen (k := 9) (n := 64) (Nat.le_of_ble_eq_true rfl) (Nat.le_of_ble_eq_true rfl) ?_
      exact W.iret (v := 1) hx hb hr (fun t ht hW => ⟨⟨1, O, rfl, Or.inr ⟨hg0, by rw [hcod]; rfl, rfl⟩, by rw [ht]; exact hV, va_K.moved hW.alike hK, hD⟩, hS.F ht⟩) hS.2.2 (dd_of dL_forecast_0 9 rfl) hlk
  · skip
    have hp : (gX11_forecast F G M p1) = (0, x) := hp
    obtain ⟨P9, hP9⟩ : ∃ z, z = (pV yy h0 an B B2 F G F2 G2 M) := ⟨_, rfl⟩
    rw [← hP9] at hV hD
    refine va_last hx hb hK hV hD hS 0 1 rfl rfl (vin_lit (by decide)) (dd_of dL_forecast_0 5 rfl) (fun H locs hV hD hS => ?_)
    have hV : va_P D vwCl (wW yy oa (vp_updL O 0 x) P9 Y) H := hV
    have hD : va_D Z (wW yy oa (vp_updL O 0 x) P9 Y) := hD
    rw [hP9] at hV hD
    refine lv_goto (tgt := 14) hx hb (dd_of dL_forecast_0 6 rfl) (by decide) ?_
    refine lv_iconst (v := 0) hx hb (dd_of dL_forecast_0 10 rfl) (by decide) ?_
    subst hQ
    refine W.widen (k := 9) (n := 64) (Nat.le_of_ble_eq_true rfl) (Nat.le_of_ble_eq_true rfl) ?_
    exact W.iret (v := 0) hx hb hr (fun t ht hW => ⟨⟨0, (vp_updL O 0 x), rfl, Or.inl ⟨x, hp, rfl, rfl⟩, by rw [ht]; exact hV, va_K.moved hW.alike hK, hD⟩, hS.F ht⟩) hS.2.2 (dd_of dL_forecast_0 11 rfl) hlk
set_option maxHeartbeats 4000000 in
set_option maxRecDepth 100000 in
theorem qL_record (l : Launch) (hl9 : l.stackTraces = false) (D : va_G) (yy : Nat → ClassId) (oa h0 an : Nat) (O : Nat → Int64) (B B2 : Nat → Nat) (F : jF) (G : jG) (F2 : jF) (G2 : jG) (M : jF) (Y : va_W) (sz : Nat) (p1 : Int32) (hok : okX11_record F G M p1) (hcod : (gX11_record F G M p1).1 = 0 ∨ (gX11_record F G M p1).1 = 1) : Met l yL_record (Cond.codeWith yL_record cL_record 4 (some .int) [(0, 8, 11, 21)] :: wsL_law) rmL_record (va_Pc [.ref h0, .int p1, .ref oa] (jZ D yy (wW yy oa O (pV yy h0 an B B2 F G F2 G2 M) Y) sz)) (va_Qi (fun (r : Int32) (u : Nat → Int64) => (∃ x, (gX11_record F G M p1) = (0, x) ∧ r = 0 ∧ u = vp_updL O 0 x) ∨ ((gX11_record F G M p1).1 ≠ 0 ∧ r = wk 1 9 9 (gX11_record F G M p1).1 ∧ u = O)) (fun u t => jB D yy (va_A (wW yy oa O (pV yy h0 an B B2 F G F2 G2 M) Y) sz) (wW yy oa u (pV yy h0 an B B2 F G F2 G2 M) Y) t) (va_A (wW yy oa O (pV yy h0 an B B2 F G F2 G2 M) Y) sz)) 9 64 (va_A (wW yy oa O (pV yy h0 an B B2 F G F2 G2 M) Y) sz) := by
  refine jMW (vs := [.ref h0, .int p1, .ref oa]) (own := RL) (by decide +kernel) rfl (Nat.le_of_ble_eq_true rfl) ?_
  intro p e s m args below meth c ls Q hQ hargs S hr hlk htab hB hl
  obtain ⟨hx, hb, hml, hown, hts⟩ := S
  have hl : lv_has ls 4 [(0, .ref h0), (1, .int p1), (2, .ref oa)] := hl
  obtain ⟨⟨⟨hsz, hV, hK, hD0⟩, hT⟩, hN⟩ := hB
  subst hsz
  have hD := hD0.self (sz := s.heap.size)
  generalize hZ : va_A (wW yy oa O (pV yy h0 an B B2 F G F2 G2 M) Y) s.heap.size = Z at hD hQ hT
  have hA : ∀ q : Nat, s.heap.size ≤ q → Z q := fun q h => by rw [← hZ]; exact Or.inr h
  obtain ⟨H, hH⟩ : ∃ z, z = s.heap := ⟨_, rfl⟩
  obtain ⟨locs, hlocs⟩ : ∃ z : List Loc, z = [] := ⟨_, rfl⟩
  have hS : va_S Z s.heap H locs := by rw [hH, hlocs]; exact va_S.rf
  rw [← hH] at hV
  suffices hgo : W p l e rmL_record s m args below meth c H locs 0 0 Q (F0 m 0 ls []) by rw [hH, hlocs] at hgo; exact hgo
  refine lv_aload_n hx hb (dd_of dL_record_0 0 rfl) rfl (lv_at hl 2 rfl) ?_
  refine lv_iconst (v := 0) hx hb (dd_of dL_record_0 1 rfl) (by decide) ?_
  refine lv_aload_n hx hb (dd_of dL_record_0 2 rfl) rfl (lv_at hl 0 rfl) ?_
  refine lv_iload_n hx hb (dd_of dL_record_0 3 rfl) rfl (lv_at hl 1 rfl) ?_
  refine jr_l (As := [.int p1]) (rest := [.int 0, .ref oa]) (D := D) (yy := yy) (oa := oa) (O := O) (P0 := pV yy h0 an B B2 F G F2 G2 M) (Y := Y) (gc := (gX11_record F G M p1).1) ⟨hx, hb, hml, hown, hts⟩ (qX11_record l hl9 D yy h0 an B B2 F G F2 G2 M H.size p1 hok) (cwV 1 hts (jgV gw1124 gw1125 gw1126 gw2 gw1127) rfl rfl rfl (by decide +kernel) ⟨Nat.le_of_ble_eq_true rfl, Nat.le_of_ble_eq_true rfl⟩) hV hK hT hS hA (va_recv hK (wW_P hV) (ci := 11) (q0 := 0) rfl rfl) rfl hl.1 rfl (Nat.le_of_ble_eq_true rfl) (dd_of dL_record_0 4 rfl) ⟨Nat.le_of_ble_eq_true rfl, Nat.le_of_ble_eq_true rfl⟩ (fun E ce q9 H locs hg0 hE9 hV hS z1 z2 z3 => ?_) (fun x H locs hp hV hS => ?_)
  · rcases hcod with hcod | hcod
    · exact absurd hcod hg0
    · have hE9 : E = xI := by rw [hE9, hcod]; rfl
      subst hE9
      refine jcat hown hts htab [] (0, 8, 11, 21) [] rfl (fun z hz => absurd hz List.not_mem_nil) (by decide) (by decide) gw601 (va_Nw.use rfl (hT.2.1.1 xI (Or.inl rfl))) z1 z2 z3 ?_
      refine lv_astore_n hx hb (dd_of dL_record_0 7 rfl) rfl hl (by decide) rfl (fun ls hl => ?_)
      refine lv_iconst (v := 1) hx hb (dd_of dL_record_0 8 rfl) (by decide) ?_
      subst hQ
      refine W.widen (k := 9) (n := 64) (Nat.le_of_ble_eq_true rfl) (Nat.le_of_ble_eq_true rfl) ?_
      exact W.iret (v := 1) hx hb hr (fun t ht hW => ⟨⟨1, O, rfl, Or.inr ⟨hg0, by rw [hcod]; rfl, rfl⟩, by rw [ht]; exact hV, va_K.moved hW.alike hK, hD⟩, hS.F ht⟩) hS.2.2 (dd_of dL_record_0 9 rfl) hlk
  · skip
    have hp : (gX11_record F G M p1) = (0, x) := hp
    obtain ⟨P9, hP9⟩ : ∃ z, z = (pV yy h0 an B B2 F G F2 G2 M) := ⟨_, rfl⟩
    rw [← hP9] at hV hD
    refine va_last hx hb hK hV hD hS 0 1 rfl rfl (vin_lit (by decide)) (dd_of dL_record_0 5 rfl) (fun H locs hV hD hS => ?_)
    have hV : va_P D vwCl (wW yy oa (vp_updL O 0 x) P9 Y) H := hV
    have hD : va_D Z (wW yy oa (vp_updL O 0 x) P9 Y) := hD
    rw [hP9] at hV hD
    refine lv_goto (tgt := 14) hx hb (dd_of dL_record_0 6 rfl) (by decide) ?_
    refine lv_iconst (v := 0) hx hb (dd_of dL_record_0 10 rfl) (by decide) ?_
    subst hQ
    refine W.widen (k := 9) (n := 64) (Nat.le_of_ble_eq_true rfl) (Nat.le_of_ble_eq_true rfl) ?_
    exact W.iret (v := 0) hx hb hr (fun t ht hW => ⟨⟨0, (vp_updL O 0 x), rfl, Or.inl ⟨x, hp, rfl, rfl⟩, by rw [ht]; exact hV, va_K.moved hW.alike hK, hD⟩, hS.F ht⟩) hS.2.2 (dd_of dL_record_0 11 rfl) hlk
set_option maxHeartbeats 4000000 in
set_option maxRecDepth 100000 in
theorem qL_nextHeight (l : Launch) (hl9 : l.stackTraces = false) (D : va_G) (yy : Nat → ClassId) (oa h0 an : Nat) (O : Nat → Int64) (B B2 : Nat → Nat) (F : jF) (G : jG) (F2 : jF) (G2 : jG) (M : jF) (Y : va_W) (sz : Nat) (p1 : Int32) (p2 : Int32) (hok : okX11_nextHeight F G M p1 p2) (hcod : (gX11_nextHeight F G M p1 p2).1 = 0 ∨ (gX11_nextHeight F G M p1 p2).1 = 2 ∨ (gX11_nextHeight F G M p1 p2).1 = 3) : Met l yL_nextHeight (Cond.codeWith yL_nextHeight cL_nextHeight 5 (some .int) [(0, 9, 12, 13), (0, 9, 16, 15)] :: wsL_law) rmL_nextHeight (va_Pc [.ref h0, .int p1, .int p2, .ref oa] (jZ D yy (wW yy oa O (pV yy h0 an B B2 F G F2 G2 M) Y) sz)) (va_Qi (fun (r : Int32) (u : Nat → Int64) => (∃ x, (gX11_nextHeight F G M p1 p2) = (0, x) ∧ r = 0 ∧ u = vp_updL O 0 x) ∨ ((gX11_nextHeight F G M p1 p2).1 ≠ 0 ∧ r = wk 2 3 9 (gX11_nextHeight F G M p1 p2).1 ∧ u = O)) (fun u t => jB D yy (va_A (wW yy oa O (pV yy h0 an B B2 F G F2 G2 M) Y) sz) (wW yy oa u (pV yy h0 an B B2 F G F2 G2 M) Y) t) (va_A (wW yy oa O (pV yy h0 an B B2 F G F2 G2 M) Y) sz)) 9 64 (va_A (wW yy oa O (pV yy h0 an B B2 F G F2 G2 M) Y) sz) := by
  refine jMW (vs := [.ref h0, .int p1, .int p2, .ref oa]) (own := RL) (by decide +kernel) rfl (Nat.le_of_ble_eq_true rfl) ?_
  intro p e s m args below meth c ls Q hQ hargs S hr hlk htab hB hl
  obtain ⟨hx, hb, hml, hown, hts⟩ := S
  have hl : lv_has ls 5 [(0, .ref h0), (1, .int p1), (2, .int p2), (3, .ref oa)] := hl
  obtain ⟨⟨⟨hsz, hV, hK, hD0⟩, hT⟩, hN⟩ := hB
  subst hsz
  have hD := hD0.self (sz := s.heap.size)
  generalize hZ : va_A (wW yy oa O (pV yy h0 an B B2 F G F2 G2 M) Y) s.heap.size = Z at hD hQ hT
  have hA : ∀ q : Nat, s.heap.size ≤ q → Z q := fun q h => by rw [← hZ]; exact Or.inr h
  obtain ⟨H, hH⟩ : ∃ z, z = s.heap := ⟨_, rfl⟩
  obtain ⟨locs, hlocs⟩ : ∃ z : List Loc, z = [] := ⟨_, rfl⟩
  have hS : va_S Z s.heap H locs := by rw [hH, hlocs]; exact va_S.rf
  rw [← hH] at hV
  suffices hgo : W p l e rmL_nextHeight s m args below meth c H locs 0 0 Q (F0 m 0 ls []) by rw [hH, hlocs] at hgo; exact hgo
  refine lv_aload_n hx hb (dd_of dL_nextHeight_0 0 rfl) rfl (lv_at hl 3 rfl) ?_
  refine lv_iconst (v := 0) hx hb (dd_of dL_nextHeight_0 1 rfl) (by decide) ?_
  refine lv_aload_n hx hb (dd_of dL_nextHeight_0 2 rfl) rfl (lv_at hl 0 rfl) ?_
  refine lv_iload_n hx hb (dd_of dL_nextHeight_0 3 rfl) rfl (lv_at hl 1 rfl) ?_
  refine lv_iload_n hx hb (dd_of dL_nextHeight_0 4 rfl) rfl (lv_at hl 2 rfl) ?_
  refine jr_l (As := [.int p1, .int p2]) (rest := [.int 0, .ref oa]) (D := D) (yy := yy) (oa := oa) (O := O) (P0 := pV yy h0 an B B2 F G F2 G2 M) (Y := Y) (gc := (gX11_nextHeight F G M p1 p2).1) ⟨hx, hb, hml, hown, hts⟩ (qX11_nextHeight l hl9 D yy h0 an B B2 F G F2 G2 M H.size p1 p2 hok) (cwV 2 hts (jgV gw1139 gw1140 gw1141 gw2 gw1142) rfl rfl rfl (by decide +kernel) ⟨Nat.le_of_ble_eq_true rfl, Nat.le_of_ble_eq_true rfl⟩) hV hK hT hS hA (va_recv hK (wW_P hV) (ci := 11) (q0 := 0) rfl rfl) rfl hl.1 rfl (Nat.le_of_ble_eq_true rfl) (dd_of dL_nextHeight_0 5 rfl) ⟨Nat.le_of_ble_eq_true rfl, Nat.le_of_ble_eq_true rfl⟩ (fun E ce q9 H locs hg0 hE9 hV hS z1 z2 z3 => ?_) (fun x H locs hp hV hS => ?_)
  · rcases hcod with hcod | hcod | hcod
    · exact absurd hcod hg0
    · have hE9 : E = xA := by rw [hE9, hcod]; rfl
      subst hE9
      refine jcat hown hts htab [] (0, 9, 12, 13) [(0, 9, 16, 15)] rfl (fun z hz => absurd hz List.not_mem_nil) (by decide) (by decide) gw175 (va_Nw.use rfl (hT.2.1.1 xA (Or.inr (Or.inl rfl)))) z1 z2 z3 ?_
      refine lv_astore hx hb (dd_of dL_nextHeight_0 8 rfl) hl (by decide) rfl (fun ls hl => ?_)
      refine lv_iconst (v := 1) hx hb (dd_of dL_nextHeight_0 9 rfl) (by decide) ?_
      subst hQ
      refine W.widen (k := 9) (n := 64) (Nat.le_of_ble_eq_true rfl) (Nat.le_of_ble_eq_true rfl) ?_
      exact W.iret (v := 1) hx hb hr (fun t ht hW => ⟨⟨1, O, rfl, Or.inr ⟨hg0, by rw [hcod]; rfl, rfl⟩, by rw [ht]; exact hV, va_K.moved hW.alike hK, hD⟩, hS.F ht⟩) hS.2.2 (dd_of dL_nextHeight_0 10 rfl) hlk
    · have hE9 : E = xS := by rw [hE9, hcod]; rfl
      subst hE9
      refine jcat hown hts htab [(0, 9, 12, 13)] (0, 9, 16, 15) [] rfl (fun z hz => by obtain rfl := List.mem_singleton.mp hz; exact ⟨by decide, xA, gw175, hN.2.2.2⟩) (by decide) (by decide) gw176 (va_Nw.use rfl (hT.2.1.1 xS (Or.inr (Or.inr rfl)))) z1 z2 z3 ?_
      refine lv_astore hx hb (dd_of dL_nextHeight_0 11 rfl) hl (by decide) rfl (fun ls hl => ?_)
      refine lv_iconst (v := 2) hx hb (dd_of dL_nextHeight_0 12 rfl) (by decide) ?_
      subst hQ
      refine W.widen (k := 9) (n := 64) (Nat.le_of_ble_eq_true rfl) (Nat.le_of_ble_eq_true rfl) ?_
      exact W.iret (v := 2) hx hb hr (fun t ht hW => ⟨⟨2, O, rfl, Or.inr ⟨hg0, by rw [hcod]; rfl, rfl⟩, by rw [ht]; exact hV, va_K.moved hW.alike hK, hD⟩, hS.F ht⟩) hS.2.2 (dd_of dL_nextHeight_0 13 rfl) hlk
  · skip
    have hp : (gX11_nextHeight F G M p1 p2) = (0, x) := hp
    obtain ⟨P9, hP9⟩ : ∃ z, z = (pV yy h0 an B B2 F G F2 G2 M) := ⟨_, rfl⟩
    rw [← hP9] at hV hD
    refine va_last hx hb hK hV hD hS 0 1 rfl rfl (vin_lit (by decide)) (dd_of dL_nextHeight_0 6 rfl) (fun H locs hV hD hS => ?_)
    have hV : va_P D vwCl (wW yy oa (vp_updL O 0 x) P9 Y) H := hV
    have hD : va_D Z (wW yy oa (vp_updL O 0 x) P9 Y) := hD
    rw [hP9] at hV hD
    refine lv_goto (tgt := 20) hx hb (dd_of dL_nextHeight_0 7 rfl) (by decide) ?_
    refine lv_iconst (v := 0) hx hb (dd_of dL_nextHeight_0 14 rfl) (by decide) ?_
    subst hQ
    refine W.widen (k := 9) (n := 64) (Nat.le_of_ble_eq_true rfl) (Nat.le_of_ble_eq_true rfl) ?_
    exact W.iret (v := 0) hx hb hr (fun t ht hW => ⟨⟨0, (vp_updL O 0 x), rfl, Or.inl ⟨x, hp, rfl, rfl⟩, by rw [ht]; exact hV, va_K.moved hW.alike hK, hD⟩, hS.F ht⟩) hS.2.2 (dd_of dL_nextHeight_0 15 rfl) hlk
set_option maxHeartbeats 4000000 in
set_option maxRecDepth 100000 in
theorem qL_share (l : Launch) (hl9 : l.stackTraces = false) (D : va_G) (yy : Nat → ClassId) (oa h0 an : Nat) (O : Nat → Int64) (B B2 : Nat → Nat) (F : jF) (G : jG) (F2 : jF) (G2 : jG) (M : jF) (Y : va_W) (sz : Nat) (p1 : Int32) (p2 : Int32) (hok : okX11_share F G M p1 p2) (hcod : (gX11_share F G M p1 p2).1 = 0 ∨ (gX11_share F G M p1 p2).1 = 1 ∨ (gX11_share F G M p1 p2).1 = 2) : Met l yL_share (Cond.codeWith yL_share cL_share 5 (some .int) [(0, 10, 13, 21), (0, 10, 17, 13)] :: wsL_law) rmL_share (va_Pc [.ref h0, .int p1, .int p2, .ref oa] (jZ D yy (wW yy oa O (pV yy h0 an B B2 F G F2 G2 M) Y) sz)) (va_Qi (fun (r : Int32) (u : Nat → Int64) => (∃ x, (gX11_share F G M p1 p2) = (0, x) ∧ r = 0 ∧ u = vp_updL O 0 (Int32.toInt64 x)) ∨ ((gX11_share F G M p1 p2).1 ≠ 0 ∧ r = wk 1 2 9 (gX11_share F G M p1 p2).1 ∧ u = O)) (fun u t => jB D yy (va_A (wW yy oa O (pV yy h0 an B B2 F G F2 G2 M) Y) sz) (wW yy oa u (pV yy h0 an B B2 F G F2 G2 M) Y) t) (va_A (wW yy oa O (pV yy h0 an B B2 F G F2 G2 M) Y) sz)) 9 64 (va_A (wW yy oa O (pV yy h0 an B B2 F G F2 G2 M) Y) sz) := by
  refine jMW (vs := [.ref h0, .int p1, .int p2, .ref oa]) (own := RL) (by decide +kernel) rfl (Nat.le_of_ble_eq_true rfl) ?_
  intro p e s m args below meth c ls Q hQ hargs S hr hlk htab hB hl
  obtain ⟨hx, hb, hml, hown, hts⟩ := S
  have hl : lv_has ls 5 [(0, .ref h0), (1, .int p1), (2, .int p2), (3, .ref oa)] := hl
  obtain ⟨⟨⟨hsz, hV, hK, hD0⟩, hT⟩, hN⟩ := hB
  subst hsz
  have hD := hD0.self (sz := s.heap.size)
  generalize hZ : va_A (wW yy oa O (pV yy h0 an B B2 F G F2 G2 M) Y) s.heap.size = Z at hD hQ hT
  have hA : ∀ q : Nat, s.heap.size ≤ q → Z q := fun q h => by rw [← hZ]; exact Or.inr h
  obtain ⟨H, hH⟩ : ∃ z, z = s.heap := ⟨_, rfl⟩
  obtain ⟨locs, hlocs⟩ : ∃ z : List Loc, z = [] := ⟨_, rfl⟩
  have hS : va_S Z s.heap H locs := by rw [hH, hlocs]; exact va_S.rf
  rw [← hH] at hV
  suffices hgo : W p l e rmL_share s m args below meth c H locs 0 0 Q (F0 m 0 ls []) by rw [hH, hlocs] at hgo; exact hgo
  refine lv_aload_n hx hb (dd_of dL_share_0 0 rfl) rfl (lv_at hl 3 rfl) ?_
  refine lv_iconst (v := 0) hx hb (dd_of dL_share_0 1 rfl) (by decide) ?_
  refine lv_aload_n hx hb (dd_of dL_share_0 2 rfl) rfl (lv_at hl 0 rfl) ?_
  refine lv_iload_n hx hb (dd_of dL_share_0 3 rfl) rfl (lv_at hl 1 rfl) ?_
  refine lv_iload_n hx hb (dd_of dL_share_0 4 rfl) rfl (lv_at hl 2 rfl) ?_
  refine jr_i (As := [.int p1, .int p2]) (rest := [.int 0, .ref oa]) (D := D) (yy := yy) (oa := oa) (O := O) (P0 := pV yy h0 an B B2 F G F2 G2 M) (Y := Y) (gc := (gX11_share F G M p1 p2).1) ⟨hx, hb, hml, hown, hts⟩ (qX11_share l hl9 D yy h0 an B B2 F G F2 G2 M H.size p1 p2 hok) (cwV 2 hts (jgV gw1169 gw1170 gw1171 gw2 gw1172) rfl rfl rfl (by decide +kernel) ⟨Nat.le_of_ble_eq_true rfl, Nat.le_of_ble_eq_true rfl⟩) hV hK hT hS hA (va_recv hK (wW_P hV) (ci := 11) (q0 := 0) rfl rfl) rfl hl.1 rfl (Nat.le_of_ble_eq_true rfl) (dd_of dL_share_0 5 rfl) ⟨Nat.le_of_ble_eq_true rfl, Nat.le_of_ble_eq_true rfl⟩ (fun E ce q9 H locs hg0 hE9 hV hS z1 z2 z3 => ?_) (fun x H locs hp hV hS => ?_)
  · rcases hcod with hcod | hcod | hcod
    · exact absurd hcod hg0
    · have hE9 : E = xI := by rw [hE9, hcod]; rfl
      subst hE9
      refine jcat hown hts htab [] (0, 10, 13, 21) [(0, 10, 17, 13)] rfl (fun z hz => absurd hz List.not_mem_nil) (by decide) (by decide) gw601 (va_Nw.use rfl (hT.2.1.1 xI (Or.inl rfl))) z1 z2 z3 ?_
      refine lv_astore hx hb (dd_of dL_share_0 9 rfl) hl (by decide) rfl (fun ls hl => ?_)
      refine lv_iconst (v := 1) hx hb (dd_of dL_share_0 10 rfl) (by decide) ?_
      subst hQ
      refine W.widen (k := 9) (n := 64) (Nat.le_of_ble_eq_true rfl) (Nat.le_of_ble_eq_true rfl) ?_
      exact W.iret (v := 1) hx hb hr (fun t ht hW => ⟨⟨1, O, rfl, Or.inr ⟨hg0, by rw [hcod]; rfl, rfl⟩, by rw [ht]; exact hV, va_K.moved hW.alike hK, hD⟩, hS.F ht⟩) hS.2.2 (dd_of dL_share_0 11 rfl) hlk
    · have hE9 : E = xA := by rw [hE9, hcod]; rfl
      subst hE9
      refine jcat hown hts htab [(0, 10, 13, 21)] (0, 10, 17, 13) [] rfl (fun z hz => by obtain rfl := List.mem_singleton.mp hz; exact ⟨by decide, xI, gw601, hN.2.1.1⟩) (by decide) (by decide) gw175 (va_Nw.use rfl (hT.2.1.1 xA (Or.inr (Or.inl rfl)))) z1 z2 z3 ?_
      refine lv_astore hx hb (dd_of dL_share_0 12 rfl) hl (by decide) rfl (fun ls hl => ?_)
      refine lv_iconst (v := 2) hx hb (dd_of dL_share_0 13 rfl) (by decide) ?_
      subst hQ
      refine W.widen (k := 9) (n := 64) (Nat.le_of_ble_eq_true rfl) (Nat.le_of_ble_eq_true rfl) ?_
      exact W.iret (v := 2) hx hb hr (fun t ht hW => ⟨⟨2, O, rfl, Or.inr ⟨hg0, by rw [hcod]; rfl, rfl⟩, by rw [ht]; exact hV, va_K.moved hW.alike hK, hD⟩, hS.F ht⟩) hS.2.2 (dd_of dL_share_0 14 rfl) hlk
  · skip
    have hp : (gX11_share F G M p1 p2) = (0, x) := hp
    refine lv_i2l (v := (Int32.toInt64 x)) hx hb (dd_of dL_share_0 6 rfl) rfl ?_
    obtain ⟨P9, hP9⟩ : ∃ z, z = (pV yy h0 an B B2 F G F2 G2 M) := ⟨_, rfl⟩
    rw [← hP9] at hV hD
    refine va_last hx hb hK hV hD hS 0 1 rfl rfl (vin_lit (by decide)) (dd_of dL_share_0 7 rfl) (fun H locs hV hD hS => ?_)
    have hV : va_P D vwCl (wW yy oa (vp_updL O 0 (Int32.toInt64 x)) P9 Y) H := hV
    have hD : va_D Z (wW yy oa (vp_updL O 0 (Int32.toInt64 x)) P9 Y) := hD
    rw [hP9] at hV hD
    refine lv_goto (tgt := 21) hx hb (dd_of dL_share_0 8 rfl) (by decide) ?_
    refine lv_iconst (v := 0) hx hb (dd_of dL_share_0 15 rfl) (by decide) ?_
    subst hQ
    refine W.widen (k := 9) (n := 64) (Nat.le_of_ble_eq_true rfl) (Nat.le_of_ble_eq_true rfl) ?_
    exact W.iret (v := 0) hx hb hr (fun t ht hW => ⟨⟨0, (vp_updL O 0 (Int32.toInt64 x)), rfl, Or.inl ⟨x, hp, rfl, rfl⟩, by rw [ht]; exact hV, va_K.moved hW.alike hK, hD⟩, hS.F ht⟩) hS.2.2 (dd_of dL_share_0 16 rfl) hlk
