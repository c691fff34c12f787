/-! what constructors do: words, links -/
theorem q_oi : Cond.instanceMethod Lib.objectInit ∈ WS := WS_at 126 (by decide +kernel)
theorem q_oc : Cond.code Lib.objectInit ⟨#[0xb1]⟩ 1 none ∈ WS := WS_at 127 (by decide +kernel)
theorem q_aint : Cond.arrayClass .int ∈ WS := WS_at 152 (by decide +kernel)
theorem q_along : Cond.arrayClass .long ∈ WS := WS_at 252 (by decide +kernel)
theorem q_abyte : Cond.arrayClass .byte ∈ WS := WS_at 714 (by decide +kernel)
abbrev mX0_init : JM := (cX0_init, RX0, 4, none, true)
theorem qo_X0 : Cond.methodLink RX0 3 Lib.objectInit ∈ WS := WS_at 209 (by decide +kernel)
theorem qc_X0 : Cond.initialized (yX0_init).cls ∈ WS ∧ Cond.code yX0_init mX0_init.1 mX0_init.2.2.1 mX0_init.2.2.2.1 ∈ WS ∧ ((yX0_init).cls ≠ "java/lang/invoke/MethodHandle" ∧ (yX0_init).cls ≠ "java/lang/invoke/VarHandle") ∧ Cond.instanceMethod yX0_init ∈ WS := ⟨WS_at 100 (by decide +kernel), WS_at 208 (by decide +kernel), ⟨by decide +kernel, by decide +kernel⟩, WS_at 207 (by decide +kernel)⟩
abbrev mX1_init : JM := (cX1_init, RX1, 2, none, true)
theorem qo_X1 : Cond.methodLink RX1 3 Lib.objectInit ∈ WS := WS_at 158 (by decide +kernel)
theorem qc_X1 : Cond.initialized (yX1_init).cls ∈ WS ∧ Cond.code yX1_init mX1_init.1 mX1_init.2.2.1 mX1_init.2.2.2.1 ∈ WS ∧ ((yX1_init).cls ≠ "java/lang/invoke/MethodHandle" ∧ (yX1_init).cls ≠ "java/lang/invoke/VarHandle") ∧ Cond.instanceMethod yX1_init ∈ WS := ⟨WS_at 98 (by decide +kernel), WS_at 157 (by decide +kernel), ⟨by decide +kernel, by decide +kernel⟩, WS_at 156 (by decide +kernel)⟩
abbrev mX2_init : JM := (cX2_init, RX2, 1, none, true)
theorem qo_X2 : Cond.methodLink RX2 3 Lib.objectInit ∈ WS := WS_at 353 (by decide +kernel)
theorem qc_X2 : Cond.initialized (yX2_init).cls ∈ WS ∧ Cond.code yX2_init mX2_init.1 mX2_init.2.2.1 mX2_init.2.2.2.1 ∈ WS ∧ ((yX2_init).cls ≠ "java/lang/invoke/MethodHandle" ∧ (yX2_init).cls ≠ "java/lang/invoke/VarHandle") ∧ Cond.instanceMethod yX2_init ∈ WS := ⟨WS_at 105 (by decide +kernel), WS_at 352 (by decide +kernel), ⟨by decide +kernel, by decide +kernel⟩, WS_at 351 (by decide +kernel)⟩
abbrev mX3_init : JM := (cX3_init, RX3, 2, none, true)
theorem qo_X3 : Cond.methodLink RX3 3 Lib.objectInit ∈ WS := WS_at 286 (by decide +kernel)
theorem qc_X3 : Cond.initialized (yX3_init).cls ∈ WS ∧ Cond.code yX3_init mX3_init.1 mX3_init.2.2.1 mX3_init.2.2.2.1 ∈ WS ∧ ((yX3_init).cls ≠ "java/lang/invoke/MethodHandle" ∧ (yX3_init).cls ≠ "java/lang/invoke/VarHandle") ∧ Cond.instanceMethod yX3_init ∈ WS := ⟨WS_at 102 (by decide +kernel), WS_at 285 (by decide +kernel), ⟨by decide +kernel, by decide +kernel⟩, WS_at 284 (by decide +kernel)⟩
abbrev mX4_init : JM := (cX4_init, RX4, 2, none, true)
theorem qo_X4 : Cond.methodLink RX4 3 Lib.objectInit ∈ WS := WS_at 334 (by decide +kernel)
theorem qc_X4 : Cond.initialized (yX4_init).cls ∈ WS ∧ Cond.code yX4_init mX4_init.1 mX4_init.2.2.1 mX4_init.2.2.2.1 ∈ WS ∧ ((yX4_init).cls ≠ "java/lang/invoke/MethodHandle" ∧ (yX4_init).cls ≠ "java/lang/invoke/VarHandle") ∧ Cond.instanceMethod yX4_init ∈ WS := ⟨WS_at 104 (by decide +kernel), WS_at 333 (by decide +kernel), ⟨by decide +kernel, by decide +kernel⟩, WS_at 332 (by decide +kernel)⟩
abbrev mX5_init : JM := (cX5_init, RX5, 2, none, true)
theorem qo_X5 : Cond.methodLink RX5 3 Lib.objectInit ∈ WS := WS_at 309 (by decide +kernel)
theorem qc_X5 : Cond.initialized (yX5_init).cls ∈ WS ∧ Cond.code yX5_init mX5_init.1 mX5_init.2.2.1 mX5_init.2.2.2.1 ∈ WS ∧ ((yX5_init).cls ≠ "java/lang/invoke/MethodHandle" ∧ (yX5_init).cls ≠ "java/lang/invoke/VarHandle") ∧ Cond.instanceMethod yX5_init ∈ WS := ⟨WS_at 103 (by decide +kernel), WS_at 308 (by decide +kernel), ⟨by decide +kernel, by decide +kernel⟩, WS_at 307 (by decide +kernel)⟩
abbrev mX6_init : JM := (cX6_init, RX6, 1, none, true)
theorem qo_X6 : Cond.methodLink RX6 3 Lib.objectInit ∈ WS := WS_at 216 (by decide +kernel)
theorem qc_X6 : Cond.initialized (yX6_init).cls ∈ WS ∧ Cond.code yX6_init mX6_init.1 mX6_init.2.2.1 mX6_init.2.2.2.1 ∈ WS ∧ ((yX6_init).cls ≠ "java/lang/invoke/MethodHandle" ∧ (yX6_init).cls ≠ "java/lang/invoke/VarHandle") ∧ Cond.instanceMethod yX6_init ∈ WS := ⟨WS_at 101 (by decide +kernel), WS_at 215 (by decide +kernel), ⟨by decide +kernel, by decide +kernel⟩, WS_at 214 (by decide +kernel)⟩
abbrev mX7_init : JM := (cX7_init, RX7, 1, none, true)
theorem qo_X7 : Cond.methodLink RX7 3 Lib.objectInit ∈ WS := WS_at 133 (by decide +kernel)
theorem qc_X7 : Cond.initialized (yX7_init).cls ∈ WS ∧ Cond.code yX7_init mX7_init.1 mX7_init.2.2.1 mX7_init.2.2.2.1 ∈ WS ∧ ((yX7_init).cls ≠ "java/lang/invoke/MethodHandle" ∧ (yX7_init).cls ≠ "java/lang/invoke/VarHandle") ∧ Cond.instanceMethod yX7_init ∈ WS := ⟨WS_at 97 (by decide +kernel), WS_at 132 (by decide +kernel), ⟨by decide +kernel, by decide +kernel⟩, WS_at 131 (by decide +kernel)⟩
abbrev mX8_init : JM := (cX8_init, RX8, 2, none, true)
theorem qo_X8 : Cond.methodLink RX8 3 Lib.objectInit ∈ WS := WS_at 192 (by decide +kernel)
theorem qc_X8 : Cond.initialized (yX8_init).cls ∈ WS ∧ Cond.code yX8_init mX8_init.1 mX8_init.2.2.1 mX8_init.2.2.2.1 ∈ WS ∧ ((yX8_init).cls ≠ "java/lang/invoke/MethodHandle" ∧ (yX8_init).cls ≠ "java/lang/invoke/VarHandle") ∧ Cond.instanceMethod yX8_init ∈ WS := ⟨WS_at 99 (by decide +kernel), WS_at 191 (by decide +kernel), ⟨by decide +kernel, by decide +kernel⟩, WS_at 190 (by decide +kernel)⟩
abbrev mX9_init : JM := (cX9_init, RX9, 2, none, true)
theorem qo_X9 : Cond.methodLink RX9 1 Lib.objectInit ∈ WS := WS_at 125 (by decide +kernel)
theorem qc_X9 : Cond.initialized (yX9_init).cls ∈ WS ∧ Cond.code yX9_init mX9_init.1 mX9_init.2.2.1 mX9_init.2.2.2.1 ∈ WS ∧ ((yX9_init).cls ≠ "java/lang/invoke/MethodHandle" ∧ (yX9_init).cls ≠ "java/lang/invoke/VarHandle") ∧ Cond.instanceMethod yX9_init ∈ WS := ⟨WS_at 96 (by decide +kernel), WS_at 124 (by decide +kernel), ⟨by decide +kernel, by decide +kernel⟩, WS_at 123 (by decide +kernel)⟩
abbrev mX10_init : JM := (cX10_init, RX10, 1, none, true)
theorem qo_X10 : Cond.methodLink RX10 3 Lib.objectInit ∈ WS := WS_at 1349 (by decide +kernel)
theorem qc_X10 : Cond.initialized (yX10_init).cls ∈ WS ∧ Cond.code yX10_init mX10_init.1 mX10_init.2.2.1 mX10_init.2.2.2.1 ∈ WS ∧ ((yX10_init).cls ≠ "java/lang/invoke/MethodHandle" ∧ (yX10_init).cls ≠ "java/lang/invoke/VarHandle") ∧ Cond.instanceMethod yX10_init ∈ WS := ⟨WS_at 106 (by decide +kernel), WS_at 1348 (by decide +kernel), ⟨by decide +kernel, by decide +kernel⟩, WS_at 1347 (by decide +kernel)⟩
theorem q_dv : ∀ ci, ci < 11 → ∀ (C : String) (T : u_T) (N : Nat), vwCl[ci]? = some (C, T, N) → N = (FKs.getD ci []).length := by
  intro ci h C T N e
  have h11 : ci = 0 ∨ ci = 1 ∨ ci = 2 ∨ ci = 3 ∨ ci = 4 ∨ ci = 5 ∨ ci = 6 ∨ ci = 7 ∨ ci = 8 ∨ ci = 9 ∨ ci = 10 := by omega
  rcases h11 with rfl | rfl | rfl | rfl | rfl | rfl | rfl | rfl | rfl | rfl | rfl <;> (cases e; rfl)
theorem q_df0 : ∀ k, k < 8 → defaultValue (tyX0 k) = (if (FKs.getD 0 []).getD k 0 = 0 then .int 0 else if (FKs.getD 0 []).getD k 0 = 1 then .long 0 else .null) := by
  intro k hk
  have hh : k = 0 ∨ k = 1 ∨ k = 2 ∨ k = 3 ∨ k = 4 ∨ k = 5 ∨ k = 6 ∨ k = 7 := by omega
  rcases hh with rfl | rfl | rfl | rfl | rfl | rfl | rfl | rfl <;> rfl
theorem q_df1 : ∀ k, k < 7 → defaultValue (tyX1 k) = (if (FKs.getD 1 []).getD k 0 = 0 then .int 0 else if (FKs.getD 1 []).getD k 0 = 1 then .long 0 else .null) := by
  intro k hk
  have hh : k = 0 ∨ k = 1 ∨ k = 2 ∨ k = 3 ∨ k = 4 ∨ k = 5 ∨ k = 6 := by omega
  rcases hh with rfl | rfl | rfl | rfl | rfl | rfl | rfl <;> rfl
theorem q_df2 : ∀ k, k < 3 → defaultValue (tyX2 k) = (if (FKs.getD 2 []).getD k 0 = 0 then .int 0 else if (FKs.getD 2 []).getD k 0 = 1 then .long 0 else .null) := by
  intro k hk
  have hh : k = 0 ∨ k = 1 ∨ k = 2 := by omega
  rcases hh with rfl | rfl | rfl <;> rfl
theorem q_df3 : ∀ k, k < 5 → defaultValue (tyX3 k) = (if (FKs.getD 3 []).getD k 0 = 0 then .int 0 else if (FKs.getD 3 []).getD k 0 = 1 then .long 0 else .null) := by
  intro k hk
  have hh : k = 0 ∨ k = 1 ∨ k = 2 ∨ k = 3 ∨ k = 4 := by omega
  rcases hh with rfl | rfl | rfl | rfl | rfl <;> rfl
theorem q_df4 : ∀ k, k < 3 → defaultValue (tyX4 k) = (if (FKs.getD 4 []).getD k 0 = 0 then .int 0 else if (FKs.getD 4 []).getD k 0 = 1 then .long 0 else .null) := by
  intro k hk
  have hh : k = 0 ∨ k = 1 ∨ k = 2 := by omega
  rcases hh with rfl | rfl | rfl <;> rfl
theorem q_df5 : ∀ k, k < 5 → defaultValue (tyX5 k) = (if (FKs.getD 5 []).getD k 0 = 0 then .int 0 else if (FKs.getD 5 []).getD k 0 = 1 then .long 0 else .null) := by
  intro k hk
  have hh : k = 0 ∨ k = 1 ∨ k = 2 ∨ k = 3 ∨ k = 4 := by omega
  rcases hh with rfl | rfl | rfl | rfl | rfl <;> rfl
theorem q_df6 : ∀ k, k < 7 → defaultValue (tyX6 k) = (if (FKs.getD 6 []).getD k 0 = 0 then .int 0 else if (FKs.getD 6 []).getD k 0 = 1 then .long 0 else .null) := by
  intro k hk
  have hh : k = 0 ∨ k = 1 ∨ k = 2 ∨ k = 3 ∨ k = 4 ∨ k = 5 ∨ k = 6 := by omega
  rcases hh with rfl | rfl | rfl | rfl | rfl | rfl | rfl <;> rfl
theorem q_df7 : ∀ k, k < 4 → defaultValue (tyX7 k) = (if (FKs.getD 7 []).getD k 0 = 0 then .int 0 else if (FKs.getD 7 []).getD k 0 = 1 then .long 0 else .null) := by
  intro k hk
  have hh : k = 0 ∨ k = 1 ∨ k = 2 ∨ k = 3 := by omega
  rcases hh with rfl | rfl | rfl | rfl <;> rfl
theorem q_df8 : ∀ k, k < 3 → defaultValue (tyX8 k) = (if (FKs.getD 8 []).getD k 0 = 0 then .int 0 else if (FKs.getD 8 []).getD k 0 = 1 then .long 0 else .null) := by
  intro k hk
  have hh : k = 0 ∨ k = 1 ∨ k = 2 := by omega
  rcases hh with rfl | rfl | rfl <;> rfl
theorem q_df9 : ∀ k, k < 19 → defaultValue (tyX9 k) = (if (FKs.getD 9 []).getD k 0 = 0 then .int 0 else if (FKs.getD 9 []).getD k 0 = 1 then .long 0 else .null) := by
  intro k hk
  have hh : k = 0 ∨ k = 1 ∨ k = 2 ∨ k = 3 ∨ k = 4 ∨ k = 5 ∨ k = 6 ∨ k = 7 ∨ k = 8 ∨ k = 9 ∨ k = 10 ∨ k = 11 ∨ k = 12 ∨ k = 13 ∨ k = 14 ∨ k = 15 ∨ k = 16 ∨ k = 17 ∨ k = 18 := by omega
  rcases hh with rfl | rfl | rfl | rfl | rfl | rfl | rfl | rfl | rfl | rfl | rfl | rfl | rfl | rfl | rfl | rfl | rfl | rfl | rfl <;> rfl
theorem q_df10 : ∀ k, k < 52 → defaultValue (tyX10 k) = (if (FKs.getD 10 []).getD k 0 = 0 then .int 0 else if (FKs.getD 10 []).getD k 0 = 1 then .long 0 else .null) := by
  intro k hk
  have hh : k = 0 ∨ k = 1 ∨ k = 2 ∨ k = 3 ∨ k = 4 ∨ k = 5 ∨ k = 6 ∨ k = 7 ∨ k = 8 ∨ k = 9 ∨ k = 10 ∨ k = 11 ∨ k = 12 ∨ k = 13 ∨ k = 14 ∨ k = 15 ∨ k = 16 ∨ k = 17 ∨ k = 18 ∨ k = 19 ∨ k = 20 ∨ k = 21 ∨ k = 22 ∨ k = 23 ∨ k = 24 ∨ k = 25 ∨ k = 26 ∨ k = 27 ∨ k = 28 ∨ k = 29 ∨ k = 30 ∨ k = 31 ∨ k = 32 ∨ k = 33 ∨ k = 34 ∨ k = 35 ∨ k = 36 ∨ k = 37 ∨ k = 38 ∨ k = 39 ∨ k = 40 ∨ k = 41 ∨ k = 42 ∨ k = 43 ∨ k = 44 ∨ k = 45 ∨ k = 46 ∨ k = 47 ∨ k = 48 ∨ k = 49 ∨ k = 50 ∨ k = 51 := by omega
  rcases hh with rfl | rfl | rfl | rfl | rfl | rfl | rfl | rfl | rfl | rfl | rfl | rfl | rfl | rfl | rfl | rfl | rfl | rfl | rfl | rfl | rfl | rfl | rfl | rfl | rfl | rfl | rfl | rfl | rfl | rfl | rfl | rfl | rfl | rfl | rfl | rfl | rfl | rfl | rfl | rfl | rfl | rfl | rfl | rfl | rfl | rfl | rfl | rfl | rfl | rfl | rfl | rfl <;> rfl
theorem nl_X9_7 : NL RX9 7 7 := ⟨by decide, RX7, TX7, 4, tyX7, rfl, ws_7, tyX7_ok, rfl, WS_at 128 (by decide +kernel), WS_at 129 (by decide +kernel), WS_at 97 (by decide +kernel), q_df7⟩
theorem nl_X9_16 : NL RX9 16 1 := ⟨by decide, RX1, TX1, 7, tyX1, rfl, ws_1, tyX1_ok, rfl, WS_at 153 (by decide +kernel), WS_at 154 (by decide +kernel), WS_at 98 (by decide +kernel), q_df1⟩
theorem nl_X9_28 : NL RX9 28 8 := ⟨by decide, RX8, TX8, 3, tyX8, rfl, ws_8, tyX8_ok, rfl, WS_at 187 (by decide +kernel), WS_at 188 (by decide +kernel), WS_at 99 (by decide +kernel), q_df8⟩
theorem nl_X9_37 : NL RX9 37 0 := ⟨by decide, RX0, TX0, 8, tyX0, rfl, ws_0, tyX0_ok, rfl, WS_at 204 (by decide +kernel), WS_at 205 (by decide +kernel), WS_at 100 (by decide +kernel), q_df0⟩
theorem nl_X9_46 : NL RX9 46 3 := ⟨by decide, RX3, TX3, 5, tyX3, rfl, ws_3, tyX3_ok, rfl, WS_at 280 (by decide +kernel), WS_at 282 (by decide +kernel), WS_at 102 (by decide +kernel), q_df3⟩
theorem nl_X9_53 : NL RX9 53 5 := ⟨by decide, RX5, TX5, 5, tyX5, rfl, ws_5, tyX5_ok, rfl, WS_at 303 (by decide +kernel), WS_at 305 (by decide +kernel), WS_at 103 (by decide +kernel), q_df5⟩
theorem nl_X9_60 : NL RX9 60 6 := ⟨by decide, RX6, TX6, 7, tyX6, rfl, ws_6, tyX6_ok, rfl, WS_at 327 (by decide +kernel), WS_at 212 (by decide +kernel), WS_at 101 (by decide +kernel), q_df6⟩
theorem nl_X9_70 : NL RX9 70 4 := ⟨by decide, RX4, TX4, 3, tyX4, rfl, ws_4, tyX4_ok, rfl, WS_at 329 (by decide +kernel), WS_at 330 (by decide +kernel), WS_at 104 (by decide +kernel), q_df4⟩
theorem nl_X9_77 : NL RX9 77 2 := ⟨by decide, RX2, TX2, 3, tyX2, rfl, ws_2, tyX2_ok, rfl, WS_at 348 (by decide +kernel), WS_at 349 (by decide +kernel), WS_at 105 (by decide +kernel), q_df2⟩
theorem nl_X0_9 : NL RX0 9 6 := ⟨by decide, RX6, TX6, 7, tyX6, rfl, ws_6, tyX6_ok, rfl, WS_at 210 (by decide +kernel), WS_at 212 (by decide +kernel), WS_at 101 (by decide +kernel), q_df6⟩
theorem nl_X4_9 : NL RX4 9 6 := ⟨by decide, RX6, TX6, 7, tyX6, rfl, ws_6, tyX6_ok, rfl, WS_at 335 (by decide +kernel), WS_at 212 (by decide +kernel), WS_at 101 (by decide +kernel), q_df6⟩
theorem nl_L_8 : NL RL 8 9 := ⟨by decide, RX9, TX9, 19, tyX9, rfl, ws_9, tyX9_ok, rfl, WS_at 120 (by decide +kernel), WS_at 121 (by decide +kernel), WS_at 96 (by decide +kernel), q_df9⟩
theorem nl_L_16 : NL RL 16 10 := ⟨by decide, RX10, TX10, 52, tyX10, rfl, ws_10, tyX10_ok, rfl, WS_at 1344 (by decide +kernel), WS_at 1345 (by decide +kernel), WS_at 106 (by decide +kernel), q_df10⟩
theorem ci_X9_18 : MLi RX9 18 yX1_init mX1_init 1 := ⟨⟨WS_at 155 (by decide +kernel), qc_X1.1, qc_X1.2.1, qc_X1.2.2.1, by decide +kernel⟩, rfl, qc_X1.2.2.2, rfl⟩
theorem ci_X9_30 : MLi RX9 30 yX8_init mX8_init 1 := ⟨⟨WS_at 189 (by decide +kernel), qc_X8.1, qc_X8.2.1, qc_X8.2.2.1, by decide +kernel⟩, rfl, qc_X8.2.2.2, rfl⟩
theorem ci_X9_39 : MLi RX9 39 yX0_init mX0_init 2 := ⟨⟨WS_at 206 (by decide +kernel), qc_X0.1, qc_X0.2.1, qc_X0.2.2.1, by decide +kernel⟩, rfl, qc_X0.2.2.2, rfl⟩
theorem ci_X9_52 : MLi RX9 52 yX3_init mX3_init 1 := ⟨⟨WS_at 283 (by decide +kernel), qc_X3.1, qc_X3.2.1, qc_X3.2.2.1, by decide +kernel⟩, rfl, qc_X3.2.2.2, rfl⟩
theorem ci_X9_59 : MLi RX9 59 yX5_init mX5_init 1 := ⟨⟨WS_at 306 (by decide +kernel), qc_X5.1, qc_X5.2.1, qc_X5.2.2.1, by decide +kernel⟩, rfl, qc_X5.2.2.2, rfl⟩
theorem ci_X9_72 : MLi RX9 72 yX4_init mX4_init 0 := ⟨⟨WS_at 331 (by decide +kernel), qc_X4.1, qc_X4.2.1, qc_X4.2.2.1, by decide +kernel⟩, rfl, qc_X4.2.2.2, rfl⟩
theorem ci_L_15 : MLi RL 15 yX9_init mX9_init 0 := ⟨⟨WS_at 122 (by decide +kernel), qc_X9.1, qc_X9.2.1, qc_X9.2.2.1, by decide +kernel⟩, rfl, qc_X9.2.2.2, rfl⟩
theorem ci_L_18 : MLi RL 18 yX10_init mX10_init 0 := ⟨⟨WS_at 1346 (by decide +kernel), qc_X10.1, qc_X10.2.1, qc_X10.2.2.1, by decide +kernel⟩, rfl, qc_X10.2.2.2, rfl⟩
theorem cn_X9_9 : MLn RX9 9 yX7_init mX7_init 0 := ⟨by decide +kernel, qc_X7.1, qc_X7.2.1, qc_X7.2.2.1, by decide +kernel, rfl, qc_X7.2.2.2, rfl⟩
theorem cn_X9_62 : MLn RX9 62 yX6_init mX6_init 0 := ⟨by decide +kernel, qc_X6.1, qc_X6.2.1, qc_X6.2.2.1, by decide +kernel, rfl, qc_X6.2.2.2, rfl⟩
theorem cn_X9_79 : MLn RX9 79 yX2_init mX2_init 0 := ⟨by decide +kernel, qc_X2.1, qc_X2.2.1, qc_X2.2.2.1, by decide +kernel, rfl, qc_X2.2.2.2, rfl⟩
theorem cn_X4_17 : MLn RX4 17 yX6_init mX6_init 0 := ⟨by decide +kernel, qc_X6.1, qc_X6.2.1, qc_X6.2.2.1, by decide +kernel, rfl, qc_X6.2.2.2, rfl⟩
theorem cn_X0_36 : MLn RX0 36 yX6_init mX6_init 0 := ⟨by decide +kernel, qc_X6.1, qc_X6.2.1, qc_X6.2.2.1, by decide +kernel, rfl, qc_X6.2.2.2, rfl⟩
theorem ca_X9_46 : Cond.classLink RX9 46 RX3 ∈ WS := WS_at 280 (by decide +kernel)
theorem ca_X9_53 : Cond.classLink RX9 53 RX5 ∈ WS := WS_at 303 (by decide +kernel)
theorem ca_X0_9 : Cond.classLink RX0 9 RX6 ∈ WS := WS_at 210 (by decide +kernel)
theorem ca_X4_9 : Cond.classLink RX4 9 RX6 ∈ WS := WS_at 335 (by decide +kernel)
theorem lRX10_28 : FL RX10 28 10 15 (tyX10 15) true := ⟨by decide, RX10, TX10, 52, tyX10, rfl, ws_10, tyX10_ok, nmX10, rfl, by decide, WS_at 1367 (by decide +kernel), rfl, rfl, rfl⟩
theorem lRX10_34 : FL RX10 34 10 16 (tyX10 16) true := ⟨by decide, RX10, TX10, 52, tyX10, rfl, ws_10, tyX10_ok, nmX10, rfl, by decide, WS_at 1368 (by decide +kernel), rfl, rfl, rfl⟩
theorem vN0 {n : Nat} : ∀ w ∈ ([] : List Value), vNe n w := fun _ h => nomatch h
theorem vN2 {n : Nat} {v : Value} {l : List Value} (h : vNe n v) (t : ∀ w ∈ l, vNe n w) : ∀ w ∈ v :: l, vNe n w := List.forall_mem_cons.mpr ⟨h, t⟩
/-- all from n on is as new -/
def FR (n : Nat) (σ : Mm) : Prop := ∀ c, n ≤ c → c < 1000 → fresh σ c
theorem FR_sR {n i k : Nat} {v : Option Nat} {σ : Mm} (h : FR n σ) (hi : i < n) : FR n (sR σ i k v) := by
  intro c h1 h2 j
  obtain ⟨a, b, d⟩ := h c h1 h2 j
  exact ⟨a, b, by rw [gR_sR, if_neg (by omega)]; exact d⟩
theorem FR_sI {n i k : Nat} {v : Int32} {σ : Mm} (h : FR n σ) (hi : i < n) : FR n (sI σ i k v) := by
  intro c h1 h2 j
  obtain ⟨a, b, d⟩ := h c h1 h2 j
  exact ⟨by rw [gI_sI, if_neg (by omega)]; exact a, b, d⟩
theorem FR.up {n m : Nat} {σ : Mm} (h : FR n σ) (hm : n ≤ m) : FR m σ := fun c h1 h2 => h c (by omega) h2
theorem RT_ob {n i c : Nat} (o : SH i = (0, c)) (h : i + 1 < n ∨ i < n ∧ i < 16) : RT n i (100 + c) := ⟨by unfold SHk; rw [o]; rfl, fun _ => cps_lt h⟩
theorem RT_ar {n i t L : Nat} (o : SH i = (t + 1, L)) (h : i + 1 < n ∨ i < n ∧ i < 16) : RT n i (200 + t) := by
  refine ⟨?_, fun _ => cps_lt h⟩
  unfold SHk
  rw [o]
  show (if t + 1 = 0 then 100 + L else 199 + (t + 1)) = _
  rw [if_neg (by omega)]
  omega
