/-! the past, the finder, the class -/
def pastI (σ : Mm) : Mm := rowsM 100 101 5 snowI 40 (sR σ 99 0 (some 100))
set_option maxRecDepth 20000 in
set_option maxHeartbeats 2000000 in
theorem tX4_init {X : XS} {σ : Mm} (hF : FR 100 σ) : MT X yX4_init mX4_init 3 201 4400 [.ref 99] 101 σ (302, none, pastI σ) := by
  refine MT_of (by decide +kernel) rfl (fun _ => rfl) (Nat.le_of_ble_eq_true rfl) ?_
  show J X mX4_init 3 201 4400 (302, none, pastI σ) 0 [(0, .ref 99)] [] 101 σ
  refine J_aload_n (z := 0) dX4_init_0 rfl rfl (q := 1) rfl ?_
  refine J_obj dX4_init_1 qo_X4 q_oi q_oc (Nat.le_of_ble_eq_true rfl) (Nat.le_of_ble_eq_true rfl) (q := 4) rfl ?_
  refine J_aload_n (z := 0) dX4_init_4 rfl rfl (q := 5) rfl ?_
  refine J_bipush (x := 40) dX4_init_5 (by decide) (q := 7) rfl ?_
  refine J_newQ (cnm_hi (by omega) (by omega)) (t := 5) (L := 40) (kc2 := 200) (ks2 := 4360) dX4_init_7 (by decide) ca_X4_9 (by decide +kernel) (by decide) (by decide) (by decide) (by omega) (hF _ (by omega) (by omega)) (by repeat (first | exact vN0 | refine vN2 (by first | exact trivial | (show (_ : Nat) ≠ _; omega)) ?_)) (Nat.le_of_ble_eq_true rfl) (Nat.le_of_ble_eq_true rfl) (q := 10) rfl ?_
  refine J_putR (K := 205) dX4_init_10 lRX4_11 (Or.inr ⟨_, rfl⟩) (fun _ => ⟨rfl, _, _, _, rfl, rfl⟩) (RT_ob (c := 4) (by decide +kernel) (by omega)) rfl (by decide) (RT_ar (t := 5) (L := 40) (by decide +kernel) (by omega)) (q := 13) rfl ?_
  refine J_iconst (x := 0) dX4_init_13 (by decide) (q := 14) rfl ?_
  refine J_istore_n (lv' := [(1, .int 0), (0, .ref 99)]) dX4_init_14 rfl (by decide) rfl (q := 15) rfl ?_
  exact tX4_l (σ := sR σ 99 0 (some 100)) (d0 := 3) (kc0 := 0) (ks0 := 0) (by decide) (FR_sR (hF.up (by omega)) (by omega)) (by simp [gR_sR]) (J_return dX4_init_43 rfl rfl) 40 0 rfl
def findI (σ : Mm) : Mm := rowsM 14 17 5 snowI 6 (sR (sR (sR (sR (sR (sR σ 13 2 (some 14)) 13 3 (some 15)) 13 4 (some 334)) 13 5 (some 16)) 13 0 (some 3)) 13 1 (some 11))
set_option maxRecDepth 20000 in
set_option maxHeartbeats 2000000 in
theorem tX0_init {X : XS} {σ : Mm} (hF : FR 14 σ) : MT X yX0_init mX0_init 3 34 744 [.ref 13, .ref 3, .ref 11] 14 σ (48, none, findI σ) := by
  refine MT_of (by decide +kernel) rfl (fun _ => rfl) (Nat.le_of_ble_eq_true rfl) ?_
  show J X mX0_init 3 34 744 (48, none, findI σ) 0 [(0, .ref 13), (1, .ref 3), (2, .ref 11)] [] 14 σ
  refine J_aload_n (z := 0) dX0_init_0 rfl rfl (q := 1) rfl ?_
  refine J_obj dX0_init_1 qo_X0 q_oi q_oc (Nat.le_of_ble_eq_true rfl) (Nat.le_of_ble_eq_true rfl) (q := 4) rfl ?_
  refine J_aload_n (z := 0) dX0_init_4 rfl rfl (q := 5) rfl ?_
  refine J_bipush (x := 6) dX0_init_5 (by decide) (q := 7) rfl ?_
  refine J_newQ (cnm_lo (by omega)) (t := 5) (L := 6) (kc2 := 33) (ks2 := 738) dX0_init_7 (by decide) ca_X0_9 (by decide +kernel) (by decide) (by decide) (by decide) (by omega) (hF _ (by omega) (by omega)) (by repeat (first | exact vN0 | refine vN2 (by first | exact trivial | (show (_ : Nat) ≠ _; omega)) ?_)) (Nat.le_of_ble_eq_true rfl) (Nat.le_of_ble_eq_true rfl) (q := 10) rfl ?_
  refine J_putR (K := 205) dX0_init_10 lRX0_11 (Or.inr ⟨_, rfl⟩) (fun _ => ⟨rfl, _, _, _, rfl, rfl⟩) (RT_ob (c := 0) (by decide +kernel) (by omega)) rfl (by decide) (RT_ar (t := 5) (L := 6) (by decide +kernel) (by omega)) (q := 13) rfl ?_
  have F1 := FR_sR (k := 2) (v := some 14) hF (show 13 < 14 by omega)
  refine J_aload_n (z := 0) dX0_init_13 rfl rfl (q := 14) rfl ?_
  refine J_bipush (x := 64) dX0_init_14 (by decide) (q := 16) rfl ?_
  refine J_newI (cnm_lo (by omega)) (L := 64) (kc2 := 32) (ks2 := 674) dX0_init_16 q_aint (by decide +kernel) (by decide) (by decide) (by decide) (by omega) (F1 _ (by omega) (by omega)) (by repeat (first | exact vN0 | refine vN2 (by first | exact trivial | (show (_ : Nat) ≠ _; omega)) ?_)) (Nat.le_of_ble_eq_true rfl) (Nat.le_of_ble_eq_true rfl) (q := 18) rfl ?_
  refine J_putR (K := 200) dX0_init_18 lRX0_17 (Or.inr ⟨_, rfl⟩) (fun _ => ⟨rfl, _, _, _, rfl, rfl⟩) (RT_ob (c := 0) (by decide +kernel) (by omega)) rfl (by decide) (RT_ar (t := 0) (L := 64) (by decide +kernel) (by omega)) (q := 21) rfl ?_
  have F2 := FR_sR (k := 3) (v := some 15) F1 (show 13 < 14 by omega)
  refine J_aload_n (z := 0) dX0_init_21 rfl rfl (q := 22) rfl ?_
  refine J_bipush (x := 6) dX0_init_22 (by decide) (q := 24) rfl ?_
  refine J_newI (b := 334) (by decide) (L := 6) (kc2 := 31) (ks2 := 668) dX0_init_24 q_aint (by decide +kernel) (by decide) (by decide) (by decide) (by omega) (F2 _ (by omega) (by omega)) (by repeat (first | exact vN0 | refine vN2 (by first | exact trivial | (show (_ : Nat) ≠ _; omega)) ?_)) (Nat.le_of_ble_eq_true rfl) (Nat.le_of_ble_eq_true rfl) (q := 26) rfl ?_
  refine J_putR (K := 200) dX0_init_26 lRX0_21 (Or.inr ⟨_, rfl⟩) (fun _ => ⟨rfl, _, _, _, rfl, rfl⟩) (RT_ob (c := 0) (by decide +kernel) (by omega)) rfl (by decide) ⟨by decide +kernel, fun _ => by decide⟩ (q := 29) rfl ?_
  have F3 := FR_sR (k := 4) (v := some 334) F2 (show 13 < 14 by omega)
  refine J_aload_n (z := 0) dX0_init_29 rfl rfl (q := 30) rfl ?_
  refine J_bipush (x := 14) dX0_init_30 (by decide) (q := 32) rfl ?_
  refine J_newL (cnm_hi (by omega) (by omega)) (L := 14) (kc2 := 30) (ks2 := 654) dX0_init_32 q_along (by decide +kernel) (by decide) (by decide) (by decide) (by omega) (F3 _ (by omega) (by omega)) (by repeat (first | exact vN0 | refine vN2 (by first | exact trivial | (show (_ : Nat) ≠ _; omega)) ?_)) (Nat.le_of_ble_eq_true rfl) (Nat.le_of_ble_eq_true rfl) (q := 34) rfl ?_
  refine J_putR (K := 201) dX0_init_34 lRX0_24 (Or.inr ⟨_, rfl⟩) (fun _ => ⟨rfl, _, _, _, rfl, rfl⟩) (RT_ob (c := 0) (by decide +kernel) (by omega)) rfl (by decide) (RT_ar (t := 1) (L := 14) (by decide +kernel) (by omega)) (q := 37) rfl ?_
  have F4 := FR_sR (k := 5) (v := some 16) F3 (show 13 < 14 by omega)
  refine J_aload_n (z := 0) dX0_init_37 rfl rfl (q := 38) rfl ?_
  refine J_aload_n (z := 1) dX0_init_38 rfl rfl (q := 39) rfl ?_
  refine J_putR (K := 101) dX0_init_39 lRX0_28 (Or.inl ⟨_, rfl⟩) (fun _ => ⟨rfl, _, _, _, rfl, rfl⟩) (RT_ob (c := 0) (by decide +kernel) (by omega)) rfl (by decide) (RT_ob (c := 1) (by decide +kernel) (by omega)) (q := 42) rfl ?_
  have F5 := FR_sR (k := 0) (v := some 3) F4 (show 13 < 14 by omega)
  refine J_aload_n (z := 0) dX0_init_42 rfl rfl (q := 43) rfl ?_
  refine J_aload_n (z := 2) dX0_init_43 rfl rfl (q := 44) rfl ?_
  refine J_putR (K := 108) dX0_init_44 lRX0_32 (Or.inl ⟨_, rfl⟩) (fun _ => ⟨rfl, _, _, _, rfl, rfl⟩) (RT_ob (c := 0) (by decide +kernel) (by omega)) rfl (by decide) (RT_ob (c := 8) (by decide +kernel) (by omega)) (q := 47) rfl ?_
  have F6 := FR_sR (k := 1) (v := some 11) F5 (show 13 < 14 by omega)
  refine J_iconst (x := 0) dX0_init_47 (by decide) (q := 48) rfl ?_
  refine J_istore_n (lv' := [(3, .int 0), (0, .ref 13), (1, .ref 3), (2, .ref 11)]) dX0_init_48 rfl (by decide) rfl (q := 49) rfl ?_
  exact tX0_l (σ := sR (sR (sR (sR (sR (sR σ 13 2 (some 14)) 13 3 (some 15)) 13 4 (some 334)) 13 5 (some 16)) 13 0 (some 3)) 13 1 (some 11)) (d0 := 3) (kc0 := 0) (ks0 := 0) (by decide) (F6.up (by omega)) (by simp [gR_sR]) (J_return dX0_init_77 rfl rfl) 6 0 rfl
def bk1 (σ : Mm) : Mm := sR (tapeI 1 2 σ) 0 0 (some 1)
def bk2 (σ : Mm) : Mm := sR (hallI 3 4 1 (bk1 σ)) 0 1 (some 3)
def bk3 (σ : Mm) : Mm := sR (hallI 7 8 1 (bk2 σ)) 0 2 (some 7)
def bk4 (σ : Mm) : Mm := sR (wintI 11 12 3 (bk3 σ)) 0 3 (some 11)
def bk5 (σ : Mm) : Mm := sR (findI (bk4 σ)) 0 4 (some 13)
def bk6 (σ : Mm) : Mm := sR (bk5 σ) 0 5 (some 47)
def bk7 (σ : Mm) : Mm := rowsM 47 48 4 (fun i n => lawI i n 1) 5 (bk6 σ)
def bk8 (σ : Mm) : Mm := sR (bk7 σ) 0 6 (some 68)
def bk9 (σ : Mm) : Mm := rowsM 68 69 4 (fun i n => planI i n 1) 5 (bk8 σ)
def bk10 (σ : Mm) : Mm := sR (snowI 89 90 (bk9 σ)) 0 7 (some 89)
def bk11 (σ : Mm) : Mm := sR (snowI 94 95 (bk10 σ)) 0 8 (some 94)
def bk12 (σ : Mm) : Mm := sR (pastI (bk11 σ)) 0 9 (some 99)
def bk13 (σ : Mm) : Mm := sR (jourI 301 302 (bk12 σ)) 0 10 (some 301)
def bk14 (σ : Mm) : Mm := sR (snowI 303 304 (bk13 σ)) 0 11 (some 303)
def bk15 (σ : Mm) : Mm := sR (jourI 308 309 (bk14 σ)) 0 12 (some 308)
def bk16 (σ : Mm) : Mm := sI (bk15 σ) 0 16 (-1)
section Stages
variable {σ : Mm} (hF : FR 1 σ)
theorem fr1 (hF : FR 1 σ) : FR 3 (bk1 σ) := FR_sR (FR_sI (FR_sR (hF.up (by omega)) (by omega)) (by omega)) (by omega)
theorem f_hall {n i m t : Nat} {σ : Mm} (hF : FR n σ) (hi : i < n) : FR n (hallI i m t σ) := FR_sR (FR_sR (FR_sR (FR_sR hF hi) hi) hi) hi
theorem fr2 (hF : FR 1 σ) : FR 7 (bk2 σ) := FR_sR (f_hall ((fr1 hF).up (by omega)) (by omega)) (by omega)
theorem fr3 (hF : FR 1 σ) : FR 11 (bk3 σ) := FR_sR (f_hall ((fr2 hF).up (by omega)) (by omega)) (by omega)
theorem fr4 (hF : FR 1 σ) : FR 13 (bk4 σ) := FR_sR (FR_sR (FR_sR ((fr3 hF).up (by omega)) (by omega)) (by omega)) (by omega)
theorem fr5 (hF : FR 1 σ) : FR 47 (bk5 σ) := FR_sR (rows_FR (a := 14) (n := 17) (w := 5) own_snow (by decide) (by decide) (FR_sR (FR_sR (FR_sR (FR_sR (FR_sR (FR_sR ((fr4 hF).up (by omega)) (by omega)) (by omega)) (by omega)) (by omega)) (by omega)) (by omega)) 6) (by omega)
theorem fr6 (hF : FR 1 σ) : FR 47 (bk6 σ) := FR_sR (fr5 hF) (by omega)
theorem fr7 (hF : FR 1 σ) : FR 68 (bk7 σ) := rows_FR (a := 47) (n := 48) (w := 4) (own_law 1) (by decide) (by decide) ((fr6 hF).up (by omega)) 5
theorem fr8 (hF : FR 1 σ) : FR 68 (bk8 σ) := FR_sR (fr7 hF) (by omega)
theorem fr9 (hF : FR 1 σ) : FR 89 (bk9 σ) := rows_FR (a := 68) (n := 69) (w := 4) (own_plan 1) (by decide) (by decide) ((fr8 hF).up (by omega)) 5
theorem fr10 (hF : FR 1 σ) : FR 94 (bk10 σ) := FR_sR (f_snow ((fr9 hF).up (by omega)) (by omega)) (by omega)
theorem fr11 (hF : FR 1 σ) : FR 99 (bk11 σ) := FR_sR (f_snow ((fr10 hF).up (by omega)) (by omega)) (by omega)
theorem fr12 (hF : FR 1 σ) : FR 301 (bk12 σ) := FR_sR (rows_FR (a := 100) (n := 101) (w := 5) own_snow (by decide) (by decide) (FR_sR ((fr11 hF).up (by omega)) (by omega)) 40) (by omega)
theorem fr13 (hF : FR 1 σ) : FR 303 (bk13 σ) := FR_sR (FR_sR ((fr12 hF).up (by omega)) (by omega)) (by omega)
theorem fr14 (hF : FR 1 σ) : FR 308 (bk14 σ) := FR_sR (f_snow ((fr13 hF).up (by omega)) (by omega)) (by omega)
theorem fr15 (hF : FR 1 σ) : FR 310 (bk15 σ) := FR_sR (FR_sR ((fr14 hF).up (by omega)) (by omega)) (by omega)
theorem fr16 (hF : FR 1 σ) : FR 310 (bk16 σ) := FR_sI (fr15 hF) (by omega)
theorem g1t : gR (bk1 σ) 0 0 = some 1 := by simp [bk1, gR_sR]
theorem g2t : gR (bk2 σ) 0 0 = some 1 := by simp [bk2, hallI, gR_sR, g1t]
theorem g3t : gR (bk3 σ) 0 0 = some 1 := by simp [bk3, hallI, gR_sR, g2t]
theorem g3h : gR (bk3 σ) 0 1 = some 3 := by simp [bk3, bk2, hallI, gR_sR]
theorem g4t : gR (bk4 σ) 0 0 = some 1 := by simp [bk4, wintI, gR_sR, g3t]
theorem g4h : gR (bk4 σ) 0 1 = some 3 := by simp [bk4, wintI, gR_sR, g3h]
theorem g4w : gR (bk4 σ) 0 3 = some 11 := by simp [bk4, gR_sR]
theorem g5t : gR (bk5 σ) 0 0 = some 1 := by
  have h : gR (findI (bk4 σ)) 0 0 = some 1 := (rows_R own_snow (by decide) 6).trans (by simp [gR_sR, g4t])
  simp [bk5, gR_sR, h]
theorem g6t : gR (bk6 σ) 0 0 = some 1 := by simp [bk6, gR_sR, g5t]
theorem g7t : gR (bk7 σ) 0 0 = some 1 := (rows_R (own_law 1) (by decide) 5).trans g6t
theorem g8t : gR (bk8 σ) 0 0 = some 1 := by simp [bk8, gR_sR, g7t]
end Stages
set_option maxRecDepth 20000 in
set_option maxHeartbeats 4000000 in
theorem tX9_init {X : XS} {σ : Mm} (hF : FR 1 σ) : MT X yX9_init mX9_init 5 310 10639 [.ref 0] 1 σ (311, none, bk16 σ) := by
  refine MT_of (by decide +kernel) rfl (fun _ => rfl) (Nat.le_of_ble_eq_true rfl) ?_
  show J X mX9_init 5 310 10639 (311, none, bk16 σ) 0 [(0, .ref 0)] [] 1 σ
  refine J_aload_n (z := 0) dX9_init_0 rfl rfl (q := 1) rfl ?_
  refine J_obj dX9_init_1 qo_X9 q_oi q_oc (Nat.le_of_ble_eq_true rfl) (Nat.le_of_ble_eq_true rfl) (q := 4) rfl ?_
  refine J_aload_n (z := 0) dX9_init_4 rfl rfl (q := 5) rfl ?_
  refine J_new (cnm_lo (by omega)) (kc2 := 309) (ks2 := 10635) dX9_init_5 nl_X9_7 (by decide +kernel) (by decide) (hF _ (by omega) (by omega)) (by repeat (first | exact vN0 | refine vN2 (by first | exact trivial | (show (_ : Nat) ≠ _; omega)) ?_)) (Nat.le_of_ble_eq_true rfl) (by decide) (q := 8) rfl ?_
  refine J_dup dX9_init_8 rfl (q := 9) rfl ?_
  refine J_callN (as := []) (i := 1) (kc2 := 308) (ks2 := 10395) dX9_init_9 cn_X9_9 (tX7_init (i := 1) (n := 2) (by decide +kernel) (by decide) (by decide +kernel) (by decide) (hF.up (by decide))) rfl (Nat.le_of_ble_eq_true rfl) (Nat.le_of_ble_eq_true rfl) (Nat.le_of_ble_eq_true rfl) (Nat.le_of_ble_eq_true rfl) (Nat.le_of_ble_eq_true rfl) (Nat.le_of_ble_eq_true rfl) (fun _ => Nat.le_of_ble_eq_true rfl) (Or.inr (fun z hz => Or.inl (vL1 (by repeat (first | exact vL0 | refine vL2 (by first | exact trivial | (show cps _ < _; exact cps_lt (by omega))) ?_)) hz))) (q := 12) rfl ?_
  refine J_putR (K := 107) dX9_init_12 lRX9_10 (Or.inl ⟨_, rfl⟩) (fun _ => ⟨rfl, _, _, _, rfl, rfl⟩) (RT_ob (c := 9) (by decide +kernel) (by omega)) rfl (by decide) (RT_ob (c := 7) (by decide +kernel) (Or.inl (Nat.le_of_ble_eq_true rfl))) (q := 15) rfl ?_
  show J X mX9_init 5 308 10395 (311, none, bk16 σ) 15 [(0, .ref 0)] [] 3 (bk1 σ)
  refine J_aload_n (z := 0) dX9_init_15 rfl rfl (q := 16) rfl ?_
  refine J_new (cnm_lo (by omega)) (kc2 := 307) (ks2 := 10388) dX9_init_16 nl_X9_16 (by decide +kernel) (by decide) (fr1 hF _ (by omega) (by omega)) (by repeat (first | exact vN0 | refine vN2 (by first | exact trivial | (show (_ : Nat) ≠ _; omega)) ?_)) (Nat.le_of_ble_eq_true rfl) (by decide) (q := 19) rfl ?_
  refine J_dup dX9_init_19 rfl (q := 20) rfl ?_
  refine J_aload_n (z := 0) dX9_init_20 rfl rfl (q := 21) rfl ?_
  refine J_getR dX9_init_21 lRX9_10 (RT_ob (c := 9) (by decide +kernel) (by omega)) rfl (by decide) (j := 1) g1t (q := 24) rfl (fun _ => ?_)
  refine J_callI (as := [.ref 1]) (i := 3) (kc2 := 304) (ks2 := 10311) dX9_init_24 ci_X9_18 (tX1_init (i := 3) (n := 4) (by decide +kernel) (by decide) (by decide +kernel) (by decide +kernel) (by decide +kernel) (RT_ob (c := 7) (by decide +kernel) (by decide)) (by decide) ((fr1 hF).up (by decide))) rfl (Nat.le_of_ble_eq_true rfl) (Nat.le_of_ble_eq_true rfl) (Nat.le_of_ble_eq_true rfl) (Nat.le_of_ble_eq_true rfl) (Nat.le_of_ble_eq_true rfl) (Nat.le_of_ble_eq_true rfl) (fun _ => Nat.le_of_ble_eq_true rfl) (Or.inr (fun z hz => Or.inl (vL1 (by repeat (first | exact vL0 | refine vL2 (by first | exact trivial | (show cps _ < _; exact cps_lt (by omega))) ?_)) hz))) (q := 27) rfl ?_
  refine J_putR (K := 101) dX9_init_27 lRX9_21 (Or.inl ⟨_, rfl⟩) (fun _ => ⟨rfl, _, _, _, rfl, rfl⟩) (RT_ob (c := 9) (by decide +kernel) (by omega)) rfl (by decide) (RT_ob (c := 1) (by decide +kernel) (Or.inl (Nat.le_of_ble_eq_true rfl))) (q := 30) rfl ?_
  show J X mX9_init 5 304 10311 (311, none, bk16 σ) 30 [(0, .ref 0)] [] 7 (bk2 σ)
  refine J_aload_n (z := 0) dX9_init_30 rfl rfl (q := 31) rfl ?_
  refine J_new (cnm_lo (by omega)) (kc2 := 303) (ks2 := 10304) dX9_init_31 nl_X9_16 (by decide +kernel) (by decide) (fr2 hF _ (by omega) (by omega)) (by repeat (first | exact vN0 | refine vN2 (by first | exact trivial | (show (_ : Nat) ≠ _; omega)) ?_)) (Nat.le_of_ble_eq_true rfl) (by decide) (q := 34) rfl ?_
  refine J_dup dX9_init_34 rfl (q := 35) rfl ?_
  refine J_aload_n (z := 0) dX9_init_35 rfl rfl (q := 36) rfl ?_
  refine J_getR dX9_init_36 lRX9_10 (RT_ob (c := 9) (by decide +kernel) (by omega)) rfl (by decide) (j := 1) g2t (q := 39) rfl (fun _ => ?_)
  refine J_callI (as := [.ref 1]) (i := 7) (kc2 := 300) (ks2 := 10227) dX9_init_39 ci_X9_18 (tX1_init (i := 7) (n := 8) (by decide +kernel) (by decide) (by decide +kernel) (by decide +kernel) (by decide +kernel) (RT_ob (c := 7) (by decide +kernel) (by decide)) (by decide) ((fr2 hF).up (by decide))) rfl (Nat.le_of_ble_eq_true rfl) (Nat.le_of_ble_eq_true rfl) (Nat.le_of_ble_eq_true rfl) (Nat.le_of_ble_eq_true rfl) (Nat.le_of_ble_eq_true rfl) (Nat.le_of_ble_eq_true rfl) (fun _ => Nat.le_of_ble_eq_true rfl) (Or.inr (fun z hz => Or.inl (vL1 (by repeat (first | exact vL0 | refine vL2 (by first | exact trivial | (show cps _ < _; exact cps_lt (by omega))) ?_)) hz))) (q := 42) rfl ?_
  refine J_putR (K := 101) dX9_init_42 lRX9_25 (Or.inl ⟨_, rfl⟩) (fun _ => ⟨rfl, _, _, _, rfl, rfl⟩) (RT_ob (c := 9) (by decide +kernel) (by omega)) rfl (by decide) (RT_ob (c := 1) (by decide +kernel) (Or.inl (Nat.le_of_ble_eq_true rfl))) (q := 45) rfl ?_
  show J X mX9_init 5 300 10227 (311, none, bk16 σ) 45 [(0, .ref 0)] [] 11 (bk3 σ)
  refine J_aload_n (z := 0) dX9_init_45 rfl rfl (q := 46) rfl ?_
  refine J_new (cnm_lo (by omega)) (kc2 := 299) (ks2 := 10224) dX9_init_46 nl_X9_28 (by decide +kernel) (by decide) (fr3 hF _ (by omega) (by omega)) (by repeat (first | exact vN0 | refine vN2 (by first | exact trivial | (show (_ : Nat) ≠ _; omega)) ?_)) (Nat.le_of_ble_eq_true rfl) (by decide) (q := 49) rfl ?_
  refine J_dup dX9_init_49 rfl (q := 50) rfl ?_
  refine J_aload_n (z := 0) dX9_init_50 rfl rfl (q := 51) rfl ?_
  refine J_getR dX9_init_51 lRX9_21 (RT_ob (c := 9) (by decide +kernel) (by omega)) rfl (by decide) (j := 3) g3h (q := 54) rfl (fun _ => ?_)
  refine J_callI (as := [.ref 3]) (i := 11) (kc2 := 298) (ks2 := 10218) dX9_init_54 ci_X9_30 (tX8_init (i := 11) (n := 12) (by decide +kernel) (by decide) (by decide +kernel) (RT_ob (c := 1) (by decide +kernel) (by decide)) (by decide) ((fr3 hF).up (by decide))) rfl (Nat.le_of_ble_eq_true rfl) (Nat.le_of_ble_eq_true rfl) (Nat.le_of_ble_eq_true rfl) (Nat.le_of_ble_eq_true rfl) (Nat.le_of_ble_eq_true rfl) (Nat.le_of_ble_eq_true rfl) (fun _ => Nat.le_of_ble_eq_true rfl) (Or.inr (fun z hz => Or.inl (vL1 (by repeat (first | exact vL0 | refine vL2 (by first | exact trivial | (show cps _ < _; exact cps_lt (by omega))) ?_)) hz))) (q := 57) rfl ?_
  refine J_putR (K := 108) dX9_init_57 lRX9_33 (Or.inl ⟨_, rfl⟩) (fun _ => ⟨rfl, _, _, _, rfl, rfl⟩) (RT_ob (c := 9) (by decide +kernel) (by omega)) rfl (by decide) (RT_ob (c := 8) (by decide +kernel) (Or.inl (Nat.le_of_ble_eq_true rfl))) (q := 60) rfl ?_
  show J X mX9_init 5 298 10218 (311, none, bk16 σ) 60 [(0, .ref 0)] [] 13 (bk4 σ)
  refine J_aload_n (z := 0) dX9_init_60 rfl rfl (q := 61) rfl ?_
  refine J_new (cnm_lo (by omega)) (kc2 := 297) (ks2 := 10210) dX9_init_61 nl_X9_37 (by decide +kernel) (by decide) (fr4 hF _ (by omega) (by omega)) (by repeat (first | exact vN0 | refine vN2 (by first | exact trivial | (show (_ : Nat) ≠ _; omega)) ?_)) (Nat.le_of_ble_eq_true rfl) (by decide) (q := 64) rfl ?_
  refine J_dup dX9_init_64 rfl (q := 65) rfl ?_
  refine J_aload_n (z := 0) dX9_init_65 rfl rfl (q := 66) rfl ?_
  refine J_getR dX9_init_66 lRX9_21 (RT_ob (c := 9) (by decide +kernel) (by omega)) rfl (by decide) (j := 3) g4h (q := 69) rfl (fun _ => ?_)
  refine J_aload_n (z := 0) dX9_init_69 rfl rfl (q := 70) rfl ?_
  refine J_getR dX9_init_70 lRX9_33 (RT_ob (c := 9) (by decide +kernel) (by omega)) rfl (by decide) (j := 11) g4w (q := 73) rfl (fun _ => ?_)
  refine J_callI (as := [.ref 3, .ref 11]) (i := 13) (kc2 := 263) (ks2 := 9466) dX9_init_73 ci_X9_39 (tX0_init ((fr4 hF).up (by decide))) rfl (Nat.le_of_ble_eq_true rfl) (Nat.le_of_ble_eq_true rfl) (Nat.le_of_ble_eq_true rfl) (Nat.le_of_ble_eq_true rfl) (Nat.le_of_ble_eq_true rfl) (Nat.le_of_ble_eq_true rfl) (fun _ => Nat.le_of_ble_eq_true rfl) (Or.inr (fun z hz => Or.inl (vL1 (by repeat (first | exact vL0 | refine vL2 (by first | exact trivial | (show cps _ < _; exact cps_lt (by omega))) ?_)) hz))) (q := 76) rfl ?_
  refine J_putR (K := 100) dX9_init_76 lRX9_42 (Or.inl ⟨_, rfl⟩) (fun _ => ⟨rfl, _, _, _, rfl, rfl⟩) (RT_ob (c := 9) (by decide +kernel) (by omega)) rfl (by decide) (RT_ob (c := 0) (by decide +kernel) (Or.inl (Nat.le_of_ble_eq_true rfl))) (q := 79) rfl ?_
  show J X mX9_init 5 263 9466 (311, none, bk16 σ) 79 [(0, .ref 0)] [] 48 (bk5 σ)
  refine J_aload_n (z := 0) dX9_init_79 rfl rfl (q := 80) rfl ?_
  refine J_iconst (x := 5) dX9_init_80 (by decide) (q := 81) rfl ?_
  refine J_newQ (cnm_hi (by omega) (by omega)) (t := 3) (L := 5) (kc2 := 262) (ks2 := 9461) dX9_init_81 (by decide) ca_X9_46 (by decide +kernel) (by decide) (by decide) (by decide) (by decide) (fr5 hF _ (by omega) (by omega)) (by repeat (first | exact vN0 | refine vN2 (by first | exact trivial | (show (_ : Nat) ≠ _; omega)) ?_)) (Nat.le_of_ble_eq_true rfl) (by decide) (q := 84) rfl ?_
  refine J_putR (K := 203) dX9_init_84 lRX9_48 (Or.inr ⟨_, rfl⟩) (fun _ => ⟨rfl, _, _, _, rfl, rfl⟩) (RT_ob (c := 9) (by decide +kernel) (by omega)) rfl (by decide) (RT_ar (t := 3) (L := 5) (by decide +kernel) (by decide)) (q := 87) rfl ?_
  refine J_iconst (x := 0) dX9_init_87 (by decide) (q := 88) rfl ?_
  refine J_istore_n (lv' := [(1, .int 0), (0, .ref 0)]) dX9_init_88 rfl (by decide) rfl (q := 89) rfl ?_
  refine tX9a_l (σ := bk6 σ) (d0 := 5) (kc0 := 242) (ks0 := 5806) (by decide) ((fr6 hF).up (by decide)) (by simp [bk6, gR_sR]) g6t ?_ 5 0 rfl
  show J X mX9_init 5 242 5806 (311, none, bk16 σ) 121 [(1, .int (nI 5)), (0, .ref 0)] [] 69 (bk7 σ)
  refine J_aload_n (z := 1) dX9_init_121 rfl rfl (q := 122) rfl ?_
  refine J_iconst (x := 5) dX9_init_122 (by decide) (q := 123) rfl ?_
  refine J_newQ (cnm_hi (by omega) (by omega)) (t := 4) (L := 5) (kc2 := 241) (ks2 := 5801) dX9_init_123 (by decide) ca_X9_53 (by decide +kernel) (by decide) (by decide) (by decide) (by decide) (fr7 hF _ (by omega) (by omega)) (by repeat (first | exact vN0 | refine vN2 (by first | exact trivial | (show (_ : Nat) ≠ _; omega)) ?_)) (Nat.le_of_ble_eq_true rfl) (by decide) (q := 126) rfl ?_
  refine J_putR (K := 204) dX9_init_126 lRX9_55 (Or.inr ⟨_, rfl⟩) (fun _ => ⟨rfl, _, _, _, rfl, rfl⟩) (RT_ob (c := 9) (by decide +kernel) (by omega)) rfl (by decide) (RT_ar (t := 4) (L := 5) (by decide +kernel) (by decide)) (q := 129) rfl ?_
  refine J_iconst (x := 0) dX9_init_129 (by decide) (q := 130) rfl ?_
  refine J_istore_n (lv' := [(1, .int 0), (0, .ref 0)]) dX9_init_130 rfl (by decide) rfl (q := 131) rfl ?_
  refine tX9b_l (σ := bk8 σ) (d0 := 5) (kc0 := 221) (ks0 := 5536) (by decide) ((fr8 hF).up (by decide)) (by simp [bk8, gR_sR]) g8t ?_ 5 0 rfl
  show J X mX9_init 5 221 5536 (311, none, bk16 σ) 163 [(1, .int (nI 5)), (0, .ref 0)] [] 90 (bk9 σ)
  refine J_aload_n (z := 1) dX9_init_163 rfl rfl (q := 164) rfl ?_
  refine J_new (cnm_hi (by omega) (by omega)) (kc2 := 220) (ks2 := 5529) dX9_init_164 nl_X9_60 (by decide +kernel) (by decide) (fr9 hF _ (by omega) (by omega)) (by repeat (first | exact vN0 | refine vN2 (by first | exact trivial | (show (_ : Nat) ≠ _; omega)) ?_)) (Nat.le_of_ble_eq_true rfl) (by decide) (q := 167) rfl ?_
  refine J_dup dX9_init_167 rfl (q := 168) rfl ?_
  refine J_callN (as := []) (i := 89) (kc2 := 216) (ks2 := 5427) dX9_init_168 cn_X9_62 (tX6_init (i := 89) (n := 90) (by decide +kernel) (by decide) (by decide +kernel) (by decide +kernel) (by decide +kernel) (by decide +kernel) (by decide) (by decide) ((fr9 hF).up (by decide))) rfl (Nat.le_of_ble_eq_true rfl) (Nat.le_of_ble_eq_true rfl) (Nat.le_of_ble_eq_true rfl) (Nat.le_of_ble_eq_true rfl) (Nat.le_of_ble_eq_true rfl) (Nat.le_of_ble_eq_true rfl) (fun _ => Nat.le_of_ble_eq_true rfl) (Or.inr (fun z hz => Or.inl (vL1 (by repeat (first | exact vL0 | refine vL2 (by first | exact trivial | (show cps _ < _; exact cps_lt (by omega))) ?_)) hz))) (q := 171) rfl ?_
  refine J_putR (K := 106) dX9_init_171 lRX9_63 (Or.inl ⟨_, rfl⟩) (fun _ => ⟨rfl, _, _, _, rfl, rfl⟩) (RT_ob (c := 9) (by decide +kernel) (by omega)) rfl (by decide) (RT_ob (c := 6) (by decide +kernel) (Or.inl (Nat.le_of_ble_eq_true rfl))) (q := 174) rfl ?_
  show J X mX9_init 5 216 5427 (311, none, bk16 σ) 174 [(1, .int (nI 5)), (0, .ref 0)] [] 95 (bk10 σ)
  refine J_aload_n (z := 1) dX9_init_174 rfl rfl (q := 175) rfl ?_
  refine J_new (cnm_hi (by omega) (by omega)) (kc2 := 215) (ks2 := 5420) dX9_init_175 nl_X9_60 (by decide +kernel) (by decide) (fr10 hF _ (by omega) (by omega)) (by repeat (first | exact vN0 | refine vN2 (by first | exact trivial | (show (_ : Nat) ≠ _; omega)) ?_)) (Nat.le_of_ble_eq_true rfl) (by decide) (q := 178) rfl ?_
  refine J_dup dX9_init_178 rfl (q := 179) rfl ?_
  refine J_callN (as := []) (i := 94) (kc2 := 211) (ks2 := 5318) dX9_init_179 cn_X9_62 (tX6_init (i := 94) (n := 95) (by decide +kernel) (by decide) (by decide +kernel) (by decide +kernel) (by decide +kernel) (by decide +kernel) (by decide) (by decide) ((fr10 hF).up (by decide))) rfl (Nat.le_of_ble_eq_true rfl) (Nat.le_of_ble_eq_true rfl) (Nat.le_of_ble_eq_true rfl) (Nat.le_of_ble_eq_true rfl) (Nat.le_of_ble_eq_true rfl) (Nat.le_of_ble_eq_true rfl) (fun _ => Nat.le_of_ble_eq_true rfl) (Or.inr (fun z hz => Or.inl (vL1 (by repeat (first | exact vL0 | refine vL2 (by first | exact trivial | (show cps _ < _; exact cps_lt (by omega))) ?_)) hz))) (q := 182) rfl ?_
  refine J_putR (K := 106) dX9_init_182 lRX9_67 (Or.inl ⟨_, rfl⟩) (fun _ => ⟨rfl, _, _, _, rfl, rfl⟩) (RT_ob (c := 9) (by decide +kernel) (by omega)) rfl (by decide) (RT_ob (c := 6) (by decide +kernel) (Or.inl (Nat.le_of_ble_eq_true rfl))) (q := 185) rfl ?_
  show J X mX9_init 5 211 5318 (311, none, bk16 σ) 185 [(1, .int (nI 5)), (0, .ref 0)] [] 100 (bk11 σ)
  refine J_aload_n (z := 1) dX9_init_185 rfl rfl (q := 186) rfl ?_
  refine J_new (cnm_hi (by omega) (by omega)) (kc2 := 210) (ks2 := 5315) dX9_init_186 nl_X9_70 (by decide +kernel) (by decide) (fr11 hF _ (by omega) (by omega)) (by repeat (first | exact vN0 | refine vN2 (by first | exact trivial | (show (_ : Nat) ≠ _; omega)) ?_)) (Nat.le_of_ble_eq_true rfl) (by decide) (q := 189) rfl ?_
  refine J_dup dX9_init_189 rfl (q := 190) rfl ?_
  refine J_callI (as := []) (i := 99) (kc2 := 9) (ks2 := 915) dX9_init_190 ci_X9_72 (tX4_init ((fr11 hF).up (by decide))) rfl (Nat.le_of_ble_eq_true rfl) (Nat.le_of_ble_eq_true rfl) (Nat.le_of_ble_eq_true rfl) (Nat.le_of_ble_eq_true rfl) (Nat.le_of_ble_eq_true rfl) (Nat.le_of_ble_eq_true rfl) (fun _ => Nat.le_of_ble_eq_true rfl) (Or.inr (fun z hz => Or.inl (vL1 (by repeat (first | exact vL0 | refine vL2 (by first | exact trivial | (show cps _ < _; exact cps_lt (by omega))) ?_)) hz))) (q := 193) rfl ?_
  refine J_putR (K := 104) dX9_init_193 lRX9_73 (Or.inl ⟨_, rfl⟩) (fun _ => ⟨rfl, _, _, _, rfl, rfl⟩) (RT_ob (c := 9) (by decide +kernel) (by omega)) rfl (by decide) (RT_ob (c := 4) (by decide +kernel) (Or.inl (Nat.le_of_ble_eq_true rfl))) (q := 196) rfl ?_
  show J X mX9_init 5 9 915 (311, none, bk16 σ) 196 [(1, .int (nI 5)), (0, .ref 0)] [] 302 (bk12 σ)
  refine J_aload_n (z := 1) dX9_init_196 rfl rfl (q := 197) rfl ?_
  refine J_new (cnm_hi (by omega) (by omega)) (kc2 := 8) (ks2 := 912) dX9_init_197 nl_X9_77 (by decide +kernel) (by decide) (fr12 hF _ (by omega) (by omega)) (by repeat (first | exact vN0 | refine vN2 (by first | exact trivial | (show (_ : Nat) ≠ _; omega)) ?_)) (Nat.le_of_ble_eq_true rfl) (by decide) (q := 200) rfl ?_
  refine J_dup dX9_init_200 rfl (q := 201) rfl ?_
  refine J_callN (as := []) (i := 301) (kc2 := 7) (ks2 := 512) dX9_init_201 cn_X9_79 (tX2_init (i := 301) (n := 302) (by decide +kernel) (by decide) (by decide +kernel) (by decide) (by decide) ((fr12 hF).up (by decide))) rfl (Nat.le_of_ble_eq_true rfl) (Nat.le_of_ble_eq_true rfl) (Nat.le_of_ble_eq_true rfl) (Nat.le_of_ble_eq_true rfl) (Nat.le_of_ble_eq_true rfl) (Nat.le_of_ble_eq_true rfl) (fun _ => Nat.le_of_ble_eq_true rfl) (Or.inr (fun z hz => Or.inl (vL1 (by repeat (first | exact vL0 | refine vL2 (by first | exact trivial | (show cps _ < _; exact cps_lt (by omega))) ?_)) hz))) (q := 204) rfl ?_
  refine J_putR (K := 102) dX9_init_204 lRX9_80 (Or.inl ⟨_, rfl⟩) (fun _ => ⟨rfl, _, _, _, rfl, rfl⟩) (RT_ob (c := 9) (by decide +kernel) (by omega)) rfl (by decide) (RT_ob (c := 2) (by decide +kernel) (Or.inl (Nat.le_of_ble_eq_true rfl))) (q := 207) rfl ?_
  show J X mX9_init 5 7 512 (311, none, bk16 σ) 207 [(1, .int (nI 5)), (0, .ref 0)] [] 304 (bk13 σ)
  refine J_aload_n (z := 1) dX9_init_207 rfl rfl (q := 208) rfl ?_
  refine J_new (cnm_hi (by omega) (by omega)) (kc2 := 6) (ks2 := 505) dX9_init_208 nl_X9_60 (by decide +kernel) (by decide) (fr13 hF _ (by omega) (by omega)) (by repeat (first | exact vN0 | refine vN2 (by first | exact trivial | (show (_ : Nat) ≠ _; omega)) ?_)) (Nat.le_of_ble_eq_true rfl) (by decide) (q := 211) rfl ?_
  refine J_dup dX9_init_211 rfl (q := 212) rfl ?_
  refine J_callN (as := []) (i := 303) (kc2 := 2) (ks2 := 403) dX9_init_212 cn_X9_62 (tX6_init (i := 303) (n := 304) (by decide +kernel) (by decide) (by decide +kernel) (by decide +kernel) (by decide +kernel) (by decide +kernel) (by decide) (by decide) ((fr13 hF).up (by decide))) rfl (Nat.le_of_ble_eq_true rfl) (Nat.le_of_ble_eq_true rfl) (Nat.le_of_ble_eq_true rfl) (Nat.le_of_ble_eq_true rfl) (Nat.le_of_ble_eq_true rfl) (Nat.le_of_ble_eq_true rfl) (fun _ => Nat.le_of_ble_eq_true rfl) (Or.inr (fun z hz => Or.inl (vL1 (by repeat (first | exact vL0 | refine vL2 (by first | exact trivial | (show cps _ < _; exact cps_lt (by omega))) ?_)) hz))) (q := 215) rfl ?_
  refine J_putR (K := 106) dX9_init_215 lRX9_84 (Or.inl ⟨_, rfl⟩) (fun _ => ⟨rfl, _, _, _, rfl, rfl⟩) (RT_ob (c := 9) (by decide +kernel) (by omega)) rfl (by decide) (RT_ob (c := 6) (by decide +kernel) (Or.inl (Nat.le_of_ble_eq_true rfl))) (q := 218) rfl ?_
  show J X mX9_init 5 2 403 (311, none, bk16 σ) 218 [(1, .int (nI 5)), (0, .ref 0)] [] 309 (bk14 σ)
  refine J_aload_n (z := 1) dX9_init_218 rfl rfl (q := 219) rfl ?_
  refine J_new (cnm_hi (by omega) (by omega)) (kc2 := 1) (ks2 := 400) dX9_init_219 nl_X9_77 (by decide +kernel) (by decide) (fr14 hF _ (by omega) (by omega)) (by repeat (first | exact vN0 | refine vN2 (by first | exact trivial | (show (_ : Nat) ≠ _; omega)) ?_)) (Nat.le_of_ble_eq_true rfl) (by decide) (q := 222) rfl ?_
  refine J_dup dX9_init_222 rfl (q := 223) rfl ?_
  refine J_callN (as := []) (i := 308) (kc2 := 0) (ks2 := 0) dX9_init_223 cn_X9_79 (tX2_init (i := 308) (n := 309) (by decide +kernel) (by decide) (by decide +kernel) (by decide) (by decide) ((fr14 hF).up (by decide))) rfl (Nat.le_of_ble_eq_true rfl) (Nat.le_of_ble_eq_true rfl) (Nat.le_of_ble_eq_true rfl) (Nat.le_of_ble_eq_true rfl) (Nat.le_of_ble_eq_true rfl) (Nat.le_of_ble_eq_true rfl) (fun _ => Nat.le_of_ble_eq_true rfl) (Or.inr (fun z hz => Or.inl (vL1 (by repeat (first | exact vL0 | refine vL2 (by first | exact trivial | (show cps _ < _; exact cps_lt (by omega))) ?_)) hz))) (q := 226) rfl ?_
  refine J_putR (K := 102) dX9_init_226 lRX9_87 (Or.inl ⟨_, rfl⟩) (fun _ => ⟨rfl, _, _, _, rfl, rfl⟩) (RT_ob (c := 9) (by decide +kernel) (by omega)) rfl (by decide) (RT_ob (c := 2) (by decide +kernel) (Or.inl (Nat.le_of_ble_eq_true rfl))) (q := 229) rfl ?_
  show J X mX9_init 5 0 0 (311, none, bk16 σ) 229 [(1, .int (nI 5)), (0, .ref 0)] [] 311 (bk15 σ)
  refine J_aload_n (z := 1) dX9_init_229 rfl rfl (q := 230) rfl ?_
  refine J_iconst (x := -1) dX9_init_230 (by decide) (q := 231) rfl ?_
  refine J_putI dX9_init_231 lRX9_90 (fun h => by cases h) (RT_ob (c := 9) (by decide +kernel) (by omega)) rfl (q := 234) rfl ?_
  exact J_return dX9_init_234 rfl rfl
