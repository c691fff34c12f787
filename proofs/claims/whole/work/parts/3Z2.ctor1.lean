/-! constructors that call none -/
def jourI (i n : Nat) (σ : Mm) : Mm := sR σ i 0 (some n)
set_option maxRecDepth 20000 in
set_option maxHeartbeats 2000000 in
theorem tX2_init {X : XS} {i n : Nat} {σ : Mm} (o : SH i = (0, 2)) (hi : i < n) (s0 : SH n = (1, 400))  (hn0 : 16 ≤ n) (hn : n + 1 ≤ 334) (hF : FR n σ) : MT X yX2_init mX2_init 1 1 400 [.ref i] (n + 1) σ (n + 1 + 1, none, jourI i n σ) := by
  refine MT_of (by decide +kernel) rfl (fun _ => rfl) (Nat.le_of_ble_eq_true rfl) ?_
  show J X mX2_init 1 1 400 (n + 1 + 1, none, jourI i n σ) 0 [(0, .ref i)] [] (n + 1) σ
  have F0 := hF
  refine J_aload_n (z := 0) dX2_init_0 rfl rfl (q := 1) rfl ?_
  refine J_obj dX2_init_1 qo_X2 q_oi q_oc (Nat.le_of_ble_eq_true rfl) (Nat.le_of_ble_eq_true rfl) (q := 4) rfl ?_
  refine J_aload_n (z := 0) dX2_init_4 rfl rfl (q := 5) rfl ?_
  refine J_sipush (x := 400) dX2_init_5 (by decide) (q := 8) rfl ?_
  refine J_newI (cnm_hi (by omega) (by omega)) (L := 400) (kc2 := 0) (ks2 := 0) dX2_init_8 q_aint s0 (by decide) (by decide) (by decide) (by omega) (F0 _ (by omega) (by omega)) (by repeat (first | exact vN0 | refine vN2 (by first | exact trivial | (show (_ : Nat) ≠ _; omega)) ?_)) (Nat.le_of_ble_eq_true rfl) (Nat.le_of_ble_eq_true rfl) (q := 10) rfl ?_
  refine J_putR (K := 200) dX2_init_10 lRX2_11 (Or.inr ⟨_, rfl⟩) (fun _ => ⟨rfl, _, _, _, rfl, rfl⟩) (RT_ob o (by omega)) rfl (by decide) (RT_ar (t := 0) s0 (by omega)) (q := 13) rfl ?_
  have F1 := FR_sR (k := 0) (v := some n) F0 hi
  exact J_return dX2_init_13 rfl rfl
def tapeI (i n : Nat) (σ : Mm) : Mm := sI (sR σ i 0 (some n)) i 3 (-1)
set_option maxRecDepth 20000 in
set_option maxHeartbeats 2000000 in
theorem tX7_init {X : XS} {i n : Nat} {σ : Mm} (o : SH i = (0, 7)) (hi : i < n) (s0 : SH n = (1, 240))  (hn : n + 1 ≤ 16) (hF : FR n σ) : MT X yX7_init mX7_init 1 1 240 [.ref i] n σ (n + 1, none, tapeI i n σ) := by
  refine MT_of (by decide +kernel) rfl (fun _ => rfl) (Nat.le_of_ble_eq_true rfl) ?_
  show J X mX7_init 1 1 240 (n + 1, none, tapeI i n σ) 0 [(0, .ref i)] [] n σ
  have F0 := hF
  refine J_aload_n (z := 0) dX7_init_0 rfl rfl (q := 1) rfl ?_
  refine J_obj dX7_init_1 qo_X7 q_oi q_oc (Nat.le_of_ble_eq_true rfl) (Nat.le_of_ble_eq_true rfl) (q := 4) rfl ?_
  refine J_aload_n (z := 0) dX7_init_4 rfl rfl (q := 5) rfl ?_
  refine J_sipush (x := 240) dX7_init_5 (by decide) (q := 8) rfl ?_
  refine J_newI (cnm_lo (by omega)) (L := 240) (kc2 := 0) (ks2 := 0) dX7_init_8 q_aint s0 (by decide) (by decide) (by decide) (by omega) (F0 _ (by omega) (by omega)) (by repeat (first | exact vN0 | refine vN2 (by first | exact trivial | (show (_ : Nat) ≠ _; omega)) ?_)) (Nat.le_of_ble_eq_true rfl) (Nat.le_of_ble_eq_true rfl) (q := 10) rfl ?_
  refine J_putR (K := 200) dX7_init_10 lRX7_9 (Or.inr ⟨_, rfl⟩) (fun _ => ⟨rfl, _, _, _, rfl, rfl⟩) (RT_ob o (by omega)) rfl (by decide) (RT_ar (t := 0) s0 (by omega)) (q := 13) rfl ?_
  have F1 := FR_sR (k := 0) (v := some n) F0 hi
  refine J_aload_n (z := 0) dX7_init_13 rfl rfl (q := 14) rfl ?_
  refine J_iconst (x := -1) dX7_init_14 (by decide) (q := 15) rfl ?_
  refine J_putI dX7_init_15 lRX7_15 (fun h => by cases h) (RT_ob o (by omega)) rfl (q := 18) rfl ?_
  have F2 := FR_sI (k := 3) (v := -1) F1 hi
  exact J_return dX7_init_18 rfl rfl
def hallI (i n t : Nat) (σ : Mm) : Mm := sR (sR (sR (sR σ i 1 (some n)) i 2 (some (n + 1))) i 3 (some (n + 2))) i 0 (some t)
set_option maxRecDepth 20000 in
set_option maxHeartbeats 2000000 in
theorem tX1_init {X : XS} {i n t : Nat} {σ : Mm} (o : SH i = (0, 1)) (hi : i < n) (s0 : SH n = (1, 5)) (s1 : SH (n + 1) = (1, 48)) (s2 : SH (n + 2) = (1, 24)) (ht : RT n t 107) (hn : n + 3 ≤ 16) (hF : FR n σ) : MT X yX1_init mX1_init 1 3 77 [.ref i, .ref t] n σ (n + 3, none, hallI i n t σ) := by
  have gt : t < n := cps_dn (ht.2 (by decide)) (by omega)
  refine MT_of (by decide +kernel) rfl (fun _ => rfl) (Nat.le_of_ble_eq_true rfl) ?_
  show J X mX1_init 1 3 77 (n + 3, none, hallI i n t σ) 0 [(0, .ref i), (1, .ref t)] [] n σ
  have F0 := hF
  refine J_aload_n (z := 0) dX1_init_0 rfl rfl (q := 1) rfl ?_
  refine J_obj dX1_init_1 qo_X1 q_oi q_oc (Nat.le_of_ble_eq_true rfl) (Nat.le_of_ble_eq_true rfl) (q := 4) rfl ?_
  refine J_aload_n (z := 0) dX1_init_4 rfl rfl (q := 5) rfl ?_
  refine J_iconst (x := 5) dX1_init_5 (by decide) (q := 6) rfl ?_
  refine J_newI (cnm_lo (by omega)) (L := 5) (kc2 := 2) (ks2 := 72) dX1_init_6 q_aint s0 (by decide) (by decide) (by decide) (by omega) (F0 _ (by omega) (by omega)) (by repeat (first | exact vN0 | refine vN2 (by first | exact trivial | (show (_ : Nat) ≠ _; omega)) ?_)) (Nat.le_of_ble_eq_true rfl) (Nat.le_of_ble_eq_true rfl) (q := 8) rfl ?_
  refine J_putR (K := 200) dX1_init_8 lRX1_9 (Or.inr ⟨_, rfl⟩) (fun _ => ⟨rfl, _, _, _, rfl, rfl⟩) (RT_ob o (by omega)) rfl (by decide) (RT_ar (t := 0) s0 (by omega)) (q := 11) rfl ?_
  have F1 := FR_sR (k := 1) (v := some n) F0 hi
  refine J_aload_n (z := 0) dX1_init_11 rfl rfl (q := 12) rfl ?_
  refine J_bipush (x := 48) dX1_init_12 (by decide) (q := 14) rfl ?_
  refine J_newI (cnm_lo (by omega)) (L := 48) (kc2 := 1) (ks2 := 24) dX1_init_14 q_aint s1 (by decide) (by decide) (by decide) (by omega) (F1 _ (by omega) (by omega)) (by repeat (first | exact vN0 | refine vN2 (by first | exact trivial | (show (_ : Nat) ≠ _; omega)) ?_)) (Nat.le_of_ble_eq_true rfl) (Nat.le_of_ble_eq_true rfl) (q := 16) rfl ?_
  refine J_putR (K := 200) dX1_init_16 lRX1_15 (Or.inr ⟨_, rfl⟩) (fun _ => ⟨rfl, _, _, _, rfl, rfl⟩) (RT_ob o (by omega)) rfl (by decide) (RT_ar (t := 0) s1 (by omega)) (q := 19) rfl ?_
  have F2 := FR_sR (k := 2) (v := some (n + 1)) F1 hi
  refine J_aload_n (z := 0) dX1_init_19 rfl rfl (q := 20) rfl ?_
  refine J_bipush (x := 24) dX1_init_20 (by decide) (q := 22) rfl ?_
  refine J_newI (cnm_lo (by omega)) (L := 24) (kc2 := 0) (ks2 := 0) dX1_init_22 q_aint s2 (by decide) (by decide) (by decide) (by omega) (F2 _ (by omega) (by omega)) (by repeat (first | exact vN0 | refine vN2 (by first | exact trivial | (show (_ : Nat) ≠ _; omega)) ?_)) (Nat.le_of_ble_eq_true rfl) (Nat.le_of_ble_eq_true rfl) (q := 24) rfl ?_
  refine J_putR (K := 200) dX1_init_24 lRX1_18 (Or.inr ⟨_, rfl⟩) (fun _ => ⟨rfl, _, _, _, rfl, rfl⟩) (RT_ob o (by omega)) rfl (by decide) (RT_ar (t := 0) s2 (by omega)) (q := 27) rfl ?_
  have F3 := FR_sR (k := 3) (v := some (n + 2)) F2 hi
  refine J_aload_n (z := 0) dX1_init_27 rfl rfl (q := 28) rfl ?_
  refine J_aload_n (z := 1) dX1_init_28 rfl rfl (q := 29) rfl ?_
  refine J_putR (K := 107) dX1_init_29 lRX1_21 (Or.inl ⟨_, rfl⟩) (fun _ => ⟨rfl, _, _, _, rfl, rfl⟩) (RT_ob o (by omega)) rfl (by decide) (ht.mono (by omega)) (q := 32) rfl ?_
  have F4 := FR_sR (k := 0) (v := some t) F3 hi
  exact J_return dX1_init_32 rfl rfl
def lawI (i n t : Nat) (σ : Mm) : Mm := sR (sR (sR (sR σ i 1 (some n)) i 2 (some (n + 1))) i 3 (some (n + 2))) i 0 (some t)
set_option maxRecDepth 20000 in
set_option maxHeartbeats 2000000 in
theorem tX3_init {X : XS} {i n t : Nat} {σ : Mm} (o : SH i = (0, 3)) (hi : i < n) (s0 : SH n = (1, 242)) (s1 : SH (n + 1) = (1, 242)) (s2 : SH (n + 2) = (1, 242)) (ht : RT (n + 1) t 107) (hn0 : 16 ≤ n) (hn : n + 3 ≤ 334) (hF : FR n σ) : MT X yX3_init mX3_init 1 3 726 [.ref i, .ref t] (n + 1) σ (n + 3 + 1, none, lawI i n t σ) := by
  have gt : t < n ∨ t = 334 := cps_up (ht.2 (by decide)) hn0 (by omega)
  refine MT_of (by decide +kernel) rfl (fun _ => rfl) (Nat.le_of_ble_eq_true rfl) ?_
  show J X mX3_init 1 3 726 (n + 3 + 1, none, lawI i n t σ) 0 [(0, .ref i), (1, .ref t)] [] (n + 1) σ
  have F0 := hF
  refine J_aload_n (z := 0) dX3_init_0 rfl rfl (q := 1) rfl ?_
  refine J_obj dX3_init_1 qo_X3 q_oi q_oc (Nat.le_of_ble_eq_true rfl) (Nat.le_of_ble_eq_true rfl) (q := 4) rfl ?_
  refine J_aload_n (z := 0) dX3_init_4 rfl rfl (q := 5) rfl ?_
  refine J_sipush (x := 242) dX3_init_5 (by decide) (q := 8) rfl ?_
  refine J_newI (cnm_hi (by omega) (by omega)) (L := 242) (kc2 := 2) (ks2 := 484) dX3_init_8 q_aint s0 (by decide) (by decide) (by decide) (by omega) (F0 _ (by omega) (by omega)) (by repeat (first | exact vN0 | refine vN2 (by first | exact trivial | (show (_ : Nat) ≠ _; omega)) ?_)) (Nat.le_of_ble_eq_true rfl) (Nat.le_of_ble_eq_true rfl) (q := 10) rfl ?_
  refine J_putR (K := 200) dX3_init_10 lRX3_11 (Or.inr ⟨_, rfl⟩) (fun _ => ⟨rfl, _, _, _, rfl, rfl⟩) (RT_ob o (by omega)) rfl (by decide) (RT_ar (t := 0) s0 (by omega)) (q := 13) rfl ?_
  have F1 := FR_sR (k := 1) (v := some n) F0 hi
  refine J_aload_n (z := 0) dX3_init_13 rfl rfl (q := 14) rfl ?_
  refine J_sipush (x := 242) dX3_init_14 (by decide) (q := 17) rfl ?_
  refine J_newI (cnm_hi (by omega) (by omega)) (L := 242) (kc2 := 1) (ks2 := 242) dX3_init_17 q_aint s1 (by decide) (by decide) (by decide) (by omega) (F1 _ (by omega) (by omega)) (by repeat (first | exact vN0 | refine vN2 (by first | exact trivial | (show (_ : Nat) ≠ _; omega)) ?_)) (Nat.le_of_ble_eq_true rfl) (Nat.le_of_ble_eq_true rfl) (q := 19) rfl ?_
  refine J_putR (K := 200) dX3_init_19 lRX3_15 (Or.inr ⟨_, rfl⟩) (fun _ => ⟨rfl, _, _, _, rfl, rfl⟩) (RT_ob o (by omega)) rfl (by decide) (RT_ar (t := 0) s1 (by omega)) (q := 22) rfl ?_
  have F2 := FR_sR (k := 2) (v := some (n + 1)) F1 hi
  refine J_aload_n (z := 0) dX3_init_22 rfl rfl (q := 23) rfl ?_
  refine J_sipush (x := 242) dX3_init_23 (by decide) (q := 26) rfl ?_
  refine J_newI (cnm_hi (by omega) (by omega)) (L := 242) (kc2 := 0) (ks2 := 0) dX3_init_26 q_aint s2 (by decide) (by decide) (by decide) (by omega) (F2 _ (by omega) (by omega)) (by repeat (first | exact vN0 | refine vN2 (by first | exact trivial | (show (_ : Nat) ≠ _; omega)) ?_)) (Nat.le_of_ble_eq_true rfl) (Nat.le_of_ble_eq_true rfl) (q := 28) rfl ?_
  refine J_putR (K := 200) dX3_init_28 lRX3_18 (Or.inr ⟨_, rfl⟩) (fun _ => ⟨rfl, _, _, _, rfl, rfl⟩) (RT_ob o (by omega)) rfl (by decide) (RT_ar (t := 0) s2 (by omega)) (q := 31) rfl ?_
  have F3 := FR_sR (k := 3) (v := some (n + 2)) F2 hi
  refine J_aload_n (z := 0) dX3_init_31 rfl rfl (q := 32) rfl ?_
  refine J_aload_n (z := 1) dX3_init_32 rfl rfl (q := 33) rfl ?_
  refine J_putR (K := 107) dX3_init_33 lRX3_21 (Or.inl ⟨_, rfl⟩) (fun _ => ⟨rfl, _, _, _, rfl, rfl⟩) (RT_ob o (by omega)) rfl (by decide) (ht.mono (by omega)) (q := 36) rfl ?_
  have F4 := FR_sR (k := 0) (v := some t) F3 hi
  exact J_return dX3_init_36 rfl rfl
def planI (i n t : Nat) (σ : Mm) : Mm := sR (sR (sR (sR σ i 1 (some n)) i 2 (some (n + 1))) i 3 (some (n + 2))) i 0 (some t)
set_option maxRecDepth 20000 in
set_option maxHeartbeats 2000000 in
theorem tX5_init {X : XS} {i n t : Nat} {σ : Mm} (o : SH i = (0, 5)) (hi : i < n) (s0 : SH n = (1, 16)) (s1 : SH (n + 1) = (1, 16)) (s2 : SH (n + 2) = (1, 16)) (ht : RT (n + 1) t 107) (hn0 : 16 ≤ n) (hn : n + 3 ≤ 334) (hF : FR n σ) : MT X yX5_init mX5_init 1 3 48 [.ref i, .ref t] (n + 1) σ (n + 3 + 1, none, planI i n t σ) := by
  have gt : t < n ∨ t = 334 := cps_up (ht.2 (by decide)) hn0 (by omega)
  refine MT_of (by decide +kernel) rfl (fun _ => rfl) (Nat.le_of_ble_eq_true rfl) ?_
  show J X mX5_init 1 3 48 (n + 3 + 1, none, planI i n t σ) 0 [(0, .ref i), (1, .ref t)] [] (n + 1) σ
  have F0 := hF
  refine J_aload_n (z := 0) dX5_init_0 rfl rfl (q := 1) rfl ?_
  refine J_obj dX5_init_1 qo_X5 q_oi q_oc (Nat.le_of_ble_eq_true rfl) (Nat.le_of_ble_eq_true rfl) (q := 4) rfl ?_
  refine J_aload_n (z := 0) dX5_init_4 rfl rfl (q := 5) rfl ?_
  refine J_bipush (x := 16) dX5_init_5 (by decide) (q := 7) rfl ?_
  refine J_newI (cnm_hi (by omega) (by omega)) (L := 16) (kc2 := 2) (ks2 := 32) dX5_init_7 q_aint s0 (by decide) (by decide) (by decide) (by omega) (F0 _ (by omega) (by omega)) (by repeat (first | exact vN0 | refine vN2 (by first | exact trivial | (show (_ : Nat) ≠ _; omega)) ?_)) (Nat.le_of_ble_eq_true rfl) (Nat.le_of_ble_eq_true rfl) (q := 9) rfl ?_
  refine J_putR (K := 200) dX5_init_9 lRX5_9 (Or.inr ⟨_, rfl⟩) (fun _ => ⟨rfl, _, _, _, rfl, rfl⟩) (RT_ob o (by omega)) rfl (by decide) (RT_ar (t := 0) s0 (by omega)) (q := 12) rfl ?_
  have F1 := FR_sR (k := 1) (v := some n) F0 hi
  refine J_aload_n (z := 0) dX5_init_12 rfl rfl (q := 13) rfl ?_
  refine J_bipush (x := 16) dX5_init_13 (by decide) (q := 15) rfl ?_
  refine J_newI (cnm_hi (by omega) (by omega)) (L := 16) (kc2 := 1) (ks2 := 16) dX5_init_15 q_aint s1 (by decide) (by decide) (by decide) (by omega) (F1 _ (by omega) (by omega)) (by repeat (first | exact vN0 | refine vN2 (by first | exact trivial | (show (_ : Nat) ≠ _; omega)) ?_)) (Nat.le_of_ble_eq_true rfl) (Nat.le_of_ble_eq_true rfl) (q := 17) rfl ?_
  refine J_putR (K := 200) dX5_init_17 lRX5_15 (Or.inr ⟨_, rfl⟩) (fun _ => ⟨rfl, _, _, _, rfl, rfl⟩) (RT_ob o (by omega)) rfl (by decide) (RT_ar (t := 0) s1 (by omega)) (q := 20) rfl ?_
  have F2 := FR_sR (k := 2) (v := some (n + 1)) F1 hi
  refine J_aload_n (z := 0) dX5_init_20 rfl rfl (q := 21) rfl ?_
  refine J_bipush (x := 16) dX5_init_21 (by decide) (q := 23) rfl ?_
  refine J_newI (cnm_hi (by omega) (by omega)) (L := 16) (kc2 := 0) (ks2 := 0) dX5_init_23 q_aint s2 (by decide) (by decide) (by decide) (by omega) (F2 _ (by omega) (by omega)) (by repeat (first | exact vN0 | refine vN2 (by first | exact trivial | (show (_ : Nat) ≠ _; omega)) ?_)) (Nat.le_of_ble_eq_true rfl) (Nat.le_of_ble_eq_true rfl) (q := 25) rfl ?_
  refine J_putR (K := 200) dX5_init_25 lRX5_18 (Or.inr ⟨_, rfl⟩) (fun _ => ⟨rfl, _, _, _, rfl, rfl⟩) (RT_ob o (by omega)) rfl (by decide) (RT_ar (t := 0) s2 (by omega)) (q := 28) rfl ?_
  have F3 := FR_sR (k := 3) (v := some (n + 2)) F2 hi
  refine J_aload_n (z := 0) dX5_init_28 rfl rfl (q := 29) rfl ?_
  refine J_aload_n (z := 1) dX5_init_29 rfl rfl (q := 30) rfl ?_
  refine J_putR (K := 107) dX5_init_30 lRX5_21 (Or.inl ⟨_, rfl⟩) (fun _ => ⟨rfl, _, _, _, rfl, rfl⟩) (RT_ob o (by omega)) rfl (by decide) (ht.mono (by omega)) (q := 33) rfl ?_
  have F4 := FR_sR (k := 0) (v := some t) F3 hi
  exact J_return dX5_init_33 rfl rfl
def snowI (i n : Nat) (σ : Mm) : Mm := sR (sR (sR (sR σ i 0 (some n)) i 1 (some (n + 1))) i 2 (some (n + 2))) i 3 (some (n + 3))
set_option maxRecDepth 20000 in
set_option maxHeartbeats 2000000 in
theorem tX6_init {X : XS} {i n : Nat} {σ : Mm} (o : SH i = (0, 6)) (hi : i < n) (s0 : SH n = (1, 12)) (s1 : SH (n + 1) = (1, 12)) (s2 : SH (n + 2) = (1, 6)) (s3 : SH (n + 3) = (1, 72))  (hn0 : 16 ≤ n) (hn : n + 4 ≤ 334) (hF : FR n σ) : MT X yX6_init mX6_init 1 4 102 [.ref i] (n + 1) σ (n + 4 + 1, none, snowI i n σ) := by
  refine MT_of (by decide +kernel) rfl (fun _ => rfl) (Nat.le_of_ble_eq_true rfl) ?_
  show J X mX6_init 1 4 102 (n + 4 + 1, none, snowI i n σ) 0 [(0, .ref i)] [] (n + 1) σ
  have F0 := hF
  refine J_aload_n (z := 0) dX6_init_0 rfl rfl (q := 1) rfl ?_
  refine J_obj dX6_init_1 qo_X6 q_oi q_oc (Nat.le_of_ble_eq_true rfl) (Nat.le_of_ble_eq_true rfl) (q := 4) rfl ?_
  refine J_aload_n (z := 0) dX6_init_4 rfl rfl (q := 5) rfl ?_
  refine J_bipush (x := 12) dX6_init_5 (by decide) (q := 7) rfl ?_
  refine J_newI (cnm_hi (by omega) (by omega)) (L := 12) (kc2 := 3) (ks2 := 90) dX6_init_7 q_aint s0 (by decide) (by decide) (by decide) (by omega) (F0 _ (by omega) (by omega)) (by repeat (first | exact vN0 | refine vN2 (by first | exact trivial | (show (_ : Nat) ≠ _; omega)) ?_)) (Nat.le_of_ble_eq_true rfl) (Nat.le_of_ble_eq_true rfl) (q := 9) rfl ?_
  refine J_putR (K := 200) dX6_init_9 lRX6_9 (Or.inr ⟨_, rfl⟩) (fun _ => ⟨rfl, _, _, _, rfl, rfl⟩) (RT_ob o (by omega)) rfl (by decide) (RT_ar (t := 0) s0 (by omega)) (q := 12) rfl ?_
  have F1 := FR_sR (k := 0) (v := some n) F0 hi
  refine J_aload_n (z := 0) dX6_init_12 rfl rfl (q := 13) rfl ?_
  refine J_bipush (x := 12) dX6_init_13 (by decide) (q := 15) rfl ?_
  refine J_newI (cnm_hi (by omega) (by omega)) (L := 12) (kc2 := 2) (ks2 := 78) dX6_init_15 q_aint s1 (by decide) (by decide) (by decide) (by omega) (F1 _ (by omega) (by omega)) (by repeat (first | exact vN0 | refine vN2 (by first | exact trivial | (show (_ : Nat) ≠ _; omega)) ?_)) (Nat.le_of_ble_eq_true rfl) (Nat.le_of_ble_eq_true rfl) (q := 17) rfl ?_
  refine J_putR (K := 200) dX6_init_17 lRX6_15 (Or.inr ⟨_, rfl⟩) (fun _ => ⟨rfl, _, _, _, rfl, rfl⟩) (RT_ob o (by omega)) rfl (by decide) (RT_ar (t := 0) s1 (by omega)) (q := 20) rfl ?_
  have F2 := FR_sR (k := 1) (v := some (n + 1)) F1 hi
  refine J_aload_n (z := 0) dX6_init_20 rfl rfl (q := 21) rfl ?_
  refine J_bipush (x := 6) dX6_init_21 (by decide) (q := 23) rfl ?_
  refine J_newI (cnm_hi (by omega) (by omega)) (L := 6) (kc2 := 1) (ks2 := 72) dX6_init_23 q_aint s2 (by decide) (by decide) (by decide) (by omega) (F2 _ (by omega) (by omega)) (by repeat (first | exact vN0 | refine vN2 (by first | exact trivial | (show (_ : Nat) ≠ _; omega)) ?_)) (Nat.le_of_ble_eq_true rfl) (Nat.le_of_ble_eq_true rfl) (q := 25) rfl ?_
  refine J_putR (K := 200) dX6_init_25 lRX6_18 (Or.inr ⟨_, rfl⟩) (fun _ => ⟨rfl, _, _, _, rfl, rfl⟩) (RT_ob o (by omega)) rfl (by decide) (RT_ar (t := 0) s2 (by omega)) (q := 28) rfl ?_
  have F3 := FR_sR (k := 2) (v := some (n + 2)) F2 hi
  refine J_aload_n (z := 0) dX6_init_28 rfl rfl (q := 29) rfl ?_
  refine J_bipush (x := 72) dX6_init_29 (by decide) (q := 31) rfl ?_
  refine J_newI (cnm_hi (by omega) (by omega)) (L := 72) (kc2 := 0) (ks2 := 0) dX6_init_31 q_aint s3 (by decide) (by decide) (by decide) (by omega) (F3 _ (by omega) (by omega)) (by repeat (first | exact vN0 | refine vN2 (by first | exact trivial | (show (_ : Nat) ≠ _; omega)) ?_)) (Nat.le_of_ble_eq_true rfl) (Nat.le_of_ble_eq_true rfl) (q := 33) rfl ?_
  refine J_putR (K := 200) dX6_init_33 lRX6_21 (Or.inr ⟨_, rfl⟩) (fun _ => ⟨rfl, _, _, _, rfl, rfl⟩) (RT_ob o (by omega)) rfl (by decide) (RT_ar (t := 0) s3 (by omega)) (q := 36) rfl ?_
  have F4 := FR_sR (k := 3) (v := some (n + 3)) F3 hi
  exact J_return dX6_init_36 rfl rfl
def wintI (i n t : Nat) (σ : Mm) : Mm := sR (sR σ i 1 (some n)) i 0 (some t)
set_option maxRecDepth 20000 in
set_option maxHeartbeats 2000000 in
theorem tX8_init {X : XS} {i n t : Nat} {σ : Mm} (o : SH i = (0, 8)) (hi : i < n) (s0 : SH n = (1, 6)) (ht : RT n t 101) (hn : n + 1 ≤ 16) (hF : FR n σ) : MT X yX8_init mX8_init 1 1 6 [.ref i, .ref t] n σ (n + 1, none, wintI i n t σ) := by
  have gt : t < n := cps_dn (ht.2 (by decide)) (by omega)
  refine MT_of (by decide +kernel) rfl (fun _ => rfl) (Nat.le_of_ble_eq_true rfl) ?_
  show J X mX8_init 1 1 6 (n + 1, none, wintI i n t σ) 0 [(0, .ref i), (1, .ref t)] [] n σ
  have F0 := hF
  refine J_aload_n (z := 0) dX8_init_0 rfl rfl (q := 1) rfl ?_
  refine J_obj dX8_init_1 qo_X8 q_oi q_oc (Nat.le_of_ble_eq_true rfl) (Nat.le_of_ble_eq_true rfl) (q := 4) rfl ?_
  refine J_aload_n (z := 0) dX8_init_4 rfl rfl (q := 5) rfl ?_
  refine J_bipush (x := 6) dX8_init_5 (by decide) (q := 7) rfl ?_
  refine J_newI (cnm_lo (by omega)) (L := 6) (kc2 := 0) (ks2 := 0) dX8_init_7 q_aint s0 (by decide) (by decide) (by decide) (by omega) (F0 _ (by omega) (by omega)) (by repeat (first | exact vN0 | refine vN2 (by first | exact trivial | (show (_ : Nat) ≠ _; omega)) ?_)) (Nat.le_of_ble_eq_true rfl) (Nat.le_of_ble_eq_true rfl) (q := 9) rfl ?_
  refine J_putR (K := 200) dX8_init_9 lRX8_9 (Or.inr ⟨_, rfl⟩) (fun _ => ⟨rfl, _, _, _, rfl, rfl⟩) (RT_ob o (by omega)) rfl (by decide) (RT_ar (t := 0) s0 (by omega)) (q := 12) rfl ?_
  have F1 := FR_sR (k := 1) (v := some n) F0 hi
  refine J_aload_n (z := 0) dX8_init_12 rfl rfl (q := 13) rfl ?_
  refine J_aload_n (z := 1) dX8_init_13 rfl rfl (q := 14) rfl ?_
  refine J_putR (K := 101) dX8_init_14 lRX8_15 (Or.inl ⟨_, rfl⟩) (fun _ => ⟨rfl, _, _, _, rfl, rfl⟩) (RT_ob o (by omega)) rfl (by decide) (ht.mono (by omega)) (q := 17) rfl ?_
  have F2 := FR_sR (k := 0) (v := some t) F1 hi
  exact J_return dX8_init_17 rfl rfl
