/-! the model's constructor -/
def modI (i n : Nat) (σ : Mm) : Mm := sR (sR (sR (sR (sR (sR (sR (sI (sR (sR (sR (sR (sR (sR (sR (sR (sR (sR (sR (sR (sR (sR (sR (sR (sR (sR σ i 1 (some n)) i 2 (some (n + 1))) i 3 (some (n + 2))) i 4 (some (n + 3))) i 5 (some n)) i 15 (some 1110)) i 16 (some 1106)) i 18 (some (n + 4))) i 19 (some (n + 5))) i 20 (some (n + 6))) i 21 (some (n + 7))) i 22 (some (n + 8))) i 23 (some (n + 9))) i 24 (some (n + 10))) i 25 (some (n + 11))) i 33 (some (n + 12))) i 34 (some (n + 13))) i 35 (some (n + 14))) i 36 (-1)) i 38 (some (n + 15))) i 39 (some (n + 16))) i 40 (some (n + 17))) i 41 (some (n + 18))) i 48 (some (n + 19))) i 49 (some (n + 20))) i 50 (some (n + 21))
set_option maxRecDepth 20000 in
set_option maxHeartbeats 2000000 in
theorem tX10_init {X : XS} {i n : Nat} {σ : Mm} (o : SH i = (0, 10)) (hi : i < n) (s0 : SH n = (3, 240)) (s1 : SH (n + 1) = (3, 960)) (s2 : SH (n + 2) = (1, 4)) (s3 : SH (n + 3) = (1, 128)) (s4 : SH (n + 4) = (1, 5)) (s5 : SH (n + 5) = (1, 5)) (s6 : SH (n + 6) = (1, 48)) (s7 : SH (n + 7) = (1, 48)) (s8 : SH (n + 8) = (1, 24)) (s9 : SH (n + 9) = (1, 24)) (s10 : SH (n + 10) = (1, 240)) (s11 : SH (n + 11) = (1, 5)) (s12 : SH (n + 12) = (1, 351)) (s13 : SH (n + 13) = (1, 351)) (s14 : SH (n + 14) = (1, 1755)) (s15 : SH (n + 15) = (2, 8191)) (s16 : SH (n + 16) = (1, 8191)) (s17 : SH (n + 17) = (1, 12)) (s18 : SH (n + 18) = (1, 14040)) (s19 : SH (n + 19) = (1, 72)) (s20 : SH (n + 20) = (2, 14)) (s21 : SH (n + 21) = (1, 351))  (hn0 : 16 ≤ n) (hn : n + 22 ≤ 334) (hF : FR n σ) : MT X yX10_init mX10_init 1 22 35059 [.ref i] (n + 1) σ (n + 22 + 1, none, modI i n σ) := by
  refine MT_of (by decide +kernel) rfl (fun _ => rfl) (Nat.le_of_ble_eq_true rfl) ?_
  show J X mX10_init 1 22 35059 (n + 22 + 1, none, modI i n σ) 0 [(0, .ref i)] [] (n + 1) σ
  have F0 := hF
  refine J_aload_n (z := 0) dX10_init_0 rfl rfl (q := 1) rfl ?_
  refine J_obj dX10_init_1 qo_X10 q_oi q_oc (Nat.le_of_ble_eq_true rfl) (Nat.le_of_ble_eq_true rfl) (q := 4) rfl ?_
  refine J_aload_n (z := 0) dX10_init_4 rfl rfl (q := 5) rfl ?_
  refine J_sipush (x := 240) dX10_init_5 (by decide) (q := 8) rfl ?_
  refine J_newB (cnm_hi (by omega) (by omega)) (L := 240) (kc2 := 21) (ks2 := 34819) dX10_init_8 q_abyte s0 (by decide) (by decide) (by decide) (by omega) (F0 _ (by omega) (by omega)) (by repeat (first | exact vN0 | refine vN2 (by first | exact trivial | (show (_ : Nat) ≠ _; omega)) ?_)) (Nat.le_of_ble_eq_true rfl) (Nat.le_of_ble_eq_true rfl) (q := 10) rfl ?_
  refine J_putR (K := 202) dX10_init_10 lRX10_9 (Or.inr ⟨_, rfl⟩) (fun _ => ⟨rfl, _, _, _, rfl, rfl⟩) (RT_ob o (by omega)) rfl (by decide) (RT_ar (t := 2) s0 (by omega)) (q := 13) rfl ?_
  have F1 := FR_sR (k := 1) (v := some n) F0 hi
  refine J_aload_n (z := 0) dX10_init_13 rfl rfl (q := 14) rfl ?_
  refine J_sipush (x := 960) dX10_init_14 (by decide) (q := 17) rfl ?_
  refine J_newB (cnm_hi (by omega) (by omega)) (L := 960) (kc2 := 20) (ks2 := 33859) dX10_init_17 q_abyte s1 (by decide) (by decide) (by decide) (by omega) (F1 _ (by omega) (by omega)) (by repeat (first | exact vN0 | refine vN2 (by first | exact trivial | (show (_ : Nat) ≠ _; omega)) ?_)) (Nat.le_of_ble_eq_true rfl) (Nat.le_of_ble_eq_true rfl) (q := 19) rfl ?_
  refine J_putR (K := 202) dX10_init_19 lRX10_13 (Or.inr ⟨_, rfl⟩) (fun _ => ⟨rfl, _, _, _, rfl, rfl⟩) (RT_ob o (by omega)) rfl (by decide) (RT_ar (t := 2) s1 (by omega)) (q := 22) rfl ?_
  have F2 := FR_sR (k := 2) (v := some (n + 1)) F1 hi
  refine J_aload_n (z := 0) dX10_init_22 rfl rfl (q := 23) rfl ?_
  refine J_iconst (x := 4) dX10_init_23 (by decide) (q := 24) rfl ?_
  refine J_newI (cnm_hi (by omega) (by omega)) (L := 4) (kc2 := 19) (ks2 := 33855) dX10_init_24 q_aint s2 (by decide) (by decide) (by decide) (by omega) (F2 _ (by omega) (by omega)) (by repeat (first | exact vN0 | refine vN2 (by first | exact trivial | (show (_ : Nat) ≠ _; omega)) ?_)) (Nat.le_of_ble_eq_true rfl) (Nat.le_of_ble_eq_true rfl) (q := 26) rfl ?_
  refine J_putR (K := 200) dX10_init_26 lRX10_16 (Or.inr ⟨_, rfl⟩) (fun _ => ⟨rfl, _, _, _, rfl, rfl⟩) (RT_ob o (by omega)) rfl (by decide) (RT_ar (t := 0) s2 (by omega)) (q := 29) rfl ?_
  have F3 := FR_sR (k := 3) (v := some (n + 2)) F2 hi
  refine J_aload_n (z := 0) dX10_init_29 rfl rfl (q := 30) rfl ?_
  refine J_sipush (x := 128) dX10_init_30 (by decide) (q := 33) rfl ?_
  refine J_newI (cnm_hi (by omega) (by omega)) (L := 128) (kc2 := 18) (ks2 := 33727) dX10_init_33 q_aint s3 (by decide) (by decide) (by decide) (by omega) (F3 _ (by omega) (by omega)) (by repeat (first | exact vN0 | refine vN2 (by first | exact trivial | (show (_ : Nat) ≠ _; omega)) ?_)) (Nat.le_of_ble_eq_true rfl) (Nat.le_of_ble_eq_true rfl) (q := 35) rfl ?_
  refine J_putR (K := 200) dX10_init_35 lRX10_20 (Or.inr ⟨_, rfl⟩) (fun _ => ⟨rfl, _, _, _, rfl, rfl⟩) (RT_ob o (by omega)) rfl (by decide) (RT_ar (t := 0) s3 (by omega)) (q := 38) rfl ?_
  have F4 := FR_sR (k := 4) (v := some (n + 3)) F3 hi
  refine J_aload_n (z := 0) dX10_init_38 rfl rfl (q := 39) rfl ?_
  refine J_aload_n (z := 0) dX10_init_39 rfl rfl (q := 40) rfl ?_
  refine J_getR dX10_init_40 lRX10_9 (RT_ob o (by omega)) rfl (by decide) (j := n) (by simp [gR_sR]) (q := 43) rfl (fun _ => ?_)
  refine J_putR (K := 202) dX10_init_43 lRX10_23 (Or.inr ⟨_, rfl⟩) (fun h => by cases h) (RT_ob o (by omega)) rfl (by decide) (RT_ar (t := 2) s0 (by omega)) (q := 46) rfl ?_
  have F5 := FR_sR (k := 5) (v := some n) F4 hi
  refine J_aload_n (z := 0) dX10_init_46 rfl rfl (q := 47) rfl ?_
  refine J_ldcS (tx := "y") dX10_init_47 (j := 5) (by decide +kernel) (q := 49) rfl ?_
  refine J_putR (K := 207) dX10_init_49 lRX10_28 (Or.inl ⟨_, rfl⟩) (fun _ => ⟨rfl, _, _, _, rfl, rfl⟩) (RT_ob o (by omega)) rfl (by decide) ⟨by decide +kernel, fun h => absurd h (by decide)⟩ (q := 52) rfl ?_
  have F6 := FR_sR (k := 15) (v := some 1110) F5 hi
  refine J_aload_n (z := 0) dX10_init_52 rfl rfl (q := 53) rfl ?_
  refine J_ldcS (tx := "bcdsnt") dX10_init_53 (j := 3) (by decide +kernel) (q := 55) rfl ?_
  refine J_putR (K := 207) dX10_init_55 lRX10_34 (Or.inl ⟨_, rfl⟩) (fun _ => ⟨rfl, _, _, _, rfl, rfl⟩) (RT_ob o (by omega)) rfl (by decide) ⟨by decide +kernel, fun h => absurd h (by decide)⟩ (q := 58) rfl ?_
  have F7 := FR_sR (k := 16) (v := some 1106) F6 hi
  refine J_aload_n (z := 0) dX10_init_58 rfl rfl (q := 59) rfl ?_
  refine J_iconst (x := 5) dX10_init_59 (by decide) (q := 60) rfl ?_
  refine J_newI (cnm_hi (by omega) (by omega)) (L := 5) (kc2 := 17) (ks2 := 33722) dX10_init_60 q_aint s4 (by decide) (by decide) (by decide) (by omega) (F7 _ (by omega) (by omega)) (by repeat (first | exact vN0 | refine vN2 (by first | exact trivial | (show (_ : Nat) ≠ _; omega)) ?_)) (Nat.le_of_ble_eq_true rfl) (Nat.le_of_ble_eq_true rfl) (q := 62) rfl ?_
  refine J_putR (K := 200) dX10_init_62 lRX10_37 (Or.inr ⟨_, rfl⟩) (fun _ => ⟨rfl, _, _, _, rfl, rfl⟩) (RT_ob o (by omega)) rfl (by decide) (RT_ar (t := 0) s4 (by omega)) (q := 65) rfl ?_
  have F8 := FR_sR (k := 18) (v := some (n + 4)) F7 hi
  refine J_aload_n (z := 0) dX10_init_65 rfl rfl (q := 66) rfl ?_
  refine J_iconst (x := 5) dX10_init_66 (by decide) (q := 67) rfl ?_
  refine J_newI (cnm_hi (by omega) (by omega)) (L := 5) (kc2 := 16) (ks2 := 33717) dX10_init_67 q_aint s5 (by decide) (by decide) (by decide) (by omega) (F8 _ (by omega) (by omega)) (by repeat (first | exact vN0 | refine vN2 (by first | exact trivial | (show (_ : Nat) ≠ _; omega)) ?_)) (Nat.le_of_ble_eq_true rfl) (Nat.le_of_ble_eq_true rfl) (q := 69) rfl ?_
  refine J_putR (K := 200) dX10_init_69 lRX10_40 (Or.inr ⟨_, rfl⟩) (fun _ => ⟨rfl, _, _, _, rfl, rfl⟩) (RT_ob o (by omega)) rfl (by decide) (RT_ar (t := 0) s5 (by omega)) (q := 72) rfl ?_
  have F9 := FR_sR (k := 19) (v := some (n + 5)) F8 hi
  refine J_aload_n (z := 0) dX10_init_72 rfl rfl (q := 73) rfl ?_
  refine J_bipush (x := 48) dX10_init_73 (by decide) (q := 75) rfl ?_
  refine J_newI (cnm_hi (by omega) (by omega)) (L := 48) (kc2 := 15) (ks2 := 33669) dX10_init_75 q_aint s6 (by decide) (by decide) (by decide) (by omega) (F9 _ (by omega) (by omega)) (by repeat (first | exact vN0 | refine vN2 (by first | exact trivial | (show (_ : Nat) ≠ _; omega)) ?_)) (Nat.le_of_ble_eq_true rfl) (Nat.le_of_ble_eq_true rfl) (q := 77) rfl ?_
  refine J_putR (K := 200) dX10_init_77 lRX10_43 (Or.inr ⟨_, rfl⟩) (fun _ => ⟨rfl, _, _, _, rfl, rfl⟩) (RT_ob o (by omega)) rfl (by decide) (RT_ar (t := 0) s6 (by omega)) (q := 80) rfl ?_
  have F10 := FR_sR (k := 20) (v := some (n + 6)) F9 hi
  refine J_aload_n (z := 0) dX10_init_80 rfl rfl (q := 81) rfl ?_
  refine J_bipush (x := 48) dX10_init_81 (by decide) (q := 83) rfl ?_
  refine J_newI (cnm_hi (by omega) (by omega)) (L := 48) (kc2 := 14) (ks2 := 33621) dX10_init_83 q_aint s7 (by decide) (by decide) (by decide) (by omega) (F10 _ (by omega) (by omega)) (by repeat (first | exact vN0 | refine vN2 (by first | exact trivial | (show (_ : Nat) ≠ _; omega)) ?_)) (Nat.le_of_ble_eq_true rfl) (Nat.le_of_ble_eq_true rfl) (q := 85) rfl ?_
  refine J_putR (K := 200) dX10_init_85 lRX10_46 (Or.inr ⟨_, rfl⟩) (fun _ => ⟨rfl, _, _, _, rfl, rfl⟩) (RT_ob o (by omega)) rfl (by decide) (RT_ar (t := 0) s7 (by omega)) (q := 88) rfl ?_
  have F11 := FR_sR (k := 21) (v := some (n + 7)) F10 hi
  refine J_aload_n (z := 0) dX10_init_88 rfl rfl (q := 89) rfl ?_
  refine J_bipush (x := 24) dX10_init_89 (by decide) (q := 91) rfl ?_
  refine J_newI (cnm_hi (by omega) (by omega)) (L := 24) (kc2 := 13) (ks2 := 33597) dX10_init_91 q_aint s8 (by decide) (by decide) (by decide) (by omega) (F11 _ (by omega) (by omega)) (by repeat (first | exact vN0 | refine vN2 (by first | exact trivial | (show (_ : Nat) ≠ _; omega)) ?_)) (Nat.le_of_ble_eq_true rfl) (Nat.le_of_ble_eq_true rfl) (q := 93) rfl ?_
  refine J_putR (K := 200) dX10_init_93 lRX10_49 (Or.inr ⟨_, rfl⟩) (fun _ => ⟨rfl, _, _, _, rfl, rfl⟩) (RT_ob o (by omega)) rfl (by decide) (RT_ar (t := 0) s8 (by omega)) (q := 96) rfl ?_
  have F12 := FR_sR (k := 22) (v := some (n + 8)) F11 hi
  refine J_aload_n (z := 0) dX10_init_96 rfl rfl (q := 97) rfl ?_
  refine J_bipush (x := 24) dX10_init_97 (by decide) (q := 99) rfl ?_
  refine J_newI (cnm_hi (by omega) (by omega)) (L := 24) (kc2 := 12) (ks2 := 33573) dX10_init_99 q_aint s9 (by decide) (by decide) (by decide) (by omega) (F12 _ (by omega) (by omega)) (by repeat (first | exact vN0 | refine vN2 (by first | exact trivial | (show (_ : Nat) ≠ _; omega)) ?_)) (Nat.le_of_ble_eq_true rfl) (Nat.le_of_ble_eq_true rfl) (q := 101) rfl ?_
  refine J_putR (K := 200) dX10_init_101 lRX10_52 (Or.inr ⟨_, rfl⟩) (fun _ => ⟨rfl, _, _, _, rfl, rfl⟩) (RT_ob o (by omega)) rfl (by decide) (RT_ar (t := 0) s9 (by omega)) (q := 104) rfl ?_
  have F13 := FR_sR (k := 23) (v := some (n + 9)) F12 hi
  refine J_aload_n (z := 0) dX10_init_104 rfl rfl (q := 105) rfl ?_
  refine J_sipush (x := 240) dX10_init_105 (by decide) (q := 108) rfl ?_
  refine J_newI (cnm_hi (by omega) (by omega)) (L := 240) (kc2 := 11) (ks2 := 33333) dX10_init_108 q_aint s10 (by decide) (by decide) (by decide) (by omega) (F13 _ (by omega) (by omega)) (by repeat (first | exact vN0 | refine vN2 (by first | exact trivial | (show (_ : Nat) ≠ _; omega)) ?_)) (Nat.le_of_ble_eq_true rfl) (Nat.le_of_ble_eq_true rfl) (q := 110) rfl ?_
  refine J_putR (K := 200) dX10_init_110 lRX10_55 (Or.inr ⟨_, rfl⟩) (fun _ => ⟨rfl, _, _, _, rfl, rfl⟩) (RT_ob o (by omega)) rfl (by decide) (RT_ar (t := 0) s10 (by omega)) (q := 113) rfl ?_
  have F14 := FR_sR (k := 24) (v := some (n + 10)) F13 hi
  refine J_aload_n (z := 0) dX10_init_113 rfl rfl (q := 114) rfl ?_
  refine J_iconst (x := 5) dX10_init_114 (by decide) (q := 115) rfl ?_
  refine J_newI (cnm_hi (by omega) (by omega)) (L := 5) (kc2 := 10) (ks2 := 33328) dX10_init_115 q_aint s11 (by decide) (by decide) (by decide) (by omega) (F14 _ (by omega) (by omega)) (by repeat (first | exact vN0 | refine vN2 (by first | exact trivial | (show (_ : Nat) ≠ _; omega)) ?_)) (Nat.le_of_ble_eq_true rfl) (Nat.le_of_ble_eq_true rfl) (q := 117) rfl ?_
  refine J_putR (K := 200) dX10_init_117 lRX10_58 (Or.inr ⟨_, rfl⟩) (fun _ => ⟨rfl, _, _, _, rfl, rfl⟩) (RT_ob o (by omega)) rfl (by decide) (RT_ar (t := 0) s11 (by omega)) (q := 120) rfl ?_
  have F15 := FR_sR (k := 25) (v := some (n + 11)) F14 hi
  refine J_aload_n (z := 0) dX10_init_120 rfl rfl (q := 121) rfl ?_
  refine J_sipush (x := 351) dX10_init_121 (by decide) (q := 124) rfl ?_
  refine J_newI (cnm_hi (by omega) (by omega)) (L := 351) (kc2 := 9) (ks2 := 32977) dX10_init_124 q_aint s12 (by decide) (by decide) (by decide) (by omega) (F15 _ (by omega) (by omega)) (by repeat (first | exact vN0 | refine vN2 (by first | exact trivial | (show (_ : Nat) ≠ _; omega)) ?_)) (Nat.le_of_ble_eq_true rfl) (Nat.le_of_ble_eq_true rfl) (q := 126) rfl ?_
  refine J_putR (K := 200) dX10_init_126 lRX10_61 (Or.inr ⟨_, rfl⟩) (fun _ => ⟨rfl, _, _, _, rfl, rfl⟩) (RT_ob o (by omega)) rfl (by decide) (RT_ar (t := 0) s12 (by omega)) (q := 129) rfl ?_
  have F16 := FR_sR (k := 33) (v := some (n + 12)) F15 hi
  refine J_aload_n (z := 0) dX10_init_129 rfl rfl (q := 130) rfl ?_
  refine J_sipush (x := 351) dX10_init_130 (by decide) (q := 133) rfl ?_
  refine J_newI (cnm_hi (by omega) (by omega)) (L := 351) (kc2 := 8) (ks2 := 32626) dX10_init_133 q_aint s13 (by decide) (by decide) (by decide) (by omega) (F16 _ (by omega) (by omega)) (by repeat (first | exact vN0 | refine vN2 (by first | exact trivial | (show (_ : Nat) ≠ _; omega)) ?_)) (Nat.le_of_ble_eq_true rfl) (Nat.le_of_ble_eq_true rfl) (q := 135) rfl ?_
  refine J_putR (K := 200) dX10_init_135 lRX10_64 (Or.inr ⟨_, rfl⟩) (fun _ => ⟨rfl, _, _, _, rfl, rfl⟩) (RT_ob o (by omega)) rfl (by decide) (RT_ar (t := 0) s13 (by omega)) (q := 138) rfl ?_
  have F17 := FR_sR (k := 34) (v := some (n + 13)) F16 hi
  refine J_aload_n (z := 0) dX10_init_138 rfl rfl (q := 139) rfl ?_
  refine J_sipush (x := 1755) dX10_init_139 (by decide) (q := 142) rfl ?_
  refine J_newI (cnm_hi (by omega) (by omega)) (L := 1755) (kc2 := 7) (ks2 := 30871) dX10_init_142 q_aint s14 (by decide) (by decide) (by decide) (by omega) (F17 _ (by omega) (by omega)) (by repeat (first | exact vN0 | refine vN2 (by first | exact trivial | (show (_ : Nat) ≠ _; omega)) ?_)) (Nat.le_of_ble_eq_true rfl) (Nat.le_of_ble_eq_true rfl) (q := 144) rfl ?_
  refine J_putR (K := 200) dX10_init_144 lRX10_67 (Or.inr ⟨_, rfl⟩) (fun _ => ⟨rfl, _, _, _, rfl, rfl⟩) (RT_ob o (by omega)) rfl (by decide) (RT_ar (t := 0) s14 (by omega)) (q := 147) rfl ?_
  have F18 := FR_sR (k := 35) (v := some (n + 14)) F17 hi
  refine J_aload_n (z := 0) dX10_init_147 rfl rfl (q := 148) rfl ?_
  refine J_iconst (x := -1) dX10_init_148 (by decide) (q := 149) rfl ?_
  refine J_putI dX10_init_149 lRX10_70 (fun h => by cases h) (RT_ob o (by omega)) rfl (q := 152) rfl ?_
  have F19 := FR_sI (k := 36) (v := -1) F18 hi
  refine J_aload_n (z := 0) dX10_init_152 rfl rfl (q := 153) rfl ?_
  refine J_sipush (x := 8191) dX10_init_153 (by decide) (q := 156) rfl ?_
  refine J_newL (cnm_hi (by omega) (by omega)) (L := 8191) (kc2 := 6) (ks2 := 22680) dX10_init_156 q_along s15 (by decide) (by decide) (by decide) (by omega) (F19 _ (by omega) (by omega)) (by repeat (first | exact vN0 | refine vN2 (by first | exact trivial | (show (_ : Nat) ≠ _; omega)) ?_)) (Nat.le_of_ble_eq_true rfl) (Nat.le_of_ble_eq_true rfl) (q := 158) rfl ?_
  refine J_putR (K := 201) dX10_init_158 lRX10_74 (Or.inr ⟨_, rfl⟩) (fun _ => ⟨rfl, _, _, _, rfl, rfl⟩) (RT_ob o (by omega)) rfl (by decide) (RT_ar (t := 1) s15 (by omega)) (q := 161) rfl ?_
  have F20 := FR_sR (k := 38) (v := some (n + 15)) F19 hi
  refine J_aload_n (z := 0) dX10_init_161 rfl rfl (q := 162) rfl ?_
  refine J_sipush (x := 8191) dX10_init_162 (by decide) (q := 165) rfl ?_
  refine J_newI (cnm_hi (by omega) (by omega)) (L := 8191) (kc2 := 5) (ks2 := 14489) dX10_init_165 q_aint s16 (by decide) (by decide) (by decide) (by omega) (F20 _ (by omega) (by omega)) (by repeat (first | exact vN0 | refine vN2 (by first | exact trivial | (show (_ : Nat) ≠ _; omega)) ?_)) (Nat.le_of_ble_eq_true rfl) (Nat.le_of_ble_eq_true rfl) (q := 167) rfl ?_
  refine J_putR (K := 200) dX10_init_167 lRX10_78 (Or.inr ⟨_, rfl⟩) (fun _ => ⟨rfl, _, _, _, rfl, rfl⟩) (RT_ob o (by omega)) rfl (by decide) (RT_ar (t := 0) s16 (by omega)) (q := 170) rfl ?_
  have F21 := FR_sR (k := 39) (v := some (n + 16)) F20 hi
  refine J_aload_n (z := 0) dX10_init_170 rfl rfl (q := 171) rfl ?_
  refine J_bipush (x := 12) dX10_init_171 (by decide) (q := 173) rfl ?_
  refine J_newI (cnm_hi (by omega) (by omega)) (L := 12) (kc2 := 4) (ks2 := 14477) dX10_init_173 q_aint s17 (by decide) (by decide) (by decide) (by omega) (F21 _ (by omega) (by omega)) (by repeat (first | exact vN0 | refine vN2 (by first | exact trivial | (show (_ : Nat) ≠ _; omega)) ?_)) (Nat.le_of_ble_eq_true rfl) (Nat.le_of_ble_eq_true rfl) (q := 175) rfl ?_
  refine J_putR (K := 200) dX10_init_175 lRX10_81 (Or.inr ⟨_, rfl⟩) (fun _ => ⟨rfl, _, _, _, rfl, rfl⟩) (RT_ob o (by omega)) rfl (by decide) (RT_ar (t := 0) s17 (by omega)) (q := 178) rfl ?_
  have F22 := FR_sR (k := 40) (v := some (n + 17)) F21 hi
  refine J_aload_n (z := 0) dX10_init_178 rfl rfl (q := 179) rfl ?_
  refine J_sipush (x := 14040) dX10_init_179 (by decide) (q := 182) rfl ?_
  refine J_newI (cnm_hi (by omega) (by omega)) (L := 14040) (kc2 := 3) (ks2 := 437) dX10_init_182 q_aint s18 (by decide) (by decide) (by decide) (by omega) (F22 _ (by omega) (by omega)) (by repeat (first | exact vN0 | refine vN2 (by first | exact trivial | (show (_ : Nat) ≠ _; omega)) ?_)) (Nat.le_of_ble_eq_true rfl) (Nat.le_of_ble_eq_true rfl) (q := 184) rfl ?_
  refine J_putR (K := 200) dX10_init_184 lRX10_84 (Or.inr ⟨_, rfl⟩) (fun _ => ⟨rfl, _, _, _, rfl, rfl⟩) (RT_ob o (by omega)) rfl (by decide) (RT_ar (t := 0) s18 (by omega)) (q := 187) rfl ?_
  have F23 := FR_sR (k := 41) (v := some (n + 18)) F22 hi
  refine J_aload_n (z := 0) dX10_init_187 rfl rfl (q := 188) rfl ?_
  refine J_bipush (x := 72) dX10_init_188 (by decide) (q := 190) rfl ?_
  refine J_newI (cnm_hi (by omega) (by omega)) (L := 72) (kc2 := 2) (ks2 := 365) dX10_init_190 q_aint s19 (by decide) (by decide) (by decide) (by omega) (F23 _ (by omega) (by omega)) (by repeat (first | exact vN0 | refine vN2 (by first | exact trivial | (show (_ : Nat) ≠ _; omega)) ?_)) (Nat.le_of_ble_eq_true rfl) (Nat.le_of_ble_eq_true rfl) (q := 192) rfl ?_
  refine J_putR (K := 200) dX10_init_192 lRX10_87 (Or.inr ⟨_, rfl⟩) (fun _ => ⟨rfl, _, _, _, rfl, rfl⟩) (RT_ob o (by omega)) rfl (by decide) (RT_ar (t := 0) s19 (by omega)) (q := 195) rfl ?_
  have F24 := FR_sR (k := 48) (v := some (n + 19)) F23 hi
  refine J_aload_n (z := 0) dX10_init_195 rfl rfl (q := 196) rfl ?_
  refine J_bipush (x := 14) dX10_init_196 (by decide) (q := 198) rfl ?_
  refine J_newL (cnm_hi (by omega) (by omega)) (L := 14) (kc2 := 1) (ks2 := 351) dX10_init_198 q_along s20 (by decide) (by decide) (by decide) (by omega) (F24 _ (by omega) (by omega)) (by repeat (first | exact vN0 | refine vN2 (by first | exact trivial | (show (_ : Nat) ≠ _; omega)) ?_)) (Nat.le_of_ble_eq_true rfl) (Nat.le_of_ble_eq_true rfl) (q := 200) rfl ?_
  refine J_putR (K := 201) dX10_init_200 lRX10_90 (Or.inr ⟨_, rfl⟩) (fun _ => ⟨rfl, _, _, _, rfl, rfl⟩) (RT_ob o (by omega)) rfl (by decide) (RT_ar (t := 1) s20 (by omega)) (q := 203) rfl ?_
  have F25 := FR_sR (k := 49) (v := some (n + 20)) F24 hi
  refine J_aload_n (z := 0) dX10_init_203 rfl rfl (q := 204) rfl ?_
  refine J_sipush (x := 351) dX10_init_204 (by decide) (q := 207) rfl ?_
  refine J_newI (cnm_hi (by omega) (by omega)) (L := 351) (kc2 := 0) (ks2 := 0) dX10_init_207 q_aint s21 (by decide) (by decide) (by decide) (by omega) (F25 _ (by omega) (by omega)) (by repeat (first | exact vN0 | refine vN2 (by first | exact trivial | (show (_ : Nat) ≠ _; omega)) ?_)) (Nat.le_of_ble_eq_true rfl) (Nat.le_of_ble_eq_true rfl) (q := 209) rfl ?_
  refine J_putR (K := 200) dX10_init_209 lRX10_93 (Or.inr ⟨_, rfl⟩) (fun _ => ⟨rfl, _, _, _, rfl, rfl⟩) (RT_ob o (by omega)) rfl (by decide) (RT_ar (t := 0) s21 (by omega)) (q := 212) rfl ?_
  have F26 := FR_sR (k := 50) (v := some (n + 21)) F25 hi
  exact J_return dX10_init_212 rfl rfl
