/-! constructors that make rows of objects -/
def vLt (n : Nat) (v : Value) : Prop := match v with | .ref i => cps i < n | _ => True
theorem vL0 {n : Nat} : ∀ w ∈ ([] : List Value), vLt n w := fun _ h => nomatch h
theorem vL2 {n : Nat} {v : Value} {l : List Value} (h : vLt n v) (t : ∀ w ∈ l, vLt n w) : ∀ w ∈ v :: l, vLt n w := List.forall_mem_cons.mpr ⟨h, t⟩
theorem vL1 {n z : Nat} {l : List Value} (h : ∀ w ∈ l, vLt n w) (hz : Value.ref z ∈ l) : cps z < n := h _ hz
def rowsM (a n w : Nat) (f : Nat → Nat → Mm → Mm) : Nat → Mm → Mm
  | 0, σ => σ
  | k + 1, σ => sR (f (n + w * k) (n + w * k + 1) (rowsM a n w f k σ)) a k (some (n + w * k))
/-- f writes references of its own cell alone -/
def OWN (f : Nat → Nat → Mm → Mm) : Prop := ∀ i m σ, (f i m σ).1 = σ.1 ∧ (f i m σ).2.1 = σ.2.1 ∧ ∀ c j, c ≠ i → gR (f i m σ) c j = gR σ c j
theorem own_snow : OWN snowI := fun i m σ => ⟨rfl, rfl, fun c j h => by simp [snowI, gR_sR, h]⟩
theorem own_law (t : Nat) : OWN (fun i n => lawI i n t) := fun i m σ => ⟨rfl, rfl, fun c j h => by simp [lawI, gR_sR, h]⟩
theorem own_plan (t : Nat) : OWN (fun i n => planI i n t) := fun i m σ => ⟨rfl, rfl, fun c j h => by simp [planI, gR_sR, h]⟩
theorem rows_eq {a n w : Nat} {f : Nat → Nat → Mm → Mm} (hf : OWN f) (σ : Mm) : ∀ k, (rowsM a n w f k σ).1 = σ.1 ∧ (rowsM a n w f k σ).2.1 = σ.2.1
  | 0 => ⟨rfl, rfl⟩
  | k + 1 => by
    obtain ⟨h1, h2⟩ := rows_eq hf σ k
    obtain ⟨g1, g2, -⟩ := hf (n + w * k) (n + w * k + 1) (rowsM a n w f k σ)
    exact ⟨g1.trans h1, g2.trans h2⟩
theorem rows_R {a n w : Nat} {f : Nat → Nat → Mm → Mm} (hf : OWN f) {σ : Mm} {c j : Nat} (hc : c < n ∧ c ≠ a) : ∀ k, gR (rowsM a n w f k σ) c j = gR σ c j
  | 0 => rfl
  | k + 1 => by
    have h1 := rows_R (w := w) hf (σ := σ) (j := j) hc k
    obtain ⟨-, -, g3⟩ := hf (n + w * k) (n + w * k + 1) (rowsM a n w f k σ)
    show gR (sR (f (n + w * k) (n + w * k + 1) (rowsM a n w f k σ)) a k (some (n + w * k))) c j = _
    have hne : c ≠ n + w * k := by have := Nat.zero_le (w * k); omega
    rw [gR_sR, if_neg (fun z => hc.2 z.1), g3 c j hne, h1]
theorem rows_FR {a n w : Nat} {f : Nat → Nat → Mm → Mm} (hf : OWN f) (hw : 0 < w) (ha : a < n) {σ : Mm} (hF : FR n σ) : ∀ k, FR (n + w * k) (rowsM a n w f k σ)
  | 0 => hF
  | k + 1 => by
    have h1 := rows_FR hf hw ha hF k
    obtain ⟨g1, g2, g3⟩ := hf (n + w * k) (n + w * k + 1) (rowsM a n w f k σ)
    have e : w * (k + 1) = w * k + w := Nat.mul_succ w k
    intro c c1 c2 j
    obtain ⟨b1, b2, b3⟩ := h1 c (by omega) c2 j
    refine ⟨?_, ?_, ?_⟩
    · show (f (n + w * k) (n + w * k + 1) (rowsM a n w f k σ)).1 c j = 0
      rw [g1]; exact b1
    · show (f (n + w * k) (n + w * k + 1) (rowsM a n w f k σ)).2.1 c j = 0
      rw [g2]; exact b2
    · show gR (sR (f (n + w * k) (n + w * k + 1) (rowsM a n w f k σ)) a k (some (n + w * k))) c j = none
      rw [gR_sR, if_neg (by omega), g3 c j (by omega), b3]
theorem f_snow {n i m : Nat} {σ : Mm} (hF : FR n σ) (hi : i < n) : FR n (snowI i m σ) := FR_sR (FR_sR (FR_sR (FR_sR hF hi) hi) hi) hi
theorem f_law {n i m t : Nat} {σ : Mm} (hF : FR n σ) (hi : i < n) : FR n (lawI i m t σ) := FR_sR (FR_sR (FR_sR (FR_sR hF hi) hi) hi) hi
theorem f_plan {n i m t : Nat} {σ : Mm} (hF : FR n σ) (hi : i < n) : FR n (planI i m t σ) := FR_sR (FR_sR (FR_sR (FR_sR hF hi) hi) hi) hi
theorem sh_X4 : ∀ k, k < 40 → SH (101 + 5 * k) = (0, 6) ∧ SH (101 + 5 * k + 1) = (1, 12) ∧ SH (101 + 5 * k + 2) = (1, 12) ∧ SH (101 + 5 * k + 3) = (1, 6) ∧ SH (101 + 5 * k + 4) = (1, 72) := by decide +kernel
set_option maxRecDepth 20000 in
set_option maxHeartbeats 2000000 in
theorem tX4_l {X : XS} {σ : Mm} {d0 kc0 ks0 : Nat} {F : Nat × Option Value × Mm} (hd0 : 2 ≤ d0) (hF : FR 101 σ) (hg : gR σ 99 0 = some 100) (hx : J X mX4_init d0 kc0 ks0 F 43 [(1, .int (nI 40)), (0, .ref 99)] [] 302 (rowsM 100 101 5 snowI 40 σ)) : ∀ r k, k + r = 40 → J X mX4_init d0 (kc0 + 5 * r) (ks0 + 109 * r) F 15 [(1, .int (nI k)), (0, .ref 99)] [] (101 + 5 * k + 1) (rowsM 100 101 5 snowI k σ) := by
  intro r
  induction r with
  | zero =>
    intro k hk
    have ek : k = 40 := by omega
    subst ek
    refine J_iload_n (z := 0) dX4_init_15 rfl rfl (q := 16) rfl ?_
    refine J_aload_n (z := 1) dX4_init_16 rfl rfl (q := 17) rfl ?_
    refine J_getR dX4_init_17 lRX4_11 (RT_ob (c := 4) (by decide +kernel) (by omega)) rfl (by decide) (j := 100) ((rows_R own_snow (by decide) _).trans hg) (q := 20) rfl (fun _ => ?_)
    refine J_alen (t := 5) (x := nI 40) dX4_init_20 (RT_ar (t := 5) (L := 40) (by decide +kernel) (by omega)) (by decide) (by decide +kernel) (q := 21) rfl ?_
    refine J_icmp_ge (tgt := 43) dX4_init_21 (by decide) (q := 24) rfl (fun _ => ?_) (fun z => absurd (nI_le (by omega) (by omega)) z)
    exact hx
  | succ r ih =>
    intro k hk
    obtain ⟨g0, g1, g2, g3, g4⟩ := sh_X4 k (by omega)
    have FK := rows_FR (a := 100) (n := 101) (w := 5) (f := snowI) own_snow (by decide) (by decide) hF k
    refine J_iload_n (z := 0) dX4_init_15 rfl rfl (q := 16) rfl ?_
    refine J_aload_n (z := 1) dX4_init_16 rfl rfl (q := 17) rfl ?_
    refine J_getR dX4_init_17 lRX4_11 (RT_ob (c := 4) (by decide +kernel) (by omega)) rfl (by decide) (j := 100) ((rows_R own_snow (by decide) _).trans hg) (q := 20) rfl (fun _ => ?_)
    refine J_alen (t := 5) (x := nI 40) dX4_init_20 (RT_ar (t := 5) (L := 40) (by decide +kernel) (by omega)) (by decide) (by decide +kernel) (q := 21) rfl ?_
    refine J_icmp_ge (tgt := 43) dX4_init_21 (by decide) (q := 24) rfl (fun z => absurd z (nI_ge (by omega) (by omega))) (fun _ => ?_)
    refine J_aload_n (z := 1) dX4_init_24 rfl rfl (q := 25) rfl ?_
    refine J_getR dX4_init_25 lRX4_11 (RT_ob (c := 4) (by decide +kernel) (by omega)) rfl (by decide) (j := 100) ((rows_R own_snow (by decide) _).trans hg) (q := 28) rfl (fun _ => ?_)
    refine J_iload_n (z := 0) dX4_init_28 rfl rfl (q := 29) rfl ?_
    refine J_new (cnm_hi (by omega) (by omega)) (kc2 := kc0 + 5 * r + 4) (ks2 := ks0 + 109 * r + 102) dX4_init_29 nl_X4_9 g0 (by omega) (FK _ (by omega) (by omega)) (by repeat (first | exact vN0 | refine vN2 (by first | exact trivial | (show (_ : Nat) ≠ _; omega)) ?_)) (by omega) (by show _ + 7 ≤ _; omega) (q := 32) rfl ?_
    refine J_dup dX4_init_32 rfl (q := 33) rfl ?_
    refine J_callN (as := []) (i := 101 + 5 * k) (kc2 := kc0 + 5 * r) (ks2 := ks0 + 109 * r) dX4_init_33 cn_X4_17 (tX6_init g0 (by omega) g1 g2 g3 g4 (by omega) (by omega) (FK.up (by omega))) rfl (by omega) (Nat.le_of_ble_eq_true rfl) (Nat.le_of_ble_eq_true rfl) (by omega) (by omega) (by show _ ≤ _ + _; omega) (fun _ => by show _ + _ ≤ _; omega) (Or.inr (fun z hz => Or.inl (vL1 (by repeat (first | exact vL0 | refine vL2 (by first | exact trivial | (show cps _ < _; exact cps_lt (by omega))) ?_)) hz))) (q := 36) rfl ?_
    refine J_aast (t := 5) (v := 101 + 5 * k) (i := 100) (j := nI k) dX4_init_36 (RT_ar (t := 5) (L := 40) (by decide +kernel) (Or.inl (by show _ < _ + _; omega))) (by decide) (RT_ob (c := 6) g0 (Or.inl (by show _ < _ + _; omega))) (nI_in (by show k < ln 100; rw [show ln 100 = 40 by decide +kernel]; omega) (by decide +kernel)) (q := 37) rfl ?_
    refine J_iinc (z := 0) (y := nI (k + 1)) (lv' := [(1, .int (nI (k + 1))), (0, .ref 99)]) dX4_init_37 rfl (nI_succ k).symm (by decide) rfl (q := 40) rfl ?_
    refine J_goto (tgt := 15) dX4_init_40 (by decide) ?_
    rw [nI_clamp (by omega)]
    exact ih (k + 1) (by omega)
theorem sh_X0 : ∀ k, k < 6 → SH (17 + 5 * k) = (0, 6) ∧ SH (17 + 5 * k + 1) = (1, 12) ∧ SH (17 + 5 * k + 2) = (1, 12) ∧ SH (17 + 5 * k + 3) = (1, 6) ∧ SH (17 + 5 * k + 4) = (1, 72) := by decide +kernel
set_option maxRecDepth 20000 in
set_option maxHeartbeats 2000000 in
theorem tX0_l {X : XS} {σ : Mm} {d0 kc0 ks0 : Nat} {F : Nat × Option Value × Mm} (hd0 : 2 ≤ d0) (hF : FR 17 σ) (hg : gR σ 13 2 = some 14) (hx : J X mX0_init d0 kc0 ks0 F 77 [(3, .int (nI 6)), (0, .ref 13), (1, .ref 3), (2, .ref 11)] [] 48 (rowsM 14 17 5 snowI 6 σ)) : ∀ r k, k + r = 6 → J X mX0_init d0 (kc0 + 5 * r) (ks0 + 109 * r) F 49 [(3, .int (nI k)), (0, .ref 13), (1, .ref 3), (2, .ref 11)] [] (17 + 5 * k + 1) (rowsM 14 17 5 snowI k σ) := by
  intro r
  induction r with
  | zero =>
    intro k hk
    have ek : k = 6 := by omega
    subst ek
    refine J_iload_n (z := 0) dX0_init_49 rfl rfl (q := 50) rfl ?_
    refine J_aload_n (z := 1) dX0_init_50 rfl rfl (q := 51) rfl ?_
    refine J_getR dX0_init_51 lRX0_11 (RT_ob (c := 0) (by decide +kernel) (by omega)) rfl (by decide) (j := 14) ((rows_R own_snow (by decide) _).trans hg) (q := 54) rfl (fun _ => ?_)
    refine J_alen (t := 5) (x := nI 6) dX0_init_54 (RT_ar (t := 5) (L := 6) (by decide +kernel) (by omega)) (by decide) (by decide +kernel) (q := 55) rfl ?_
    refine J_icmp_ge (tgt := 77) dX0_init_55 (by decide) (q := 58) rfl (fun _ => ?_) (fun z => absurd (nI_le (by omega) (by omega)) z)
    exact hx
  | succ r ih =>
    intro k hk
    obtain ⟨g0, g1, g2, g3, g4⟩ := sh_X0 k (by omega)
    have FK := rows_FR (a := 14) (n := 17) (w := 5) (f := snowI) own_snow (by decide) (by decide) hF k
    refine J_iload_n (z := 0) dX0_init_49 rfl rfl (q := 50) rfl ?_
    refine J_aload_n (z := 1) dX0_init_50 rfl rfl (q := 51) rfl ?_
    refine J_getR dX0_init_51 lRX0_11 (RT_ob (c := 0) (by decide +kernel) (by omega)) rfl (by decide) (j := 14) ((rows_R own_snow (by decide) _).trans hg) (q := 54) rfl (fun _ => ?_)
    refine J_alen (t := 5) (x := nI 6) dX0_init_54 (RT_ar (t := 5) (L := 6) (by decide +kernel) (by omega)) (by decide) (by decide +kernel) (q := 55) rfl ?_
    refine J_icmp_ge (tgt := 77) dX0_init_55 (by decide) (q := 58) rfl (fun z => absurd z (nI_ge (by omega) (by omega))) (fun _ => ?_)
    refine J_aload_n (z := 1) dX0_init_58 rfl rfl (q := 59) rfl ?_
    refine J_getR dX0_init_59 lRX0_11 (RT_ob (c := 0) (by decide +kernel) (by omega)) rfl (by decide) (j := 14) ((rows_R own_snow (by decide) _).trans hg) (q := 62) rfl (fun _ => ?_)
    refine J_iload_n (z := 0) dX0_init_62 rfl rfl (q := 63) rfl ?_
    refine J_new (cnm_hi (by omega) (by omega)) (kc2 := kc0 + 5 * r + 4) (ks2 := ks0 + 109 * r + 102) dX0_init_63 nl_X0_9 g0 (by omega) (FK _ (by omega) (by omega)) (by repeat (first | exact vN0 | refine vN2 (by first | exact trivial | (show (_ : Nat) ≠ _; omega)) ?_)) (by omega) (by show _ + 7 ≤ _; omega) (q := 66) rfl ?_
    refine J_dup dX0_init_66 rfl (q := 67) rfl ?_
    refine J_callN (as := []) (i := 17 + 5 * k) (kc2 := kc0 + 5 * r) (ks2 := ks0 + 109 * r) dX0_init_67 cn_X0_36 (tX6_init g0 (by omega) g1 g2 g3 g4 (by omega) (by omega) (FK.up (by omega))) rfl (by omega) (Nat.le_of_ble_eq_true rfl) (Nat.le_of_ble_eq_true rfl) (by omega) (by omega) (by show _ ≤ _ + _; omega) (fun _ => by show _ + _ ≤ _; omega) (Or.inr (fun z hz => Or.inl (vL1 (by repeat (first | exact vL0 | refine vL2 (by first | exact trivial | (show cps _ < _; exact cps_lt (by omega))) ?_)) hz))) (q := 70) rfl ?_
    refine J_aast (t := 5) (v := 17 + 5 * k) (i := 14) (j := nI k) dX0_init_70 (RT_ar (t := 5) (L := 6) (by decide +kernel) (Or.inl (by show _ < _ + _; omega))) (by decide) (RT_ob (c := 6) g0 (Or.inl (by show _ < _ + _; omega))) (nI_in (by show k < ln 14; rw [show ln 14 = 6 by decide +kernel]; omega) (by decide +kernel)) (q := 71) rfl ?_
    refine J_iinc (z := 0) (y := nI (k + 1)) (lv' := [(3, .int (nI (k + 1))), (0, .ref 13), (1, .ref 3), (2, .ref 11)]) dX0_init_71 rfl (nI_succ k).symm (by decide) rfl (q := 74) rfl ?_
    refine J_goto (tgt := 49) dX0_init_74 (by decide) ?_
    rw [nI_clamp (by omega)]
    exact ih (k + 1) (by omega)
theorem sh_X9a : ∀ k, k < 5 → SH (48 + 4 * k) = (0, 3) ∧ SH (48 + 4 * k + 1) = (1, 242) ∧ SH (48 + 4 * k + 2) = (1, 242) ∧ SH (48 + 4 * k + 3) = (1, 242) := by decide +kernel
set_option maxRecDepth 20000 in
set_option maxHeartbeats 2000000 in
theorem tX9a_l {X : XS} {σ : Mm} {d0 kc0 ks0 : Nat} {F : Nat × Option Value × Mm} (hd0 : 2 ≤ d0) (hF : FR 48 σ) (hg : gR σ 0 5 = some 47) (hg1 : gR σ 0 0 = some 1) (hx : J X mX9_init d0 kc0 ks0 F 121 [(1, .int (nI 5)), (0, .ref 0)] [] 69 (rowsM 47 48 4 (fun i n => lawI i n 1) 5 σ)) : ∀ r k, k + r = 5 → J X mX9_init d0 (kc0 + 4 * r) (ks0 + 731 * r) F 89 [(1, .int (nI k)), (0, .ref 0)] [] (48 + 4 * k + 1) (rowsM 47 48 4 (fun i n => lawI i n 1) k σ) := by
  intro r
  induction r with
  | zero =>
    intro k hk
    have ek : k = 5 := by omega
    subst ek
    refine J_iload_n (z := 0) dX9_init_89 rfl rfl (q := 90) rfl ?_
    refine J_aload_n (z := 1) dX9_init_90 rfl rfl (q := 91) rfl ?_
    refine J_getR dX9_init_91 lRX9_48 (RT_ob (c := 9) (by decide +kernel) (by omega)) rfl (by decide) (j := 47) ((rows_R (own_law 1) (by decide) _).trans hg) (q := 94) rfl (fun _ => ?_)
    refine J_alen (t := 3) (x := nI 5) dX9_init_94 (RT_ar (t := 3) (L := 5) (by decide +kernel) (by omega)) (by decide) (by decide +kernel) (q := 95) rfl ?_
    refine J_icmp_ge (tgt := 121) dX9_init_95 (by decide) (q := 98) rfl (fun _ => ?_) (fun z => absurd (nI_le (by omega) (by omega)) z)
    exact hx
  | succ r ih =>
    intro k hk
    obtain ⟨g0, g1, g2, g3⟩ := sh_X9a k (by omega)
    have FK := rows_FR (a := 47) (n := 48) (w := 4) (f := (fun i n => lawI i n 1)) (own_law 1) (by decide) (by decide) hF k
    refine J_iload_n (z := 0) dX9_init_89 rfl rfl (q := 90) rfl ?_
    refine J_aload_n (z := 1) dX9_init_90 rfl rfl (q := 91) rfl ?_
    refine J_getR dX9_init_91 lRX9_48 (RT_ob (c := 9) (by decide +kernel) (by omega)) rfl (by decide) (j := 47) ((rows_R (own_law 1) (by decide) _).trans hg) (q := 94) rfl (fun _ => ?_)
    refine J_alen (t := 3) (x := nI 5) dX9_init_94 (RT_ar (t := 3) (L := 5) (by decide +kernel) (by omega)) (by decide) (by decide +kernel) (q := 95) rfl ?_
    refine J_icmp_ge (tgt := 121) dX9_init_95 (by decide) (q := 98) rfl (fun z => absurd z (nI_ge (by omega) (by omega))) (fun _ => ?_)
    refine J_aload_n (z := 1) dX9_init_98 rfl rfl (q := 99) rfl ?_
    refine J_getR dX9_init_99 lRX9_48 (RT_ob (c := 9) (by decide +kernel) (by omega)) rfl (by decide) (j := 47) ((rows_R (own_law 1) (by decide) _).trans hg) (q := 102) rfl (fun _ => ?_)
    refine J_iload_n (z := 0) dX9_init_102 rfl rfl (q := 103) rfl ?_
    refine J_new (cnm_hi (by omega) (by omega)) (kc2 := kc0 + 4 * r + 3) (ks2 := ks0 + 731 * r + 726) dX9_init_103 nl_X9_46 g0 (by omega) (FK _ (by omega) (by omega)) (by repeat (first | exact vN0 | refine vN2 (by first | exact trivial | (show (_ : Nat) ≠ _; omega)) ?_)) (by omega) (by show _ + 5 ≤ _; omega) (q := 106) rfl ?_
    refine J_dup dX9_init_106 rfl (q := 107) rfl ?_
    refine J_aload_n (z := 1) dX9_init_107 rfl rfl (q := 108) rfl ?_
    refine J_getR dX9_init_108 lRX9_10 (RT_ob (c := 9) (by decide +kernel) (by omega)) rfl (by decide) (j := 1) ((rows_R (own_law 1) (by decide) _).trans hg1) (q := 111) rfl (fun ht => ?_)
    refine J_callI (as := [.ref 1]) (i := 48 + 4 * k) (kc2 := kc0 + 4 * r) (ks2 := ks0 + 731 * r) dX9_init_111 ci_X9_52 (tX3_init g0 (by omega) g1 g2 g3 ht (by omega) (by omega) (FK.up (by omega))) rfl (by omega) (Nat.le_of_ble_eq_true rfl) (Nat.le_of_ble_eq_true rfl) (by omega) (by omega) (by show _ ≤ _ + _; omega) (fun _ => by show _ + _ ≤ _; omega) (Or.inr (fun z hz => Or.inl (vL1 (by repeat (first | exact vL0 | refine vL2 (by first | exact trivial | (show cps _ < _; exact cps_lt (by omega))) ?_)) hz))) (q := 114) rfl ?_
    refine J_aast (t := 3) (v := 48 + 4 * k) (i := 47) (j := nI k) dX9_init_114 (RT_ar (t := 3) (L := 5) (by decide +kernel) (Or.inl (by show _ < _ + _; omega))) (by decide) (RT_ob (c := 3) g0 (Or.inl (by show _ < _ + _; omega))) (nI_in (by show k < ln 47; rw [show ln 47 = 5 by decide +kernel]; omega) (by decide +kernel)) (q := 115) rfl ?_
    refine J_iinc (z := 0) (y := nI (k + 1)) (lv' := [(1, .int (nI (k + 1))), (0, .ref 0)]) dX9_init_115 rfl (nI_succ k).symm (by decide) rfl (q := 118) rfl ?_
    refine J_goto (tgt := 89) dX9_init_118 (by decide) ?_
    rw [nI_clamp (by omega)]
    exact ih (k + 1) (by omega)
theorem sh_X9b : ∀ k, k < 5 → SH (69 + 4 * k) = (0, 5) ∧ SH (69 + 4 * k + 1) = (1, 16) ∧ SH (69 + 4 * k + 2) = (1, 16) ∧ SH (69 + 4 * k + 3) = (1, 16) := by decide +kernel
set_option maxRecDepth 20000 in
set_option maxHeartbeats 2000000 in
theorem tX9b_l {X : XS} {σ : Mm} {d0 kc0 ks0 : Nat} {F : Nat × Option Value × Mm} (hd0 : 2 ≤ d0) (hF : FR 69 σ) (hg : gR σ 0 6 = some 68) (hg1 : gR σ 0 0 = some 1) (hx : J X mX9_init d0 kc0 ks0 F 163 [(1, .int (nI 5)), (0, .ref 0)] [] 90 (rowsM 68 69 4 (fun i n => planI i n 1) 5 σ)) : ∀ r k, k + r = 5 → J X mX9_init d0 (kc0 + 4 * r) (ks0 + 53 * r) F 131 [(1, .int (nI k)), (0, .ref 0)] [] (69 + 4 * k + 1) (rowsM 68 69 4 (fun i n => planI i n 1) k σ) := by
  intro r
  induction r with
  | zero =>
    intro k hk
    have ek : k = 5 := by omega
    subst ek
    refine J_iload_n (z := 0) dX9_init_131 rfl rfl (q := 132) rfl ?_
    refine J_aload_n (z := 1) dX9_init_132 rfl rfl (q := 133) rfl ?_
    refine J_getR dX9_init_133 lRX9_55 (RT_ob (c := 9) (by decide +kernel) (by omega)) rfl (by decide) (j := 68) ((rows_R (own_plan 1) (by decide) _).trans hg) (q := 136) rfl (fun _ => ?_)
    refine J_alen (t := 4) (x := nI 5) dX9_init_136 (RT_ar (t := 4) (L := 5) (by decide +kernel) (by omega)) (by decide) (by decide +kernel) (q := 137) rfl ?_
    refine J_icmp_ge (tgt := 163) dX9_init_137 (by decide) (q := 140) rfl (fun _ => ?_) (fun z => absurd (nI_le (by omega) (by omega)) z)
    exact hx
  | succ r ih =>
    intro k hk
    obtain ⟨g0, g1, g2, g3⟩ := sh_X9b k (by omega)
    have FK := rows_FR (a := 68) (n := 69) (w := 4) (f := (fun i n => planI i n 1)) (own_plan 1) (by decide) (by decide) hF k
    refine J_iload_n (z := 0) dX9_init_131 rfl rfl (q := 132) rfl ?_
    refine J_aload_n (z := 1) dX9_init_132 rfl rfl (q := 133) rfl ?_
    refine J_getR dX9_init_133 lRX9_55 (RT_ob (c := 9) (by decide +kernel) (by omega)) rfl (by decide) (j := 68) ((rows_R (own_plan 1) (by decide) _).trans hg) (q := 136) rfl (fun _ => ?_)
    refine J_alen (t := 4) (x := nI 5) dX9_init_136 (RT_ar (t := 4) (L := 5) (by decide +kernel) (by omega)) (by decide) (by decide +kernel) (q := 137) rfl ?_
    refine J_icmp_ge (tgt := 163) dX9_init_137 (by decide) (q := 140) rfl (fun z => absurd z (nI_ge (by omega) (by omega))) (fun _ => ?_)
    refine J_aload_n (z := 1) dX9_init_140 rfl rfl (q := 141) rfl ?_
    refine J_getR dX9_init_141 lRX9_55 (RT_ob (c := 9) (by decide +kernel) (by omega)) rfl (by decide) (j := 68) ((rows_R (own_plan 1) (by decide) _).trans hg) (q := 144) rfl (fun _ => ?_)
    refine J_iload_n (z := 0) dX9_init_144 rfl rfl (q := 145) rfl ?_
    refine J_new (cnm_hi (by omega) (by omega)) (kc2 := kc0 + 4 * r + 3) (ks2 := ks0 + 53 * r + 48) dX9_init_145 nl_X9_53 g0 (by omega) (FK _ (by omega) (by omega)) (by repeat (first | exact vN0 | refine vN2 (by first | exact trivial | (show (_ : Nat) ≠ _; omega)) ?_)) (by omega) (by show _ + 5 ≤ _; omega) (q := 148) rfl ?_
    refine J_dup dX9_init_148 rfl (q := 149) rfl ?_
    refine J_aload_n (z := 1) dX9_init_149 rfl rfl (q := 150) rfl ?_
    refine J_getR dX9_init_150 lRX9_10 (RT_ob (c := 9) (by decide +kernel) (by omega)) rfl (by decide) (j := 1) ((rows_R (own_plan 1) (by decide) _).trans hg1) (q := 153) rfl (fun ht => ?_)
    refine J_callI (as := [.ref 1]) (i := 69 + 4 * k) (kc2 := kc0 + 4 * r) (ks2 := ks0 + 53 * r) dX9_init_153 ci_X9_59 (tX5_init g0 (by omega) g1 g2 g3 ht (by omega) (by omega) (FK.up (by omega))) rfl (by omega) (Nat.le_of_ble_eq_true rfl) (Nat.le_of_ble_eq_true rfl) (by omega) (by omega) (by show _ ≤ _ + _; omega) (fun _ => by show _ + _ ≤ _; omega) (Or.inr (fun z hz => Or.inl (vL1 (by repeat (first | exact vL0 | refine vL2 (by first | exact trivial | (show cps _ < _; exact cps_lt (by omega))) ?_)) hz))) (q := 156) rfl ?_
    refine J_aast (t := 4) (v := 69 + 4 * k) (i := 68) (j := nI k) dX9_init_156 (RT_ar (t := 4) (L := 5) (by decide +kernel) (Or.inl (by show _ < _ + _; omega))) (by decide) (RT_ob (c := 5) g0 (Or.inl (by show _ < _ + _; omega))) (nI_in (by show k < ln 68; rw [show ln 68 = 5 by decide +kernel]; omega) (by decide +kernel)) (q := 157) rfl ?_
    refine J_iinc (z := 0) (y := nI (k + 1)) (lv' := [(1, .int (nI (k + 1))), (0, .ref 0)]) dX9_init_157 rfl (nI_succ k).symm (by decide) rfl (q := 160) rfl ?_
    refine J_goto (tgt := 131) dX9_init_160 (by decide) ?_
    rw [nI_clamp (by omega)]
    exact ih (k + 1) (by omega)
