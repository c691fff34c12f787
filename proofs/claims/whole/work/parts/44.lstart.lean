/-! the law from its first instruction: two objects and a row, all fresh -/
def vLg (n m : Nat) (v : Value) : Prop := match v with | .ref i => cps i < n ∨ m ≤ cps i | _ => True
theorem vG0 {n m : Nat} : ∀ w ∈ ([] : List Value), vLg n m w := fun _ h => nomatch h
theorem vG2 {n m : Nat} {v : Value} {l : List Value} (h : vLg n m v) (t : ∀ w ∈ l, vLg n m w) : ∀ w ∈ v :: l, vLg n m w := List.forall_mem_cons.mpr ⟨h, t⟩
theorem vG1 {n m z : Nat} {l : List Value} (h : ∀ w ∈ l, vLg n m w) (hz : Value.ref z ∈ l) : cps z < n ∨ m ≤ cps z := h _ hz
def σ0 : Mm := (fun _ _ => 0, fun _ _ => 0, fun _ _ => none)
def σA : Mm := modI 310 311 (bk16 σ0)
theorem fr00 (n : Nat) : FR n σ0 := fun _ _ _ _ => ⟨rfl, rfl, rfl⟩
theorem sR_1 (σ : Mm) (c k : Nat) (v : Option Nat) : (sR σ c k v).1 = σ.1 := rfl
theorem sR_2 (σ : Mm) (c k : Nat) (v : Option Nat) : (sR σ c k v).2.1 = σ.2.1 := rfl
theorem bk_e (σ : Mm) : (bk15 σ).1 = (bk4 σ).1 ∧ (bk15 σ).2.1 = (bk4 σ).2.1 := by
  have r1 : ∀ (a n w : Nat) (τ : Mm) (k : Nat), (rowsM a n w snowI k τ).1 = τ.1 ∧ (rowsM a n w snowI k τ).2.1 = τ.2.1 := fun a n w τ k => rows_eq own_snow τ k
  have r2 : ∀ (a n w : Nat) (τ : Mm) (k : Nat), (rowsM a n w (fun i n => lawI i n 1) k τ).1 = τ.1 ∧ (rowsM a n w (fun i n => lawI i n 1) k τ).2.1 = τ.2.1 := fun a n w τ k => rows_eq (own_law 1) τ k
  have r3 : ∀ (a n w : Nat) (τ : Mm) (k : Nat), (rowsM a n w (fun i n => planI i n 1) k τ).1 = τ.1 ∧ (rowsM a n w (fun i n => planI i n 1) k τ).2.1 = τ.2.1 := fun a n w τ k => rows_eq (own_plan 1) τ k
  constructor
  · simp only [bk15, bk14, bk13, bk12, bk11, bk10, bk9, bk8, bk7, bk6, bk5, jourI, snowI, pastI, findI, sR_1, (r1 _ _ _ _ _).1, (r2 _ _ _ _ _).1, (r3 _ _ _ _ _).1]
  · simp only [bk15, bk14, bk13, bk12, bk11, bk10, bk9, bk8, bk7, bk6, bk5, jourI, snowI, pastI, findI, sR_2, (r1 _ _ _ _ _).2, (r2 _ _ _ _ _).2, (r3 _ _ _ _ _).2]
theorem gI_A (c k : Nat) : gI σA c k = if c = 310 ∧ k = 36 then -1 else if c = 0 ∧ k = 16 then -1 else if c = 1 ∧ k = 3 then -1 else 0 := by
  have e : gI (bk15 σ0) c k = gI (bk4 σ0) c k := congrFun (congrFun (bk_e σ0).1 c) k
  have e0 : gI σ0 c k = 0 := rfl
  simp only [σA, modI, bk16, gI_sR, gI_sI, e, bk4, wintI, bk3, hallI, bk2, bk1, tapeI, e0]
theorem gL_A (c k : Nat) : gL σA c k = 0 := by
  have e : gL (bk15 σ0) c k = gL (bk4 σ0) c k := congrFun (congrFun (bk_e σ0).2 c) k
  have e0 : gL σ0 c k = 0 := rfl
  simp only [σA, modI, bk16, gL_sR, gL_sI, e, bk4, wintI, bk3, hallI, bk2, bk1, tapeI, e0]
theorem snA (b : Nat) (h : isSnow b) : SR σA b := by
  have h1 : ∀ j, j < 6 → SR σA (17 + 5 * j) := by unfold SR; decide +kernel
  have h2 : SR σA 89 ∧ SR σA 94 ∧ SR σA 303 := by unfold SR; decide +kernel
  have h3 : ∀ j, j < 40 → SR σA (101 + 5 * j) := by unfold SR; decide +kernel
  unfold isSnow at h
  rcases h with ⟨q1, q2, q3⟩ | rfl | rfl | ⟨q1, q2, q3⟩ | rfl
  · have e : b = 17 + 5 * ((b - 17) / 5) := by omega
    rw [e]; exact h1 _ (by omega)
  · exact h2.1
  · exact h2.2.1
  · have e : b = 101 + 5 * ((b - 101) / 5) := by omega
    rw [e]; exact h3 _ (by omega)
  · exact h2.2.2
theorem rfA : RF σA := by
  refine ⟨by decide +kernel, by decide +kernel, fun b hb => ?_, by unfold WR; decide +kernel, by decide +kernel, snA, by decide +kernel, by decide +kernel, by decide +kernel, by decide +kernel, by decide +kernel⟩
  rcases hb with rfl | rfl <;> decide +kernel
theorem rmA : RM σA := by unfold RM; decide +kernel
theorem freshA : FRESH σA := by
  refine ⟨rfA, rmA, by decide +kernel, gL_A, fun c k a1 a2 a3 => ?_, ?_, ?_⟩
  · rw [gI_A, if_neg a3, if_neg a1, if_neg a2]
  · rw [gI_A]; rfl
  · rw [gI_A]; rfl
theorem rA333 (k : Nat) : gR σA 333 k = none := by
  have h := (fr16 (fr00 1) 333 (by omega) (by omega) k).2.2
  show gR (modI 310 311 (bk16 σ0)) 333 k = none
  simp [modI, gR_sR, gR_sI, h]
set_option maxRecDepth 20000 in
set_option maxHeartbeats 2000000 in
theorem lawJ {X : XS} (hX : X.1 ≤ 3072) : ∃ σ', J X mL_law 300 855 48890 (335, some (.int 1), σ') 0 [(0, .ref 1010)] [] 0 σ0 := by
  obtain ⟨σ', hJ⟩ := loopL (X := X) hX 520 0 σA (by omega) (by omega) (ALL0 freshA)
  refine ⟨σ', ?_⟩
  refine J_new (cnm_lo (by decide)) (kc2 := 854) (ks2 := 48871) dL_law_0 nl_L_8 (by decide +kernel) (by decide) (fr00 0 _ (by omega) (by omega)) (by repeat (first | exact vN0 | refine vN2 (by first | exact trivial | (show (_ : Nat) ≠ _; omega)) ?_)) (by decide) (by decide) (q := 3) rfl ?_
  refine J_dup dL_law_3 rfl (q := 4) rfl ?_
  refine J_callI (as := []) (i := 0) (kc2 := 544) (ks2 := 38232) dL_law_4 ci_L_15 (tX9_init (fr00 1)) rfl (Nat.le_of_ble_eq_true rfl) (Nat.le_of_ble_eq_true rfl) (Nat.le_of_ble_eq_true rfl) (Nat.le_of_ble_eq_true rfl) (Nat.le_of_ble_eq_true rfl) (Nat.le_of_ble_eq_true rfl) (fun _ => Nat.le_of_ble_eq_true rfl) (Or.inr (fun z hz => vG1 (by repeat (first | exact vG0 | refine vG2 (by first | exact trivial | (show cps _ < _ ∨ (311 : Nat) ≤ cps _; decide)) ?_)) hz)) (q := 7) rfl ?_
  refine J_astore_n (lv' := [(1, .ref 0), (0, .ref 1010)]) dL_law_7 rfl (by decide) rfl (q := 8) rfl ?_
  show J X mL_law 300 544 38232 (335, some (.int 1), σ') 8 [(1, .ref 0), (0, .ref 1010)] [] 311 (bk16 σ0)
  refine J_new (cnm_hi (by decide) (by decide)) (kc2 := 543) (ks2 := 38180) dL_law_8 nl_L_16 (by decide +kernel) (by decide) (fr16 (fr00 1) _ (by omega) (by omega)) (by repeat (first | exact vN0 | refine vN2 (by first | exact trivial | (show (_ : Nat) ≠ _; omega)) ?_)) (by decide) (by decide) (q := 11) rfl ?_
  refine J_dup dL_law_11 rfl (q := 12) rfl ?_
  refine J_callI (as := []) (i := 310) (kc2 := 521) (ks2 := 3121) dL_law_12 ci_L_18 (tX10_init (i := 310) (n := 311) (by decide +kernel) (by decide) (by decide +kernel) (by decide +kernel) (by decide +kernel) (by decide +kernel) (by decide +kernel) (by decide +kernel) (by decide +kernel) (by decide +kernel) (by decide +kernel) (by decide +kernel) (by decide +kernel) (by decide +kernel) (by decide +kernel) (by decide +kernel) (by decide +kernel) (by decide +kernel) (by decide +kernel) (by decide +kernel) (by decide +kernel) (by decide +kernel) (by decide +kernel) (by decide +kernel) (by decide) (by decide) ((fr16 (fr00 1)).up (by decide))) rfl (Nat.le_of_ble_eq_true rfl) (Nat.le_of_ble_eq_true rfl) (Nat.le_of_ble_eq_true rfl) (Nat.le_of_ble_eq_true rfl) (Nat.le_of_ble_eq_true rfl) (Nat.le_of_ble_eq_true rfl) (fun _ => Nat.le_of_ble_eq_true rfl) (Or.inr (fun z hz => vG1 (by repeat (first | exact vG0 | refine vG2 (by first | exact trivial | (show cps _ < _ ∨ (334 : Nat) ≤ cps _; decide)) ?_)) hz)) (q := 15) rfl ?_
  refine J_astore_n (lv' := [(2, .ref 310), (1, .ref 0), (0, .ref 1010)]) dL_law_15 rfl (by decide) rfl (q := 16) rfl ?_
  show J X mL_law 300 521 3121 (335, some (.int 1), σ') 16 [(2, .ref 310), (1, .ref 0), (0, .ref 1010)] [] 334 σA
  refine J_iconst (x := 1) dL_law_16 (by decide) (q := 17) rfl ?_
  have fA : fresh σA 333 := fun k => ⟨by rw [gI_A]; rfl, gL_A _ _, ?_⟩
  · refine J_newL (cnm_hi (by decide) (by decide)) (L := 1) (kc2 := 520) (ks2 := 3120) dL_law_17 q_along (by decide +kernel) (by decide) (by decide) (by decide) (by decide) fA (by repeat (first | exact vN0 | refine vN2 (by first | exact trivial | (show (_ : Nat) ≠ _; omega)) ?_)) (by decide) (by decide) (q := 19) rfl ?_
    refine J_astore_n (lv' := [(3, .ref 333), (2, .ref 310), (1, .ref 0), (0, .ref 1010)]) dL_law_19 rfl (by decide) rfl (q := 20) rfl ?_
    refine J_iconst (x := 0) dL_law_20 (by decide) (q := 21) rfl ?_
    refine J_istore (lv' := [(4, .int 0), (3, .ref 333), (2, .ref 310), (1, .ref 0), (0, .ref 1010)]) dL_law_21 (by decide) rfl (q := 23) rfl ?_
    exact J_pick [0, 4, 3, 2, 1] rfl hJ
  · exact rA333 k
