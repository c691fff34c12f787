/-! laws: the recursion -/
section LawE
variable {b : Nat → Nat} {L : Nat} {ℓ : Nat → Int32}
theorem bind_id {α : Type} (o : Option α) : (o.bind fun x => some x) = o := by cases o <;> rfl
def PALL (j a B : Nat) (b : Nat → Nat) (L : Nat) (ℓ : Nat → Int32) (M : Nat) : Prop := ∀ (k k' d : Nat) (σ τ : Mm) (p n : Nat), 2 * M < k → 2 * M < k' → d ≤ 6 → n ≤ p → ST j a B b L ℓ σ τ p n d →
  (3 * (6 - d) + 1 ≤ M → OUT QT j a B b L ℓ d n n p σ τ (gX3 k 6 (48 + 4 * j) (nI d) 0 σ) (gX10p k' 0 310 0 0 τ)) ∧
  (3 * (6 - d) + 2 ≤ M → OUT QT j a B b L ℓ d n n p σ τ (gX3 k 5 (48 + 4 * j) (nI d) 0 σ) (gX10p k' 1 310 0 0 τ)) ∧
  (3 * (6 - d) + 3 ≤ M → OUT QT j a B b L ℓ d n n p σ τ (gX3 k 4 (48 + 4 * j) (nI d) 0 σ) (gX10p k' 2 310 0 0 τ)) ∧
  (3 * (6 - d) + 4 ≤ M → OUT QB j a B b L ℓ d n n p σ τ (cmpC (gX3 k) (48 + 4 * j) (nI d) σ) (gX10p k' 3 310 0 0 τ)) ∧
  (3 * (6 - d) + 5 ≤ M → OUT QB j a B b L ℓ d n n p σ τ (gX3 k 2 (48 + 4 * j) (nI d) 0 σ) (gX10p k' 4 310 0 0 τ)) ∧
  (3 * (6 - d) + 6 ≤ M → OUT QB j a B b L ℓ d n n p σ τ (gX3 k 1 (48 + 4 * j) (nI d) 0 σ) (gX10p k' 5 310 0 0 τ)) ∧
  (3 * (6 - d) + 7 ≤ M → OUT QB j a B b L ℓ d n n p σ τ (gX3 k 0 (48 + 4 * j) (nI d) 0 σ) (gX10p k' 6 310 0 0 τ)) ∧
  (∀ n0 v, n0 ≤ n → SegV σ j ℓ n0 n v →
    (3 * (6 - d) + 5 ≤ M → OUT QB j a B b L ℓ d n0 n p σ τ (gX3 k 2 (48 + 4 * j) (nI d) 1 σ) (gX10p k' 3 310 1 v τ)) ∧
    (3 * (6 - d) + 6 ≤ M → OUT QB j a B b L ℓ d n0 n p σ τ (gX3 k 1 (48 + 4 * j) (nI d) 1 σ) (gX10p k' 5 310 1 v τ)) ∧
    (3 * (6 - d) + 7 ≤ M → OUT QB j a B b L ℓ d n0 n p σ τ (gX3 k 0 (48 + 4 * j) (nI d) 1 σ) (gX10p k' 6 310 1 v τ)))
theorem pall (j a B : Nat) (b : Nat → Nat) (L : Nat) (ℓ : Nat → Int32) : ∀ M, PALL j a B b L ℓ M := by
  intro M
  induction M with
  | zero =>
    intro k k' d σ τ p n _ _ _ _ _
    exact ⟨fun _ => by omega, fun _ => by omega, fun _ => by omega, fun _ => by omega, fun _ => by omega, fun _ => by omega, fun _ => by omega, fun _ _ _ _ => ⟨fun _ => by omega, fun _ => by omega, fun _ => by omega⟩⟩
  | succ M ih =>
    intro k k' d σ τ p n hk hk' hd hn h
    obtain ⟨k1, rfl⟩ : ∃ x, k = x + 1 + 1 := ⟨k - 2, by omega⟩
    obtain ⟨k1', rfl⟩ : ∃ x, k' = x + 1 := ⟨k' - 1, by omega⟩
    have I := fun (d : Nat) (hd : d ≤ 6) (σ τ : Mm) (p n : Nat) (hn : n ≤ p) (h : ST j a B b L ℓ σ τ p n d) => ih (k1 + 1) k1' d σ τ p n (by omega) (by omega) hd hn h
    have I2 := fun (d : Nat) (hd : d ≤ 6) (σ τ : Mm) (p n : Nat) (hn : n ≤ p) (h : ST j a B b L ℓ σ τ p n d) => ih k1 k1' d σ τ p n (by omega) (by omega) hd hn h
    have I3 := fun (d : Nat) (hd : d ≤ 6) (σ τ : Mm) (p n : Nat) (hn : n ≤ p) (h : ST j a B b L ℓ σ τ p n d) => ih (k1 + 1 + 1) k1' d σ τ p n (by omega) (by omega) hd hn h
    refine ⟨fun hc => ?_, fun hc => ?_, fun hc => ?_, fun hc => ?_, fun hc => ?_, fun hc => ?_, fun hc => ?_, fun n0 v h0 hv => ⟨fun hc => ?_, fun hc => ?_, fun hc => ?_⟩⟩
    · exact X_atom (gX3 (k1 + 1)) (gX10p k1') (fun hd6 σ τ p n hn h => (I (d + 1) (by omega) σ τ p n hn h).2.2.1 (by omega)) hd h hn
    · exact X_term (gX3 (k1 + 1)) (gX10p k1') (fun σ τ p n hn h => (I d hd σ τ p n hn h).1 (by omega)) h hn
    · exact X_sum (gX3 (k1 + 1)) (gX10p k1') (fun σ τ p n hn h => (I d hd σ τ p n hn h).2.1 (by omega)) h hn
    · exact X_cmp0 (gX3 (k1 + 1 + 1)) (gX10p k1') (fun σ τ p n hn h => (I3 d hd σ τ p n hn h).2.2.1 (by omega)) h hn
    · exact X_unit (gX3 (k1 + 1)) (gX3 k1) (gX10p k1') (fun σ τ p n hn h => (I d hd σ τ p n hn h).2.2.2.1 (by omega)) (fun _ _ => rfl) (fun hd6 σ τ p n hn h => (I2 (d + 1) (by omega) σ τ p n hn h).2.2.2.2.1 (by omega)) (fun hd6 σ τ p n hn h => (I2 (d + 1) (by omega) σ τ p n hn h).2.2.2.2.2.2.1 (by omega)) hd h hn
    · have := X_truth (gX3 (k1 + 1)) (gX10p k1') (fun σ τ p n hn h => (I d hd σ τ p n hn h).2.2.2.2.1 (by omega)) (Nat.le_refl n) ((I d hd σ τ p n hn h).2.2.2.2.1 (by omega)) hn
      have e : gX10p (k1' + 1) 5 310 0 0 τ = bnd2 (gX10p k1' 4 310 0 0 τ) fun v s => wh (fun x : Int32 × Mm => fX10_part_l18 (gX10p k1') 310 x.1 x.2) BIG (v, s) := by
        show fX10_part (gX10p k1') 310 0 0 τ = _
        unfold fX10_part fX10_part_b17 fX10_part_w18
        rw [if_pos rfl]
        congr 1
        funext v s
        exact bind_id _
      rw [e]
      exact this
    · have := X_condition (gX3 (k1 + 1)) (gX10p k1') (fun σ τ p n hn h => (I d hd σ τ p n hn h).2.2.2.2.2.1 (by omega)) (Nat.le_refl n) ((I d hd σ τ p n hn h).2.2.2.2.2.1 (by omega)) hn
      have e : gX10p (k1' + 1) 6 310 0 0 τ = bnd2 (gX10p k1' 5 310 0 0 τ) fun v s => wh (fun x : Int32 × Mm => fX10_condition_l7 (gX10p k1') 310 x.1 x.2) BIG (v, s) := by
        show fX10_condition (gX10p k1') 310 0 0 τ = _
        unfold fX10_condition fX10_condition_w7
        congr 1
        funext v s
        exact bind_id _
      rw [e]
      exact this
    · exact X_unitB (gX3 (k1 + 1)) (gX10p k1') (fun σ τ p n hn h => (I d hd σ τ p n hn h).2.2.1 (by omega)) h hn hv
    · have := X_truth (bg := 1) (gX3 (k1 + 1)) (gX10p k1') (fun σ τ p n hn h => (I d hd σ τ p n hn h).2.2.2.2.1 (by omega)) h0 (((I d hd σ τ p n hn h).2.2.2.2.2.2.2 n0 v h0 hv).1 (by omega)) hn
      have e : gX10p (k1' + 1) 5 310 1 v τ = bnd2 (gX10p k1' 3 310 1 v τ) fun v s => wh (fun x : Int32 × Mm => fX10_part_l18 (gX10p k1') 310 x.1 x.2) BIG (v, s) := by
        show fX10_part (gX10p k1') 310 1 v τ = _
        unfold fX10_part fX10_part_b17 fX10_part_w18
        rw [if_neg z1]
        congr 1
        funext v s
        exact bind_id _
      rw [e]
      exact this
    · have := X_condition (bg := 1) (gX3 (k1 + 1)) (gX10p k1') (fun σ τ p n hn h => (I d hd σ τ p n hn h).2.2.2.2.2.1 (by omega)) h0 (((I d hd σ τ p n hn h).2.2.2.2.2.2.2 n0 v h0 hv).2.1 (by omega)) hn
      have e : gX10p (k1' + 1) 6 310 1 v τ = bnd2 (gX10p k1' 5 310 1 v τ) fun v s => wh (fun x : Int32 × Mm => fX10_condition_l7 (gX10p k1') 310 x.1 x.2) BIG (v, s) := by
        show fX10_condition (gX10p k1') 310 1 v τ = _
        unfold fX10_condition fX10_condition_w7
        congr 1
        funext v s
        exact bind_id _
      rw [e]
      exact this
end LawE
