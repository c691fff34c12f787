/-! a snow: w is the model's row (places 0 .. 109); the class's object at the cell b -/
def fo (f : Nat → Int32 → Int32) (a : Int32) : Nat → Int32
  | 0 => a
  | n + 1 => f n (fo f a n)
theorem fo_succ (f : Nat → Int32 → Int32) (a : Int32) (n : Nat) : fo f a (n + 1) = f n (fo f a n) := rfl
theorem fo_zero (f : Nat → Int32 → Int32) (a : Int32) : fo f a 0 = a := rfl
theorem nI_s (n : Nat) : nI n + nI 1 = nI (n + 1) := nI_add n 1
def WB (D : Nat) (w : Nat → Int32) : Prop :=
  (∀ p, p < 12 → (∃ d, d ≤ 9 ∧ w (2 * p) = nI d) ∧ ∃ t, t < 10 ∧ w (2 * p + 1) = nI t) ∧ (∀ r, r < 6 → (∃ c, c < 30 ∧ w (24 + 14 * r) = nI c) ∧ (∃ c, c < 2 ∧ w (25 + 14 * r) = nI c) ∧ ∀ p, p < 12 → ∃ k, k ≤ 10 ∧ w (26 + 14 * r + p) = nI k) ∧ (∃ c, c < 100 ∧ w 108 = nI c) ∧ ∃ t, t ≤ D ∧ w 109 = nI t
def SR (σ : Mm) (b : Nat) : Prop := gR σ b 0 = some (b + 1) ∧ gR σ b 1 = some (b + 2) ∧ gR σ b 2 = some (b + 3) ∧ gR σ b 3 = some (b + 4) ∧ ln (b + 1) = 12 ∧ ln (b + 2) = 12 ∧ ln (b + 3) = 6 ∧ ln (b + 4) = 72
def SC (σ : Mm) (b : Nat) (w : Nat → Int32) : Prop :=
  (∀ p, p < 12 → gI σ (b + 1) p = w (2 * p)) ∧ (∀ p, p < 12 → gI σ (b + 2) p = w (2 * p + 1)) ∧ (∀ r, r < 6 → gI σ (b + 3) r = w (24 + 14 * r)) ∧ (∀ r p, r < 6 → p < 12 → gI σ (b + 4) (12 * r + p) = w (26 + 14 * r + p) - 1) ∧ gI σ b 5 = w 108 ∧ gI σ b 6 = w 109 ∧ ∃ D, D < 64 ∧ gI σ b 4 = nI D ∧ ∀ r, r < 6 → w (25 + 14 * r) = nI (D / 2 ^ r % 2)
section Snow
variable {σ : Mm} {b : Nat} {w : Nat → Int32}
theorem c_isMemory {r p : Nat} (hr : r < 6) (hp : p < 12) : fX6_isMemory (nI r) (nI p) σ = some 1 := by
  unfold fX6_isMemory
  simp (disch := omega) only [k32_0, k32_1, k32_2, k32_3, k32_4, k32_5, k32_6, k32_7, k32_8, k32_9, k32_10, k32_11, k32_12, k32_13, k32_14, k32_15, k32_16, k32_17, k32_18, k32_19, k32_20, k32_21, k32_22, k32_23, k32_24, k32_25, k32_26, k32_27, k32_28, k32_29, k32_30, k32_31, k32_32, k32_33, k32_34, k32_35, k32_36, k32_37, k32_38, k32_39, k32_40, k32_41, k32_42, k32_43, k32_44, k32_45, k32_46, k32_47, k32_48, k32_49, k32_50, k32_51, k32_52, k32_53, k32_54, k32_55, k32_56, k32_57, k32_58, k32_59, k32_60, k32_61, k32_62, k32_63, k32_64, k32_91, k32_93, k32_97, k32_98, k32_99, k32_100, k32_108, k32_109, k32_110, k32_111, k32_112, k32_113, k32_114, k32_115, k32_116, k32_121, k32_124, k32_192, k32_236, k32_240, k32_255, k32_351, k32_960, k32_1000, k32_1755, k32_8191, k32_9999, k32_14040, k32_1000000, nI_add, pk_mul, ixT, clT, eqT, leT, ltT, eqN1, neN1, ltN1, leN1, if_pos, if_neg, Option.bind_some, bnd2_some, Option.some.injEq, not_true_eq_false, not_false_eq_true, ite_true, ite_false]
theorem c_recall (hR : SR σ b) (h : SC σ b w) {r p : Nat} (hr : r < 6) (hp : p < 12) : fX6_recall b (nI r) (nI p) σ = some (w (26 + 14 * r + p) - 1) := by
  unfold fX6_recall
  rw [c_isMemory hr hp]
  have e : r * 12 + p = 12 * r + p := by omega
  simp (disch := omega) only [k32_0, k32_1, k32_2, k32_3, k32_4, k32_5, k32_6, k32_7, k32_8, k32_9, k32_10, k32_11, k32_12, k32_13, k32_14, k32_15, k32_16, k32_17, k32_18, k32_19, k32_20, k32_21, k32_22, k32_23, k32_24, k32_25, k32_26, k32_27, k32_28, k32_29, k32_30, k32_31, k32_32, k32_33, k32_34, k32_35, k32_36, k32_37, k32_38, k32_39, k32_40, k32_41, k32_42, k32_43, k32_44, k32_45, k32_46, k32_47, k32_48, k32_49, k32_50, k32_51, k32_52, k32_53, k32_54, k32_55, k32_56, k32_57, k32_58, k32_59, k32_60, k32_61, k32_62, k32_63, k32_64, k32_91, k32_93, k32_97, k32_98, k32_99, k32_100, k32_108, k32_109, k32_110, k32_111, k32_112, k32_113, k32_114, k32_115, k32_116, k32_121, k32_124, k32_192, k32_236, k32_240, k32_255, k32_351, k32_960, k32_1000, k32_1755, k32_8191, k32_9999, k32_14040, k32_1000000, nI_add, pk_mul, ixT, clT, eqT, leT, ltT, eqN1, neN1, ltN1, leN1, if_pos, if_neg, Option.bind_some, bnd2_some, Option.some.injEq, not_true_eq_false, not_false_eq_true, ite_true, ite_false, hR.2.2.2.1, hR.2.2.2.2.2.2.2, e, h.2.2.2.1]
theorem shr_bit {D r : Nat} (hD : D < 64) (hr : r < 6) : shrI (nI D) (nI r) &&& nI 1 = nI (D / 2 ^ r % 2) := by
  have key : ∀ r, r < 6 → ∀ D, D < 64 → shrI (nI D) (nI r) &&& nI 1 = nI (D / 2 ^ r % 2) := by decide +kernel
  exact key r hr D hD
theorem c_hasDone (h : SC σ b w) {r : Nat} (hr : r < 6) : fX6_hasDone b (nI r) σ = some (w (25 + 14 * r)) := by
  obtain ⟨D, hD, e, hb⟩ := h.2.2.2.2.2.2
  unfold fX6_hasDone
  rw [e, hb r hr, show (1 : Int32) = nI 1 from rfl, shr_bit hD hr]
  have : D / 2 ^ r % 2 = 0 ∨ D / 2 ^ r % 2 = 1 := by omega
  rcases this with q | q <;> rw [q] <;> rfl
def sKn (w : Nat → Int32) (r : Nat) : Int32 := fo (fun p acc => if w (26 + 14 * r + p) = 0 then acc else acc ||| shlI 1 (nI p)) 0 12
theorem sub1_m1 (x : Int32) : x - 1 = -1 ↔ x = 0 := by
  constructor
  · intro h
    have : x - 1 + 1 = -1 + 1 := by rw [h]
    rw [Int32.sub_add_cancel] at this
    exact this
  · rintro rfl; rfl
theorem c_pagesKnownBy (hR : SR σ b) (h : SC σ b w) {r : Nat} (hr : r < 6) : fX6_pagesKnownBy b (nI r) σ = some (sKn w r) := by
  unfold fX6_pagesKnownBy fX6_pagesKnownBy_w4
  have key : wh (fun a : Int32 × Int32 => fX6_pagesKnownBy_l4 b (nI r) a.1 a.2 σ) BIG (0, 0) = some (sKn w r) := by
    refine wh_run (fun i => (fo (fun p acc => if w (26 + 14 * r + p) = 0 then acc else acc ||| shlI 1 (nI p)) 0 i, nI i)) 12 rfl (BIG_lt (by omega)) (fun i hi => ?_) ?_
    · unfold fX6_pagesKnownBy_l4 fX6_pagesKnownBy_b26
      rw [c_recall hR h hr hi, fo_succ]
      have e12 : ¬ (12 : Int32) ≤ nI i := fun z => absurd ((leT (a := 12) (by omega) (by omega)).mp z) (by omega)
      simp only [if_neg e12, Option.bind_some, sub1_m1, show nI i + 1 = nI (i + 1) from nI_1 i]
      split <;> rfl
    · unfold fX6_pagesKnownBy_l4
      simp only [show (12 : Int32) ≤ nI 12 from Int32.le_refl _, if_true]
      rfl
  rw [key]
  rfl
end Snow
section MRow
variable {σ : Mm} {m : Nat}
theorem m_cellOf (hl : ln m = 351) {r : Nat} (hr : r < 6) : fX10_cellOf m (nI r) σ = some (gI σ m (24 + 14 * r)) := by
  unfold fX10_cellOf
  simp (disch := omega) only [k32_0, k32_1, k32_2, k32_3, k32_4, k32_5, k32_6, k32_7, k32_8, k32_9, k32_10, k32_11, k32_12, k32_13, k32_14, k32_15, k32_16, k32_17, k32_18, k32_19, k32_20, k32_21, k32_22, k32_23, k32_24, k32_25, k32_26, k32_27, k32_28, k32_29, k32_30, k32_31, k32_32, k32_33, k32_34, k32_35, k32_36, k32_37, k32_38, k32_39, k32_40, k32_41, k32_42, k32_43, k32_44, k32_45, k32_46, k32_47, k32_48, k32_49, k32_50, k32_51, k32_52, k32_53, k32_54, k32_55, k32_56, k32_57, k32_58, k32_59, k32_60, k32_61, k32_62, k32_63, k32_64, k32_91, k32_93, k32_97, k32_98, k32_99, k32_100, k32_108, k32_109, k32_110, k32_111, k32_112, k32_113, k32_114, k32_115, k32_116, k32_121, k32_124, k32_192, k32_236, k32_240, k32_255, k32_351, k32_960, k32_1000, k32_1755, k32_8191, k32_9999, k32_14040, k32_1000000, nI_add, pk_mul, ixT, clT, eqT, leT, ltT, eqN1, neN1, ltN1, leN1, if_pos, if_neg, Option.bind_some, bnd2_some, Option.some.injEq, not_true_eq_false, not_false_eq_true, ite_true, ite_false, hl]
theorem kIdx (r p : Nat) : (24 + 14 * nI r) + 2 + nI p = nI (26 + 14 * r + p) := by
  rw [show (24 : Int32) = nI 24 from rfl, show (14 : Int32) = nI 14 from rfl, show (2 : Int32) = nI 2 from rfl, pk_mul, nI_add, nI_add, nI_add]
  congr 1
  omega
theorem m_knows (hl : ln m = 351) {r p : Nat} (hr : r < 6) (hp : p < 12) : fX10_knows m (nI r) (nI p) σ = some (if gI σ m (26 + 14 * r + p) ≤ 0 then 0 else 1) := by
  unfold fX10_knows
  rw [kIdx, hl, ixT (show 26 + 14 * r + p < 351 by omega) (by omega), clT (show 26 + 14 * r + p < 2147483648 by omega)]
  simp only [if_true]
  split <;> rfl
theorem m_recalls (hl : ln m = 351) {r p : Nat} (hr : r < 6) (hp : p < 12) : fX10_recalls m (nI r) (nI p) σ = some (gI σ m (26 + 14 * r + p) - 1) := by
  unfold fX10_recalls
  have e : 24 + 14 * r + 2 + p = 26 + 14 * r + p := by omega
  simp (disch := omega) only [k32_0, k32_1, k32_2, k32_3, k32_4, k32_5, k32_6, k32_7, k32_8, k32_9, k32_10, k32_11, k32_12, k32_13, k32_14, k32_15, k32_16, k32_17, k32_18, k32_19, k32_20, k32_21, k32_22, k32_23, k32_24, k32_25, k32_26, k32_27, k32_28, k32_29, k32_30, k32_31, k32_32, k32_33, k32_34, k32_35, k32_36, k32_37, k32_38, k32_39, k32_40, k32_41, k32_42, k32_43, k32_44, k32_45, k32_46, k32_47, k32_48, k32_49, k32_50, k32_51, k32_52, k32_53, k32_54, k32_55, k32_56, k32_57, k32_58, k32_59, k32_60, k32_61, k32_62, k32_63, k32_64, k32_91, k32_93, k32_97, k32_98, k32_99, k32_100, k32_108, k32_109, k32_110, k32_111, k32_112, k32_113, k32_114, k32_115, k32_116, k32_121, k32_124, k32_192, k32_236, k32_240, k32_255, k32_351, k32_960, k32_1000, k32_1755, k32_8191, k32_9999, k32_14040, k32_1000000, nI_add, pk_mul, ixT, clT, eqT, leT, ltT, eqN1, neN1, ltN1, leN1, if_pos, if_neg, Option.bind_some, bnd2_some, Option.some.injEq, not_true_eq_false, not_false_eq_true, ite_true, ite_false, hl, e]
theorem m_learns (hl : ln m = 351) {r p : Nat} (hr : r < 6) (hp : p < 12) (x : Int32) : fX10_learns m (nI r) (nI p) x σ = some (sI σ m (26 + 14 * r + p) (x + 1)) := by
  unfold fX10_learns
  have e : 24 + 14 * r + 2 + p = 26 + 14 * r + p := by omega
  simp (disch := omega) only [k32_0, k32_1, k32_2, k32_3, k32_4, k32_5, k32_6, k32_7, k32_8, k32_9, k32_10, k32_11, k32_12, k32_13, k32_14, k32_15, k32_16, k32_17, k32_18, k32_19, k32_20, k32_21, k32_22, k32_23, k32_24, k32_25, k32_26, k32_27, k32_28, k32_29, k32_30, k32_31, k32_32, k32_33, k32_34, k32_35, k32_36, k32_37, k32_38, k32_39, k32_40, k32_41, k32_42, k32_43, k32_44, k32_45, k32_46, k32_47, k32_48, k32_49, k32_50, k32_51, k32_52, k32_53, k32_54, k32_55, k32_56, k32_57, k32_58, k32_59, k32_60, k32_61, k32_62, k32_63, k32_64, k32_91, k32_93, k32_97, k32_98, k32_99, k32_100, k32_108, k32_109, k32_110, k32_111, k32_112, k32_113, k32_114, k32_115, k32_116, k32_121, k32_124, k32_192, k32_236, k32_240, k32_255, k32_351, k32_960, k32_1000, k32_1755, k32_8191, k32_9999, k32_14040, k32_1000000, nI_add, pk_mul, ixT, clT, eqT, leT, ltT, eqN1, neN1, ltN1, leN1, if_pos, if_neg, Option.bind_some, bnd2_some, Option.some.injEq, not_true_eq_false, not_false_eq_true, ite_true, ite_false, hl, e]
theorem m_stands (hl : ln m = 351) {r : Nat} (hr : r < 6) (x : Int32) : fX10_stands m (nI r) x σ = some (sI (sI σ m (24 + 14 * r) x) m (25 + 14 * r) 1) := by
  unfold fX10_stands
  have e : 24 + 14 * r + 1 = 25 + 14 * r := by omega
  simp (disch := omega) only [k32_0, k32_1, k32_2, k32_3, k32_4, k32_5, k32_6, k32_7, k32_8, k32_9, k32_10, k32_11, k32_12, k32_13, k32_14, k32_15, k32_16, k32_17, k32_18, k32_19, k32_20, k32_21, k32_22, k32_23, k32_24, k32_25, k32_26, k32_27, k32_28, k32_29, k32_30, k32_31, k32_32, k32_33, k32_34, k32_35, k32_36, k32_37, k32_38, k32_39, k32_40, k32_41, k32_42, k32_43, k32_44, k32_45, k32_46, k32_47, k32_48, k32_49, k32_50, k32_51, k32_52, k32_53, k32_54, k32_55, k32_56, k32_57, k32_58, k32_59, k32_60, k32_61, k32_62, k32_63, k32_64, k32_91, k32_93, k32_97, k32_98, k32_99, k32_100, k32_108, k32_109, k32_110, k32_111, k32_112, k32_113, k32_114, k32_115, k32_116, k32_121, k32_124, k32_192, k32_236, k32_240, k32_255, k32_351, k32_960, k32_1000, k32_1755, k32_8191, k32_9999, k32_14040, k32_1000000, nI_add, pk_mul, ixT, clT, eqT, leT, ltT, eqN1, neN1, ltN1, leN1, if_pos, if_neg, Option.bind_some, bnd2_some, Option.some.injEq, not_true_eq_false, not_false_eq_true, ite_true, ite_false, hl, e]
end MRow
