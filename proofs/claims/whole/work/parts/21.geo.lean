/-! the hall: the class's side at the cell b -/
def HC (σ : Mm) (b np nr : Nat) (ru pg rd : Nat → Int32) : Prop :=
  gR σ b 1 = some (b + 1) ∧ gR σ b 2 = some (b + 2) ∧ gR σ b 3 = some (b + 3) ∧ ln (b + 1) = 5 ∧ ln (b + 2) = 48 ∧ ln (b + 3) = 24 ∧ gI σ b 4 = nI np ∧ gI σ b 5 = nI nr ∧ np ≤ 12 ∧ nr ≤ 6 ∧ (∀ k, k < 5 → gI σ (b + 1) k = ru k) ∧ (∀ k, k < 4 * np → gI σ (b + 2) k = pg k) ∧ (∀ k, k < 4 * nr → gI σ (b + 3) k = rd k)
section HC
variable {σ : Mm} {b np nr : Nat} {ru pg rd : Nat → Int32}
theorem c_pageItem (h : HC σ b np nr ru pg rd) {p k : Nat} (hp : p < np) (hk : k < 4) : fX1_pageItem b (nI p) (nI k) σ = some (pg (4 * p + k)) := by
  obtain ⟨h1, h2, h3, l1, l2, l3, e1, e2, hnp, hnr, d1, d2, d3⟩ := h
  unfold fX1_pageItem fX1_pageItem_b32
  simp (disch := omega) only [k32_0, k32_1, k32_2, k32_3, k32_4, k32_5, k32_6, k32_7, k32_8, k32_9, k32_10, k32_11, k32_12, k32_13, k32_14, k32_15, k32_16, k32_17, k32_18, k32_19, k32_20, k32_21, k32_22, k32_23, k32_24, k32_25, k32_26, k32_27, k32_28, k32_29, k32_30, k32_31, k32_32, k32_33, k32_34, k32_35, k32_36, k32_37, k32_38, k32_39, k32_40, k32_41, k32_42, k32_43, k32_44, k32_45, k32_46, k32_47, k32_48, k32_49, k32_50, k32_51, k32_52, k32_53, k32_54, k32_55, k32_56, k32_57, k32_58, k32_59, k32_60, k32_61, k32_62, k32_63, k32_64, k32_91, k32_93, k32_97, k32_98, k32_99, k32_100, k32_108, k32_109, k32_110, k32_111, k32_112, k32_113, k32_114, k32_115, k32_116, k32_121, k32_124, k32_192, k32_236, k32_240, k32_255, k32_351, k32_960, k32_1000, k32_1755, k32_8191, k32_9999, k32_14040, k32_1000000, nI_add, pk_mul, ixT, clT, eqT, leT, ltT, eqN1, neN1, ltN1, leN1, if_pos, if_neg, Option.bind_some, bnd2_some, Option.some.injEq, not_true_eq_false, not_false_eq_true, ite_true, ite_false, h2, l2, e1, d2]
  rw [Nat.mul_comm p 4]
theorem c_pageItem_out (h : HC σ b np nr ru pg rd) {x k : Int32} (hx : ¬ ∃ p, p < np ∧ x = nI p) : fX1_pageItem b x k σ = some (-1) := by
  obtain ⟨h1, h2, h3, l1, l2, l3, e1, e2, hnp, hnr, d1, d2, d3⟩ := h
  unfold fX1_pageItem fX1_pageItem_b31 fX1_pageItem_b32
  rcases i32_out (by omega) hx with h0 | ⟨h0, h9⟩
  · simp only [if_pos h0, ite_true]
  · rw [if_neg h0, e1]
    simp only [if_pos h9, ite_true, ite_self]
    simp
end HC
