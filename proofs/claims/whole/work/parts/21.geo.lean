/-! the hall: what is told of it, the class's side at the cell b, the model's side -/
def HB (np nr W H : Nat) (ru pg rd : Nat → Int32) : Prop :=
  np ≤ 12 ∧ nr ≤ 6 ∧ W ≤ 6 ∧ H ≤ 5 ∧ ru 0 = nI W ∧ ru 1 = nI H ∧ (0 < np → 1 ≤ W ∧ 1 ≤ H ∧ 1 ≤ nr) ∧ (np = 0 → nr = 0 ∧ W = 0 ∧ H = 0) ∧
  (∀ p, p < np → (∃ c, c < W * H ∧ pg (4 * p) = nI c) ∧ (∃ d, 1 ≤ d ∧ d ≤ 9 ∧ pg (4 * p + 1) = nI d) ∧ (∃ c, c < 5 ∧ pg (4 * p + 2) = nI c) ∧ ∃ c, c < 10 ∧ pg (4 * p + 3) = nI c) ∧
  (∀ r, r < nr → (∃ c, c < W * H ∧ rd (4 * r) = nI c) ∧ (∃ c, c < 10 ∧ rd (4 * r + 1) = nI c) ∧ (∃ c, c < 10 ∧ rd (4 * r + 2) = nI c) ∧ ∃ c, c < 5 ∧ rd (4 * r + 3) = nI c) ∧
  (∃ c, c < 100 ∧ ru 2 = nI c) ∧ (∃ c, c < 10 ∧ ru 3 = nI c) ∧ ∃ c, c < 100 ∧ ru 4 = nI c
def HC (σ : Mm) (b np nr : Nat) (ru pg rd : Nat → Int32) : Prop :=
  gR σ b 1 = some (b + 1) ∧ gR σ b 2 = some (b + 2) ∧ gR σ b 3 = some (b + 3) ∧ ln (b + 1) = 5 ∧ ln (b + 2) = 48 ∧ ln (b + 3) = 24 ∧ gI σ b 4 = nI np ∧ gI σ b 5 = nI nr ∧ (∀ k, k < 5 → gI σ (b + 1) k = ru k) ∧ (∀ k, k < 4 * np → gI σ (b + 2) k = pg k) ∧ (∀ k, k < 4 * nr → gI σ (b + 3) k = rd k)
def sAp (ru : Nat → Int32) (a b : Int32) : Int32 := absI (remI a (ru 0) - remI b (ru 0)) + absI (a / ru 0 - b / ru 0)
section HC
variable {σ : Mm} {b np nr W H : Nat} {ru pg rd : Nat → Int32}
theorem c_pageItem (g : HB np nr W H ru pg rd) (h : HC σ b np nr ru pg rd) {p k : Nat} (hp : p < np) (hk : k < 4) : fX1_pageItem b (nI p) (nI k) σ = some (pg (4 * p + k)) := by
  obtain ⟨h1, h2, h3, l1, l2, l3, e1, e2, d1, d2, d3⟩ := h
  have hnp := g.1
  unfold fX1_pageItem fX1_pageItem_b32
  simp (disch := omega) only [k32_0, k32_1, k32_2, k32_3, k32_4, k32_5, k32_6, k32_7, k32_8, k32_9, k32_10, k32_11, k32_12, k32_13, k32_14, k32_15, k32_16, k32_17, k32_18, k32_19, k32_20, k32_21, k32_22, k32_23, k32_24, k32_25, k32_26, k32_27, k32_28, k32_29, k32_30, k32_31, k32_32, k32_33, k32_34, k32_35, k32_36, k32_37, k32_38, k32_39, k32_40, k32_41, k32_42, k32_43, k32_44, k32_45, k32_46, k32_47, k32_48, k32_49, k32_50, k32_51, k32_52, k32_53, k32_54, k32_55, k32_56, k32_57, k32_58, k32_59, k32_60, k32_61, k32_62, k32_63, k32_64, k32_91, k32_93, k32_97, k32_98, k32_99, k32_100, k32_108, k32_109, k32_110, k32_111, k32_112, k32_113, k32_114, k32_115, k32_116, k32_121, k32_124, k32_192, k32_236, k32_240, k32_255, k32_351, k32_960, k32_1000, k32_1755, k32_8191, k32_9999, k32_14040, k32_1000000, nI_add, pk_mul, ixT, clT, eqT, leT, ltT, eqN1, neN1, ltN1, leN1, if_pos, if_neg, Option.bind_some, bnd2_some, Option.some.injEq, not_true_eq_false, not_false_eq_true, ite_true, ite_false, h2, l2, e1, d2]
  rw [Nat.mul_comm p 4]
theorem c_readerItem (g : HB np nr W H ru pg rd) (h : HC σ b np nr ru pg rd) {p k : Nat} (hp : p < nr) (hk : k < 4) : fX1_readerItem b (nI p) (nI k) σ = some (rd (4 * p + k)) := by
  obtain ⟨h1, h2, h3, l1, l2, l3, e1, e2, d1, d2, d3⟩ := h
  have hnp := g.2.1
  unfold fX1_readerItem fX1_readerItem_b32
  simp (disch := omega) only [k32_0, k32_1, k32_2, k32_3, k32_4, k32_5, k32_6, k32_7, k32_8, k32_9, k32_10, k32_11, k32_12, k32_13, k32_14, k32_15, k32_16, k32_17, k32_18, k32_19, k32_20, k32_21, k32_22, k32_23, k32_24, k32_25, k32_26, k32_27, k32_28, k32_29, k32_30, k32_31, k32_32, k32_33, k32_34, k32_35, k32_36, k32_37, k32_38, k32_39, k32_40, k32_41, k32_42, k32_43, k32_44, k32_45, k32_46, k32_47, k32_48, k32_49, k32_50, k32_51, k32_52, k32_53, k32_54, k32_55, k32_56, k32_57, k32_58, k32_59, k32_60, k32_61, k32_62, k32_63, k32_64, k32_91, k32_93, k32_97, k32_98, k32_99, k32_100, k32_108, k32_109, k32_110, k32_111, k32_112, k32_113, k32_114, k32_115, k32_116, k32_121, k32_124, k32_192, k32_236, k32_240, k32_255, k32_351, k32_960, k32_1000, k32_1755, k32_8191, k32_9999, k32_14040, k32_1000000, nI_add, pk_mul, ixT, clT, eqT, leT, ltT, eqN1, neN1, ltN1, leN1, if_pos, if_neg, Option.bind_some, bnd2_some, Option.some.injEq, not_true_eq_false, not_false_eq_true, ite_true, ite_false, h3, l3, e2, d3]
  rw [Nat.mul_comm p 4]
theorem c_pageItem_out (g : HB np nr W H ru pg rd) (h : HC σ b np nr ru pg rd) {x k : Int32} (hx : ¬ ∃ p, p < np ∧ x = nI p) : fX1_pageItem b x k σ = some (-1) := by
  obtain ⟨h1, h2, h3, l1, l2, l3, e1, e2, d1, d2, d3⟩ := h
  have hnp := g.1
  unfold fX1_pageItem fX1_pageItem_b31 fX1_pageItem_b32
  rcases i32_out (by omega) hx with h0 | ⟨h0, h9⟩
  · simp only [if_pos h0, ite_true]
  · rw [if_neg h0, e1]
    simp only [if_pos h9, ite_true, ite_self]
theorem c_pageCell (g : HB np nr W H ru pg rd) (h : HC σ b np nr ru pg rd) {p : Nat} (hp : p < np) : fX1_pageCell b (nI p) σ = some (pg (4 * p)) := by
  unfold fX1_pageCell; rw [show (0 : Int32) = nI 0 from rfl, c_pageItem g h hp (by omega)]; rfl
theorem c_pageDepth (g : HB np nr W H ru pg rd) (h : HC σ b np nr ru pg rd) {p : Nat} (hp : p < np) : fX1_pageDepth b (nI p) σ = some (pg (4 * p + 1)) := by
  unfold fX1_pageDepth; rw [show (1 : Int32) = nI 1 from rfl, c_pageItem g h hp (by omega)]; rfl
theorem c_pageBook (g : HB np nr W H ru pg rd) (h : HC σ b np nr ru pg rd) {p : Nat} (hp : p < np) : fX1_pageBook b (nI p) σ = some (pg (4 * p + 2)) := by
  unfold fX1_pageBook; rw [show (2 : Int32) = nI 2 from rfl, c_pageItem g h hp (by omega)]; rfl
theorem c_pageSays (g : HB np nr W H ru pg rd) (h : HC σ b np nr ru pg rd) {p : Nat} (hp : p < np) : fX1_pageSays b (nI p) σ = some (pg (4 * p + 3)) := by
  unfold fX1_pageSays; rw [show (3 : Int32) = nI 3 from rfl, c_pageItem g h hp (by omega)]; rfl
theorem c_readerCell (g : HB np nr W H ru pg rd) (h : HC σ b np nr ru pg rd) {p : Nat} (hp : p < nr) : fX1_readerCell b (nI p) σ = some (rd (4 * p)) := by
  unfold fX1_readerCell; rw [show (0 : Int32) = nI 0 from rfl, c_readerItem g h hp (by omega)]; rfl
theorem c_breath (g : HB np nr W H ru pg rd) (h : HC σ b np nr ru pg rd) {p : Nat} (hp : p < nr) : fX1_breath b (nI p) σ = some (rd (4 * p + 1)) := by
  unfold fX1_breath; rw [show (1 : Int32) = nI 1 from rfl, c_readerItem g h hp (by omega)]; rfl
theorem c_speed (g : HB np nr W H ru pg rd) (h : HC σ b np nr ru pg rd) {p : Nat} (hp : p < nr) : fX1_speed b (nI p) σ = some (rd (4 * p + 2)) := by
  unfold fX1_speed; rw [show (2 : Int32) = nI 2 from rfl, c_readerItem g h hp (by omega)]; rfl
theorem c_need (g : HB np nr W H ru pg rd) (h : HC σ b np nr ru pg rd) {p : Nat} (hp : p < nr) : fX1_need b (nI p) σ = some (rd (4 * p + 3)) := by
  unfold fX1_need; rw [show (3 : Int32) = nI 3 from rfl, c_readerItem g h hp (by omega)]; rfl
theorem c_rules (h : HC σ b np nr ru pg rd) : fX1_width b σ = some (ru 0) ∧ fX1_height b σ = some (ru 1) ∧ fX1_coldAtFirst b σ = some (ru 2) ∧ fX1_coldFall b σ = some (ru 3) ∧ fX1_april b σ = some (ru 4) := by
  obtain ⟨h1, h2, h3, l1, l2, l3, e1, e2, d1, d2, d3⟩ := h
  unfold fX1_width fX1_height fX1_coldAtFirst fX1_coldFall fX1_april
  simp (disch := omega) only [k32_0, k32_1, k32_2, k32_3, k32_4, k32_5, k32_6, k32_7, k32_8, k32_9, k32_10, k32_11, k32_12, k32_13, k32_14, k32_15, k32_16, k32_17, k32_18, k32_19, k32_20, k32_21, k32_22, k32_23, k32_24, k32_25, k32_26, k32_27, k32_28, k32_29, k32_30, k32_31, k32_32, k32_33, k32_34, k32_35, k32_36, k32_37, k32_38, k32_39, k32_40, k32_41, k32_42, k32_43, k32_44, k32_45, k32_46, k32_47, k32_48, k32_49, k32_50, k32_51, k32_52, k32_53, k32_54, k32_55, k32_56, k32_57, k32_58, k32_59, k32_60, k32_61, k32_62, k32_63, k32_64, k32_91, k32_93, k32_97, k32_98, k32_99, k32_100, k32_108, k32_109, k32_110, k32_111, k32_112, k32_113, k32_114, k32_115, k32_116, k32_121, k32_124, k32_192, k32_236, k32_240, k32_255, k32_351, k32_960, k32_1000, k32_1755, k32_8191, k32_9999, k32_14040, k32_1000000, nI_add, pk_mul, ixT, clT, eqT, leT, ltT, eqN1, neN1, ltN1, leN1, if_pos, if_neg, Option.bind_some, bnd2_some, Option.some.injEq, not_true_eq_false, not_false_eq_true, ite_true, ite_false, h1, l1, d1, and_self]
theorem c_isOpen (g : HB np nr W H ru pg rd) (h : HC σ b np nr ru pg rd) : fX1_isOpen b σ = some (if 0 < np then 1 else 0) := by
  obtain ⟨h1, h2, h3, l1, l2, l3, e1, e2, d1, d2, d3⟩ := h
  have hnp := g.1
  unfold fX1_isOpen
  rw [e1, show (0 : Int32) = nI 0 from rfl]
  by_cases q : 0 < np
  · simp (disch := omega) only [k32_0, k32_1, k32_2, k32_3, k32_4, k32_5, k32_6, k32_7, k32_8, k32_9, k32_10, k32_11, k32_12, k32_13, k32_14, k32_15, k32_16, k32_17, k32_18, k32_19, k32_20, k32_21, k32_22, k32_23, k32_24, k32_25, k32_26, k32_27, k32_28, k32_29, k32_30, k32_31, k32_32, k32_33, k32_34, k32_35, k32_36, k32_37, k32_38, k32_39, k32_40, k32_41, k32_42, k32_43, k32_44, k32_45, k32_46, k32_47, k32_48, k32_49, k32_50, k32_51, k32_52, k32_53, k32_54, k32_55, k32_56, k32_57, k32_58, k32_59, k32_60, k32_61, k32_62, k32_63, k32_64, k32_91, k32_93, k32_97, k32_98, k32_99, k32_100, k32_108, k32_109, k32_110, k32_111, k32_112, k32_113, k32_114, k32_115, k32_116, k32_121, k32_124, k32_192, k32_236, k32_240, k32_255, k32_351, k32_960, k32_1000, k32_1755, k32_8191, k32_9999, k32_14040, k32_1000000, nI_add, pk_mul, ixT, clT, eqT, leT, ltT, eqN1, neN1, ltN1, leN1, if_pos, if_neg, Option.bind_some, bnd2_some, Option.some.injEq, not_true_eq_false, not_false_eq_true, ite_true, ite_false, q]
  · simp (disch := omega) only [k32_0, k32_1, k32_2, k32_3, k32_4, k32_5, k32_6, k32_7, k32_8, k32_9, k32_10, k32_11, k32_12, k32_13, k32_14, k32_15, k32_16, k32_17, k32_18, k32_19, k32_20, k32_21, k32_22, k32_23, k32_24, k32_25, k32_26, k32_27, k32_28, k32_29, k32_30, k32_31, k32_32, k32_33, k32_34, k32_35, k32_36, k32_37, k32_38, k32_39, k32_40, k32_41, k32_42, k32_43, k32_44, k32_45, k32_46, k32_47, k32_48, k32_49, k32_50, k32_51, k32_52, k32_53, k32_54, k32_55, k32_56, k32_57, k32_58, k32_59, k32_60, k32_61, k32_62, k32_63, k32_64, k32_91, k32_93, k32_97, k32_98, k32_99, k32_100, k32_108, k32_109, k32_110, k32_111, k32_112, k32_113, k32_114, k32_115, k32_116, k32_121, k32_124, k32_192, k32_236, k32_240, k32_255, k32_351, k32_960, k32_1000, k32_1755, k32_8191, k32_9999, k32_14040, k32_1000000, nI_add, pk_mul, ixT, clT, eqT, leT, ltT, eqN1, neN1, ltN1, leN1, if_pos, if_neg, Option.bind_some, bnd2_some, Option.some.injEq, not_true_eq_false, not_false_eq_true, ite_true, ite_false, q]
theorem c_hasPage (g : HB np nr W H ru pg rd) (h : HC σ b np nr ru pg rd) {p : Nat} (hp : p < np) : fX1_hasPage b (nI p) σ = some 1 := by
  obtain ⟨h1, h2, h3, l1, l2, l3, e1, e2, d1, d2, d3⟩ := h
  have hnp := g.1
  unfold fX1_hasPage
  simp (disch := omega) only [k32_0, k32_1, k32_2, k32_3, k32_4, k32_5, k32_6, k32_7, k32_8, k32_9, k32_10, k32_11, k32_12, k32_13, k32_14, k32_15, k32_16, k32_17, k32_18, k32_19, k32_20, k32_21, k32_22, k32_23, k32_24, k32_25, k32_26, k32_27, k32_28, k32_29, k32_30, k32_31, k32_32, k32_33, k32_34, k32_35, k32_36, k32_37, k32_38, k32_39, k32_40, k32_41, k32_42, k32_43, k32_44, k32_45, k32_46, k32_47, k32_48, k32_49, k32_50, k32_51, k32_52, k32_53, k32_54, k32_55, k32_56, k32_57, k32_58, k32_59, k32_60, k32_61, k32_62, k32_63, k32_64, k32_91, k32_93, k32_97, k32_98, k32_99, k32_100, k32_108, k32_109, k32_110, k32_111, k32_112, k32_113, k32_114, k32_115, k32_116, k32_121, k32_124, k32_192, k32_236, k32_240, k32_255, k32_351, k32_960, k32_1000, k32_1755, k32_8191, k32_9999, k32_14040, k32_1000000, nI_add, pk_mul, ixT, clT, eqT, leT, ltT, eqN1, neN1, ltN1, leN1, if_pos, if_neg, Option.bind_some, bnd2_some, Option.some.injEq, not_true_eq_false, not_false_eq_true, ite_true, ite_false, e1]
theorem c_hasPage_out (g : HB np nr W H ru pg rd) (h : HC σ b np nr ru pg rd) {x : Int32} (hx : ¬ ∃ p, p < np ∧ x = nI p) : fX1_hasPage b x σ = some 0 := by
  obtain ⟨h1, h2, h3, l1, l2, l3, e1, e2, d1, d2, d3⟩ := h
  have hnp := g.1
  unfold fX1_hasPage
  rcases i32_out (by omega) hx with h0 | ⟨h0, h9⟩
  · simp only [if_pos h0]
  · rw [if_neg h0, e1, if_pos h9]
theorem c_hasReader (g : HB np nr W H ru pg rd) (h : HC σ b np nr ru pg rd) {p : Nat} (hp : p < nr) : fX1_hasReader b (nI p) σ = some 1 := by
  obtain ⟨h1, h2, h3, l1, l2, l3, e1, e2, d1, d2, d3⟩ := h
  have hnp := g.2.1
  unfold fX1_hasReader
  simp (disch := omega) only [k32_0, k32_1, k32_2, k32_3, k32_4, k32_5, k32_6, k32_7, k32_8, k32_9, k32_10, k32_11, k32_12, k32_13, k32_14, k32_15, k32_16, k32_17, k32_18, k32_19, k32_20, k32_21, k32_22, k32_23, k32_24, k32_25, k32_26, k32_27, k32_28, k32_29, k32_30, k32_31, k32_32, k32_33, k32_34, k32_35, k32_36, k32_37, k32_38, k32_39, k32_40, k32_41, k32_42, k32_43, k32_44, k32_45, k32_46, k32_47, k32_48, k32_49, k32_50, k32_51, k32_52, k32_53, k32_54, k32_55, k32_56, k32_57, k32_58, k32_59, k32_60, k32_61, k32_62, k32_63, k32_64, k32_91, k32_93, k32_97, k32_98, k32_99, k32_100, k32_108, k32_109, k32_110, k32_111, k32_112, k32_113, k32_114, k32_115, k32_116, k32_121, k32_124, k32_192, k32_236, k32_240, k32_255, k32_351, k32_960, k32_1000, k32_1755, k32_8191, k32_9999, k32_14040, k32_1000000, nI_add, pk_mul, ixT, clT, eqT, leT, ltT, eqN1, neN1, ltN1, leN1, if_pos, if_neg, Option.bind_some, bnd2_some, Option.some.injEq, not_true_eq_false, not_false_eq_true, ite_true, ite_false, e2]
theorem c_hasReader_out (g : HB np nr W H ru pg rd) (h : HC σ b np nr ru pg rd) {x : Int32} (hx : ¬ ∃ p, p < nr ∧ x = nI p) : fX1_hasReader b x σ = some 0 := by
  obtain ⟨h1, h2, h3, l1, l2, l3, e1, e2, d1, d2, d3⟩ := h
  have hnp := g.2.1
  unfold fX1_hasReader
  rcases i32_out (by omega) hx with h0 | ⟨h0, h9⟩
  · simp only [if_pos h0]
  · rw [if_neg h0, e2, if_pos h9]
theorem c_cells (g : HB np nr W H ru pg rd) (h : HC σ b np nr ru pg rd) : fX1_cells b σ = some (nI (W * H)) := by
  obtain ⟨h1, h2, h3, l1, l2, l3, e1, e2, d1, d2, d3⟩ := h
  obtain ⟨g1, g2, g3, g4, g5, g6, -⟩ := g
  unfold fX1_cells
  simp (disch := omega) only [k32_0, k32_1, k32_2, k32_3, k32_4, k32_5, k32_6, k32_7, k32_8, k32_9, k32_10, k32_11, k32_12, k32_13, k32_14, k32_15, k32_16, k32_17, k32_18, k32_19, k32_20, k32_21, k32_22, k32_23, k32_24, k32_25, k32_26, k32_27, k32_28, k32_29, k32_30, k32_31, k32_32, k32_33, k32_34, k32_35, k32_36, k32_37, k32_38, k32_39, k32_40, k32_41, k32_42, k32_43, k32_44, k32_45, k32_46, k32_47, k32_48, k32_49, k32_50, k32_51, k32_52, k32_53, k32_54, k32_55, k32_56, k32_57, k32_58, k32_59, k32_60, k32_61, k32_62, k32_63, k32_64, k32_91, k32_93, k32_97, k32_98, k32_99, k32_100, k32_108, k32_109, k32_110, k32_111, k32_112, k32_113, k32_114, k32_115, k32_116, k32_121, k32_124, k32_192, k32_236, k32_240, k32_255, k32_351, k32_960, k32_1000, k32_1755, k32_8191, k32_9999, k32_14040, k32_1000000, nI_add, pk_mul, ixT, clT, eqT, leT, ltT, eqN1, neN1, ltN1, leN1, if_pos, if_neg, Option.bind_some, bnd2_some, Option.some.injEq, not_true_eq_false, not_false_eq_true, ite_true, ite_false, h1, l1, d1, g5, g6]
theorem WH_lt (g : HB np nr W H ru pg rd) : W * H ≤ 30 := Nat.mul_le_mul g.2.2.1 g.2.2.2.1
theorem c_hasCell (g : HB np nr W H ru pg rd) (h : HC σ b np nr ru pg rd) {c : Nat} (hc : c < W * H) : fX1_hasCell b (nI c) σ = some 1 := by
  have hl := WH_lt g
  unfold fX1_hasCell
  rw [c_cells g h]
  simp (disch := omega) only [k32_0, k32_1, k32_2, k32_3, k32_4, k32_5, k32_6, k32_7, k32_8, k32_9, k32_10, k32_11, k32_12, k32_13, k32_14, k32_15, k32_16, k32_17, k32_18, k32_19, k32_20, k32_21, k32_22, k32_23, k32_24, k32_25, k32_26, k32_27, k32_28, k32_29, k32_30, k32_31, k32_32, k32_33, k32_34, k32_35, k32_36, k32_37, k32_38, k32_39, k32_40, k32_41, k32_42, k32_43, k32_44, k32_45, k32_46, k32_47, k32_48, k32_49, k32_50, k32_51, k32_52, k32_53, k32_54, k32_55, k32_56, k32_57, k32_58, k32_59, k32_60, k32_61, k32_62, k32_63, k32_64, k32_91, k32_93, k32_97, k32_98, k32_99, k32_100, k32_108, k32_109, k32_110, k32_111, k32_112, k32_113, k32_114, k32_115, k32_116, k32_121, k32_124, k32_192, k32_236, k32_240, k32_255, k32_351, k32_960, k32_1000, k32_1755, k32_8191, k32_9999, k32_14040, k32_1000000, nI_add, pk_mul, ixT, clT, eqT, leT, ltT, eqN1, neN1, ltN1, leN1, if_pos, if_neg, Option.bind_some, bnd2_some, Option.some.injEq, not_true_eq_false, not_false_eq_true, ite_true, ite_false]
theorem c_hasCell_out (g : HB np nr W H ru pg rd) (h : HC σ b np nr ru pg rd) {x : Int32} (hx : ¬ ∃ c, c < W * H ∧ x = nI c) : fX1_hasCell b x σ = some 0 := by
  have hl := WH_lt g
  unfold fX1_hasCell
  rw [c_cells g h]
  rcases i32_out (by omega) hx with h0 | ⟨h0, h9⟩
  · simp only [if_pos h0]
  · rw [if_neg h0, Option.bind_some, if_pos h9]
theorem ru0_ne (g : HB np nr W H ru pg rd) (hnp : 0 < np) : ¬ ru 0 = 0 := by
  obtain ⟨g1, g2, g3, g4, g5, g6, g7, -⟩ := g
  have := g7 hnp
  rw [g5]
  exact nI_ne0 (by omega) (by omega)
theorem c_steps (g : HB np nr W H ru pg rd) (h : HC σ b np nr ru pg rd) (hnp : 0 < np) (x y : Int32) : fX1_steps b x y σ = some (sAp ru x y) := by
  have h0 := ru0_ne g hnp
  obtain ⟨g1, g2, g3, g4, g5, g6, g7, -⟩ := g
  have := g7 hnp
  unfold fX1_steps sAp
  rw [(c_rules h).1]
  have h1 : (1 : Int32) ≤ ru 0 := by rw [g5]; exact (leT (a := 1) (by omega) (by omega)).mpr (by omega)
  simp only [Option.bind_some, if_pos h1, if_neg h0]
  rw [Int32.add_comm]
end HC
/-! the model's side -/
def RM (σ : Mm) : Prop := gR σ 310 1 = some 311 ∧ gR σ 310 2 = some 312 ∧ gR σ 310 3 = some 313 ∧ gR σ 310 4 = some 314 ∧ gR σ 310 15 = some 1110 ∧ gR σ 310 16 = some 1106 ∧ gR σ 310 18 = some 315 ∧ gR σ 310 19 = some 316 ∧ gR σ 310 20 = some 317 ∧ gR σ 310 21 = some 318 ∧ gR σ 310 22 = some 319 ∧ gR σ 310 23 = some 320 ∧ gR σ 310 24 = some 321 ∧ gR σ 310 25 = some 322 ∧ gR σ 310 33 = some 323 ∧ gR σ 310 34 = some 324 ∧ gR σ 310 35 = some 325 ∧ gR σ 310 38 = some 326 ∧ gR σ 310 39 = some 327 ∧ gR σ 310 40 = some 328 ∧ gR σ 310 41 = some 329 ∧ gR σ 310 48 = some 330 ∧ gR σ 310 49 = some 331 ∧ gR σ 310 50 = some 332
theorem lnM : ln 311 = 240 ∧ ln 312 = 960 ∧ ln 313 = 4 ∧ ln 314 = 128 ∧ ln 315 = 5 ∧ ln 316 = 5 ∧ ln 317 = 48 ∧ ln 318 = 48 ∧ ln 319 = 24 ∧ ln 320 = 24 ∧ ln 321 = 240 ∧ ln 322 = 5 ∧ ln 323 = 351 ∧ ln 324 = 351 ∧ ln 325 = 1755 ∧ ln 326 = 8191 ∧ ln 327 = 8191 ∧ ln 328 = 12 ∧ ln 329 = 14040 ∧ ln 330 = 72 ∧ ln 331 = 14 ∧ ln 332 = 351 ∧ ln 333 = 1 := by decide +kernel
def HM (σ : Mm) (np nr W H : Nat) (ru pg rd : Nat → Int32) : Prop :=
  RM σ ∧ gI σ 310 26 = nI (W * H) ∧ gI σ 310 27 = nI np ∧ gI σ 310 28 = nI nr ∧ (∀ k, k < 5 → gI σ 315 k = ru k) ∧ (∀ k, k < 4 * np → gI σ 317 k = pg k) ∧ (∀ k, k < 4 * nr → gI σ 319 k = rd k)
section HMs
variable {σ : Mm} {np nr W H : Nat} {ru pg rd : Nat → Int32}
theorem m_apart (g : HB np nr W H ru pg rd) (h : HM σ np nr W H ru pg rd) (hnp : 0 < np) (x y : Int32) : fX10_apart 310 x y σ = some (sAp ru x y) := by
  have h0 := ru0_ne g hnp
  obtain ⟨r, e1, e2, e3, d1, d2, d3⟩ := h
  unfold fX10_apart sAp
  have d10 := d1 0 (by omega)
  have r18 : gR σ 310 18 = some 315 := r.2.2.2.2.2.2.1
  have l : ln 315 = 5 := lnM.2.2.2.2.1
  have h0' : ¬ ru 0 = nI 0 := h0
  simp (disch := omega) only [k32_0, k32_1, k32_2, k32_3, k32_4, k32_5, k32_6, k32_7, k32_8, k32_9, k32_10, k32_11, k32_12, k32_13, k32_14, k32_15, k32_16, k32_17, k32_18, k32_19, k32_20, k32_21, k32_22, k32_23, k32_24, k32_25, k32_26, k32_27, k32_28, k32_29, k32_30, k32_31, k32_32, k32_33, k32_34, k32_35, k32_36, k32_37, k32_38, k32_39, k32_40, k32_41, k32_42, k32_43, k32_44, k32_45, k32_46, k32_47, k32_48, k32_49, k32_50, k32_51, k32_52, k32_53, k32_54, k32_55, k32_56, k32_57, k32_58, k32_59, k32_60, k32_61, k32_62, k32_63, k32_64, k32_91, k32_93, k32_97, k32_98, k32_99, k32_100, k32_108, k32_109, k32_110, k32_111, k32_112, k32_113, k32_114, k32_115, k32_116, k32_121, k32_124, k32_192, k32_236, k32_240, k32_255, k32_351, k32_960, k32_1000, k32_1755, k32_8191, k32_9999, k32_14040, k32_1000000, nI_add, pk_mul, ixT, clT, eqT, leT, ltT, eqN1, neN1, ltN1, leN1, if_pos, if_neg, Option.bind_some, bnd2_some, Option.some.injEq, not_true_eq_false, not_false_eq_true, ite_true, ite_false, r18, l, d10, h0']
theorem m_isPage (g : HB np nr W H ru pg rd) (h : HM σ np nr W H ru pg rd) {p : Nat} (hp : p < np) : fX10_isPage 310 (nI p) σ = some 1 := by
  have := g.1
  unfold fX10_isPage
  simp (disch := omega) only [k32_0, k32_1, k32_2, k32_3, k32_4, k32_5, k32_6, k32_7, k32_8, k32_9, k32_10, k32_11, k32_12, k32_13, k32_14, k32_15, k32_16, k32_17, k32_18, k32_19, k32_20, k32_21, k32_22, k32_23, k32_24, k32_25, k32_26, k32_27, k32_28, k32_29, k32_30, k32_31, k32_32, k32_33, k32_34, k32_35, k32_36, k32_37, k32_38, k32_39, k32_40, k32_41, k32_42, k32_43, k32_44, k32_45, k32_46, k32_47, k32_48, k32_49, k32_50, k32_51, k32_52, k32_53, k32_54, k32_55, k32_56, k32_57, k32_58, k32_59, k32_60, k32_61, k32_62, k32_63, k32_64, k32_91, k32_93, k32_97, k32_98, k32_99, k32_100, k32_108, k32_109, k32_110, k32_111, k32_112, k32_113, k32_114, k32_115, k32_116, k32_121, k32_124, k32_192, k32_236, k32_240, k32_255, k32_351, k32_960, k32_1000, k32_1755, k32_8191, k32_9999, k32_14040, k32_1000000, nI_add, pk_mul, ixT, clT, eqT, leT, ltT, eqN1, neN1, ltN1, leN1, if_pos, if_neg, Option.bind_some, bnd2_some, Option.some.injEq, not_true_eq_false, not_false_eq_true, ite_true, ite_false, h.2.2.1]
theorem m_isPage_out (g : HB np nr W H ru pg rd) (h : HM σ np nr W H ru pg rd) {x : Int32} (hx : ¬ ∃ p, p < np ∧ x = nI p) : fX10_isPage 310 x σ = some 0 := by
  have := g.1
  unfold fX10_isPage
  rcases i32_out (by omega) hx with h0 | ⟨h0, h9⟩
  · simp only [if_pos h0]
  · rw [if_neg h0, h.2.2.1, if_pos h9]
theorem m_isReader (g : HB np nr W H ru pg rd) (h : HM σ np nr W H ru pg rd) {p : Nat} (hp : p < nr) : fX10_isReader 310 (nI p) σ = some 1 := by
  have := g.2.1
  unfold fX10_isReader
  simp (disch := omega) only [k32_0, k32_1, k32_2, k32_3, k32_4, k32_5, k32_6, k32_7, k32_8, k32_9, k32_10, k32_11, k32_12, k32_13, k32_14, k32_15, k32_16, k32_17, k32_18, k32_19, k32_20, k32_21, k32_22, k32_23, k32_24, k32_25, k32_26, k32_27, k32_28, k32_29, k32_30, k32_31, k32_32, k32_33, k32_34, k32_35, k32_36, k32_37, k32_38, k32_39, k32_40, k32_41, k32_42, k32_43, k32_44, k32_45, k32_46, k32_47, k32_48, k32_49, k32_50, k32_51, k32_52, k32_53, k32_54, k32_55, k32_56, k32_57, k32_58, k32_59, k32_60, k32_61, k32_62, k32_63, k32_64, k32_91, k32_93, k32_97, k32_98, k32_99, k32_100, k32_108, k32_109, k32_110, k32_111, k32_112, k32_113, k32_114, k32_115, k32_116, k32_121, k32_124, k32_192, k32_236, k32_240, k32_255, k32_351, k32_960, k32_1000, k32_1755, k32_8191, k32_9999, k32_14040, k32_1000000, nI_add, pk_mul, ixT, clT, eqT, leT, ltT, eqN1, neN1, ltN1, leN1, if_pos, if_neg, Option.bind_some, bnd2_some, Option.some.injEq, not_true_eq_false, not_false_eq_true, ite_true, ite_false, h.2.2.2.1]
theorem m_isReader_out (g : HB np nr W H ru pg rd) (h : HM σ np nr W H ru pg rd) {x : Int32} (hx : ¬ ∃ p, p < nr ∧ x = nI p) : fX10_isReader 310 x σ = some 0 := by
  have := g.2.1
  unfold fX10_isReader
  rcases i32_out (by omega) hx with h0 | ⟨h0, h9⟩
  · simp only [if_pos h0]
  · rw [if_neg h0, h.2.2.2.1, if_pos h9]
theorem m_isCell (g : HB np nr W H ru pg rd) (h : HM σ np nr W H ru pg rd) {c : Nat} (hc : c < W * H) : fX10_isCell 310 (nI c) σ = some 1 := by
  have := WH_lt g
  unfold fX10_isCell
  simp (disch := omega) only [k32_0, k32_1, k32_2, k32_3, k32_4, k32_5, k32_6, k32_7, k32_8, k32_9, k32_10, k32_11, k32_12, k32_13, k32_14, k32_15, k32_16, k32_17, k32_18, k32_19, k32_20, k32_21, k32_22, k32_23, k32_24, k32_25, k32_26, k32_27, k32_28, k32_29, k32_30, k32_31, k32_32, k32_33, k32_34, k32_35, k32_36, k32_37, k32_38, k32_39, k32_40, k32_41, k32_42, k32_43, k32_44, k32_45, k32_46, k32_47, k32_48, k32_49, k32_50, k32_51, k32_52, k32_53, k32_54, k32_55, k32_56, k32_57, k32_58, k32_59, k32_60, k32_61, k32_62, k32_63, k32_64, k32_91, k32_93, k32_97, k32_98, k32_99, k32_100, k32_108, k32_109, k32_110, k32_111, k32_112, k32_113, k32_114, k32_115, k32_116, k32_121, k32_124, k32_192, k32_236, k32_240, k32_255, k32_351, k32_960, k32_1000, k32_1755, k32_8191, k32_9999, k32_14040, k32_1000000, nI_add, pk_mul, ixT, clT, eqT, leT, ltT, eqN1, neN1, ltN1, leN1, if_pos, if_neg, Option.bind_some, bnd2_some, Option.some.injEq, not_true_eq_false, not_false_eq_true, ite_true, ite_false, h.2.1]
theorem m_isCell_out (g : HB np nr W H ru pg rd) (h : HM σ np nr W H ru pg rd) {x : Int32} (hx : ¬ ∃ c, c < W * H ∧ x = nI c) : fX10_isCell 310 x σ = some 0 := by
  have := WH_lt g
  unfold fX10_isCell
  rcases i32_out (by omega) hx with h0 | ⟨h0, h9⟩
  · simp only [if_pos h0]
  · rw [if_neg h0, h.2.1, if_pos h9]
end HMs
