/-! laws: a whole clause -/
section LawG
variable {σ τ : Mm} {b : Nat → Nat} {L p : Nat} {ℓ : Nat → Int32}
theorem X_say {j a B n : Nat} (h : ST j a B b L ℓ σ τ p n 0) (hn : n ≤ p) (hy : gI τ 310 13 = 121) : OUTC 1 j a B b L ℓ n n p σ τ (fX3_clause_b51 (48 + 4 * j) 1 σ) (bnd2 (gX10p 100 2 310 0 0 τ) fun vk17 sk17 => if (gI sk17 310 11) = (-1) then bnd2 (fX10_look 310 sk17) fun vk19 sk19 => (fX10_isSign vk19 sk19).bind fun vk20 => if vk20 = 0 then fX10_clause_b134 310 121 1 vk17 sk19 else bnd2 (gX10p 100 6 310 1 vk17 sk19) fun vk22 sk22 => bnd2 (fX10_takes 310 63 sk22) fun vk23 sk23 => if vk23 = 0 then some sk23 else bnd2 (gX10p 100 2 310 0 0 sk23) fun vk25 sk25 => fX10_clause_b134 310 121 vk22 vk25 sk25 else fX10_clause_b134 310 121 1 vk17 sk17) := by
  have hL := h.tc.2.1
  unfold fX3_clause_b51
  rw [if_neg z1]
  rcases q_sum h hn with ⟨e', σ', τ', w, a1, a2, a3, a4, a5, a6, a7, a8⟩ | ⟨q', n', w, σ', τ', b1, b2, b3, b4, b5, b6, b7, b8, b9, b10, b11⟩
  · left
    rw [a1, bnd2_some, if_pos rfl, a3, bnd2_some, if_neg (by rw [a4]; exact fun z => (eqN1 (by omega)).mp z), m_b134F a5 a4]
    exact ⟨e', σ', τ', rfl, a2, rfl, a4, a5, a7, tL_n a8⟩
  · have hqL := b6.tc.1
    have h3 := b6.ncur
    obtain ⟨s1, s2, s3⟩ := sk_bd (b := b) b6.tc.1
    obtain ⟨y, y1, y2, y3⟩ := isS (sg b L q') (sI σ' 1 2 (nI (sk b L q'))) (sI τ' 310 10 (nI (sk b L q')))
    have hy' : gI (sI τ' 310 10 (nI (sk b L q'))) 310 13 = 121 := by rw [gI_sI, if_neg (by omega), b9.1 310 13 rfl]; exact hy
    have sC : Sm (tLc j) σ (sI σ' 1 2 (nI (sk b L q'))) := b8.sI rfl
    have sM : Sm tLm τ (sI τ' 310 10 (nI (sk b L q'))) := b9.sI rfl
    have eo : ∀ i, i < n → gI (sI σ' 1 2 (nI (sk b L q'))) (49 + 4 * j) i = gI σ (49 + 4 * j) i ∧ gI (sI σ' 1 2 (nI (sk b L q'))) (50 + 4 * j) i = gI σ (50 + 4 * j) i := fun i hi => ⟨(cur_codes i hi).1.trans (b10 i hi).1, (cur_codes i hi).2.trans (b10 i hi).2⟩
    rw [b1, bnd2_some, if_neg z1, b2, bnd2_some, if_pos b6.ok, m_look b6.tm, bnd2_some, y2, Option.bind_some]
    unfold fX3_clause_b66
    rw [if_neg z1, b6.r0, Option.bind_some, c_next b6.tc, bnd2_some, y1, Option.bind_some]
    rcases y3 with ⟨rfl, -, -, -⟩ | ⟨rfl, -⟩
    · right
      obtain ⟨σ3, d1, d2, d3, d4, d5, d6⟩ := h3.emit (by omega) 59 0
      rw [if_pos rfl, if_pos rfl, m_b134 h3.ok hy']
      unfold fX3_clause_b123
      rw [d1, Option.bind_some]
      refine ⟨sk b L q', n' + 1, some w, σ3, _, rfl, rfl, by omega, by omega, by omega, d2, sC.tr d3, sM, fun i hi => ⟨(d6 i (by omega)).1.trans (eo i hi).1, (d6 i (by omega)).2.trans (eo i hi).2⟩, fun hz => ?_⟩
      left
      exact ⟨n', w, (b11 hz).1.congr (fun x _ hx => ⟨(d6 x hx).1.trans (cur_codes x hx).1, (d6 x hx).2.trans (cur_codes x hx).2⟩), d4, rfl, rfl⟩
    · rw [if_neg z1, if_neg z1]
      have hv : SegV (sI σ' 1 2 (nI (sk b L q'))) j ℓ n n' w := b11.congr (fun x hx => cur_codes x hx)
      have k := X_when (show n' ≤ sk b L q' by omega) hy' (q_conB h3 (by omega) (by omega) hv)
      rcases k with ⟨e', σ2, τ2, a1, a2, a3, a4, a5, a6, a7⟩ | ⟨q, n2, r, σ2, τ2, d1, d2, d3, d4, d5, d6, d7, d8, d9, d10⟩
      · exact Or.inl ⟨e', σ2, τ2, a1, a2, a3, a4, a5, sC.tr a6, (tL_n sM).tr a7⟩
      · exact Or.inr ⟨q, n2, r, σ2, τ2, d1, d2, by omega, by omega, by omega, d6, sC.tr d7, sM.tr d8, fun x hx => ⟨(d9 x (by omega)).1.trans (eo x hx).1, (d9 x (by omega)).2.trans (eo x hx).2⟩, d10⟩
theorem X_clauseL {j a B n : Nat} (h : ST j a B b L ℓ σ τ p n 0) (hn : n ≤ p) (hy : gI τ 310 13 = 121) : OUTC 0 j a B b L ℓ n n p σ τ (fX3_clause (48 + 4 * j) σ) (fX10_clause 310 τ) := by
  obtain ⟨s1, s2, s3⟩ := sk_bd (b := b) h.tc.1
  have hL := h.tc.2.1
  unfold fX3_clause fX10_clause
  rw [h.r0, Option.bind_some, c_expect h.tc, m_look h.tm, bnd2_some, show 1100 + 2 * 5 = 1110 from rfl, m_among _ _ (by rw [sl_tab.2.2.2.2.2]; omega), Option.bind_some, six_y]
  by_cases q : sg b L p = 121
  · have hlt := sg_lt (x := 121) (by omega) q
    have h1 := h.cur (q := sk b L p + 1) (by omega)
    obtain ⟨t1, t2, t3⟩ := sk_bd (b := b) h1.tc.1
    have m1 : sI (sI τ 310 10 (nI (sk b L p))) 310 10 ((gI (sI τ 310 10 (nI (sk b L p))) 310 10) + 1) = sI τ 310 10 (nI (sk b L p + 1)) := by rw [gI_sI, if_pos ⟨rfl, rfl⟩, nI_1, sI_sI]
    rw [q, if_pos rfl, if_pos rfl, if_neg z1, bnd2_some, if_neg z1, h1.r0, Option.bind_some, c_expect h1.tc, m1, m_takes h1.tm h1.ok]
    by_cases q2 : sg b L (sk b L p + 1) = 58
    · have hlt2 := sg_lt (x := 58) (by omega) q2
      have h2 := h1.cur (q := sk b L (sk b L p + 1) + 1) (by omega)
      have h3 := h2.ncur
      obtain ⟨u1, u2, u3⟩ := sk_bd (b := b) h2.tc.1
      rw [if_pos q2, if_pos q2, bnd2_some, if_neg z1, bnd2_some, if_neg z1, h2.r0, Option.bind_some, c_next h2.tc, bnd2_some, m_look h2.tm, bnd2_some]
      generalize hP : sk b L (sk b L (sk b L p + 1) + 1) = P at *
      generalize hg : sg b L (sk b L (sk b L p + 1) + 1) = g at *
      generalize hσ : sI (sI (sI σ 1 2 (nI (sk b L p + 1))) 1 2 (nI (sk b L (sk b L p + 1) + 1))) 1 2 (nI P) = σ3 at *
      generalize hτ : sI (sI (sI τ 310 10 (nI (sk b L p + 1))) 310 10 (nI (sk b L (sk b L p + 1) + 1))) 310 10 (nI P) = τ3 at *
      have sC : Sm (tLc j) σ σ3 := by rw [← hσ]; exact ((Sm.rf.sI rfl).sI rfl).sI rfl
      have sM : Sm tLm τ τ3 := by rw [← hτ]; exact ((Sm.rf.sI rfl).sI rfl).sI rfl
      have hy3 : gI τ3 310 13 = 121 := by rw [sM.1 310 13 rfl]; exact hy
      have eo : ∀ i, i < n → gI σ3 (49 + 4 * j) i = gI σ (49 + 4 * j) i ∧ gI σ3 (50 + 4 * j) i = gI σ (50 + 4 * j) i := fun i hi => by
        rw [← hσ, sI_sI, sI_sI]; exact cur_codes i hi
      have hC : OUTC 0 j a B b L ℓ n n p σ τ (fX3_clause_b50 (48 + 4 * j) σ3) (fX10_clause_b64 310 121 τ3) := by
        have k := X_when (show n ≤ P by omega) hy3 (q_con h3 (by omega))
        have k2 := OUTC.pre (z' := 0) k (show p ≤ P by omega) (by omega) sC sM eo
        unfold fX3_clause_b50 fX3_clause_b51
        rw [if_pos rfl]
        unfold fX3_clause_b66
        rw [if_pos rfl]
        exact k2
      by_cases g1 : g = 33
      · rw [if_pos g1, if_pos g1]; exact hC
      · rw [if_neg g1, if_neg g1]
        by_cases g2 : g = 40
        · rw [if_pos g2, if_pos g2]; exact hC
        · rw [if_neg g2, if_neg g2]
          exact OUTC.pre (X_say h3 (by omega) hy3) (show p ≤ P by omega) (by omega) sC sM eo
    · left
      rw [if_neg q2, if_neg q2, bnd2_some, if_pos rfl, bnd2_some, if_pos rfl]
      exact ⟨sk b L (sk b L p + 1), _, _, rfl, by rw [gI_sI, if_pos ⟨rfl, rfl⟩], rfl, by rw [gI_sI, if_pos ⟨rfl, rfl⟩], by omega, ((Sm.rf.sI rfl).sI rfl).sI rfl, ((Sm.rf.sI rfl).sI rfl).sI rfl⟩
  · left
    have h0 := h.ncur
    rw [if_neg q, if_neg q, bnd2_some, if_pos rfl, if_pos rfl, m_fails h0.tm h0.ok, bnd2_some]
    exact ⟨sk b L p, _, _, rfl, by rw [gI_sI, if_pos ⟨rfl, rfl⟩], rfl, by rw [gI_sI, if_pos ⟨rfl, rfl⟩], by omega, (Sm.rf.sI rfl).sI rfl, (Sm.rf.sI rfl).sI rfl⟩
end LawG
