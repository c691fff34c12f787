/-! text: a hall opened; the model -/
section OpenM
variable {σ τ : Mm} {np nr W H : Nat} {ru pg rd : Nat → Int32}
theorem cpL {f : Int32 × Mm → Option ((Int32 × Mm) ⊕ Mm)} (src dst n : Nat) (hn : n < 1000) (hne : src ≠ dst) (hs : ∀ i x, i < n → Sm (fun c _ => c == dst) τ x → f (nI i, x) = some (Sum.inl (nI i + 1, sI x dst i (gI x src i)))) (he : ∀ x, Sm (fun c _ => c == dst) τ x → f (nI n, x) = some (Sum.inr x)) : ∃ x, wh f BIG (0, τ) = some x ∧ (Sm (fun c _ => c == dst) τ x ∧ ∀ k, k < n → gI x dst k = gI τ src k) := by
  refine wh_inv (fun i a => a.1 = nI i ∧ Sm (fun c _ => c == dst) τ a.2 ∧ ∀ k, k < i → gI a.2 dst k = gI τ src k) _ n BIG 0 _ (Nat.zero_le _) (by unfold BIG; omega) ⟨rfl, Sm.rf, fun k hk => by omega⟩ ?_ ?_
  · rintro i ⟨j, x⟩ hi ⟨e2, e3, e4⟩
    simp only at e2 e3 e4
    subst e2
    left
    refine ⟨_, hs i x hi e3, nI_1 i, e3.sI (by simp), fun k hk => ?_⟩
    dsimp only
    rw [gI_sI]
    by_cases z : k = i
    · rw [if_pos ⟨rfl, z⟩, z, e3.1 src i (by simp; exact hne)]
    · rw [if_neg (fun y => z y.2)]; exact e4 k (by omega)
  · rintro ⟨j, x⟩ ⟨e2, e3, e4⟩
    simp only at e2 e3 e4
    subst e2
    exact ⟨x, he x e3, e3, e4⟩
theorem m_w223 (r : RM τ) : ∃ x, fX10_text_w223 310 0 τ = some x ∧ Sm (fun c _ => c == 315) τ x ∧ ∀ k, k < 5 → gI x 315 k = gI τ 316 k := by
  have r18 : gR τ 310 18 = some 315 := r.2.2.2.2.2.2.1
  unfold fX10_text_w223
  refine cpL 316 315 5 (by omega) (by omega) (fun i x hi s => ?_) (fun x s => ?_)
  · unfold fX10_text_l223
    rw [if_neg (show ¬ (5 : Int32) ≤ nI i from fun z => absurd ((leT (a := 5) (by omega) (by omega)).mp z) (by omega)), s.2.2 _ _ (by omega), r18, Option.bind_some, s.2.2 _ _ (by omega), r.r19, Option.bind_some, lnM.2.2.2.2.1, lnM.2.2.2.2.2.1, if_pos (ixT (by omega) (by omega)), if_pos (ixT (by omega) (by omega)), clT (by omega)]
  · unfold fX10_text_l223
    rw [if_pos (show (5 : Int32) ≤ nI 5 by decide)]
theorem m_w248 (r : RM τ) : ∃ x, fX10_text_w248 310 0 τ = some x ∧ Sm (fun c _ => c == 317) τ x ∧ ∀ k, k < 48 → gI x 317 k = gI τ 318 k := by
  have r20 : gR τ 310 20 = some 317 := r.2.2.2.2.2.2.2.2.1
  unfold fX10_text_w248
  refine cpL 318 317 48 (by omega) (by omega) (fun i x hi s => ?_) (fun x s => ?_)
  · unfold fX10_text_l248
    rw [if_neg (show ¬ (48 : Int32) ≤ nI i from fun z => absurd ((leT (a := 48) (by omega) (by omega)).mp z) (by omega)), s.2.2 _ _ (by omega), r20, Option.bind_some, s.2.2 _ _ (by omega), r.r21, Option.bind_some, lnM.2.2.2.2.2.2.1, lnM.2.2.2.2.2.2.2.1, if_pos (ixT (by omega) (by omega)), if_pos (ixT (by omega) (by omega)), clT (by omega)]
  · unfold fX10_text_l248
    rw [if_pos (show (48 : Int32) ≤ nI 48 by decide)]
theorem m_w274 (r : RM τ) : ∃ x, fX10_text_w274 310 0 τ = some x ∧ Sm (fun c _ => c == 319) τ x ∧ ∀ k, k < 24 → gI x 319 k = gI τ 320 k := by
  have r22 : gR τ 310 22 = some 319 := r.2.2.2.2.2.2.2.2.2.2.1
  unfold fX10_text_w274
  refine cpL 320 319 24 (by omega) (by omega) (fun i x hi s => ?_) (fun x s => ?_)
  · unfold fX10_text_l274
    rw [if_neg (show ¬ (24 : Int32) ≤ nI i from fun z => absurd ((leT (a := 24) (by omega) (by omega)).mp z) (by omega)), s.2.2 _ _ (by omega), r22, Option.bind_some, s.2.2 _ _ (by omega), r.r23, Option.bind_some, lnM.2.2.2.2.2.2.2.2.1, lnM.2.2.2.2.2.2.2.2.2.1, if_pos (ixT (by omega) (by omega)), if_pos (ixT (by omega) (by omega)), clT (by omega)]
  · unfold fX10_text_l274
    rw [if_pos (show (24 : Int32) ≤ nI 24 by decide)]
theorem m_w317 (r33 : gR τ 310 33 = some 323) : ∃ x, fX10_text_w317 310 0 τ = some x ∧ Sm (fun c _ => c == 323) τ x ∧ ∀ k, k < 351 → gI x 323 k = 0 := by
  unfold fX10_text_w317
  refine wh_inv (fun i a => a.1 = nI i ∧ Sm (fun c _ => c == 323) τ a.2 ∧ ∀ k, k < i → gI a.2 323 k = 0) _ 351 BIG 0 _ (Nat.zero_le _) (by unfold BIG; omega) ⟨rfl, Sm.rf, fun k hk => by omega⟩ ?_ ?_
  · rintro i ⟨j, x⟩ hi ⟨e2, e3, e4⟩
    simp only at e2 e3 e4
    subst e2
    left
    unfold fX10_text_l317
    rw [if_neg (show ¬ (351 : Int32) ≤ nI i from fun z => absurd ((leT (a := 351) (by omega) (by omega)).mp z) (by omega)), e3.2.2 _ _ (by omega), r33, Option.bind_some, ln323, if_pos (ixT (by omega) (by omega)), clT (by omega)]
    refine ⟨_, rfl, nI_1 i, e3.sI (by simp), fun k hk => ?_⟩
    dsimp only
    rw [gI_sI]
    by_cases z : k = i
    · rw [if_pos ⟨rfl, z⟩]
    · rw [if_neg (fun y => z y.2)]; exact e4 k (by omega)
  · rintro ⟨j, x⟩ ⟨e2, e3, e4⟩
    simp only at e2 e3 e4
    subst e2
    unfold fX10_text_l317
    rw [if_pos (show (351 : Int32) ≤ nI 351 by decide)]
    exact ⟨_, rfl, e3, e4⟩
theorem m_w339 (r33 : gR τ 310 33 = some 323) (r20 : gR τ 310 20 = some 317) (h27 : gI τ 310 27 = nI np) (g1 : np ≤ 12) (hz : ∀ k, k < 351 → gI τ 323 k = 0) (hp : ∀ k, k < 4 * np → gI τ 317 k = pg k) : ∃ x, fX10_text_w339 310 0 τ = some x ∧ Sm (fun c _ => c == 323) τ x ∧ ∀ k, k < 351 → gI x 323 k = if k < 2 * np then (if k % 2 = 0 then pg (4 * (k / 2) + 1) else pg (4 * (k / 2) + 3)) else 0 := by
  unfold fX10_text_w339
  refine wh_inv (fun i a => a.1 = nI i ∧ Sm (fun c _ => c == 323) τ a.2 ∧ ∀ k, k < 351 → gI a.2 323 k = if k < 2 * i then (if k % 2 = 0 then pg (4 * (k / 2) + 1) else pg (4 * (k / 2) + 3)) else 0) _ np BIG 0 _ (Nat.zero_le _) (by unfold BIG; omega) ⟨rfl, Sm.rf, fun k hk => by rw [if_neg (by omega)]; exact hz k hk⟩ ?_ ?_
  · rintro i ⟨j, x⟩ hi ⟨e2, e3, e4⟩
    simp only at e2 e3 e4
    subst e2
    left
    have i1 : (4 : Int32) * nI i + 1 = nI (4 * i + 1) := by rw [show (4 : Int32) = nI 4 from rfl, pk_mul, nI_1]
    have i3 : (4 : Int32) * nI i + 3 = nI (4 * i + 3) := by rw [show (4 : Int32) = nI 4 from rfl, show (3 : Int32) = nI 3 from rfl, pk_mul, nI_add]
    have c0 : Int32.toNatClampNeg (nI (2 * i)) = 2 * i := clT (by omega)
    have c1 : Int32.toNatClampNeg (nI (2 * i + 1)) = 2 * i + 1 := clT (by omega)
    have c2 : Int32.toNatClampNeg (nI (4 * i + 1)) = 4 * i + 1 := clT (by omega)
    have c3 : Int32.toNatClampNeg (nI (4 * i + 3)) = 4 * i + 3 := clT (by omega)
    have hq : ∀ v, gI (sI x 323 (2 * i) v) 317 (4 * i + 3) = pg (4 * i + 3) := fun v => by
      rw [gI_sI, if_neg (by omega), e3.1 317 _ rfl]; exact hp _ (by omega)
    unfold fX10_text_l339
    rw [e3.1 310 27 rfl, h27, if_neg (show ¬ nI np ≤ nI i from fun z => absurd ((leT (by omega) (by omega)).mp z) (by omega)), e3.2.2 _ _ (by omega), r33, Option.bind_some, e3.2.2 _ _ (by omega), r20, Option.bind_some, lnM.2.2.2.2.2.2.1, ln323, i1, i3, i2p, nI_1 (2 * i), if_pos (ixT (by omega) (by omega)), if_pos (ixT (by omega) (by omega)), if_pos (ixT (by omega) (by omega)), if_pos (ixT (by omega) (by omega)), c0, c1, c2, c3, e3.1 317 _ rfl, hp _ (by omega), hq]
    refine ⟨_, rfl, nI_1 i, (e3.sI (by simp)).sI (by simp), fun k hk => ?_⟩
    dsimp only
    rw [gI_sI, gI_sI]
    by_cases z : k = 2 * i + 1
    · rw [if_pos ⟨rfl, z⟩, if_pos (by omega), if_neg (by omega), show k / 2 = i by omega]
    · rw [if_neg (fun y => z y.2)]
      by_cases z2 : k = 2 * i
      · rw [if_pos ⟨rfl, z2⟩, if_pos (by omega), if_pos (by omega), show k / 2 = i by omega]
      · rw [if_neg (fun y => z2 y.2), e4 k hk]
        by_cases q : k < 2 * i
        · rw [if_pos q, if_pos (show k < 2 * (i + 1) by omega)]
        · rw [if_neg q, if_neg (show ¬ k < 2 * (i + 1) by omega)]
  · rintro ⟨j, x⟩ ⟨e2, e3, e4⟩
    simp only at e2 e3 e4
    subst e2
    unfold fX10_text_l339
    rw [e3.1 310 27 rfl, h27, if_pos (Int32.le_refl _)]
    exact ⟨_, rfl, e3, e4⟩
theorem m_w393 (r33 : gR τ 310 33 = some 323) (r22 : gR τ 310 22 = some 319) (h28 : gI τ 310 28 = nI nr) (g2 : nr ≤ 6) (hp : ∀ k, k < 4 * nr → gI τ 319 k = rd k) (hz : ∀ k, 24 ≤ k → k < 351 → gI τ 323 k = 0) : ∃ x, fX10_text_w393 310 0 τ = some x ∧ Sm (fun c _ => c == 323) τ x ∧ (∀ k, k < 24 → gI x 323 k = gI τ 323 k) ∧ ∀ k, 24 ≤ k → k < 351 → gI x 323 k = if (k - 24) % 14 = 0 ∧ (k - 24) / 14 < nr then rd (4 * ((k - 24) / 14)) else 0 := by
  unfold fX10_text_w393
  refine wh_inv (fun i a => a.1 = nI i ∧ Sm (fun c _ => c == 323) τ a.2 ∧ (∀ k, k < 24 → gI a.2 323 k = gI τ 323 k) ∧ ∀ k, 24 ≤ k → k < 351 → gI a.2 323 k = if (k - 24) % 14 = 0 ∧ (k - 24) / 14 < i then rd (4 * ((k - 24) / 14)) else 0) _ nr BIG 0 _ (Nat.zero_le _) (by unfold BIG; omega) ⟨rfl, Sm.rf, fun k hk => rfl, fun k h1 h2 => by rw [if_neg (by omega)]; exact hz k h1 h2⟩ ?_ ?_
  · rintro i ⟨j, x⟩ hi ⟨e2, e3, e5, e4⟩
    simp only at e2 e3 e4 e5
    subst e2
    left
    have i1 : (4 : Int32) * nI i = nI (4 * i) := by rw [show (4 : Int32) = nI 4 from rfl, pk_mul]
    have i3 : (24 : Int32) + 14 * nI i = nI (24 + 14 * i) := by rw [show (24 : Int32) = nI 24 from rfl, show (14 : Int32) = nI 14 from rfl, pk_mul, nI_add]
    have c0 : Int32.toNatClampNeg (nI (4 * i)) = 4 * i := clT (by omega)
    have c1 : Int32.toNatClampNeg (nI (24 + 14 * i)) = 24 + 14 * i := clT (by omega)
    unfold fX10_text_l393
    rw [e3.1 310 28 rfl, h28, if_neg (show ¬ nI nr ≤ nI i from fun z => absurd ((leT (by omega) (by omega)).mp z) (by omega)), e3.2.2 _ _ (by omega), r33, Option.bind_some, e3.2.2 _ _ (by omega), r22, Option.bind_some, lnM.2.2.2.2.2.2.2.2.1, ln323, i1, i3, if_pos (ixT (by omega) (by omega)), if_pos (ixT (by omega) (by omega)), c0, c1, e3.1 319 _ rfl, hp _ (by omega)]
    refine ⟨_, rfl, nI_1 i, e3.sI (by simp), fun k hk => ?_, fun k h1 h2 => ?_⟩
    · dsimp only
      rw [gI_sI, if_neg (by omega)]; exact e5 k hk
    · dsimp only
      rw [gI_sI]
      by_cases z : k = 24 + 14 * i
      · rw [if_pos ⟨rfl, z⟩, if_pos (by omega), show (k - 24) / 14 = i by omega]
      · rw [if_neg (fun y => z y.2), e4 k h1 h2]
        by_cases q : (k - 24) % 14 = 0 ∧ (k - 24) / 14 < i
        · rw [if_pos q, if_pos (by omega)]
        · rw [if_neg q, if_neg (by omega)]
  · rintro ⟨j, x⟩ ⟨e2, e3, e5, e4⟩
    simp only at e2 e3 e4 e5
    subst e2
    unfold fX10_text_l393
    rw [e3.1 310 28 rfl, h28, if_pos (Int32.le_refl _)]
    exact ⟨_, rfl, e3, e5, e4⟩
end OpenM
