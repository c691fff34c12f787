/-! the fresh memory -/
section Fresh
variable {σ : Mm}
def FRESH (σ : Mm) : Prop := RF σ ∧ RM σ ∧ gR σ 11 2 = none ∧ (∀ c k, gL σ c k = 0) ∧ (∀ c k, ¬ (c = 0 ∧ k = 16) → ¬ (c = 1 ∧ k = 3) → ¬ (c = 310 ∧ k = 36) → gI σ c k = 0) ∧ gI σ 0 16 = -1 ∧ gI σ 310 36 = -1
theorem ALL0 (h : FRESH σ) : ALL 0 σ := by
  obtain ⟨hF, hR, h1, h2, h3, h4, h5⟩ := h
  have z : ∀ c k, ¬ (c = 0 ∧ k = 16) → ¬ (c = 1 ∧ k = 3) → ¬ (c = 310 ∧ k = 36) → gI σ c k = nI 0 := h3
  obtain ⟨a0, a1, a2, a3⟩ := hF.2.2.1 3 (Or.inl rfl)
  have l4 : ln 4 = 5 ∧ ln 5 = 48 ∧ ln 6 = 24 := by decide +kernel
  refine ⟨false, 0, 0, 0, 0, fun _ => 0, fun _ => 0, fun _ => 0, 0, fun _ _ _ _ _ _ _ => 0, none, 0, fun _ => 0, 0, fun _ _ => 0, 0, fun _ _ => 0, ⟨⟨hF, ⟨by omega, by omega, by omega, by omega, rfl, rfl, fun y => by omega, fun _ => ⟨rfl, rfl, rfl⟩, fun p hp => by omega, fun r hr => by omega, ⟨0, by omega, rfl⟩, ⟨0, by omega, rfl⟩, 0, by omega, rfl⟩, ⟨a1, a2, a3, l4.1, l4.2.1, l4.2.2, z _ _ (by omega) (by omega) (by omega), z _ _ (by omega) (by omega) (by omega), fun k hk => z _ _ (by omega) (by omega) (by omega), fun k hk => by omega, fun k hk => by omega⟩, h1, ⟨z _ _ (by omega) (by omega) (by omega), fun y => (by cases y), Or.inr rfl⟩, ⟨by omega, z _ _ (by omega) (by omega) (by omega), 0, by omega, z _ _ (by omega) (by omega) (by omega), fun u hu => by omega⟩, by omega, z _ _ (by omega) (by omega) (by omega), 0, by omega, z _ _ (by omega) (by omega) (by omega), fun i j hi => by omega⟩, ⟨⟨⟨hR, z _ _ (by omega) (by omega) (by omega), z _ _ (by omega) (by omega) (by omega), z _ _ (by omega) (by omega) (by omega), fun k hk => z _ _ (by omega) (by omega) (by omega), fun k hk => by omega, fun k hk => by omega⟩, by omega, fun j hj => by omega, fun zz t c b d s n j hz g1 g2 g3 g4 g5 g6 g7 e => ?_, Or.inl ⟨h5, rfl⟩⟩, fun k hk => z _ _ (by omega) (by omega) (by omega), ⟨by omega, z _ _ (by omega) (by omega) (by omega), fun i j hi => by omega⟩, by omega, z _ _ (by omega) (by omega) (by omega), fun u hu => by omega⟩, fun k hk => ⟨0, by omega, rfl⟩, ⟨fun _ _ _ _ _ => rfl, fun _ _ _ => rfl⟩, fun u hu => by omega, by omega⟩, Or.inr rfl, ⟨⟨fun _ => 0, 0, by omega, z _ _ (by omega) (by omega) (by omega), z _ _ (by omega) (by omega) (by omega), fun k hk => by omega⟩, ⟨z _ _ (by omega) (by omega) (by omega), z _ _ (by omega) (by omega) (by omega), fun j hj => by omega⟩, h4.trans h5.symm, ⟨0, by omega, z _ _ (by omega) (by omega) (by omega), z _ _ (by omega) (by omega) (by omega)⟩, ⟨0, by omega, z _ _ (by omega) (by omega) (by omega), z _ _ (by omega) (by omega) (by omega), fun j hj => by omega⟩, Or.inl ⟨h3 _ _ (by omega) (by omega) (by omega), h3 _ _ (by omega) (by omega) (by omega)⟩⟩, by omega⟩
  rw [h2] at e
  have e1 := congrArg Int64.toInt e
  have e2 : (lN (mKy t c b d s n j)).toInt = (mKy t c b d s n j : Int) := lg_ofNat_toInt (by unfold mKy; omega)
  rw [e2] at e1
  have : (0 : Int64).toInt = 0 := by decide
  unfold mKy at e1
  omega
end Fresh
