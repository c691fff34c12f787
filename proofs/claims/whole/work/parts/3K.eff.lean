/-! plans: what a step does -/
section Eff
variable {σ τ : Mm} {D np nr W H S acts nl t b m : Nat} {ru pg rd w : Nat → Int32} {F : Nat → LF} {lw : Option LF} {jl pw : Nat → Nat → Int32} {κ ρ θ : Int32}
def Eff (np nr W H : Nat) (ru pg rd : Nat → Int32) (lw : Option LF) (D : Nat) (w : Nat → Int32) (κ ρ θ : Int32) (w' : Nat → Int32) (lost : Int32) (D' : Nat) : Prop :=
  (κ = 0 ∧ ∃ r p, r < nr ∧ p < np ∧ ρ = nI r ∧ θ = nI p ∧ w' = sRead lw np nr ru pg rd w r p ∧ lost = sReadL lw np nr ru pg rd w r p ∧ D' = D) ∨
  (κ = 1 ∧ ∃ r p, r < nr ∧ p < np ∧ ρ = nI r ∧ θ = nI p ∧ ¬ w (26 + 14 * r + p) = 0 ∧ w' = sRecut pg w r p ∧ lost = 0 ∧ D' = D) ∨
  (κ = 2 ∧ ∃ r c, r < nr ∧ c < W * H ∧ ρ = nI r ∧ θ = nI c ∧ w' = sGo w r (nI c) ∧ lost = 0 ∧ D' = D) ∨
  (κ = 3 ∧ ρ = -1 ∧ θ = -1 ∧ w' = sNight ru np w ∧ lost = sNightL ru np w ∧ D' = D + 1)
theorem Eff.ok {w' : Nat → Int32} {lost : Int32} {D' : Nat} (h : Eff np nr W H ru pg rd lw D w κ ρ θ w' lost D') (g : HB np nr W H ru pg rd) (hU : WU D w) (hZ : WZ np nr w) : WU D' w' ∧ WZ np nr w' ∧ D ≤ D' ∧ D' ≤ D + 1 := by
  have g1 := g.1
  rcases h with ⟨-, r, p, hr, hp, -, -, rfl, -, rfl⟩ | ⟨-, r, p, hr, hp, -, -, hk, rfl, -, rfl⟩ | ⟨-, r, c, hr, hc, -, -, rfl, -, rfl⟩ | ⟨-, -, -, rfl, -, rfl⟩
  · exact ⟨hU.read g hr hp, hZ.read g hr hp, by omega, by omega⟩
  · exact ⟨hU.recut g hr hp hk, hZ.recut g1 hr hp, by omega, by omega⟩
  · exact ⟨hU.go g hr hc, hZ.go hr, by omega, by omega⟩
  · exact ⟨hU.night g, hZ.night g1, by omega, by omega⟩
def mcan (m : Nat) (κ ρ θ : Int32) (τ : Mm) : Option Int32 := if κ = 0 then fX10_canRead 310 m ρ θ τ else if κ = 1 then fX10_canRecut 310 m ρ θ τ else if κ = 2 then fX10_canGo 310 m ρ θ τ else some 1
def mdo (m : Nat) (κ ρ θ : Int32) (τ : Mm) : Option Mm := if κ = 0 then bnd2 (fX10_reads 310 m ρ θ τ) fun _ s => some s else if κ = 1 then fX10_recuts 310 m ρ θ τ else if κ = 2 then fX10_goes m ρ θ τ else fX10_goNight 310 m τ
theorem kdl : kd 0 = 0 ∧ kd 1 = 1 ∧ kd 2 = 2 ∧ kd 3 = 4 := by decide
theorem plan_may (g : HB np nr W H ru pg rd) (hnp : 0 < np) (hs : StepOK κ ρ θ) (hH : HC σ 3 np nr ru pg rd) (hw : WR σ) (hR : SR σ b) (hS : SC σ b w) (hM : HM τ np nr W H ru pg rd) (hl : ln m = 351) (hm : MW τ m w) (hU : WU D w) :
    (fX8_may 11 b (kd κ) ρ θ σ = some 0 ∧ mcan m κ ρ θ τ = some 0) ∨ (∃ v v', fX8_may 11 b (kd κ) ρ θ σ = some v ∧ ¬ v = 0 ∧ mcan m κ ρ θ τ = some v' ∧ ¬ v' = 0 ∧ ∃ w' lost D', Eff np nr W H ru pg rd lw D w κ ρ θ w' lost D') := by
  unfold mcan
  obtain ⟨k0, k1, k2, k3⟩ := kdl
  rcases hs with ⟨hκ, -, -⟩ | ⟨rfl, rfl, rfl⟩
  · rcases hκ with rfl | rfl | rfl
    · rw [k0, if_pos rfl]
      by_cases hx : ∃ r, r < nr ∧ ρ = nI r
      · obtain ⟨r, hr, rfl⟩ := hx
        by_cases hy : ∃ p, p < np ∧ θ = nI p
        · obtain ⟨p, hp, rfl⟩ := hy
          rw [c_may_read g hH hw hR hS hr hp, m_canRead g hM hl hm hr hp]
          by_cases q : sMayR ru pg rd w r p = 0
          · rw [q]; exact Or.inl ⟨rfl, rfl⟩
          · exact Or.inr ⟨_, _, rfl, q, rfl, q, _, _, _, Or.inl ⟨rfl, r, p, hr, hp, rfl, rfl, rfl, rfl, rfl⟩⟩
        · exact Or.inl ⟨c_may_read_out g hH hw hS hr hy, m_canRead_out g hM hl hm (Or.inr hy)⟩
      · exact Or.inl ⟨c_may_none g hH hw (by decide) (by decide) hx, m_canRead_out g hM hl hm (Or.inl hx)⟩
    · rw [k1, if_neg (by decide), if_pos rfl]
      by_cases hx : ∃ r, r < nr ∧ ρ = nI r
      · obtain ⟨r, hr, rfl⟩ := hx
        by_cases hy : ∃ p, p < np ∧ θ = nI p
        · obtain ⟨p, hp, rfl⟩ := hy
          rw [c_may_recut g hH hw hR hS hr hp, m_canRecut g hM hl hm hU.wb hr hp]
          by_cases q : sMayC ru pg rd w r p = 0
          · rw [q]; exact Or.inl ⟨rfl, rfl⟩
          · have hk : ¬ w (26 + 14 * r + p) = 0 := fun z => q (by unfold sMayC; rw [if_pos z]; split <;> rfl)
            exact Or.inr ⟨_, _, rfl, q, rfl, q, _, _, _, Or.inr (Or.inl ⟨rfl, r, p, hr, hp, rfl, rfl, hk, rfl, rfl, rfl⟩)⟩
        · exact Or.inl ⟨c_may_recut_out g hH hw hS hr hy, m_canRecut_out g hM hl hm (Or.inr hy)⟩
      · exact Or.inl ⟨c_may_none g hH hw (by decide) (by decide) hx, m_canRecut_out g hM hl hm (Or.inl hx)⟩
    · rw [k2, if_neg (by decide), if_neg (by decide), if_pos rfl]
      by_cases hx : ∃ r, r < nr ∧ ρ = nI r
      · obtain ⟨r, hr, rfl⟩ := hx
        by_cases hy : ∃ c, c < W * H ∧ θ = nI c
        · obtain ⟨c, hc, rfl⟩ := hy
          rw [c_may_go g hH hw hR hS hr hnp hc, m_canGo g hM hl hm hnp hr hc]
          by_cases q : sMayG ru rd w r (nI c) = 0
          · rw [q]; exact Or.inl ⟨rfl, rfl⟩
          · exact Or.inr ⟨_, _, rfl, q, rfl, q, _, _, _, Or.inr (Or.inr (Or.inl ⟨rfl, r, c, hr, hc, rfl, rfl, rfl, rfl, rfl⟩))⟩
        · exact Or.inl ⟨c_may_go_out g hH hw hS hr hy, m_canGo_out g hM hl hm (Or.inr hy)⟩
      · exact Or.inl ⟨c_may_none g hH hw (by decide) (by decide) hx, m_canGo_out g hM hl hm (Or.inl hx)⟩
  · rw [k3, if_neg (by decide), if_neg (by decide), if_neg (by decide), c_may_night g hH hw, if_pos hnp]
    exact Or.inr ⟨1, 1, rfl, by decide, rfl, by decide, _, _, _, Or.inr (Or.inr (Or.inr ⟨rfl, rfl, rfl, rfl, rfl, rfl⟩))⟩
theorem eff_carry {w' : Nat → Int32} {lost : Int32} {D' : Nat} (h : Eff np nr W H ru pg rd lw D w κ ρ θ w' lost D') (g : HB np nr W H ru pg rd) (hH : HC σ 3 np nr ru pg rd) (hw : WR σ) (hR : SR σ b) (hS : SC σ b w) (hl : LW σ lw) (hb : SB b) : ∃ σ', fX8_carryOut 11 b (kd κ) ρ θ σ = some (lost, σ') ∧ Sm (sX b) σ σ' ∧ SC σ' b w' := by
  obtain ⟨k0, k1, k2, k3⟩ := kdl
  rcases h with ⟨rfl, r, p, hr, hp, rfl, rfl, rfl, rfl, rfl⟩ | ⟨rfl, r, p, hr, hp, rfl, rfl, hk, rfl, rfl, rfl⟩ | ⟨rfl, r, c, hr, hc, rfl, rfl, rfl, rfl, rfl⟩ | ⟨rfl, rfl, rfl, rfl, rfl, rfl⟩
  · rw [k0]; exact c_read g hH hw hR hS hl hb hr hp
  · rw [k1]; exact c_recut g hH hw hR hS hb hr hp
  · rw [k2]; exact c_go g hH hw hR hS hb hr _
  · rw [k3]; exact c_night g hH hw hR hS hb _ _
theorem eff_act {w' : Nat → Int32} {lost : Int32} {D' : Nat} (h : Eff np nr W H ru pg rd lw D w κ ρ θ w' lost D') (hC : CC σ np nr W H ru pg rd lw w S jl acts pw) : ∃ σ', fX9_act 0 (kd κ) ρ θ σ = some σ' ∧ Sm sAc σ σ' ∧ CC σ' np nr W H ru pg rd lw w' (min 100 (S + 1)) (sJ jl (kd κ) ρ θ lost) (min 40 (acts + 1)) (sPw w pw) := by
  obtain ⟨k0, k1, k2, k3⟩ := kdl
  rcases h with ⟨rfl, r, p, hr, hp, rfl, rfl, rfl, rfl, rfl⟩ | ⟨rfl, r, p, hr, hp, rfl, rfl, hk, rfl, rfl, rfl⟩ | ⟨rfl, r, c, hr, hc, rfl, rfl, rfl, rfl, rfl⟩ | ⟨rfl, rfl, rfl, rfl, rfl, rfl⟩
  · rw [k0]; exact C_read hC hr hp
  · rw [k1]; exact C_recut hC hr hp
  · rw [k2]; exact C_go hC hr _
  · rw [k3]; exact C_night hC _ _
theorem eff_do {w' : Nat → Int32} {lost : Int32} {D' cnt : Nat} {e : Nat → Nat → Int32} (h : Eff np nr W H ru pg rd lw D w κ ρ θ w' lost D') (g : HB np nr W H ru pg rd) (hE : ME τ np nr W H ru pg rd nl F lw) (hmm : m = 323 ∨ m = 324) (hm : MW τ m w) (hg : MLg τ m cnt e) (hU : WU D w) (hZ : WZ np nr w) (hD : D < 2147483000) : ∃ τ', mdo m κ ρ θ τ = some τ' ∧ Sm (sQ m) τ τ' ∧ ME τ' np nr W H ru pg rd nl F lw ∧ MW τ' m w' ∧ MLg τ' m (sLogN cnt) (sLog cnt e (kd κ) ρ θ lost) := by
  have g2 := g.2.1
  obtain ⟨k0, k1, k2, k3⟩ := kdl
  have up : ∀ {a b : Mm}, Sm (sM m) a b → Sm (sQ m) a b := fun s => s.mono (fun c k hc => sM_Q hc)
  unfold mdo
  rcases h with ⟨rfl, r, p, hr, hp, rfl, rfl, rfl, rfl, rfl⟩ | ⟨rfl, r, p, hr, hp, rfl, rfl, hk, rfl, rfl, rfl⟩ | ⟨rfl, r, c, hr, hc, rfl, rfl, rfl, rfl, rfl⟩ | ⟨rfl, rfl, rfl, rfl, rfl, rfl⟩
  · obtain ⟨s, a1, a2, a3, a4, a5⟩ := m_reads g hE hmm hm hg hU (by omega) hr hp
    rw [k0, if_pos rfl, a1, bnd2_some]
    exact ⟨s, rfl, a2, a3, a4, a5⟩
  · obtain ⟨s, a1, a2, a4, a5⟩ := m_recuts g hE hmm hm hg hr hp
    rw [k1, if_neg (by decide), if_pos rfl, a1]
    exact ⟨s, rfl, up a2, hE.sm a2 (sM_core (by omega)), a4, a5⟩
  · obtain ⟨s, a1, a2, a4, a5⟩ := m_goes hmm hm hg (show r < 6 by omega) (nI c)
    rw [k2, if_neg (by decide), if_neg (by decide), if_pos rfl, a1]
    exact ⟨s, rfl, up a2, hE.sm a2 (sM_core (by omega)), a4, a5⟩
  · obtain ⟨s, a1, a2, a4, a5⟩ := m_goNight g hE hmm hm hg hU hZ
    rw [k3, if_neg (by decide), if_neg (by decide), if_neg (by decide), a1]
    exact ⟨s, rfl, up a2, hE.sm a2 (sM_core (by omega)), a4, a5⟩
/-- the model's step, read from its row -/
theorem m_row {j n i : Nat} {κ ρ θ : Nat → Int32} (r24 : gR τ 310 24 = some 321) (h : PM1 τ j n κ ρ θ) (hj : j < 4) (h16 : n ≤ 16) (hi : i < n) : fX10_canStep 310 m (nI (48 * j + 3 * i)) τ = mcan m (κ i) (ρ i) (θ i) τ ∧ fX10_steps 310 m (nI (48 * j + 3 * i)) τ = mdo m (κ i) (ρ i) (θ i) τ := by
  obtain ⟨a1, a2, a3⟩ := h.2 i hi
  have x0 : ixB (nI (48 * j + 3 * i)) 240 = true := ixT (by omega) (by omega)
  have x1 : ixB (nI (48 * j + 3 * i + 1)) 240 = true := ixT (by omega) (by omega)
  have x2 : ixB (nI (48 * j + 3 * i + 2)) 240 = true := ixT (by omega) (by omega)
  have c0 : Int32.toNatClampNeg (nI (48 * j + 3 * i)) = 48 * j + 3 * i := clT (by omega)
  have c1 : Int32.toNatClampNeg (nI (48 * j + 3 * i + 1)) = 48 * j + 3 * i + 1 := clT (by omega)
  have c2 : Int32.toNatClampNeg (nI (48 * j + 3 * i + 2)) = 48 * j + 3 * i + 2 := clT (by omega)
  have n1 : nI (48 * j + 3 * i) + 1 = nI (48 * j + 3 * i + 1) := nI_1 _
  have n2 : nI (48 * j + 3 * i) + 2 = nI (48 * j + 3 * i + 2) := by rw [show (2 : Int32) = nI 2 from rfl, nI_add]
  have bi : ∀ {α : Type} (o : Option α), (o.bind fun x => some x) = o := fun o => by cases o <;> rfl
  unfold fX10_canStep fX10_steps mcan mdo
  simp only [r24, Option.bind_some, ln321.1, n1, n2, x0, x1, x2, if_true, c0, c1, c2, a1, a2, a3, bi]
  exact ⟨trivial, trivial⟩
end Eff
