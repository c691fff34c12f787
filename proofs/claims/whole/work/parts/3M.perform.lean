/-! plans: perform -/
section Perf
variable {σ τ : Mm} {D np nr W H S acts nl t j n npl : Nat} {ru pg rd w : Nat → Int32} {F : Nat → LF} {lw : Option LF} {jl pw : Nat → Nat → Int32} {κ ρ θ : Nat → Int32} {z : Bool}
theorem X_perfL (h : CX np nr W H ru pg rd nl F lw D w S jl acts pw σ τ) (hnp : 0 < np) (hD : D < 2147400000) (hj : j < 4) (n16 : n ≤ 16) (ok : ∀ i, i < n → StepOK (κ i) (ρ i) (θ i)) (p1 : PC1 σ j n κ ρ θ) (p2 : PM1 τ j n κ ρ θ) :
    ∃ b d, fX9_perform_w29 0 (69 + 4 * j) 0 σ = some b ∧ fX10_perform_w24 310 (nI j) 0 τ = some d ∧ b.1 = d.1 ∧ ∃ D' w' S' jl' acts' pw', CX np nr W H ru pg rd nl F lw D' w' S' jl' acts' pw' b.2 d.2 ∧ D' ≤ D + 16 ∧ Sm sAc σ b.2 ∧ Sm sAm τ d.2 := by
  have g := h.g
  unfold fX9_perform_w29 fX10_perform_w24
  refine wh_two (fun i a c => a.1 = nI i ∧ c.1 = nI i ∧ ∃ D' w' S' jl' acts' pw', CX np nr W H ru pg rd nl F lw D' w' S' jl' acts' pw' a.2 c.2 ∧ D' ≤ D + i ∧ Sm sAc σ a.2 ∧ Sm sAm τ c.2) _ n BIG 0 _ _ (Nat.zero_le _) (by unfold BIG; omega) ⟨rfl, rfl, D, w, S, jl, acts, pw, h, by omega, Sm.rf, Sm.rf⟩ ?_ ?_
  · rintro i ⟨j1, s⟩ ⟨j2, t⟩ hi ⟨e1, e2, D', w', S', jl', acts', pw', hX, e4, e5, e6⟩
    simp only at e1 e2 hX e4 e5 e6
    subst e1 e2
    have q1 := p1.sm (show j < 5 by omega) e5 (fun c k h1 h2 => sAc_no (by omega) (by omega))
    have q2 := p2.sm e6 (fun k => ⟨rfl, rfl⟩)
    have hM := hX.mm
    have r24 : gR t 310 24 = some 321 := hM.1.hm.1.2.2.2.2.2.2.2.2.2.2.2.2.1
    have r25 : gR t 310 25 = some 322 := hM.1.hm.1.2.2.2.2.2.2.2.2.2.2.2.2.2.1
    obtain ⟨a1, a2, a3⟩ := c_actOf hX.rf (show j < 5 by omega) q1 n16 hi
    obtain ⟨b1, -⟩ := m_row (m := 323) r24 q2 hj n16 hi
    have e12 : ¬ nI n ≤ nI i := fun z => absurd ((leT (by omega) (by omega)).mp z) (by omega)
    unfold fX9_perform_l29 fX10_perform_l24
    have cS : ∀ r, fX9_mayStep 0 89 (69 + 4 * j) (nI i) s = r ↔ ((fX8_may 11 89 (kd (κ i)) (ρ i) (θ i) s).bind fun vk5 => some vk5) = r := fun r => by
      unfold fX9_mayStep
      rw [hX.rf.win, Option.bind_some, a1, Option.bind_some, a2, Option.bind_some, a3, Option.bind_some]
    rcases plan_may (lw := lw) g hnp (ok i hi) hX.hc hX.rf.wr hX.rf.sr89 hX.sc hM.1.hm ln323 hM.2.1 hX.wu with ⟨c1, c2⟩ | ⟨v1, v2, c1, c2, c3, c4, w2, lost, D2, c5⟩
    · right
      rw [q1.1, if_neg e12, hX.rf.now, Option.bind_some, (cS (some 0)).mpr (by rw [c1]; rfl), Option.bind_some, if_pos rfl, r25, Option.bind_some, ln321.2, if_pos (ixT (by omega) (by omega)), clT (by omega), q2.1, if_neg e12, hM.r33, Option.bind_some, idx3 hj (by omega), b1, c2, Option.bind_some, if_pos rfl]
      exact ⟨_, _, rfl, rfl, rfl, D', w', S', jl', acts', pw', hX, by omega, e5, e6⟩
    · left
      obtain ⟨s2, d1, d2, d3⟩ := eff_act c5 hX.1
      obtain ⟨o1, o2, o3, o4⟩ := c5.ok g hX.wu hX.wz
      obtain ⟨t1, k1, k2, k3, k4, k5, k6⟩ := hM.rem hX.S100
      have q3 := q2.sm k2 (fun k => ⟨rfl, rfl⟩)
      have r24' : gR t1 310 24 = some 321 := (k2.2.2 _ _ (by omega)).trans r24
      have r33' : gR t1 310 33 = some 323 := (k2.2.2 _ _ (by omega)).trans hM.r33
      obtain ⟨-, b2⟩ := m_row (m := 323) r24' q3 hj n16 hi
      obtain ⟨t2, f1, f2, f3, f4, f5⟩ := eff_do c5 g k3 (Or.inl rfl) k4 k5 hX.wu hX.wz (by omega)
      have hfin := MM.fin hX.S100 k6 f3 f4 f5 f2 (fun k => rfl) rfl
      have tm : Sm sAm t t2 := (k2.mono (fun c k hc => (Bool.or_eq_false_iff.mp hc).2)).tr (f2.mono (fun c k hc => (Bool.or_eq_false_iff.mp hc).1))
      rw [q1.1, if_neg e12, hX.rf.now, Option.bind_some, (cS (some v1)).mpr (by rw [c1]; rfl), Option.bind_some, if_neg c2, a1, Option.bind_some, a2, Option.bind_some, a3, Option.bind_some, d1, Option.bind_some, r25, Option.bind_some, ln321.2, if_pos (ixT (by omega) (by omega)), clT (by omega), q2.1, if_neg e12, hM.r33, Option.bind_some, idx3 hj (by omega), b1, c3, Option.bind_some, if_neg c4, k1, Option.bind_some, r33', Option.bind_some, b2, f1, Option.bind_some, nI_1]
      exact ⟨_, _, rfl, rfl, rfl, rfl, D2, w2, _, _, _, _, hX.act d3 hfin o1 o2 o3, by omega, e5.tr d2, e6.tr tm⟩
  · rintro ⟨j1, s⟩ ⟨j2, t⟩ ⟨e1, e2, D', w', S', jl', acts', pw', hX, e4, e5, e6⟩
    simp only at e1 e2 hX e4 e5 e6
    subst e1 e2
    have q1 := p1.sm (show j < 5 by omega) e5 (fun c k h1 h2 => sAc_no (by omega) (by omega))
    have q2 := p2.sm e6 (fun k => ⟨rfl, rfl⟩)
    have r25 : gR t 310 25 = some 322 := hX.mm.1.hm.1.2.2.2.2.2.2.2.2.2.2.2.2.2.1
    unfold fX9_perform_l29 fX10_perform_l24
    rw [q1.1, if_pos (Int32.le_refl _), r25, Option.bind_some, ln321.2, if_pos (ixT (by omega) (by omega)), clT (by omega), q2.1, if_pos (Int32.le_refl _)]
    exact ⟨_, _, rfl, rfl, rfl, D', w', S', jl', acts', pw', hX, by omega, e5, e6⟩
theorem X_perform (h : CM np nr W H ru pg rd nl F lw D w S jl acts pw σ) (hnp : 0 < np) (hD : D < 2147400000) (pl : PLN σ npl) (x : Int32) : WK np nr W H ru pg rd nl F lw D σ (fX9_perform 0 x σ) (fX10_perform 310 x) := by
  have g := h.g
  have g1 := g.1
  have n4 := pl.1
  have l68 : ln 68 = 5 := by decide +kernel
  have p31 : gI (sI σ 310 0 0) 310 31 = nI npl := by rw [gI_sI, if_neg (by omega)]; exact pl.2.2.1
  by_cases hx : ∃ j, j < npl ∧ x = nI j
  · obtain ⟨j, hj, rfl⟩ := hx
    obtain ⟨n, κ, ρ, θ, n1, n16, ok, p1, p2⟩ := pl.get hj
    have p2a := p2.sm (Sm.rf.sI (S := sT) rfl : Sm sT σ (sI σ 310 0 0)) (fun k => ⟨rfl, rfl⟩)
    have hX0 : CX np nr W H ru pg rd nl F lw D w S jl acts pw σ (sI σ 310 0 0) := ⟨h.1, h.mm.thr, h.2.2⟩
    obtain ⟨b, d, k1, -, -, D1, w1, S1, jl1, acts1, pw1, k3, -, k5, -⟩ := X_perfL hX0 hnp hD (show j < 4 by omega) n16 ok p1 p2a
    have hM1 : MM (sI b.2 310 0 0) np nr W H ru pg rd nl F lw w S jl acts pw := h.mc k5
    have z : Sm (fun c k => sAc c k || sT c k) σ (sI b.2 310 0 0) := (k5.mono (fun c k hc => (Bool.or_eq_false_iff.mp hc).1)).sI (by unfold sT; simp)
    have zz : ∀ c k, 310 ≤ c → sT c k = false → (fun c k => sAc c k || sT c k) c k = false := fun c k hc ht => by show (sAc c k || sT c k) = false; rw [sAc_hi hc, ht]; rfl
    have p2b := p2.sm z (fun k => ⟨zz _ _ (by omega) rfl, zz _ _ (by omega) rfl⟩)
    have hX1 : CX np nr W H ru pg rd nl F lw D w S jl acts pw σ (sI b.2 310 0 0) := ⟨h.1, hM1, h.2.2⟩
    obtain ⟨b', d', j1, j2, j3, D2, w2, S2, jl2, acts2, pw2, j4, j5, j6, j7⟩ := X_perfL hX1 hnp hD (show j < 4 by omega) n16 ok p1 p2b
    rw [k1] at j1
    have e12 := Option.some.inj j1
    subst e12
    have p31b : gI (sI b.2 310 0 0) 310 31 = nI npl := (z.1 310 31 (zz _ _ (by omega) rfl)).trans pl.2.2.1
    have t1 : Sm sAA σ d'.2 := ((k5.mono (fun c k hc => sAA_c hc)).sI rfl).tr (j7.mono (fun c k hc => sAA_m hc))
    have t2 : Sm (fun c k => sAm c k || sT c k) b.2 d'.2 := (Sm.rf.sI (S := fun c k => sAm c k || sT c k) rfl).tr (j7.mono (fun c k hc => (Bool.or_eq_false_iff.mp hc).1))
    refine ⟨b.1, b.2, d'.2, ?_, ?_, D2, w2, S2, jl2, acts2, pw2, ⟨j4.1.ag t2 (fun c k hc _ _ _ _ _ => by show (sAm c k || sT c k) = false; rw [sAm_hi hc]; unfold sT; simp; omega), j4.2⟩, t1, by omega⟩
    · unfold fX9_perform
      rw [h.rf.hall, Option.bind_some, c_isOpen g h.hc, Option.bind_some, if_pos hnp, if_neg z1, c_hasPlan h.rf pl.2.1 n4 hj, Option.bind_some, if_neg z1, h.rf.f0.2.2.2.2.2.2.1, Option.bind_some, l68, if_pos (ixT (by omega) (by omega)), clT (by omega), (h.rf.plan (show j < 5 by omega)).1, Option.bind_some, k1]
      rfl
    · unfold fX10_perform
      rw [m_isPlan p31b n4 hj, Option.bind_some, if_neg z1, hM1.1.hm.2.2.1, if_neg (nI_ne0 hnp (show np < 2147483648 by omega)), j2, j3]
      rfl
  · refine WK.non (v := -1) h ?_ ?_
    · unfold fX9_perform
      rw [h.rf.hall, Option.bind_some, c_isOpen g h.hc, Option.bind_some, if_pos hnp, if_neg z1, c_hasPlan_out pl.2.1 n4 hx, Option.bind_some, if_pos rfl]
    · unfold fX10_perform
      rw [m_isPlan_out p31 n4 hx, Option.bind_some, if_pos rfl]
theorem Z_perform (h : CMz z np nr W H ru pg rd nl F lw D w S jl acts pw σ) (e : EX np nr nl F D σ) (hD : D ≤ 60 * t) (hz : ¬ 0 < np) (pl : PLN σ npl) (x : Int32) : STEP t σ (fX9_perform 0 x σ) (fX10_perform 310 x) := by
  refine STEP.non (v := -1) h (Or.inr (by omega)) e hD ?_ ?_
  · unfold fX9_perform
    rw [h.rf.hall, Option.bind_some, c_isOpen h.g h.hc, Option.bind_some, if_neg hz, if_pos rfl]
  · have p31 : gI (sI σ 310 0 0) 310 31 = nI npl := by rw [gI_sI, if_neg (by omega)]; exact pl.2.2.1
    unfold fX10_perform
    by_cases hx : ∃ j, j < npl ∧ x = nI j
    · obtain ⟨j, hj, rfl⟩ := hx
      rw [m_isPlan p31 pl.1 hj, Option.bind_some, if_neg z1, e27z h hz, if_pos rfl]
    · rw [m_isPlan_out p31 pl.1 hx, Option.bind_some, if_pos rfl]
end Perf
