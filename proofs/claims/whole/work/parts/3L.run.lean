/-! plans: run, perform -/
section Run
variable {σ τ : Mm} {D np nr W H S acts nl t j n npl : Nat} {ru pg rd w : Nat → Int32} {F : Nat → LF} {lw : Option LF} {jl pw : Nat → Nat → Int32} {κ ρ θ : Nat → Int32} {z : Bool}
theorem WQ.two2 {c : Option (Int32 × Mm)} {m m' : Mm → Option (Int32 × Mm)} (P : Mm → Prop) (h : CM np nr W H ru pg rd nl F lw D w S jl acts pw σ) (hP : ∀ s, Sm sCq σ s → P (sI s 310 0 0)) (hm : ∀ s, m s = m' (sI s 310 0 0)) (HH : ∀ τ, P τ → MM τ np nr W H ru pg rd nl F lw w S jl acts pw → ∃ v σ' τ', c = some (v, σ') ∧ m' τ = some (v, τ') ∧ Sm sCq σ σ' ∧ Sm sMq τ τ' ∧ ME τ' np nr W H ru pg rd nl F lw) : WQ np nr W H ru pg rd nl F lw σ c m := by
  obtain ⟨v, σ', τ', k1, k2, k3, k4, k5⟩ := HH _ (hP σ Sm.rf) h.mm.thr
  have hM : MM (sI σ' 310 0 0) np nr W H ru pg rd nl F lw w S jl acts pw := (h.mm.sm k3 (fun c k hc => sCq_hi (kMM_hi hc) (kMM_ne hc)) (fun k => ⟨sCq_hi (by omega) (by omega), sCq_hi (by omega) (by omega)⟩)).thr
  obtain ⟨v2, σ2, τ2, j1, j2, j3, j4, j5⟩ := HH _ (hP σ' k3) hM
  rw [k1] at j1
  have e := Option.some.inj j1
  have e1 : v = v2 := congrArg Prod.fst e
  subst e1
  exact ⟨v, σ', τ2, k1, by rw [hm]; exact j2, ((k3.mono (fun c k hc => sQQ_c hc)).sI rfl).tr (j4.mono (fun c k hc => sQQ_m hc)), j5⟩
theorem sX94 {a b : Mm} (h : Sm (sX 94) a b) : Sm sCq a b := h.mono (fun c k hc => by
  unfold sCq at hc; unfold sX sS; simp at hc ⊢; refine ⟨by omega, hc.1.1⟩)
theorem sQ324 {a b : Mm} (h : Sm (sQ 324) a b) : Sm sMq a b := h.mono (fun c k hc => by
  unfold sMq at hc; unfold sQ; simp at hc ⊢; exact ⟨⟨hc.1.1.1.1.1.1, hc.1.1.1.2⟩, hc.1.1.1.1.1.2⟩)
theorem m_w47 {a1 a2 a3 : Int32} : fX10_run_w47 310 a1 a2 a3 τ = wh (fun a : Int32 × Mm => fX10_run_l47 310 a1 a2 a.1 a.2) BIG (a3, τ) := rfl
theorem X_runL (h : CM np nr W H ru pg rd nl F lw D w S jl acts pw σ) (hnp : 0 < np) (hD : D < 2147400000) (hj : j < 4) (n16 : n ≤ 16) (ok : ∀ i, i < n → StepOK (κ i) (ρ i) (θ i)) (p1 : PC1 σ j n κ ρ θ) (x : Int32) {s1 t1 : Mm} (k2 : Sm sCq σ s1) (k3 : SC s1 94 w) (hM : MM t1 np nr W H ru pg rd nl F lw w S jl acts pw) (p2 : PM1 t1 j n κ ρ θ) (l4 : MW t1 324 w) {c0 : Nat} {e0 : Nat → Nat → Int32} (l5 : MLg t1 324 c0 e0) :
    ∃ b d, fX9_run_w52 0 x (69 + 4 * j) 0 s1 = some b ∧ fX10_run_w47 310 (nI j) x 0 t1 = some d ∧ b.1 = d.1 ∧ ∃ v D', Sm sCq σ b.2 ∧ Sm sMq t1 d.2 ∧ MM d.2 np nr W H ru pg rd nl F lw w S jl acts pw ∧ SC b.2 94 v ∧ MW d.2 324 v ∧ WU D' v := by
  have g := h.g
  unfold fX9_run_w52 fX10_run_w47
  refine wh_two (fun i a c => a.1 = nI i ∧ c.1 = nI i ∧ ∃ v D', Sm sCq σ a.2 ∧ Sm sMq t1 c.2 ∧ MM c.2 np nr W H ru pg rd nl F lw w S jl acts pw ∧ SC a.2 94 v ∧ MW c.2 324 v ∧ (∃ cnt e, MLg c.2 324 cnt e) ∧ WU D' v ∧ WZ np nr v ∧ D' ≤ D + i) _ n BIG 0 _ _ (Nat.zero_le _) (by unfold BIG; omega) ⟨rfl, rfl, w, D, k2, Sm.rf, hM, k3, l4, ⟨_, _, l5⟩, h.wu, h.wz, by omega⟩ ?_ ?_
  · rintro i ⟨j1, s⟩ ⟨j2, t⟩ hi ⟨e1, e2, v, D', e3, e4, e5, e6, e7, ⟨cnt, e, e8⟩, e9, e10, e11⟩
    simp only at e1 e2 e3 e4 e5 e6 e7 e8
    subst e1 e2
    have hC := h.1.cq e3
    have q1 := p1.sm (show j < 5 by omega) e3 (fun c k h1 h2 => by unfold sCq; rw [scr_no (by omega)]; simp; omega)
    have q2 := p2.sm e4 (fun k => ⟨rfl, rfl⟩)
    have r24 : gR t 310 24 = some 321 := e5.1.hm.1.2.2.2.2.2.2.2.2.2.2.2.2.1
    have r25 : gR t 310 25 = some 322 := e5.1.hm.1.2.2.2.2.2.2.2.2.2.2.2.2.2.1
    obtain ⟨a1, a2, a3⟩ := c_actOf hC.rf (show j < 5 by omega) q1 n16 hi
    obtain ⟨b1, b2⟩ := m_row (m := 324) r24 q2 hj n16 hi
    have e12 : ¬ nI n ≤ nI i := fun z => absurd ((leT (by omega) (by omega)).mp z) (by omega)
    unfold fX9_run_l52 fX10_run_l47
    have cS : ∀ r, fX9_mayStep 0 94 (69 + 4 * j) (nI i) s = r ↔ ((fX8_may 11 94 (kd (κ i)) (ρ i) (θ i) s).bind fun vk5 => some vk5) = r := fun r => by
      unfold fX9_mayStep
      rw [hC.rf.win, Option.bind_some, a1, Option.bind_some, a2, Option.bind_some, a3, Option.bind_some]
    rcases plan_may (lw := lw) g hnp (ok i hi) hC.hc hC.rf.wr hC.rf.sr94 e6 e5.1.hm ln324 e7 e9 with ⟨c1, c2⟩ | ⟨v1, v2, c1, c2, c3, c4, w', lost, D2, c5⟩
    · right
      rw [q1.1, if_neg e12, hC.rf.apart, Option.bind_some, (cS (some 0)).mpr (by rw [c1]; rfl), Option.bind_some, if_pos rfl, r25, Option.bind_some, ln321.2, if_pos (ixT (by omega) (by omega)), clT (by omega), q2.1, if_neg e12, e5.r34, Option.bind_some, idx3 hj (by omega), b1, c2, Option.bind_some, if_pos rfl]
      exact ⟨_, _, rfl, rfl, rfl, v, D', e3, e4, e5, e6, e7, e9⟩
    · left
      obtain ⟨s2, d1, d2, d3⟩ := eff_carry c5 g hC.hc hC.rf.wr hC.rf.sr94 e6 hC.hl SB94
      obtain ⟨t2, f1, f2, f3, f4, f5⟩ := eff_do c5 g e5.1 (Or.inr rfl) e7 e8 e9 e10 (by omega)
      obtain ⟨o1, o2, o3, o4⟩ := c5.ok g e9 e10
      rw [q1.1, if_neg e12, hC.rf.apart, Option.bind_some, (cS (some v1)).mpr (by rw [c1]; rfl), Option.bind_some, if_neg c2, hC.rf.win, Option.bind_some, a1, Option.bind_some, a2, Option.bind_some, a3, Option.bind_some, d1, bnd2_some, r25, Option.bind_some, ln321.2, if_pos (ixT (by omega) (by omega)), clT (by omega), q2.1, if_neg e12, e5.r34, Option.bind_some, idx3 hj (by omega), b1, c3, Option.bind_some, if_neg c4, b2, f1, Option.bind_some, nI_1]
      exact ⟨_, _, rfl, rfl, rfl, rfl, w', D2, e3.tr (sX94 d2), e4.tr (sQ324 f2), e5.mq (sQ324 f2) f3, d3, f4, ⟨_, _, f5⟩, o1, o2, by omega⟩
  · rintro ⟨j1, s⟩ ⟨j2, t⟩ ⟨e1, e2, v, D', e3, e4, e5, e6, e7, ⟨cnt, e, e8⟩, e9, e10, e11⟩
    simp only at e1 e2 e3 e4 e5 e6 e7 e8
    subst e1 e2
    have q1 := p1.sm (show j < 5 by omega) e3 (fun c k h1 h2 => by unfold sCq; rw [scr_no (by omega)]; simp; omega)
    have q2 := p2.sm e4 (fun k => ⟨rfl, rfl⟩)
    have r25 : gR t 310 25 = some 322 := e5.1.hm.1.2.2.2.2.2.2.2.2.2.2.2.2.2.1
    unfold fX9_run_l52 fX10_run_l47
    rw [q1.1, if_pos (Int32.le_refl _), r25, Option.bind_some, ln321.2, if_pos (ixT (by omega) (by omega)), clT (by omega), q2.1, if_pos (Int32.le_refl _)]
    exact ⟨_, _, rfl, rfl, rfl, v, D', e3, e4, e5, e6, e7, e9⟩
theorem X_run (h : CM np nr W H ru pg rd nl F lw D w S jl acts pw σ) (hnp : 0 < np) (hD : D < 2147400000) (pl : PLN σ npl) (x y : Int32) : WQ np nr W H ru pg rd nl F lw σ (fX9_run 0 x y σ) (fX10_run 310 x y) := by
  have g := h.g
  have g1 := g.1
  have n4 := pl.1
  have l68 : ln 68 = 5 := by decide +kernel
  by_cases hx : ∃ j, j < npl ∧ x = nI j
  · obtain ⟨j, hj, rfl⟩ := hx
    obtain ⟨n, κ, ρ, θ, n1, n16, ok, p1, p2⟩ := pl.get hj
    refine WQ.two2 (fun τ => PM1 τ j n κ ρ θ ∧ gI τ 310 31 = nI npl) (m' := fun s => (fX10_isPlan 310 (nI j) s).bind fun vk1 => if vk1 = 0 then fX10_run_b30 s else if (gI s 310 27) = 0 then fX10_run_b30 s else (fX10_isIn (Int32.toInt64 y) 0 1 s).bind fun vk4 => if vk4 = 0 then fX10_run_b30 s else (gR s 310 33).bind fun r6 => (gR s 310 34).bind fun r7 => (fX10_copy r6 r7 s).bind fun sk8 => (fX10_run_w47 310 (nI j) y 0 sk8).bind (fun o16 => (fun xo16_3 so16 => fX10_run_b98 310 (nI j) y xo16_3 so16) o16.1 o16.2)) h (fun s hs => ?_) (fun s => rfl) (fun τ hP hM => ?_)
    · have z : Sm (fun c k => sCq c k || sT c k) σ (sI s 310 0 0) := (hs.mono (fun c k hc => (Bool.or_eq_false_iff.mp hc).1)).sI (by unfold sT; simp)
      exact ⟨p2.sm z (fun k => ⟨by show (sCq 321 k || sT 321 k) = false; rw [sCq_hi (by omega) (by omega)]; rfl, by show (sCq 322 k || sT 322 k) = false; rw [sCq_hi (by omega) (by omega)]; rfl⟩), (z.1 310 31 (by show (sCq 310 31 || sT 310 31) = false; rw [sCq_hi (by omega) (by omega)]; rfl)).trans pl.2.2.1⟩
    · obtain ⟨q2, q3⟩ := hP
      unfold fX9_run
      simp only [h.rf.hall, Option.bind_some, c_isOpen g h.hc, if_pos hnp, if_neg z1, c_hasPlan h.rf pl.2.1 n4 hj, m_isPlan q3 n4 hj, hM.1.hm.2.2.1, if_neg (nI_ne0 hnp (show np < 2147483648 by omega))]
      by_cases hy : ∃ k, 0 ≤ k ∧ k ≤ 1 ∧ y = nI k
      · have hin : fX10_isIn (Int32.toInt64 y) 0 1 τ = some 1 := isInT (a := 0) (b := 1) hy (by omega)
        obtain ⟨s1, k1, k2, k3⟩ := C_apart h.1
        obtain ⟨t1, l1, l2, l3, l4, l5⟩ := M_trial hM
        have y0 : ¬ y < 0 := by
          obtain ⟨k, -, hk, rfl⟩ := hy
          exact fun z => absurd ((ltT (b := 0) (by omega) (by omega)).mp z) (by omega)
        have y1 : y ≤ 1 := by
          obtain ⟨k, -, hk, rfl⟩ := hy
          exact (leT (b := 1) (by omega) (by omega)).mpr hk
        obtain ⟨b, d, o1, o2, o3, v, D', o4, o5, o6, o7, o8, o9⟩ := X_runL h hnp hD (show j < 4 by omega) n16 ok p1 y k2 k3 l3 (q2.sm l2 (fun k => ⟨rfl, rfl⟩)) l4 l5
        have hC := h.1.cq o4
        have z1' := p1.sm (show j < 5 by omega) o4 (fun c k h1 h2 => by unfold sCq; rw [scr_no (by omega)]; simp; omega)
        have z2 := (q2.sm l2 (fun k => ⟨rfl, rfl⟩)).sm o5 (fun k => ⟨rfl, rfl⟩)
        have r25 : gR d.2 310 25 = some 322 := o6.1.hm.1.2.2.2.2.2.2.2.2.2.2.2.2.2.1
        rw [hin, Option.bind_some, if_neg z1, if_neg y0, if_pos y1, h.rf.f0.2.2.2.2.2.2.1, Option.bind_some, l68, if_pos (ixT (by omega) (by omega)), clT (by omega), (h.rf.plan (show j < 5 by omega)).1, Option.bind_some, h.rf.apart, Option.bind_some, h.rf.now, Option.bind_some, k1, Option.bind_some, o1, Option.bind_some, hM.r33, Option.bind_some, hM.r34, Option.bind_some, l1, Option.bind_some, o2, Option.bind_some]
        unfold fX9_run_b111 fX10_run_b98
        rw [← o3]
        by_cases q : y = 1
        · rw [if_pos q, if_pos q, hC.rf.hall, Option.bind_some, hC.rf.win, Option.bind_some, hC.rf.apart, Option.bind_some, c_pagesThere g hC.hc hC.rf.wr hC.rf.sr94 o7, Option.bind_some, bc_mk _ (by omega), Option.bind_some, hC.hc.2.2.2.2.2.2.1, lost_pages o9 (by omega), o6.r34, Option.bind_some, M_lost g o6.1.hm ln324 o8, Option.bind_some]
          exact ⟨_, _, _, rfl, rfl, o4, l2.tr o5, o6.1⟩
        · rw [if_neg q, if_neg q, z1'.1, r25, Option.bind_some, ln321.2, if_pos (ixT (by omega) (by omega)), clT (by omega), z2.1]
          by_cases q5 : b.1 = nI n
          · rw [if_pos q5, if_pos q5]
            exact ⟨_, _, _, rfl, rfl, o4, l2.tr o5, o6.1⟩
          · rw [if_neg q5, if_neg q5]
            exact ⟨_, _, _, rfl, rfl, o4, l2.tr o5, o6.1⟩
      · have hin : fX10_isIn (Int32.toInt64 y) 0 1 τ = some 0 := isInF (a := 0) (b := 1) hy (by omega) (by omega)
        rw [hin, Option.bind_some, if_pos rfl]
        rcases i32_out (N := 2) (by omega) (fun ⟨k, h1, h2⟩ => hy ⟨k, by omega, by omega, h2⟩) with h1 | ⟨h1, h2⟩
        · rw [if_pos h1]
          exact ⟨_, _, _, rfl, rfl, Sm.rf, Sm.rf, hM.1⟩
        · rw [if_neg h1, if_neg (fun z => absurd (Int32.le_trans h2 z) (by decide))]
          exact ⟨_, _, _, rfl, rfl, Sm.rf, Sm.rf, hM.1⟩
  · refine WQ.t (v := -1000000) h ?_ ?_
    · unfold fX9_run
      rw [h.rf.hall, Option.bind_some, c_isOpen g h.hc, Option.bind_some, if_pos hnp, if_neg z1, c_hasPlan_out pl.2.1 n4 hx, Option.bind_some, if_pos rfl]
      rfl
    · unfold fX10_run
      rw [m_isPlan_out (show gI (sI σ 310 0 0) 310 31 = nI npl from by rw [gI_sI, if_neg (by omega)]; exact pl.2.2.1) n4 hx, Option.bind_some, if_pos rfl]
      rfl
theorem Z_run (h : CMz z np nr W H ru pg rd nl F lw D w S jl acts pw σ) (e : EX np nr nl F D σ) (hD : D ≤ 60 * t) (hz : ¬ 0 < np) (pl : PLN σ npl) (x y : Int32) : STEP t σ (fX9_run 0 x y σ) (fX10_run 310 x y) := by
  refine STEP.non (v := -1000000) h (Or.inr (by omega)) e hD ?_ ?_
  · unfold fX9_run
    rw [h.rf.hall, Option.bind_some, c_isOpen h.g h.hc, Option.bind_some, if_neg hz, if_pos rfl]
    rfl
  · have p31 : gI (sI σ 310 0 0) 310 31 = nI npl := by rw [gI_sI, if_neg (by omega)]; exact pl.2.2.1
    unfold fX10_run
    by_cases hx : ∃ j, j < npl ∧ x = nI j
    · obtain ⟨j, hj, rfl⟩ := hx
      rw [m_isPlan p31 pl.1 hj, Option.bind_some, if_neg z1, e27z h hz, if_pos rfl]
      rfl
    · rw [m_isPlan_out p31 pl.1 hx, Option.bind_some, if_pos rfl]
      rfl
end Run
