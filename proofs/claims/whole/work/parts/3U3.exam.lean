/-! exam without a hall -/
section ExamZ
variable {σ τ : Mm} {D np nr W H S acts nl t : Nat} {ru pg rd w : Nat → Int32} {F : Nat → LF} {lw : Option LF} {jl pw : Nat → Nat → Int32} {z9 : Bool}
theorem exam_core (hF : RF σ) (x y z : Int32) (hM : MM τ np nr W H ru pg rd nl F lw w S jl acts pw) : ∃ v σ' τ', fX9_exam 0 x y z σ = some (v, σ') ∧ (fun s => (fX10_isIn (Int32.toInt64 x) 1 12 s).bind fun vk1 => if vk1 = 0 then some ((-1), s) else (fX10_isIn (Int32.toInt64 y) 0 13 s).bind fun vk3 => if vk3 = 0 then some ((-1), s) else (fX10_isIn (Int32.toInt64 z) 0 100 s).bind fun vk5 => if vk5 = 0 then some ((-1), s) else (fX10_exam_w46 310 x y z 0 s).bind (fun o11 => (fun so11 => (fX10_exam_w81 310 x y z 0 so11).bind (fun o21 => (fun so21 => (fX10_exam_w156 310 0 y so21).bind (fun o25 => (fun xo25_4 => some ((Int64.toInt32 xo25_4), so21)) o25)) o21)) o11)) τ = some (v, τ') ∧ Sm sCq σ σ' ∧ Sm sMq τ τ' ∧ ME τ' np nr W H ru pg rd nl F lw := by
  obtain ⟨f0, f1, f2, f3, f4⟩ := fin0 hF
  have r49 : gR τ 310 49 = some 331 := hM.1.hm.1.2.2.2.2.2.2.2.2.2.2.2.2.2.2.2.2.2.2.2.2.2.2.1
  have non : ∃ v σ' τ', some ((-1 : Int32), σ) = some (v, σ') ∧ some ((-1 : Int32), τ) = some (v, τ') ∧ Sm sCq σ σ' ∧ Sm sMq τ τ' ∧ ME τ' np nr W H ru pg rd nl F lw := ⟨_, _, _, rfl, rfl, Sm.rf, Sm.rf, hM.1⟩
  unfold fX9_exam fX9_exam_b25 fX9_exam_b26
  simp only [if_true, if_neg z1]
  by_cases hx : ∃ k, 1 ≤ k ∧ k ≤ 12 ∧ x = nI k
  · have hx2 := bd_in hx (by omega) (by omega)
    rw [show fX10_isIn (Int32.toInt64 x) 1 12 τ = some 1 from isInT (a := 1) (b := 12) (τ := τ) hx (by omega)]
    rw [rng_t (lo := 1) (hi := 12) hx2.1 hx2.2]
    simp only [Option.bind_some, if_neg z1]
    by_cases hy : ∃ k, 0 ≤ k ∧ k ≤ 13 ∧ y = nI k
    · have hy2 := bd_in hy (by omega) (by omega)
      rw [show fX10_isIn (Int32.toInt64 y) 0 13 τ = some 1 from isInT (a := 0) (b := 13) (τ := τ) hy (by omega)]
      rw [rng_t (lo := 0) (hi := 13) hy2.1 hy2.2]
      simp only [Option.bind_some, if_neg z1]
      by_cases hz : ∃ k, 0 ≤ k ∧ k ≤ 100 ∧ z = nI k
      · have hz2 := bd_in hz (by omega) (by omega)
        rw [show fX10_isIn (Int32.toInt64 z) 0 100 τ = some 1 from isInT (a := 0) (b := 100) (τ := τ) hz (by omega)]
        rw [if_neg (show ¬ z < 0 from hz2.1), if_pos (show z ≤ 100 from Int32.not_lt.mp hz2.2)]
        obtain ⟨n, hn1, hn2, rfl⟩ := hx
        obtain ⟨m, -, hm2, rfl⟩ := hy
        obtain ⟨s1, a1, a2, a3⟩ := ex_fill f4
        obtain ⟨t1, b1, b2, b3⟩ := ex_ini r49 (nI n) (nI m) z
        have f4' : gR s1 13 5 = some 16 := by rw [a2.2.2 _ _ (by omega)]; exact f4
        obtain ⟨s2, t2, c1, c2, c3, c4, c5⟩ := ex_main (s0 := sL s1 16 0 1000000000) (t0 := t1) hn2 f4' (by rw [b2.2.2 _ _ (by omega)]; exact r49) (fun k hk => by
          rw [gL_sL, b3 k hk]
          by_cases q : k = 0
          · rw [if_pos ⟨rfl, q⟩, if_pos q]
          · rw [if_neg (fun z => q z.2), if_neg q, a3 k hk]) (nI m) z (nI m)
        have c3' : Sm (fun c (_ : Nat) => c == 16) σ s2 := (a2.sL rfl).tr c3
        have c4' : Sm (fun c (_ : Nat) => c == 331) τ t2 := b2.tr c4
        obtain ⟨b, d1, d2⟩ := ex_sum hm2 (by rw [c3'.2.2 _ _ (by omega)]; exact f4) (by rw [c4'.2.2 _ _ (by omega)]; exact r49) c5
        have emax : maxI 0 (nI m) = nI m := by
          rw [show (0 : Int32) = nI 0 from rfl, maxN _ _ (by omega) (by omega)]; exact congrArg nI (by omega)
        unfold fX0_passing
        simp only [Option.bind_some, if_neg z1, hF.fin, f4, a1, f4', ln16.1, show ixB 0 14 = true by decide, if_true, show Int32.toNatClampNeg 0 = 0 by decide, b1, c1, c2, emax, d1, d2, bnd2_some]
        refine ⟨_, _, _, rfl, rfl, sCq_lo c3' (fun c k hc => by simp only [beq_eq_false_iff_ne, ne_eq]; omega), ?_, hM.1.sm c4' (fun c k hc => by unfold coreM coreH at hc; simp only [Bool.or_eq_true, Bool.and_eq_true, beq_iff_eq] at hc; simp only [beq_eq_false_iff_ne, ne_eq]; omega)⟩
        exact c4'.mono (fun c k hc => by unfold sMq at hc; simp only [Bool.or_eq_false_iff] at hc; exact hc.1.2)
      · have hz2 := bd_out hz (by omega) (by omega)
        rw [show fX10_isIn (Int32.toInt64 z) 0 100 τ = some 0 from isInF (a := 0) (b := 100) (τ := τ) hz (by omega) (by omega)]
        by_cases q : z < 0
        · rw [if_pos q]; exact non
        · rw [if_neg q, if_neg (show ¬ z ≤ 100 from Int32.not_le.mpr (hz2.resolve_left q))]; exact non
    · rw [show fX10_isIn (Int32.toInt64 y) 0 13 τ = some 0 from isInF (a := 0) (b := 13) (τ := τ) hy (by omega) (by omega), rng_f (lo := 0) (hi := 13) (bd_out (a := 0) (b := 13) hy (by omega) (by omega))]
      exact non
  · rw [show fX10_isIn (Int32.toInt64 x) 1 12 τ = some 0 from isInF (a := 1) (b := 12) (τ := τ) hx (by omega) (by omega), rng_f (lo := 1) (hi := 12) (bd_out (a := 1) (b := 12) hx (by omega) (by omega))]
    exact non
theorem Z_exam (h : CMz z9 np nr W H ru pg rd nl F lw D w S jl acts pw σ) (e : EX np nr nl F D σ) (hD : D ≤ 60 * t) (hz : ¬ 0 < np) (x y z : Int32) : STEP t σ (fX9_exam 0 x y z σ) (fX10_exam 310 x y z) := by
  obtain ⟨v, σ', τ', k1, k2, k3, k4, k5⟩ := exam_core h.rf x y z h.mm.thr
  have hM : MM (sI σ' 310 0 0) np nr W H ru pg rd nl F lw w S jl acts pw := (h.mm.sm k3 (fun c k hc => sCq_hi (kMM_hi hc) (kMM_ne hc)) (fun k => ⟨sCq_hi (by omega) (by omega), sCq_hi (by omega) (by omega)⟩)).thr
  obtain ⟨v2, σ2, τ2, j1, j2, j3, j4, j5⟩ := exam_core h.rf x y z hM
  rw [k1] at j1
  cases j1
  have s : Sm sQQ σ τ2 := ((k3.mono (fun c k hc => sQQ_c hc)).sI rfl).tr (j4.mono (fun c k hc => sQQ_m hc))
  refine STEP.mk (v := v) (σ1 := σ') (σ2 := τ2) k1 j2 (⟨h.1.ag2 s (fun c k hc => ?_), h.2.1.smK j5 s sQQ_kMM, h.2.2⟩ : CMz z9 np nr W H ru pg rd nl F lw D w S jl acts pw τ2) (Or.inr (by omega)) (e.sm h.2.1.1.2.1 (Nat.le_refl _) s exK_sQQ) (by omega)
  unfold kCC at hc
  simp at hc
  exact sQQ_C c k (by omega) (by omega) (by omega) (by omega) (by omega)
end ExamZ
