/-! text: a plan kept -/
section KeepPlan
variable {σ σ' τ : Mm} {D np nr W H S acts nl t npl : Nat} {ru pg rd w : Nat → Int32} {F : Nat → LF} {lw : Option LF} {jl pw : Nat → Nat → Int32} {b : Nat → Nat} {L : Nat} {T : Nat → Nat → Bool} {z : Bool}
theorem m_w137 (r24 : gR τ 310 24 = some 321) (h31 : gI τ 310 31 = nI npl) (h4 : npl < 4) : ∃ τ', fX10_text_w137 310 0 τ = some τ' ∧ Sm (fun c k => c == 321 && (decide (48 * npl ≤ k) && decide (k < 48 * npl + 48))) τ τ' ∧ ∀ k, k < 48 → gI τ' 321 (48 * npl + k) = gI τ 321 (192 + k) := by
  unfold fX10_text_w137
  have key : ∃ x, wh (fun a : Int32 × Mm => fX10_text_l137 310 a.1 a.2) BIG (0, τ) = some x ∧ (Sm (fun c k => c == 321 && (decide (48 * npl ≤ k) && decide (k < 48 * npl + 48))) τ x ∧ ∀ k, k < 48 → gI x 321 (48 * npl + k) = gI τ 321 (192 + k)) := by
    refine wh_inv (fun i a => a.1 = nI i ∧ Sm (fun c k => c == 321 && (decide (48 * npl ≤ k) && decide (k < 48 * npl + 48))) τ a.2 ∧ ∀ k, k < i → gI a.2 321 (48 * npl + k) = gI τ 321 (192 + k)) _ 48 BIG 0 _ (Nat.zero_le _) (by unfold BIG; omega) ⟨rfl, Sm.rf, fun k hk => by omega⟩ ?_ ?_
    · rintro i ⟨j, x⟩ hi ⟨e2, e3, e4⟩
      simp only at e2 e3 e4
      subst e2
      left
      have e6 : ¬ (48 : Int32) ≤ nI i := fun z => absurd ((leT (a := 48) (by omega) (by omega)).mp z) (by omega)
      have i1 : (192 : Int32) + nI i = nI (192 + i) := by rw [show (192 : Int32) = nI 192 from rfl, nI_add]
      have i2 : (48 : Int32) * nI npl + nI i = nI (48 * npl + i) := by rw [show (48 : Int32) = nI 48 from rfl, pk_mul, nI_add]
      have c1 : Int32.toNatClampNeg (nI (192 + i)) = 192 + i := clT (by omega)
      have c2 : Int32.toNatClampNeg (nI (48 * npl + i)) = 48 * npl + i := clT (by omega)
      unfold fX10_text_l137
      rw [if_neg e6, e3.2.2 _ _ (by omega), r24, Option.bind_some, ln321.1, i1, if_pos (ixT (by omega) (by omega)), e3.1 310 31 rfl, h31, i2, if_pos (ixT (by omega) (by omega)), c1, c2]
      refine ⟨_, rfl, nI_1 i, e3.sI (by simp; omega), fun k hk => ?_⟩
      dsimp only
      rw [gI_sI]
      by_cases z : k = i
      · rw [if_pos ⟨rfl, by omega⟩, z, e3.1 321 (192 + i) (by simp; omega)]
      · rw [if_neg (fun x => z (by omega))]; exact e4 k (by omega)
    · rintro ⟨j, x⟩ ⟨e2, e3, e4⟩
      simp only at e2 e3 e4
      subst e2
      unfold fX10_text_l137
      rw [if_pos (show (48 : Int32) ≤ nI 48 by decide)]
      exact ⟨_, rfl, e3, e4⟩
  obtain ⟨x, k1, k2, k3⟩ := key
  rw [k1]
  exact ⟨x, rfl, k2, k3⟩
def sKp (nl npl c k : Nat) : Bool := sPar nl npl c k || (c == 1 && k == 1) || (c == 0 && k == 15) || (c == 310 && (k == 6 || k == 31)) || (c == 321 && (decide (48 * npl ≤ k) && decide (k < 48 * npl + 48))) || (c == 322 && k == npl)
theorem sKp_no {c k : Nat} (h : sPar nl npl c k = false) (h2 : ¬ ((c = 1 ∧ k = 1) ∨ (c = 0 ∧ k = 15) ∨ (c = 310 ∧ (k = 6 ∨ k = 31)) ∨ (c = 321 ∧ 48 * npl ≤ k ∧ k < 48 * npl + 48) ∨ (c = 322 ∧ k = npl))) : sKp nl npl c k = false := by
  unfold sKp; rw [h]; simp; omega
theorem X_text2 (h : CMz z np nr W H ru pg rd nl F lw D w S jl acts pw σ) (hz9 : z = true ∨ np = 0) (e : EX np nr nl F D σ) (hD : D ≤ 60 * t) : STEP t σ (fX9_text 0 2 σ) (fX10_text 310 2) := by
  obtain ⟨⟨b, L, e1⟩, e2, e3, ⟨sl, e4, e5, e6⟩, ⟨npl, e7⟩, e8⟩ := id e
  have p4 := e7.1
  have n4 := h.2.1.1.2.1
  have r1 : gR σ 310 1 = some 311 := h.mm.1.hm.1.r1
  have hin : ∀ τ, fX10_isIn (Int32.toInt64 2) 0 2 τ = some 1 := fun τ => isInT (x := 2) (a := 0) (b := 2) ⟨2, by omega, by omega, rfl⟩ (by omega)
  have cT : fX9_text 0 2 σ = if 4 ≤ (gI σ 0 15) then some ((-1), σ) else bnd2 (fX9_isWhole 0 2 σ) fun vk9 sk9 => if vk9 = 0 then some ((-1), sk9) else bnd2 (fX9_keepPlan 0 sk9) fun vk11 sk11 => some (vk11, sk11) := by
    unfold fX9_text
    rw [if_neg (show ¬ (2 : Int32) = 0 by decide), if_neg (show ¬ (2 : Int32) = 1 by decide), if_pos rfl]
  have mT : ∀ s, fX10_text 310 2 s = if (gI (sI s 310 0 0) 310 31) = 4 then some ((-1), sI s 310 0 0) else fX10_text_b43 310 2 (sI s 310 0 0) := fun s => by
    unfold fX10_text fX10_text_b30
    rw [hin, Option.bind_some, if_neg z1, if_neg (show ¬ (2 : Int32) = 1 by decide), if_pos rfl]
  by_cases q4 : npl = 4
  · refine STEP.non (v := -1) h hz9 e hD ?_ ?_
    · rw [cT, e7.2.1, q4, if_pos (by decide)]
    · rw [mT, show gI (sI σ 310 0 0) 310 31 = nI npl from by rw [gI_sI, if_neg (by omega)]; exact e7.2.2.1, q4, if_pos (by decide)]
  · have lt4 : npl < 4 := by omega
    have nle : ¬ (4 : Int32) ≤ nI npl := fun z => absurd ((leT (a := 4) (by omega) (by omega)).mp z) (by omega)
    have neq : ¬ nI npl = 4 := fun z => q4 ((eqT (b := 4) (by omega) (by omega)).mp z)
    obtain ⟨x, s1, a1, a2, a3⟩ := PAR2 (nl := nl) h e1 e7
    have a1' : fX9_isWhole 0 2 σ = some (x, s1) := a1
    rw [e7.2.1, if_neg nle, a1', bnd2_some] at cT
    have fc : ∀ s, gR s 310 1 = some 311 → fX10_fault 310 2 (sI s 310 0 0) = fcore 2 (sI s 310 0 0) := fun s hs => by
      have := m_fcore (σ := sI s 310 0 0) (k := 2) (by omega) hs
      rw [sI_sI] at this
      exact this
    by_cases x0 : x = 0
    · have hm : MF (sI s1 310 0 0) b L := MF.of h e1 a2 (sPar_no (by omega)) (fun _ => sPar_no (by omega))
      obtain ⟨v, τ2, b1, b2, b3⟩ := a3 _ hm
      have s : Sm (sPar nl npl) σ τ2 := (a2.sI (by unfold sPar; simp)).tr b2.pm
      obtain ⟨q1, q2⟩ := h.par e e7 s
      have vn : ¬ v = -1 := by
        rcases b3 with ⟨-, -, c⟩ | ⟨c, -, -⟩
        · exact c
        · rw [x0] at c; exact absurd c (by decide)
      refine STEP.mk (v := -1) (σ1 := s1) (σ2 := τ2) (by rw [cT, if_pos x0]) ?_ q1 hz9 q2 (by omega)
      have m31 : gI (sI s1 310 0 0) 310 31 = nI npl := by rw [gI_sI, if_neg (by omega), a2.1 310 31 (sPar_no (by omega))]; exact e7.2.2.1
      rw [mT, m31, if_neg neq]
      unfold fX10_text_b43
      rw [fc s1 ((a2.2.2 _ _ (by omega)).trans r1), b1, bnd2_some, if_neg vn]
    · generalize hs2 : sI (sI s1 1 1 0) 0 15 (nI (npl + 1)) = s2
      have k15 : gI (sI s1 1 1 0) 0 15 = nI npl := by rw [gI_sI, if_neg (by omega), a2.1 0 15 (sPar_no (by omega))]; exact e7.2.1
      have keep : fX9_keepPlan 0 s1 = some (nI npl, s2) := by
        unfold fX9_keepPlan
        rw [show gR s1 0 0 = some 1 from (a2.2.2 _ _ (by omega)).trans h.rf.f0.1, Option.bind_some, k15, nI_1, hs2]
        have : gI s2 0 15 = nI (npl + 1) := by rw [← hs2, gI_sI, if_pos ⟨rfl, rfl⟩]
        rw [this, show (1 : Int32) = nI 1 from rfl, pk_sub (by omega)]
        rfl
      rw [if_neg x0, keep, bnd2_some] at cT
      have u12 : Sm (fun c k => (c == 1 && k == 1) || (c == 0 && k == 15)) s1 s2 := by rw [← hs2]; exact (Sm.rf.sI rfl).sI rfl
      have s2T : Sm (sKp nl npl) σ s2 := (a2.mono (fun c k hc => by unfold sKp at hc; simp only [Bool.or_eq_false_iff] at hc; exact hc.1.1.1.1.1)).tr (u12.mono (fun c k hc => by unfold sKp at hc; simp only [Bool.or_eq_false_iff] at hc ⊢; exact ⟨hc.1.1.1.1.2, hc.1.1.1.2⟩))
      have w12 : Sm (fun c k => sPar nl npl c k || (c == 1 && k == 1) || (c == 0 && k == 15)) σ s2 := (a2.mono (fun c k hc => by simp only [Bool.or_eq_false_iff] at hc; exact hc.1.1)).tr (u12.mono (fun c k hc => by simp only [Bool.or_eq_false_iff] at hc ⊢; exact ⟨hc.1.2, hc.2⟩))
      have hm : MF (sI s2 310 0 0) b L := MF.of h e1 w12 (by show (sPar nl npl 310 6 || false || false) = false; rw [sPar_no (by omega)]; rfl) (fun k => by show (sPar nl npl 311 k || false || false) = false; rw [sPar_no (by omega)]; rfl)
      obtain ⟨v, τ2, b1, b2, b3⟩ := a3 _ hm
      obtain ⟨rfl, n, n1, n16, hz, hz2, rows⟩ : v = -1 ∧ X2 npl s1 τ2 := by
        rcases b3 with ⟨c, -, -⟩ | ⟨-, c, d⟩
        · exact absurd c x0
        · exact ⟨c, d⟩
      have r24 : gR (sI τ2 310 6 0) 310 24 = some 321 := (b2.2.2 310 24 (by omega)).trans hm.1.r24
      have z31 : gI (sI s2 310 0 0) 310 31 = nI npl := by rw [gI_sI, if_neg (by omega), w12.1 310 31 (by show (sPar nl npl 310 31 || false || false) = false; rw [sPar_no (by omega)]; rfl)]; exact e7.2.2.1
      have h31 : gI (sI τ2 310 6 0) 310 31 = nI npl := by rw [gI_sI, if_neg (by omega), b2.1 310 31 rfl]; exact z31
      obtain ⟨τ3, g1, g2, g3⟩ := m_w137 r24 h31 lt4
      have r25 : gR τ3 310 25 = some 322 := (g2.2.2 310 25 (by omega)).trans ((b2.2.2 310 25 (by omega)).trans hm.1.r25)
      have t31 : gI τ3 310 31 = nI npl := (g2.1 310 31 rfl).trans h31
      have t4 : gI τ3 322 4 = nI n := (g2.1 322 4 rfl).trans ((by rw [gI_sI, if_neg (by omega)]; exact hz2 : gI (sI τ2 310 6 0) 322 4 = nI n))
      generalize hτ4 : sI (sI τ3 322 npl (nI n)) 310 31 (nI (npl + 1)) = τ4
      have u34 : Sm (fun c k => (c == 322 && k == npl) || (c == 310 && k == 31)) τ3 τ4 := by rw [← hτ4]; exact (Sm.rf.sI (by simp)).sI (by simp)
      have v24 : Sm (fun c k => (c == 310 && (k == 6 || k == 31)) || (c == 321 && (decide (48 * npl ≤ k) && decide (k < 48 * npl + 48))) || (c == 322 && k == npl)) τ2 τ4 := ((Sm.rf.sI (by simp) : Sm (fun c k => (c == 310 && (k == 6 || k == 31)) || (c == 321 && (decide (48 * npl ≤ k) && decide (k < 48 * npl + 48))) || (c == 322 && k == npl)) τ2 (sI τ2 310 6 0)).tr (g2.mono (fun c k hc => by simp only [Bool.or_eq_false_iff] at hc; exact hc.1.2))).tr (u34.mono (fun c k hc => by simp at hc ⊢; omega))
      have s : Sm (sKp nl npl) σ τ4 := ((s2T.sI (by unfold sKp sPar; simp)).tr (b2.pm.mono (fun c k hc => by unfold sKp at hc; simp only [Bool.or_eq_false_iff] at hc; exact hc.1.1.1.1.1))).tr (v24.mono (fun c k hc => by unfold sKp at hc; simp only [Bool.or_eq_false_iff] at hc ⊢; exact ⟨⟨hc.1.1.2, hc.1.2⟩, hc.2⟩))
      have hl : ∀ j k, j < nl → sKp nl npl (48 + 4 * j) k = false ∧ sKp nl npl (49 + 4 * j) k = false ∧ sKp nl npl (50 + 4 * j) k = false := fun j k hj => ⟨sKp_no (sPar_no (by omega)) (by omega), sKp_no (sPar_no (by omega)) (by omega), sKp_no (sPar_no (by omega)) (by omega)⟩
      -- class cells of the new plan, from s1 to the end
      have cell : ∀ c k, 69 + 4 * npl ≤ c → c ≤ 72 + 4 * npl → gI τ4 c k = gI s1 c k := fun c k c1 c2 => by
        have y1 := v24.1 c k (by simp; omega)
        have y2 : gI τ2 c k = gI (sI s2 310 0 0) c k := b2.1 c k (by unfold sPm; simp; omega)
        have y3 : gI s2 c k = gI s1 c k := u12.1 c k (by simp; omega)
        rw [y1, y2, gI_sI, if_neg (by omega), y3]
      refine STEP.mk (v := nI npl) (σ1 := s2) (σ2 := τ4) cT ?_ (h.ag3 e2 s hl (fun c k hc => sKp_no (sPar_no (by omega)) (by omega)) (fun c k hc => ?_) (fun k => ⟨sKp_no (sPar_no (by omega)) (by omega), sKp_no (sPar_no (by omega)) (by omega)⟩)) hz9 ⟨⟨b, 0, by omega, ?_, ?_, fun k hk => by omega⟩, e2.sm n4 s (sKp_no (sPar_no (by omega)) (by omega)) (sKp_no (sPar_no (by omega)) (by omega)) (sKp_no (sPar_no (by omega)) (by omega)) hl, ?_, ⟨sl, e4, (s.1 _ _ (sKp_no (sPar_no (by omega)) (by omega))).trans e5, (s.1 _ _ (sKp_no (sPar_no (by omega)) (by omega))).trans e6⟩, ⟨npl + 1, by omega, ?_, ?_, fun j hj => ?_⟩, e8.sm (Nat.le_refl _) s (sKp_no (sPar_no (by omega)) (by omega)) (sKp_no (sPar_no (by omega)) (by omega)) (fun c k hc => sKp_no (sPar_no (by omega)) (by omega))⟩ (by omega)
      · have fin : fX10_text 310 2 s2 = some (gI τ4 310 31 - 1, τ4) := by
          rw [mT, z31, if_neg neq]
          unfold fX10_text_b43
          rw [fc s2 ((w12.2.2 _ _ (by omega)).trans r1), b1, bnd2_some, if_pos rfl, if_neg (show ¬ (2 : Int32) = 1 by decide), if_pos rfl, g1, Option.bind_some]
          dsimp only
          rw [r25, Option.bind_some, ln321.2, if_pos (by decide), t31, if_pos (ixT (by omega) (by omega)), clT (by omega), show Int32.toNatClampNeg 4 = 4 by decide, t4, show gI (sI τ3 322 npl (nI n)) 310 31 = nI npl from by rw [gI_sI, if_neg (by omega)]; exact t31, nI_1, hτ4]
        rw [fin, ← hτ4, gI_sI, if_pos ⟨rfl, rfl⟩, show (1 : Int32) = nI 1 from rfl, pk_sub (by omega)]
        rfl
      · unfold kMM coreH at hc
        simp at hc
        exact sKp_no (sPar_no (by omega)) (by omega)
      · have y1 := v24.1 1 1 rfl
        have y2 : gI τ2 1 1 = gI (sI s2 310 0 0) 1 1 := b2.1 1 1 rfl
        rw [y1, y2, gI_sI, if_neg (by omega), ← hs2, gI_sI, if_neg (by omega), gI_sI, if_pos ⟨rfl, rfl⟩]
        rfl
      · rw [← hτ4, gI_sI, if_neg (by omega), gI_sI, if_neg (by omega), g2.1 310 6 rfl, gI_sI, if_pos ⟨rfl, rfl⟩]
        rfl
      · rw [s.1 0 16 (sKp_no (sPar_no (by omega)) (by omega)), s.1 310 36 (sKp_no (sPar_no (by omega)) (by omega))]; exact e3
      · have y1 := v24.1 0 15 rfl
        have y2 : gI τ2 0 15 = gI (sI s2 310 0 0) 0 15 := b2.1 0 15 rfl
        rw [y1, y2, gI_sI, if_neg (by omega), ← hs2, gI_sI, if_pos ⟨rfl, rfl⟩]
      · rw [← hτ4, gI_sI, if_pos ⟨rfl, rfl⟩]
      · by_cases qj : j = npl
        · subst qj
          refine ⟨n, n1, n16, (cell _ _ (by omega) (by omega)).trans hz, by rw [← hτ4, gI_sI, if_neg (by omega), gI_sI, if_pos ⟨rfl, rfl⟩], fun i hi => ?_⟩
          obtain ⟨o0, o1, o2, o3⟩ := rows i hi
          rw [cell (70 + 4 * j) i (by omega) (by omega), cell (71 + 4 * j) i (by omega) (by omega), cell (72 + 4 * j) i (by omega) (by omega)]
          have row : ∀ k, k < 48 → gI τ4 321 (48 * j + k) = gI τ2 321 (192 + k) := fun k hk => by
            rw [← hτ4, gI_sI, if_neg (by omega), gI_sI, if_neg (by omega), g3 k hk, gI_sI, if_neg (by omega)]
          refine ⟨o0, ?_, ?_, ?_⟩
          · rw [row (3 * i) (by omega)]; exact o1
          · rw [show 48 * j + 3 * i + 1 = 48 * j + (3 * i + 1) by omega, row (3 * i + 1) (by omega), show 192 + (3 * i + 1) = 193 + 3 * i by omega]; exact o2
          · rw [show 48 * j + 3 * i + 2 = 48 * j + (3 * i + 2) by omega, row (3 * i + 2) (by omega), show 192 + (3 * i + 2) = 194 + 3 * i by omega]; exact o3
        · obtain ⟨n', b1', b2', b3', b4', b5'⟩ := e7.2.2.2 j (by omega)
          refine ⟨n', b1', b2', by rw [s.1 _ _ (sKp_no (sPar_no (by omega)) (by omega))]; exact b3', by rw [s.1 _ _ (sKp_no (sPar_no (by omega)) (by omega))]; exact b4', fun i hi => ?_⟩
          rw [s.1 (70 + 4 * j) i (sKp_no (sPar_no (by omega)) (by omega)), s.1 (71 + 4 * j) i (sKp_no (sPar_no (by omega)) (by omega)), s.1 (72 + 4 * j) i (sKp_no (sPar_no (by omega)) (by omega)), s.1 321 (48 * j + 3 * i) (sKp_no (sPar_no (by omega)) (by omega)), s.1 321 (48 * j + 3 * i + 1) (sKp_no (sPar_no (by omega)) (by omega)), s.1 321 (48 * j + 3 * i + 2) (sKp_no (sPar_no (by omega)) (by omega))]
          exact b5' i hi
end KeepPlan
