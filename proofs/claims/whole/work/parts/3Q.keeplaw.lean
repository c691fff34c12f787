/-! text: a law kept -/
section KeepLaw
variable {σ σ' τ : Mm} {D np nr W H S acts nl t npl : Nat} {ru pg rd w : Nat → Int32} {F : Nat → LF} {lw : Option LF} {jl pw : Nat → Nat → Int32} {b : Nat → Nat} {L : Nat} {T : Nat → Nat → Bool} {z : Bool}
theorem by_by (x : Int32) : byI (byI x) = byI x := by
  unfold byI
  rw [Int8.toInt8_toInt32]
theorem m_w71 (r1 : gR τ 310 1 = some 311) (r2 : gR τ 310 2 = some 312) (h7 : gI τ 310 7 = nI nl) (h4 : nl < 4) (hL : L ≤ 240) : ∃ τ', fX10_text_w71 310 (nI L) 0 τ = some τ' ∧ Sm (fun c k => c == 312 && (decide (240 * nl ≤ k) && decide (k < 240 * nl + 240))) τ τ' ∧ ∀ k, k < L → gI τ' 312 (240 * nl + k) = byI (gI τ 311 k) := by
  unfold fX10_text_w71
  have key : ∃ x, wh (fun a : Int32 × Mm => fX10_text_l71 310 (nI L) a.1 a.2) BIG (0, τ) = some x ∧ (Sm (fun c k => c == 312 && (decide (240 * nl ≤ k) && decide (k < 240 * nl + 240))) τ x ∧ ∀ k, k < L → gI x 312 (240 * nl + k) = byI (gI τ 311 k)) := by
    refine wh_inv (fun i a => a.1 = nI i ∧ Sm (fun c k => c == 312 && (decide (240 * nl ≤ k) && decide (k < 240 * nl + 240))) τ a.2 ∧ ∀ k, k < i → gI a.2 312 (240 * nl + k) = byI (gI τ 311 k)) _ L BIG 0 _ (Nat.zero_le _) (by unfold BIG; omega) ⟨rfl, Sm.rf, fun k hk => by omega⟩ ?_ ?_
    · rintro i ⟨j, x⟩ hi ⟨e2, e3, e4⟩
      simp only at e2 e3 e4
      subst e2
      left
      have e6 : ¬ nI L ≤ nI i := fun z => absurd ((leT (by omega) (by omega)).mp z) (by omega)
      have i2 : (240 : Int32) * nI nl + nI i = nI (240 * nl + i) := by rw [show (240 : Int32) = nI 240 from rfl, pk_mul, nI_add]
      have c1 : Int32.toNatClampNeg (nI i) = i := clT (by omega)
      have c2 : Int32.toNatClampNeg (nI (240 * nl + i)) = 240 * nl + i := clT (by omega)
      unfold fX10_text_l71
      rw [if_neg e6, e3.2.2 _ _ (by omega), r2, Option.bind_some, e3.2.2 _ _ (by omega), r1, Option.bind_some, ln2.2.1, ln2.2.2, if_pos (ixT (by omega) (by omega)), e3.1 310 7 rfl, h7, i2, if_pos (ixT (by omega) (by omega)), c1, c2]
      refine ⟨_, rfl, nI_1 i, e3.sI (by simp; omega), fun k hk => ?_⟩
      dsimp only
      rw [gI_sI]
      by_cases z : k = i
      · rw [if_pos ⟨rfl, by omega⟩, z, e3.1 311 i (by simp)]
      · rw [if_neg (fun x => z (by omega))]; exact e4 k (by omega)
    · rintro ⟨j, x⟩ ⟨e2, e3, e4⟩
      simp only at e2 e3 e4
      subst e2
      unfold fX10_text_l71
      rw [if_pos (Int32.le_refl _)]
      exact ⟨_, rfl, e3, e4⟩
  obtain ⟨x, k1, k2, k3⟩ := key
  rw [k1]
  exact ⟨x, rfl, k2, k3⟩
theorem LawM.sm2 {j : Nat} {f : LF} (h : LawM σ j f) (s : Sm T σ σ') (hs : ∀ k, k < 240 → T 312 (240 * j + k) = false) (h2 : T 313 j = false) : LawM σ' j f := fun σ2 e1 e2 e3 e4 => h σ2 (fun k hk => (e1 k hk).trans (s.1 _ _ (hs k hk))) (e2.trans (s.1 _ _ h2)) (e3.trans (s.2.2 310 4 (by omega))) e4
def sKl (nl npl c k : Nat) : Bool := sPar nl npl c k || (c == 1 && k == 1) || (c == 0 && k == 14) || (c == 310 && (k == 6 || k == 7)) || (c == 312 && (decide (240 * nl ≤ k) && decide (k < 240 * nl + 240))) || (c == 313 && k == nl)
theorem sKl_no {c k : Nat} (h : sPar nl npl c k = false) (h2 : ¬ ((c = 1 ∧ k = 1) ∨ (c = 0 ∧ k = 14) ∨ (c = 310 ∧ (k = 6 ∨ k = 7)) ∨ (c = 312 ∧ 240 * nl ≤ k ∧ k < 240 * nl + 240) ∨ (c = 313 ∧ k = nl))) : sKl nl npl c k = false := by
  unfold sKl; rw [h]; simp; omega
def extF (F : Nat → LF) (n : Nat) (f : LF) : Nat → LF := fun j => if j = n then f else F j
theorem extF_at {F : Nat → LF} {n : Nat} {f : LF} : extF F n f n = f := by unfold extF; rw [if_pos rfl]
theorem extF_lo {F : Nat → LF} {n j : Nat} {f : LF} (h : j < n) : extF F n f j = F j := by unfold extF; rw [if_neg (by omega)]
theorem X_text1 (h : CMz z np nr W H ru pg rd nl F lw D w S jl acts pw σ) (hz9 : z = true ∨ np = 0) (e : EX np nr nl F D σ) (hD : D ≤ 60 * t) : STEP t σ (fX9_text 0 1 σ) (fX10_text 310 1) := by
  obtain ⟨⟨b, L, e1⟩, e2, e3, ⟨sl, e4, e5, e6⟩, ⟨npl, e7⟩, e8⟩ := id e
  have p4 := e7.1
  have n4 := h.2.1.1.2.1
  have hL := e1.1
  have r1 : gR σ 310 1 = some 311 := h.mm.1.hm.1.r1
  have hin : ∀ τ, fX10_isIn (Int32.toInt64 1) 0 2 τ = some 1 := fun τ => isInT (x := 1) (a := 0) (b := 2) ⟨1, by omega, by omega, rfl⟩ (by omega)
  have cT : fX9_text 0 1 σ = if 4 ≤ (gI σ 0 14) then some ((-1), σ) else bnd2 (fX9_isWhole 0 1 σ) fun vk5 sk5 => if vk5 = 0 then some ((-1), sk5) else bnd2 (fX9_keepLaw 0 sk5) fun vk7 sk7 => some (vk7, sk7) := by
    unfold fX9_text
    rw [if_neg (show ¬ (1 : Int32) = 0 by decide), if_pos rfl]
  have mT : ∀ s, fX10_text 310 1 s = if (gI (sI s 310 0 0) 310 7) = 4 then some ((-1), sI s 310 0 0) else fX10_text_b43 310 1 (sI s 310 0 0) := fun s => by
    unfold fX10_text fX10_text_b30
    rw [hin, Option.bind_some, if_neg z1, if_pos rfl, if_neg (show ¬ (1 : Int32) = 2 by decide)]
  by_cases q4 : nl = 4
  · refine STEP.non (v := -1) h hz9 e hD ?_ ?_
    · rw [cT, e2.1, q4, if_pos (by decide)]
    · rw [mT, show gI (sI σ 310 0 0) 310 7 = nI nl from by rw [gI_sI, if_neg (by omega)]; exact e2.2.1, q4, if_pos (by decide)]
  · have lt4 : nl < 4 := by omega
    have nle : ¬ (4 : Int32) ≤ nI nl := fun z => absurd ((leT (a := 4) (by omega) (by omega)).mp z) (by omega)
    have neq : ¬ nI nl = 4 := fun z => q4 ((eqT (b := 4) (by omega) (by omega)).mp z)
    obtain ⟨x, s1, a1, a2, a3⟩ := PAR1 (npl := npl) h e1 e2
    have a1' : fX9_isWhole 0 1 σ = some (x, s1) := a1
    rw [e2.1, if_neg nle, a1', bnd2_some] at cT
    have fc : ∀ s, gR s 310 1 = some 311 → fX10_fault 310 1 (sI s 310 0 0) = fcore 1 (sI s 310 0 0) := fun s hs => by
      have := m_fcore (σ := sI s 310 0 0) (k := 1) (by omega) hs
      rw [sI_sI] at this
      exact this
    by_cases x0 : x = 0
    · have hm : MF (sI s1 310 0 0) b L := MF.of h e1 a2 (sPar_no (by omega)) (fun _ => sPar_no (by omega))
      obtain ⟨v, τ2, b1, b2, b3⟩ := a3 _ hm
      have s : Sm (sPar nl npl) σ τ2 := (a2.sI (by unfold sPar; simp)).tr b2.pm
      obtain ⟨q1, q2⟩ := h.par e e7 s
      have vn : ¬ v = -1 := by
        rcases b3 with ⟨-, -, c⟩ | ⟨c, -, -⟩
        · exact c
        · rw [x0] at c; exact absurd c (by decide)
      refine STEP.mk (v := -1) (σ1 := s1) (σ2 := τ2) (by rw [cT, if_pos x0]) ?_ q1 hz9 q2 (by omega)
      have m7 : gI (sI s1 310 0 0) 310 7 = nI nl := by rw [gI_sI, if_neg (by omega), a2.1 310 7 (sPar_no (by omega))]; exact e2.2.1
      rw [mT, m7, if_neg neq]
      unfold fX10_text_b43
      rw [fc s1 ((a2.2.2 _ _ (by omega)).trans r1), b1, bnd2_some, if_neg vn]
    · generalize hs2 : sI (sI s1 1 1 0) 0 14 (nI (nl + 1)) = s2
      have k14 : gI (sI s1 1 1 0) 0 14 = nI nl := by rw [gI_sI, if_neg (by omega), a2.1 0 14 (sPar_no (by omega))]; exact e2.1
      have keep : fX9_keepLaw 0 s1 = some (nI nl, s2) := by
        unfold fX9_keepLaw
        rw [show gR s1 0 0 = some 1 from (a2.2.2 _ _ (by omega)).trans h.rf.f0.1, Option.bind_some, k14, nI_1, hs2]
        have : gI s2 0 14 = nI (nl + 1) := by rw [← hs2, gI_sI, if_pos ⟨rfl, rfl⟩]
        rw [this, show (1 : Int32) = nI 1 from rfl, pk_sub (by omega)]
        rfl
      rw [if_neg x0, keep, bnd2_some] at cT
      have u12 : Sm (fun c k => (c == 1 && k == 1) || (c == 0 && k == 14)) s1 s2 := by rw [← hs2]; exact (Sm.rf.sI rfl).sI rfl
      have s2T : Sm (sKl nl npl) σ s2 := (a2.mono (fun c k hc => by unfold sKl at hc; simp only [Bool.or_eq_false_iff] at hc; exact hc.1.1.1.1.1)).tr (u12.mono (fun c k hc => by unfold sKl at hc; simp only [Bool.or_eq_false_iff] at hc ⊢; exact ⟨hc.1.1.1.1.2, hc.1.1.1.2⟩))
      have w12 : Sm (fun c k => sPar nl npl c k || (c == 1 && k == 1) || (c == 0 && k == 14)) σ s2 := (a2.mono (fun c k hc => by simp only [Bool.or_eq_false_iff] at hc; exact hc.1.1)).tr (u12.mono (fun c k hc => by simp only [Bool.or_eq_false_iff] at hc ⊢; exact ⟨hc.1.2, hc.2⟩))
      have hm : MF (sI s2 310 0 0) b L := MF.of h e1 w12 (by show (sPar nl npl 310 6 || false || false) = false; rw [sPar_no (by omega)]; rfl) (fun k => by show (sPar nl npl 311 k || false || false) = false; rw [sPar_no (by omega)]; rfl)
      obtain ⟨v, τ2, b1, b2, b3⟩ := a3 _ hm
      obtain ⟨rfl, N, N240, hN, hck, hpar⟩ : v = -1 ∧ X1 nl σ s1 := by
        rcases b3 with ⟨c, -, -⟩ | ⟨-, c, d⟩
        · exact absurd c x0
        · exact ⟨c, d⟩
      have z7 : gI (sI s2 310 0 0) 310 7 = nI nl := by rw [gI_sI, if_neg (by omega), w12.1 310 7 (by show (sPar nl npl 310 7 || false || false) = false; rw [sPar_no (by omega)]; rfl)]; exact e2.2.1
      have h7 : gI (sI τ2 310 6 0) 310 7 = nI nl := by rw [gI_sI, if_neg (by omega), b2.1 310 7 rfl]; exact z7
      have t6 : gI τ2 310 6 = nI L := (b2.1 310 6 rfl).trans hm.2.1
      obtain ⟨τ3, g1, g2, g3⟩ := m_w71 (τ := sI τ2 310 6 0) (L := L) ((b2.2.2 310 1 (by omega)).trans hm.1.r1) ((b2.2.2 310 2 (by omega)).trans hm.1.2.1) h7 lt4 hL
      have r3 : gR τ3 310 3 = some 313 := (g2.2.2 310 3 (by omega)).trans ((b2.2.2 310 3 (by omega)).trans hm.1.2.2.1)
      have t7 : gI τ3 310 7 = nI nl := (g2.1 310 7 rfl).trans h7
      have l313 : ln 313 = 4 := lnM.2.2.1
      generalize hτ4 : sI (sI τ3 313 nl (nI L)) 310 7 (nI (nl + 1)) = τ4
      have u34 : Sm (fun c k => (c == 313 && k == nl) || (c == 310 && k == 7)) τ3 τ4 := by rw [← hτ4]; exact (Sm.rf.sI (by simp)).sI (by simp)
      have v24 : Sm (fun c k => (c == 310 && (k == 6 || k == 7)) || (c == 312 && (decide (240 * nl ≤ k) && decide (k < 240 * nl + 240))) || (c == 313 && k == nl)) τ2 τ4 := ((Sm.rf.sI (by simp) : Sm (fun c k => (c == 310 && (k == 6 || k == 7)) || (c == 312 && (decide (240 * nl ≤ k) && decide (k < 240 * nl + 240))) || (c == 313 && k == nl)) τ2 (sI τ2 310 6 0)).tr (g2.mono (fun c k hc => by simp only [Bool.or_eq_false_iff] at hc; exact hc.1.2))).tr (u34.mono (fun c k hc => by simp at hc ⊢; omega))
      have s : Sm (sKl nl npl) σ τ4 := ((s2T.sI (by unfold sKl sPar; simp)).tr (b2.pm.mono (fun c k hc => by unfold sKl at hc; simp only [Bool.or_eq_false_iff] at hc; exact hc.1.1.1.1.1))).tr (v24.mono (fun c k hc => by unfold sKl at hc; simp only [Bool.or_eq_false_iff] at hc ⊢; exact ⟨⟨hc.1.1.2, hc.1.2⟩, hc.2⟩))
      have hl : ∀ j k, j < nl → sKl nl npl (48 + 4 * j) k = false ∧ sKl nl npl (49 + 4 * j) k = false ∧ sKl nl npl (50 + 4 * j) k = false := fun j k hj => ⟨sKl_no (sPar_no (by omega)) (by omega), sKl_no (sPar_no (by omega)) (by omega), sKl_no (sPar_no (by omega)) (by omega)⟩
      have s14 : Sm (fun c _ => decide (310 ≤ c) || c == 1 || c == 0) s1 τ4 := (((u12.mono (fun c k hc => by simp at hc ⊢; omega)).sI (by simp)).tr (b2.mono (fun c k hc => by unfold sPm; simp at hc ⊢; omega))).tr (v24.mono (fun c k hc => by simp at hc ⊢; omega))
      have okN : LawOK τ4 (48 + 4 * nl) (lawF s1 nl N) := (X_LawOK (h.rf.sm a2) (by omega) N240 hN hck).sm (by omega) s14 (fun k => by simp; omega)
      have byN : ∀ k, k < L → gI τ4 312 (240 * nl + k) = byI (nI (b k)) := fun k hk => by
        rw [← hτ4, gI_sI, if_neg (by omega), gI_sI, if_neg (by omega), g3 k hk, gI_sI, if_neg (by omega), b2.1 311 k rfl, (hm.2.2 k hk).2, by_by]
      have t313 : gI τ4 313 nl = nI L := by rw [← hτ4, gI_sI, if_neg (by omega), gI_sI, if_pos ⟨rfl, rfl⟩]
      have lmN : LawM τ4 nl (lawF s1 nl N) := X_LawM (by omega) lt4 h.rf e1.1 e1.cb e1.2.1 hpar hN N240 ((s.2.2 310 4 (by omega)).trans h.mm.1.hm.1.r4) t313 byN
      obtain ⟨⟨hF, g, hH, -, h5, hP, hJ⟩, ⟨⟨M1, M2, M3, M4, M5⟩, M6, M7, M8⟩, K⟩ := id h
      have no : ∀ c k, ((3 ≤ c ∧ c ≤ 6) ∨ (89 ≤ c ∧ c ≤ 93) ∨ (99 ≤ c ∧ c ≤ 302) ∨ c = 315 ∨ c = 317 ∨ c = 319 ∨ c = 323 ∨ c = 329 ∨ c = 326 ∨ c = 327 ∨ (c = 310 ∧ (k = 26 ∨ k = 27 ∨ k = 28 ∨ k = 36 ∨ k = 42))) → sKl nl npl c k = false := fun c k hc => sKl_no (sPar_no (by omega)) (by omega)
      have hE : ME τ4 np nr W H ru pg rd (nl + 1) (extF F nl (lawF s1 nl N)) lw := by
        refine ⟨M1.sm s ⟨no _ _ (by omega), no _ _ (by omega), no _ _ (by omega)⟩ (fun k => ⟨no _ _ (by omega), no _ _ (by omega), no _ _ (by omega)⟩), by omega, fun j hj => ?_, fun z t c b d s' n j hz h1 h2 h3 h4 h5 h6 h7 ek => ?_, ?_⟩
        · by_cases qj : j = nl
          · subst qj; rw [extF_at]; exact lmN
          · rw [extF_lo (by omega)]
            exact (M3 j (by omega)).sm2 s (fun k hk => sKl_no (sPar_no (by omega)) (by omega)) (sKl_no (sPar_no (by omega)) (by omega))
        · rw [s.2.1 326 z (no _ _ (by omega))] at ek
          rw [s.1 327 z (no _ _ (by omega))]
          obtain ⟨o1, o2⟩ := M4 z t c b d s' n j hz h1 h2 h3 h4 h5 h6 h7 ek
          exact ⟨by omega, by rw [extF_lo o1]; exact o2⟩
        · rw [s.1 310 36 (no _ _ (by omega))]
          rcases M5 with z | ⟨j, z1, z2, z3⟩
          · exact Or.inl z
          · exact Or.inr ⟨j, by omega, z2, by rw [extF_lo z1]; exact z3⟩
      have hC : CCz z τ4 np nr W H ru pg rd lw w S jl acts pw := by
        refine ⟨hF.sm s, g, hH.sm s (by omega) (fun j k hj => no _ _ (by omega)), LW.sm3 h e2 s hl, h5.sm s (fun c k h1 h2 => no _ _ (by omega)), hP.sm s (fun c k hc => no _ _ ?_), hJ.sm s (fun k => ⟨no _ _ (by omega), no _ _ (by omega)⟩)⟩
        unfold sP at hc
        simp at hc
        omega
      refine STEP.mk (v := nI nl) (σ1 := s2) (σ2 := τ4) (D' := D) cT ?_ (⟨hC, ⟨hE, M6.sm s (fun k => no _ _ (by omega)), M7.sm s (fun k => no _ _ (by omega)), M8.sm s (fun k => no _ _ (by omega)) (no _ _ (by omega))⟩, K⟩ : CMz z np nr W H ru pg rd (nl + 1) (extF F nl (lawF s1 nl N)) lw D w S jl acts pw τ4) hz9 ⟨⟨b, 0, by omega, ?_, ?_, fun k hk => by omega⟩, ⟨?_, ?_, fun j hj => ?_⟩, ?_, ⟨sl, e4, (s.1 _ _ (sKl_no (sPar_no (by omega)) (by omega))).trans e5, (s.1 _ _ (sKl_no (sPar_no (by omega)) (by omega))).trans e6⟩, ⟨npl, e7.sm2 s (sKl_no (sPar_no (by omega)) (by omega)) (sKl_no (sPar_no (by omega)) (by omega)) (fun c k hc => sKl_no (sPar_no (by omega)) (by omega))⟩, e8.sm (Nat.le_refl _) s (sKl_no (sPar_no (by omega)) (by omega)) (sKl_no (sPar_no (by omega)) (by omega)) (fun c k hc => sKl_no (sPar_no (by omega)) (by omega))⟩ (by omega)
      · have fin : fX10_text 310 1 s2 = some (gI τ4 310 7 - 1, τ4) := by
          rw [mT, z7, if_neg neq]
          unfold fX10_text_b43
          rw [fc s2 ((w12.2.2 _ _ (by omega)).trans r1), b1, bnd2_some, if_pos rfl, if_pos rfl, t6, g1, Option.bind_some]
          dsimp only
          rw [r3, Option.bind_some, l313, t7, if_pos (ixT (by omega) (by omega)), clT (by omega), show gI (sI τ3 313 nl (nI L)) 310 7 = nI nl from by rw [gI_sI, if_neg (by omega)]; exact t7, nI_1, hτ4]
        rw [fin, ← hτ4, gI_sI, if_pos ⟨rfl, rfl⟩, show (1 : Int32) = nI 1 from rfl, pk_sub (by omega)]
        rfl
      · have y1 := s14.1
        have q1 := v24.1 1 1 rfl
        have q2 : gI τ2 1 1 = gI (sI s2 310 0 0) 1 1 := b2.1 1 1 rfl
        rw [q1, q2, gI_sI, if_neg (by omega), ← hs2, gI_sI, if_neg (by omega), gI_sI, if_pos ⟨rfl, rfl⟩]
        rfl
      · rw [← hτ4, gI_sI, if_neg (by omega), gI_sI, if_neg (by omega), g2.1 310 6 rfl, gI_sI, if_pos ⟨rfl, rfl⟩]
        rfl
      · have q1 := v24.1 0 14 rfl
        have q2 : gI τ2 0 14 = gI (sI s2 310 0 0) 0 14 := b2.1 0 14 rfl
        rw [q1, q2, gI_sI, if_neg (by omega), ← hs2, gI_sI, if_pos ⟨rfl, rfl⟩]
      · rw [← hτ4, gI_sI, if_pos ⟨rfl, rfl⟩]
      · by_cases qj : j = nl
        · subst qj
          rw [extF_at]
          refine ⟨okN, fun z => ?_⟩
          rw [s.1 310 36 (no _ _ (by omega))] at z
          rcases M5 with ⟨y, -⟩ | ⟨i, z1, z2, -⟩
          · exact absurd (z.symm.trans y) (fun y => (eqN1 (by omega)).mp y)
          · have := (eqT (by omega) (by omega)).mp (z.symm.trans z2)
            omega
        · rw [extF_lo (by omega)]
          obtain ⟨o1, o2⟩ := e2.2.2 j (by omega)
          refine ⟨o1.sm (by omega) s (fun k => hl j k (by omega)), fun z => ?_⟩
          rw [s.1 310 36 (no _ _ (by omega))] at z
          rw [s.2.2 11 2 (by omega)]
          exact o2 z
      · rw [s.1 0 16 (sKl_no (sPar_no (by omega)) (by omega)), s.1 310 36 (no _ _ (by omega))]; exact e3
end KeepLaw
