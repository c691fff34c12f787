/-! text: a hall opened, both -/
section Text0b
variable {σ τ : Mm} {D np nr W H S acts nl t npl : Nat} {ru pg rd w : Nat → Int32} {F : Nat → LF} {lw : Option LF} {jl pw : Nat → Nat → Int32} {b : Nat → Nat} {L : Nat} {z : Bool}
def sT0 (nl npl c k : Nat) : Bool := sPar nl npl c k || (decide (3 ≤ c) && decide (c ≤ 6)) || (decide (89 ≤ c) && decide (c ≤ 93)) || c == 99 || c == 301 || (c == 0 && k == 13) || (c == 1 && k == 1) || sOp c k
theorem sT0_no {c k : Nat} (h : sPar nl npl c k = false) (h2 : ¬ ((3 ≤ c ∧ c ≤ 6) ∨ (89 ≤ c ∧ c ≤ 93) ∨ c = 99 ∨ c = 301 ∨ (c = 0 ∧ k = 13) ∨ (c = 1 ∧ k = 1) ∨ (c = 310 ∧ (k = 6 ∨ k = 26 ∨ k = 27 ∨ k = 28 ∨ k = 42 ∨ k = 51)) ∨ c = 315 ∨ c = 317 ∨ c = 319 ∨ c = 323)) : sT0 nl npl c k = false := by
  unfold sT0 sOp; rw [h]; simp; omega
theorem sT0_yes {c k : Nat} (h : sT0 nl npl c k = false) : sPar nl npl c k = false ∧ ¬ (3 ≤ c ∧ c ≤ 6) ∧ ¬ (89 ≤ c ∧ c ≤ 93) ∧ ¬ c = 99 ∧ ¬ c = 301 ∧ ¬ (c = 0 ∧ k = 13) ∧ ¬ (c = 1 ∧ k = 1) ∧ sOp c k = false := by
  unfold sT0 at h
  simp only [Bool.or_eq_false_iff] at h
  obtain ⟨⟨⟨⟨⟨⟨⟨h1, h2⟩, h3⟩, h4⟩, h5⟩, h6⟩, h7⟩, h8⟩ := h
  refine ⟨h1, ?_, ?_, ?_, ?_, ?_, ?_, h8⟩
  · simp at h2; omega
  · simp at h3; omega
  · simpa using h4
  · simpa using h5
  · simp at h6; omega
  · simp at h7; omega
theorem X_text0 (h : CMz z np nr W H ru pg rd nl F lw D w S jl acts pw σ) (hz9 : z = true ∨ np = 0) (e : EX np nr nl F D σ) (hD : D ≤ 60 * t) : STEP t σ (fX9_text 0 0 σ) (fX10_text 310 0) := by
  obtain ⟨⟨b, L, e1⟩, e2, e3, ⟨sl, e4, e5, e6⟩, ⟨npl, e7⟩, e8⟩ := id e
  have p4 := e7.1
  have n4 := h.2.1.1.2.1
  have r1 : gR σ 310 1 = some 311 := h.mm.1.hm.1.r1
  have hin : ∀ τ, fX10_isIn (Int32.toInt64 0) 0 2 τ = some 1 := fun τ => isInT (x := 0) (a := 0) (b := 2) ⟨0, by omega, by omega, rfl⟩ (by omega)
  have cT : fX9_text 0 0 σ = bnd2 (fX9_isWhole 0 0 σ) fun vk1 sk1 => if vk1 = 0 then some ((-1), sk1) else bnd2 (fX9_openHall 0 sk1) fun vk3 sk3 => some (vk3, sk3) := by
    unfold fX9_text
    rw [if_pos rfl]
  have mT : ∀ s, fX10_text 310 0 s = fX10_text_b43 310 0 (sI s 310 0 0) := fun s => by
    unfold fX10_text fX10_text_b30
    rw [hin, Option.bind_some, if_neg z1, if_neg (show ¬ (0 : Int32) = 1 by decide), if_neg (show ¬ (0 : Int32) = 2 by decide)]
  obtain ⟨x, s1, a1, a2, a3⟩ := PAR0 (nl := nl) (npl := npl) h e1
  have a1' : fX9_isWhole 0 0 σ = some (x, s1) := a1
  rw [a1', bnd2_some] at cT
  have fc : ∀ s, gR s 310 1 = some 311 → fX10_fault 310 0 (sI s 310 0 0) = fcore 0 (sI s 310 0 0) := fun s hs => by
    have := m_fcore (σ := sI s 310 0 0) (k := 0) (by omega) hs
    rw [sI_sI] at this
    exact this
  have hm1 : MF (sI s1 310 0 0) b L := MF.of h e1 a2 (sPar_no (by omega)) (fun _ => sPar_no (by omega))
  obtain ⟨v, τ2, b1, b2, b3⟩ := a3 _ hm1
  by_cases x0 : x = 0
  · have s : Sm (sPar nl npl) σ τ2 := (a2.sI (by unfold sPar; simp)).tr b2.pm
    obtain ⟨q1, q2⟩ := h.par e e7 s
    have vn : ¬ v = -1 := by
      rcases b3 with ⟨-, -, c⟩ | ⟨c, -, -⟩
      · exact c
      · rw [x0] at c; exact absurd c (by decide)
    refine STEP.mk (v := -1) (σ1 := s1) (σ2 := τ2) (by rw [cT, if_pos x0]) ?_ q1 hz9 q2 (by omega)
    rw [mT]
    unfold fX10_text_b43
    rw [fc s1 ((a2.2.2 _ _ (by omega)).trans r1), b1, bnd2_some, if_neg vn]
  · obtain ⟨np', nr', ruled, W', H', hs, w8, h8, w1, w6, h1, h5, hwh⟩ : X0 s1 τ2 := by
      rcases b3 with ⟨c, -, -⟩ | ⟨-, -, d⟩
      · exact absurd c x0
      · exact d
    have g := HB_of hs w8 h8 w1 w6 h1 h5 hwh
    have hnp := hwh.1
    have g1 := g.1
    have g2 := g.2.1
    have hF1 := h.rf.sm a2
    obtain ⟨t1, c1, c2, c3⟩ := c_hallTake hF1 g1 g2 hs.1 hs.2.2.2.1
    have hF2 := hF1.sm c2
    obtain ⟨t2, d1, d2, d3⟩ := c_startIn g c3 hF2.sr89
    have hF3 := hF2.sm d2
    generalize ht3 : sI (sI t2 99 1 0) 99 2 0 = t3
    have u3 : Sm (fun c _ => c == 99) t2 t3 := by rw [← ht3]; exact (Sm.rf.sI rfl).sI rfl
    have hF4 := hF3.sm u3
    generalize ht4 : sI (sI t3 301 1 0) 301 2 0 = t4
    have u4 : Sm (fun c _ => c == 301) t3 t4 := by rw [← ht4]; exact (Sm.rf.sI rfl).sI rfl
    have hF5 := hF4.sm u4
    generalize ht5 : sI (sI t4 0 13 0) 1 1 0 = t5
    have u5 : Sm (fun c k => (c == 0 && k == 13) || (c == 1 && k == 1)) t4 t5 := by rw [← ht5]; exact (Sm.rf.sI rfl).sI rfl
    have u25 : Sm (fun c k => c == 99 || c == 301 || (c == 0 && k == 13) || (c == 1 && k == 1)) t2 t5 := ((u3.mono (fun c k hc => by simp at hc ⊢; omega)).tr (u4.mono (fun c k hc => by simp at hc ⊢; omega))).tr (u5.mono (fun c k hc => by simp at hc ⊢; omega))
    have c3b := c3.sm d2 (by omega) (fun j k hj => by unfold sS; simp; omega)
    have c35 := c3b.sm u25 (by omega) (fun j k hj => by simp; omega)
    have opn : fX9_openHall 0 s1 = some (nI np', t5) := by
      unfold fX9_openHall fX4_clear fX2_clear
      rw [hF1.f0.2.1, Option.bind_some, hF1.f0.2.2.1, Option.bind_some, c1, Option.bind_some, hF2.now, Option.bind_some, hF2.f0.2.1, Option.bind_some, d1, Option.bind_some, hF3.past, Option.bind_some, Option.bind_some, ht3, hF4.jou, Option.bind_some, Option.bind_some, ht4, hF5.f0.1, Option.bind_some, hF5.f0.2.1, Option.bind_some, ht5, c35.2.2.2.2.2.2.1]
    rw [if_neg x0, opn, bnd2_some] at cT
    have s5 : Sm (sT0 nl npl) σ t5 := (((a2.mono (fun c k hc => (sT0_yes hc).1)).tr (c2.mono (fun c k hc => by have := (sT0_yes hc).2.1; simp; omega))).tr (d2.mono (fun c k hc => by have := (sT0_yes hc).2.2.1; unfold sS; simp; omega))).tr (u25.mono (fun c k hc => by
      obtain ⟨-, -, -, y1, y2, y3, y4, -⟩ := sT0_yes hc
      simp
      omega))
    have s5c : Sm (fun c k => sPar nl npl c k || decide (c < 310)) σ t5 := (((a2.mono (fun c k hc => (Bool.or_eq_false_iff.mp hc).1)).tr (c2.mono (fun c k hc => by have := (Bool.or_eq_false_iff.mp hc).2; simp at this ⊢; omega))).tr (d2.mono (fun c k hc => by have := (Bool.or_eq_false_iff.mp hc).2; unfold sS; simp at this ⊢; omega))).tr (u25.mono (fun c k hc => by have := (Bool.or_eq_false_iff.mp hc).2; simp at this ⊢; omega))
    have hm5 : MF (sI t5 310 0 0) b L := MF.of h e1 s5c (by show (sPar nl npl 310 6 || false) = false; rw [sPar_no (by omega)]; rfl) (fun k => by show (sPar nl npl 311 k || false) = false; rw [sPar_no (by omega)]; rfl)
    obtain ⟨v', τ3, b1', b2', b3'⟩ := a3 _ hm5
    obtain ⟨rfl, np2, nr2, ruled2, W2, H2, hs2, -⟩ : v' = -1 ∧ X0 s1 τ3 := by
      rcases b3' with ⟨c, -, -⟩ | ⟨-, c, d⟩
      · exact absurd c x0
      · exact ⟨c, d⟩
    obtain ⟨y1, y2, y3, y4, y5, y6, y7, y8, y9, y10, y11, y12⟩ := hs2
    have en : np2 = np' := (eqT (by omega) (by omega)).mp (y1.symm.trans hs.1)
    have er : nr2 = nr' := (eqT (by omega) (by omega)).mp (y4.symm.trans hs.2.2.2.1)
    subst en er
    obtain ⟨k1, k2, k3, -⟩ := kall
    have rm3 : RM τ3 := by
      have r := hm5.1
      unfold RM at r ⊢
      have gh : ∀ k, k ≠ 5 → gR τ3 310 k = gR (sI t5 310 0 0) 310 k := fun k hk => b2'.2.2 _ _ (by omega)
      rw [gh 1 (by omega), gh 2 (by omega), gh 3 (by omega), gh 4 (by omega), gh 15 (by omega), gh 16 (by omega), gh 18 (by omega), gh 19 (by omega), gh 20 (by omega), gh 21 (by omega), gh 22 (by omega), gh 23 (by omega), gh 24 (by omega), gh 25 (by omega), gh 33 (by omega), gh 34 (by omega), gh 35 (by omega), gh 38 (by omega), gh 39 (by omega), gh 40 (by omega), gh 41 (by omega), gh 48 (by omega), gh 49 (by omega), gh 50 (by omega)]
      exact r
    obtain ⟨τ4, o1, o2, o3, o4, o5, o6, o7, o8⟩ := m_open (τ := τ3) (ru := gI s1 8) (pg := gI s1 9) (rd := gI s1 10) rm3 g y2 y5 (fun k hk => by
      obtain ⟨v, -, -, z1, z2⟩ := y9 k (by rw [k1]; exact hk)
      rw [Nat.zero_add] at z1 z2
      rw [z1, z2]) (fun k hk => by
      obtain ⟨v, -, -, z1, z2⟩ := y11 (k / 4) (by omega) (k % 4) (by rw [k2]; omega)
      rw [show 4 * (k / 4) + k % 4 = k by omega] at z1 z2
      rw [z1, z2]) (fun k hk => by
      obtain ⟨v, -, -, z1, z2⟩ := y12 (k / 4) (by omega) (k % 4) (by rw [k3]; omega)
      rw [show 4 * (k / 4) + k % 4 = k by omega] at z1 z2
      rw [z1, z2])
    have s : Sm (sT0 nl npl) σ τ4 := ((s5.sI (by unfold sT0 sPar; simp)).tr (b2'.pm.mono (fun c k hc => (sT0_yes hc).1))).tr (o2.mono (fun c k hc => (sT0_yes hc).2.2.2.2.2.2.2))
    have q54 : Sm (fun c _ => decide (310 ≤ c)) t5 τ4 := ((Sm.rf.sI (by simp)).tr (b2'.mono (fun c k hc => by unfold sPm; simp at hc ⊢; omega))).tr (o2.mono (fun c k hc => by unfold sOp; simp at hc ⊢; omega))
    have no : ∀ c k, ¬ ((c = 1 ∧ (k = 1 ∨ k = 2 ∨ k = 3)) ∨ (3 ≤ c ∧ c ≤ 10) ∨ (48 + 4 * nl ≤ c ∧ c ≤ 50 + 4 * nl) ∨ (69 + 4 * npl ≤ c ∧ c ≤ 72 + 4 * npl) ∨ (89 ≤ c ∧ c ≤ 93) ∨ c = 99 ∨ c = 301 ∨ (c = 0 ∧ k = 13) ∨ (c = 310 ∧ (k = 0 ∨ (8 ≤ k ∧ k ≤ 14) ∨ k = 17 ∨ k = 29 ∨ k = 30 ∨ k = 32 ∨ k = 6 ∨ k = 26 ∨ k = 27 ∨ k = 28 ∨ k = 42 ∨ k = 51)) ∨ c = 316 ∨ c = 318 ∨ c = 320 ∨ (c = 321 ∧ 192 ≤ k) ∨ (c = 322 ∧ k = 4) ∨ c = 315 ∨ c = 317 ∨ c = 319 ∨ c = 323) → sT0 nl npl c k = false := fun c k hc => sT0_no (sPar_no (by omega)) (by omega)
    have hl : ∀ j k, j < nl → sT0 nl npl (48 + 4 * j) k = false ∧ sT0 nl npl (49 + 4 * j) k = false ∧ sT0 nl npl (50 + 4 * j) k = false := fun j k hj => ⟨no _ _ (by omega), no _ _ (by omega), no _ _ (by omega)⟩
    obtain ⟨⟨-, -, -, -, -, -, -⟩, ⟨⟨M1, M2, M3, M4, M5⟩, -, -, -⟩, -⟩ := id h
    have hE : ME τ4 np2 nr2 W' H' (gI s1 8) (gI s1 9) (gI s1 10) nl F lw := by
      refine ⟨o6, M2, fun j hj => (M3 j hj).sm s (fun k => ⟨no _ _ (by omega), no _ _ (by omega)⟩), fun z t c b d s' n j hz h1 h2 h3 h4 h5 h6 h7 ek => ?_, ?_⟩
      · rw [s.2.1 326 z (no _ _ (by omega))] at ek
        rw [s.1 327 z (no _ _ (by omega))]
        exact M4 z t c b d s' n j hz h1 h2 h3 h4 h5 h6 h7 ek
      · rw [s.1 310 36 (no _ _ (by omega))]; exact M5
    have z99 : gI t5 99 1 = nI 0 ∧ gI t5 99 2 = nI 0 := by
      have w1 := u5.1 99 1 rfl
      have w2 := u5.1 99 2 rfl
      have w3 := u4.1 99 1 rfl
      have w4 := u4.1 99 2 rfl
      rw [w1, w2, w3, w4, ← ht3]
      exact ⟨by rw [gI_sI, if_neg (by omega), gI_sI, if_pos ⟨rfl, rfl⟩]; rfl, by rw [gI_sI, if_pos ⟨rfl, rfl⟩]; rfl⟩
    have z301 : gI t5 301 1 = nI 0 ∧ gI t5 301 2 = nI 0 := by
      have w1 := u5.1 301 1 rfl
      have w2 := u5.1 301 2 rfl
      rw [w1, w2, ← ht4]
      exact ⟨by rw [gI_sI, if_neg (by omega), gI_sI, if_pos ⟨rfl, rfl⟩]; rfl, by rw [gI_sI, if_pos ⟨rfl, rfl⟩]; rfl⟩
    have hC : CC τ4 np2 nr2 W' H' (gI s1 8) (gI s1 9) (gI s1 10) lw (sStart np2 nr2 (gI s1 8) (gI s1 9) (gI s1 10)) 0 jl 0 pw :=
      ⟨h.rf.sm s, g, c35.sm q54 (by omega) (fun j k hj => by simp; omega), LW.sm3 h e2 s hl, (d3.sm u25 (fun j k hj => by simp; omega)).sm q54 (fun j k hj => by simp; omega), ⟨by omega, by rw [q54.1 99 1 rfl]; exact z99.1, 0, by omega, by rw [q54.1 99 2 rfl]; exact z99.2, fun u hu => by omega⟩, by omega, by rw [q54.1 301 1 rfl]; exact z301.1, 0, by omega, by rw [q54.1 301 2 rfl]; exact z301.2, fun i j hi => by omega⟩
    have hM : MM τ4 np2 nr2 W' H' (gI s1 8) (gI s1 9) (gI s1 10) nl F lw (sStart np2 nr2 (gI s1 8) (gI s1 9) (gI s1 10)) 0 jl 0 pw := ⟨hE, o7, ⟨by omega, o8, fun i j hi => by omega⟩, by omega, o4, fun u hu => by omega⟩
    refine STEP.mk (v := nI np2) (σ1 := t5) (σ2 := τ4) (D' := 0) cT ?_ (CM.toz (show CM np2 nr2 W' H' (gI s1 8) (gI s1 9) (gI s1 10) nl F lw 0 (sStart np2 nr2 (gI s1 8) (gI s1 9) (gI s1 10)) 0 jl 0 pw τ4 from ⟨hC, hM, st_wu g, st_wz, fun u hu => by omega, by omega⟩)) (Or.inl rfl) ⟨⟨b, 0, by omega, ?_, o3, fun k hk => by omega⟩, e2.sm n4 s (no _ _ (by omega)) (no _ _ (by omega)) (no _ _ (by omega)) hl, ?_, ⟨sl, e4, (s.1 _ _ (no _ _ (by omega))).trans e5, (s.1 _ _ (no _ _ (by omega))).trans e6⟩, ⟨npl, e7.sm2 s (no _ _ (by omega)) (no _ _ (by omega)) (fun c k hc => no _ _ (by omega))⟩, Or.inl ⟨?_, o5⟩⟩ (by omega)
    · rw [mT]
      unfold fX10_text_b43
      rw [fc t5 ((s5.2.2 _ _ (by omega)).trans r1), b1', bnd2_some, if_pos rfl, if_neg (show ¬ (0 : Int32) = 1 by decide), if_neg (show ¬ (0 : Int32) = 2 by decide)]
      exact o1
    · rw [q54.1 1 1 rfl, ← ht5, gI_sI, if_pos ⟨rfl, rfl⟩]; rfl
    · rw [s.1 0 16 (no _ _ (by omega)), s.1 310 36 (no _ _ (by omega))]; exact e3
    · rw [q54.1 0 13 rfl, ← ht5, gI_sI, if_neg (by omega), gI_sI, if_pos ⟨rfl, rfl⟩]
theorem X_text (h : CMz z np nr W H ru pg rd nl F lw D w S jl acts pw σ) (hz9 : z = true ∨ np = 0) (e : EX np nr nl F D σ) (hD : D ≤ 60 * t) (x : Int32) : STEP t σ (fX9_text 0 x σ) (fX10_text 310 x) := by
  by_cases q0 : x = 0
  · subst q0; exact X_text0 h hz9 e hD
  by_cases q1 : x = 1
  · subst q1; exact X_text1 h hz9 e hD
  by_cases q2 : x = 2
  · subst q2; exact X_text2 h hz9 e hD
  have hx : ¬ ∃ k, 0 ≤ k ∧ k ≤ 2 ∧ x = nI k := fun ⟨k, _, hk, e⟩ => by
    rcases (show k = 0 ∨ k = 1 ∨ k = 2 by omega) with rfl | rfl | rfl
    · exact q0 e
    · exact q1 e
    · exact q2 e
  have hin : ∀ τ, fX10_isIn (Int32.toInt64 x) 0 2 τ = some 0 := fun τ => isInF (a := 0) (b := 2) hx (by omega) (by omega)
  refine STEP.non (v := -1) h hz9 e hD ?_ ?_
  · unfold fX9_text
    rw [if_neg q0, if_neg q1, if_neg q2]
  · unfold fX10_text
    rw [hin, Option.bind_some, if_pos rfl]
end Text0b
