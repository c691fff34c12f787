/-! fault -/
def sPar (nl npl c k : Nat) : Bool := (c == 1 && (k == 2 || k == 3)) || (decide (7 ≤ c) && decide (c ≤ 10)) || (decide (48 + 4 * nl ≤ c) && decide (c ≤ 50 + 4 * nl)) || (decide (69 + 4 * npl ≤ c) && decide (c ≤ 72 + 4 * npl)) || (c == 310 && (k == 0 || (decide (8 ≤ k) && decide (k ≤ 14)) || k == 17 || k == 29 || k == 30 || k == 32)) || c == 316 || c == 318 || c == 320 || (c == 321 && decide (192 ≤ k)) || (c == 322 && k == 4)
section Fault
variable {σ σ' τ : Mm} {D np nr W H S acts nl t npl : Nat} {ru pg rd w : Nat → Int32} {F : Nat → LF} {lw : Option LF} {jl pw : Nat → Nat → Int32} {T : Nat → Nat → Bool} {z : Bool}
theorem sPar_no {c k : Nat} (h : ¬ ((c = 1 ∧ (k = 2 ∨ k = 3)) ∨ (7 ≤ c ∧ c ≤ 10) ∨ (48 + 4 * nl ≤ c ∧ c ≤ 50 + 4 * nl) ∨ (69 + 4 * npl ≤ c ∧ c ≤ 72 + 4 * npl) ∨ (c = 310 ∧ (k = 0 ∨ (8 ≤ k ∧ k ≤ 14) ∨ k = 17 ∨ k = 29 ∨ k = 30 ∨ k = 32)) ∨ c = 316 ∨ c = 318 ∨ c = 320 ∨ (c = 321 ∧ 192 ≤ k) ∨ (c = 322 ∧ k = 4))) : sPar nl npl c k = false := by
  unfold sPar; simp; omega
theorem PLN.sm2 (h : PLN σ npl) (s : Sm T σ σ') (h1 : T 0 15 = false) (h2 : T 310 31 = false) (hs : ∀ c k, (69 ≤ c ∧ c < 69 + 4 * npl) ∨ (c = 321 ∧ k < 192) ∨ (c = 322 ∧ k < 4) → T c k = false) : PLN σ' npl := by
  obtain ⟨a1, a2, a3, a4⟩ := h
  refine ⟨a1, by rw [s.1 _ _ h1]; exact a2, by rw [s.1 _ _ h2]; exact a3, fun j hj => ?_⟩
  obtain ⟨n, b1, b2, b3, b4, b5⟩ := a4 j hj
  refine ⟨n, b1, b2, by rw [s.1 _ _ (hs _ _ (by omega))]; exact b3, by rw [s.1 _ _ (hs _ _ (by omega))]; exact b4, fun i hi => ?_⟩
  rw [s.1 _ _ (hs (70 + 4 * j) _ (by omega)), s.1 _ _ (hs (71 + 4 * j) _ (by omega)), s.1 _ _ (hs (72 + 4 * j) _ (by omega)), s.1 _ _ (hs 321 _ (by omega)), s.1 _ _ (hs 321 _ (by omega)), s.1 _ _ (hs 321 _ (by omega))]
  exact b5 i hi
/-- the law held stays, whatever comes of the law on trial -/
theorem LW.sm3 (h : CMz z np nr W H ru pg rd nl F lw D w S jl acts pw σ) (e : LWS σ nl F) (s : Sm T σ σ') (hs : ∀ j k, j < nl → T (48 + 4 * j) k = false ∧ T (49 + 4 * j) k = false ∧ T (50 + 4 * j) k = false) : LW σ' lw := by
  have n4 := h.2.1.1.2.1
  rcases h.2.1.1.2.2.2.2 with ⟨-, rfl⟩ | ⟨j, hj, ej, rfl⟩
  · show gR σ' 11 2 = none
    rw [s.2.2 _ _ (by omega)]; exact h.hl
  · obtain ⟨o1, o2⟩ := e.2.2 j hj
    exact ⟨48 + 4 * j, by rw [s.2.2 _ _ (by omega)]; exact o2 ej, o1.sm (by omega) s (fun k => hs j k hj)⟩
theorem CMz.ag3 (h : CMz z np nr W H ru pg rd nl F lw D w S jl acts pw σ) (e : LWS σ nl F) (s : Sm T σ σ') (hl : ∀ j k, j < nl → T (48 + 4 * j) k = false ∧ T (49 + 4 * j) k = false ∧ T (50 + 4 * j) k = false) (hs : ∀ c k, ((3 ≤ c ∧ c ≤ 6) ∨ (89 ≤ c ∧ c ≤ 93) ∨ (99 ≤ c ∧ c ≤ 302)) → T c k = false) (hm : ∀ c k, kMM c k = true → T c k = false) (h2 : ∀ k, T 326 k = false ∧ T 327 k = false) : CMz z np nr W H ru pg rd nl F lw D w S jl acts pw σ' := by
  have hL := LW.sm3 h e s hl
  obtain ⟨⟨hF, g, hH, -, h5, hP, hJ⟩, hM, h3⟩ := h
  refine ⟨⟨hF.sm s, g, hH.sm s (by omega) (fun j k hj => hs _ _ (by omega)), hL, h5.sm s (fun c k h1 h2 => hs _ _ (by omega)), hP.sm s (fun c k hc => hs _ _ ?_), hJ.sm s (fun k => ⟨hs _ _ (by omega), hs _ _ (by omega)⟩)⟩, hM.sm s hm h2, h3⟩
  unfold sP at hc
  simp at hc
  omega
theorem CMz.par (h : CMz z np nr W H ru pg rd nl F lw D w S jl acts pw σ) (e : EX np nr nl F D σ) (hp : PLN σ npl) (s : Sm (sPar nl npl) σ σ') : CMz z np nr W H ru pg rd nl F lw D w S jl acts pw σ' ∧ EX np nr nl F D σ' := by
  have n4 := h.2.1.1.2.1
  have p4 := hp.1
  obtain ⟨⟨b, L, e1⟩, e2, e3, ⟨sl, e4, e5, e6⟩, -, e8⟩ := id e
  have hl : ∀ j k, j < nl → sPar nl npl (48 + 4 * j) k = false ∧ sPar nl npl (49 + 4 * j) k = false ∧ sPar nl npl (50 + 4 * j) k = false := fun j k hj => ⟨sPar_no (by omega), sPar_no (by omega), sPar_no (by omega)⟩
  refine ⟨h.ag3 e2 s hl (fun c k hc => sPar_no (by omega)) (fun c k hc => sPar_no ?_) (fun k => ⟨sPar_no (by omega), sPar_no (by omega)⟩), ⟨b, L, e1.sm s (sPar_no (by omega)) (sPar_no (by omega)) (fun k => ⟨sPar_no (by omega), sPar_no (by omega)⟩)⟩, e2.sm n4 s (sPar_no (by omega)) (sPar_no (by omega)) (sPar_no (by omega)) hl, ?_, ⟨sl, e4, (s.1 _ _ (sPar_no (by omega))).trans e5, (s.1 _ _ (sPar_no (by omega))).trans e6⟩, ⟨npl, hp.sm2 s (sPar_no (by omega)) (sPar_no (by omega)) (fun c k hc => sPar_no (by omega))⟩, e8.sm (Nat.le_refl _) s (sPar_no (by omega)) (sPar_no (by omega)) (fun c k hc => sPar_no (by omega))⟩
  · unfold kMM coreH at hc
    simp at hc
    omega
  · rw [s.1 0 16 (sPar_no (by omega)), s.1 310 36 (sPar_no (by omega))]; exact e3
/-- the model's tape, ready to be read -/
def MF (τ : Mm) (b : Nat → Nat) (L : Nat) : Prop := RM τ ∧ gI τ 310 6 = nI L ∧ ∀ k, k < L → b k < 256 ∧ gI τ 311 k = byI (nI (b k))
theorem RM.r1 (h : RM τ) : gR τ 310 1 = some 311 := h.1
theorem RM.r4 (h : RM τ) : gR τ 310 4 = some 314 := h.2.2.2.1
theorem RM.r19 (h : RM τ) : gR τ 310 19 = some 316 := h.2.2.2.2.2.2.2.1
theorem RM.r21 (h : RM τ) : gR τ 310 21 = some 318 := h.2.2.2.2.2.2.2.2.2.1
theorem RM.r23 (h : RM τ) : gR τ 310 23 = some 320 := h.2.2.2.2.2.2.2.2.2.2.2.1
theorem RM.r24 (h : RM τ) : gR τ 310 24 = some 321 := h.2.2.2.2.2.2.2.2.2.2.2.2.1
theorem RM.r25 (h : RM τ) : gR τ 310 25 = some 322 := h.2.2.2.2.2.2.2.2.2.2.2.2.2.1
theorem TP.cb {b : Nat → Nat} {L : Nat} (h : TP σ b L) : ∀ k, k < L → b k < 256 ∧ gI σ 2 k = nI (b k) := fun k hk => ⟨(h.2.2.2 k hk).2.1, (h.2.2.2 k hk).2.2.1⟩
theorem MF.of {b : Nat → Nat} {L : Nat} (h : CMz z np nr W H ru pg rd nl F lw D w S jl acts pw σ) (e : TP σ b L) (s : Sm T σ σ') (h1 : T 310 6 = false) (h2 : ∀ k, T 311 k = false) : MF (sI σ' 310 0 0) b L := by
  have r := h.mm.1.hm.1
  refine ⟨?_, ?_, fun k hk => ⟨(e.2.2.2 k hk).2.1, ?_⟩⟩
  · unfold RM at r ⊢
    have gh : ∀ k, k ≠ 5 → gR (sI σ' 310 0 0) 310 k = gR σ 310 k := fun k hk => s.2.2 _ _ (by omega)
    rw [gh 1 (by omega), gh 2 (by omega), gh 3 (by omega), gh 4 (by omega), gh 15 (by omega), gh 16 (by omega), gh 18 (by omega), gh 19 (by omega), gh 20 (by omega), gh 21 (by omega), gh 22 (by omega), gh 23 (by omega), gh 24 (by omega), gh 25 (by omega), gh 33 (by omega), gh 34 (by omega), gh 35 (by omega), gh 38 (by omega), gh 39 (by omega), gh 40 (by omega), gh 41 (by omega), gh 48 (by omega), gh 49 (by omega), gh 50 (by omega)]
    exact r
  · rw [gI_sI, if_neg (by omega), s.1 _ _ h1]; exact e.2.2.1
  · rw [gI_sI, if_neg (by omega), s.1 _ _ (h2 k)]; exact (e.2.2.2 k hk).2.2.2
theorem up_tHC {a b : Mm} (h : Sm tHC a b) : Sm (sPar nl npl) a b := h.mono (fun c k hc => by
  unfold sPar at hc; unfold tHC tA; simp at hc ⊢; omega)
theorem up_tHM {a b : Mm} (h : Sm (fun c k => tHM c k || tMs c k) a b) : Sm (sPar nl npl) a b := h.mono (fun c k hc => by
  unfold sPar at hc; unfold tHM tMs tM; simp at hc ⊢; omega)
theorem up_tPc {a b : Mm} (h : Sm (tPc npl) a b) : Sm (sPar nl npl) a b := h.mono (fun c k hc => by
  unfold sPar at hc; unfold tPc tA; simp at hc ⊢; omega)
theorem up_tPm {a b : Mm} (h : Sm (fun c k => tPm c k || tMs c k) a b) : Sm (sPar nl npl) a b := h.mono (fun c k hc => by
  unfold sPar at hc; unfold tPm tMs tM; simp at hc ⊢; omega)
theorem up_tLc {a b : Mm} (h : Sm (tLc nl) a b) : Sm (sPar nl npl) a b := h.mono (fun c k hc => by
  unfold sPar at hc; unfold tLc tA; simp at hc ⊢; omega)
theorem up_sG {a b : Mm} (h : Sm sG a b) : Sm (sPar nl npl) a b := h.mono (fun c k hc => by
  unfold sPar at hc; unfold sG; simp at hc ⊢; omega)
/-- what reading a text changes on the model's side -/
def sPm (c k : Nat) : Bool := decide (310 ≤ c) && sPar 0 0 c k
theorem Sm.pm {a b : Mm} (h : Sm sPm a b) : Sm (sPar nl npl) a b := h.mono (fun c k hc => by
  unfold sPar at hc; unfold sPm sPar; simp at hc ⊢; omega)
theorem pm_tHM {a b : Mm} (h : Sm (fun c k => tHM c k || tMs c k) a b) : Sm sPm a b := h.mono (fun c k hc => by
  unfold sPm sPar at hc; unfold tHM tMs tM; simp at hc ⊢; omega)
theorem pm_tPm {a b : Mm} (h : Sm (fun c k => tPm c k || tMs c k) a b) : Sm sPm a b := h.mono (fun c k hc => by
  unfold sPm sPar at hc; unfold tPm tMs tM; simp at hc ⊢; omega)
theorem pm_sG {a b : Mm} (h : Sm sG a b) : Sm sPm a b := h.mono (fun c k hc => by
  unfold sPm sPar at hc; unfold sG; simp at hc ⊢; omega)
end Fault
