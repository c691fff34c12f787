/-! laws: kept -/
section LawN
variable {σ τ : Mm} {b : Nat → Nat} {L : Nat}
def lt6 (x0 x1 x2 x3 x4 x5 : Int32) (k : Nat) : Int32 := if k = 0 then x0 else if k = 1 then x1 else if k = 2 then x2 else if k = 3 then x3 else if k = 4 then x4 else x5
def lawF (σ : Mm) (j N : Nat) : LF := fun x0 x1 x2 x3 x4 x5 => evS (gI σ (49 + 4 * j)) (gI σ (50 + 4 * j)) (lt6 x0 x1 x2 x3 x4 x5) N BIG 0 false 0 (fun _ => 0)
theorem lt6_at (g : Nat → Int32) : ∀ k, k < 6 → g k = lt6 (g 0) (g 1) (g 2) (g 3) (g 4) (g 5) k := fun k hk => by
  unfold lt6
  rcases (show k = 0 ∨ k = 1 ∨ k = 2 ∨ k = 3 ∨ k = 4 ∨ k = 5 by omega) with rfl | rfl | rfl | rfl | rfl | rfl <;> rfl
theorem X_LawOK {j N : Nat} (hF : RF σ) (hj : j < 5) (hN : N ≤ 240) (hz : gI σ (48 + 4 * j) 4 = nI N) (hk : CK (gI σ (49 + 4 * j)) (gI σ (50 + 4 * j)) N) : LawOK σ (48 + 4 * j) (lawF σ j N) := by
  obtain ⟨-, -, r1, r2, r3⟩ := hF.law hj
  refine ⟨⟨j, hj, rfl⟩, fun σ' e1 e2 e3 e4 => ?_⟩
  have w : WI j (gI σ (49 + 4 * j)) (gI σ (50 + 4 * j)) (lt6 (gI σ' 12 0) (gI σ' 12 1) (gI σ' 12 2) (gI σ' 12 3) (gI σ' 12 4) (gI σ' 12 5)) N σ' := ⟨(e4 1).trans r1, (e4 2).trans r2, (e4 3).trans r3, e3.trans hz, fun k => by have := e1 k; rwa [show 48 + 4 * j + 1 = 49 + 4 * j by omega] at this, fun k => by have := e2 k; rwa [show 48 + 4 * j + 2 = 50 + 4 * j by omega] at this, lt6_at (gI σ' 12)⟩
  obtain ⟨σ'', g1, g2⟩ := c_worthL hj hN hk BIG 0 0 false σ' w (by omega) (by omega) (by unfold BIG; omega)
  refine ⟨σ'', ?_, g2⟩
  have : fX3_worth (48 + 4 * j) 12 σ' = ((wh (fun a : Int32 × Int32 × Int32 × Mm => fX3_worth_l7 (48 + 4 * j) 12 a.1 a.2.1 a.2.2.1 a.2.2.2) BIG (nI 0, pB false, nI 0, σ')).bind fun r => wG (48 + 4 * j) r) := rfl
  rw [this, g1]
  unfold lawF
  rw [evS_st _ _ _ _ BIG 0 false 0 (gI σ' (51 + 4 * j)) (fun _ => 0) (fun x hx => by omega)]
def ltM (τ : Mm) : Nat → Int32 := lt6 (gI τ 314 98) (gI τ 314 99) (gI τ 314 100) (gI τ 314 115) (gI τ 314 110) (gI τ 314 116)
theorem ltM_at {τ : Mm} : ∀ i, i < 6 → gI τ 314 (chL i) = ltM τ i := fun i hi => by
  unfold ltM
  rcases (show i = 0 ∨ i = 1 ∨ i = 2 ∨ i = 3 ∨ i = 4 ∨ i = 5 by omega) with rfl | rfl | rfl | rfl | rfl | rfl <;> rfl
theorem lok_lz {τ : Mm} (h : LOK (gI τ 314)) : LZ (ltM τ) := fun i hi => by
  have : chL i = 98 ∨ chL i = 99 ∨ chL i = 100 ∨ chL i = 115 ∨ chL i = 110 ∨ chL i = 116 := by
    rcases (show i = 0 ∨ i = 1 ∨ i = 2 ∨ i = 3 ∨ i = 4 ∨ i = 5 by omega) with rfl | rfl | rfl | rfl | rfl | rfl <;> decide
  obtain ⟨n, hn, e⟩ := h _ this
  rw [← ltM_at i hi, e]
  exact NM_nI hn
theorem X_LawM {σ' : Mm} {j jm N : Nat} (hj : j < 5) (hjm : jm < 4) (hF : RF σ) (hL : L ≤ 240) (hb : ∀ k, k < L → b k < 256 ∧ gI σ 2 k = nI (b k)) (h1 : gI σ 1 1 = nI L) (hp : fX3_parse (48 + 4 * j) σ = some (1, σ')) (hN : gI σ' (48 + 4 * j) 4 = nI N) (hN2 : N ≤ 240) (hr : gR τ 310 4 = some 314) (h313 : gI τ 313 jm = nI L) (hb' : ∀ k, k < L → gI τ 312 (240 * jm + k) = byI (nI (b k))) : LawM τ jm (lawF σ' j N) := by
  intro τ' e1 e2 e3 e4
  have hb2 : ∀ k, k < L → b k < 256 ∧ gI τ' 312 (240 * jm + k) = byI (nI (b k)) := fun k hk => ⟨(hb k hk).1, (e1 k (by omega)).trans (hb' k hk)⟩
  rw [e2, h313]
  rcases X_lawtext (τ := τ') (ℓ := ltM τ') hj hF hL hb h1 (Or.inr rfl) (B := 240 * jm) (by rw [ln2.2.2]; omega) ⟨e3.trans hr, ltM_at⟩ hb2 with ⟨e, s1, t1, a1, -⟩ | ⟨n, R, s1, t1, a1, a2, a3, a4, a5, a6, a7, a8, a9⟩
  · rw [hp] at a1
    cases a1
  · rw [hp] at a1
    cases a1
    have : n = N := (eqT (by omega) (by omega)).mp (a5.symm.trans hN)
    subst this
    obtain ⟨c, hc⟩ := a9 (lok_lz e4)
    refine ⟨t1, a2, ?_, a7⟩
    have E : lawF σ' j n (gI τ' 314 98) (gI τ' 314 99) (gI τ' 314 100) (gI τ' 314 115) (gI τ' 314 110) (gI τ' 314 116) = R.getD 0 := by
      exact ev_all hN2 hc _
    rw [E]
    cases R with
    | none => exact a8.2
    | some v => exact a8.2
end LawN
