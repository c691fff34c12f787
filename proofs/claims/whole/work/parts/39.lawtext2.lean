/-! laws: the whole text, from its start -/
section LawI
variable {σ τ : Mm} {b : Nat → Nat} {L : Nat} {ℓ : Nat → Int32}
theorem m_starts2 {a B : Nat} (ha : a = 311 ∨ a = 312) (hB : B + 240 ≤ ln a) (hL : L ≤ 240) (hl : LTR τ ℓ) (hb : ∀ k, k < L → b k < 256 ∧ gI τ a (B + k) = byI (nI (b k))) : ∃ τ', fX10_starts 310 a (nI B) (nI L) τ = some τ' ∧ TM (sI (sI (sI (sI τ' 310 13 121) 310 12 0) 310 17 0) 310 14 0) a B b L 0 ∧ gI (sI (sI (sI (sI τ' 310 13 121) 310 12 0) 310 17 0) 310 14 0) 310 11 = -1 ∧ LTR (sI (sI (sI (sI τ' 310 13 121) 310 12 0) 310 17 0) 310 14 0) ℓ ∧ Sm sG τ (sI (sI (sI (sI τ' 310 13 121) 310 12 0) 310 17 0) 310 14 0) := by
  have n0 : ¬ a = 310 := by omega
  unfold fX10_starts
  refine ⟨_, rfl, ⟨by omega, hL, ?_, ha, hB, ?_, ?_, ?_, fun k hk => ⟨(hb k hk).1, ?_⟩⟩, ?_, ⟨?_, fun i hi => ?_⟩, ?_⟩
  · rfl
  · simp [gI_sI]
  · simp [gI_sI]
  · simp [gI_sI]; rfl
  · simp only [gI_sI]; simp [n0]; exact (hb k hk).2
  · simp [gI_sI]
  · show gR (sR τ 310 5 (some a)) 310 4 = some 314
    rw [gR_sR, if_neg (by omega)]; exact hl.1
  · simp [gI_sI]; exact hl.2 i hi
  · have s0 : Sm sG τ (sR τ 310 5 (some a)) := ⟨fun _ _ _ => rfl, fun _ _ _ => rfl, fun c k hc => by rw [gR_sR, if_neg hc]⟩
    exact (((((((s0.sI rfl).sI rfl).sI rfl).sI rfl).sI rfl).sI rfl).sI rfl).sI rfl
theorem tLn_G {x y : Mm} (h : Sm tLn x y) : Sm sG x y := h.mono (fun c k hc => by
  unfold sG at hc
  unfold tLn
  simp at hc ⊢
  intro z
  have := hc z
  omega)
theorem X_lawtext {j a B : Nat} (hj : j < 5) (hF : RF σ) (hL : L ≤ 240) (hb : ∀ k, k < L → b k < 256 ∧ gI σ 2 k = nI (b k)) (h1 : gI σ 1 1 = nI L) (ha : a = 311 ∨ a = 312) (hB : B + 240 ≤ ln a) (hl : LTR τ ℓ) (hb' : ∀ k, k < L → b k < 256 ∧ gI τ a (B + k) = byI (nI (b k))) :
    (∃ e σ' τ', fX3_parse (48 + 4 * j) σ = some (0, σ') ∧ gI σ' 1 3 = nI e ∧ fX10_goThrough 310 a (nI B) (nI L) τ = some τ' ∧ gI τ' 310 11 = nI e ∧ e ≤ 240 ∧ Sm (tLc j) σ σ' ∧ Sm sG τ τ') ∨
    (∃ n R σ' τ', fX3_parse (48 + 4 * j) σ = some (1, σ') ∧ fX10_goThrough 310 a (nI B) (nI L) τ = some τ' ∧ gI τ' 310 11 = -1 ∧ n ≤ 240 ∧ gI σ' (48 + 4 * j) 4 = nI n ∧ Sm (tLc j) σ σ' ∧ Sm sG τ τ' ∧ FdR τ' R ∧ CSV σ' j ℓ n R) := by
  have r0 := (hF.law hj).2.1
  have s0 : Sm (tLc j) σ (sI σ (48 + 4 * j) 4 0) := Sm.rf.sI (by unfold tLc; simp)
  have hF0 := hF.sm s0
  obtain ⟨σ1, a1, a2, a3⟩ := c_rewind (σ := sI σ (48 + 4 * j) 4 0) (b := b) (hF0.2.1) hL (by rw [gI_sI, if_neg (by omega)]; exact h1) (fun k hk => by rw [gI_sI, if_neg (by omega)]; exact hb k hk)
  obtain ⟨τ1, c1, c2, c3, c4, c5⟩ := m_starts2 ha hB hL hl hb'
  have s1 : Sm (tLc j) σ σ1 := s0.tr (tA_L a3)
  have z0 : gI σ1 (48 + 4 * j) 4 = nI 0 := by
    rw [a3.1 _ _ (by unfold tA; simp), gI_sI, if_pos ⟨rfl, rfl⟩]
    rfl
  generalize hτ2 : sI (sI (sI (sI τ1 310 13 121) 310 12 0) 310 17 0) 310 14 0 = τ2 at *
  have hST : ST j a B b L ℓ σ1 τ2 0 0 0 := ⟨hF.sm s1, hj, a2, z0, c2, c3, by rw [← hτ2]; simp [gI_sI]; rfl, c4⟩
  have hy : gI τ2 310 13 = 121 := by rw [← hτ2]; simp [gI_sI]
  have hf : FdR τ2 none := ⟨by rw [← hτ2]; simp [gI_sI], by rw [← hτ2]; simp [gI_sI]⟩
  have pre : fX3_parse (48 + 4 * j) σ = (fX3_parse_w16 (48 + 4 * j) 1 0 σ1).bind (Sum.elim (fun eo90 => some eo90) (fun eo91 => (fun so9 => fX3_parse_b52 (48 + 4 * j) so9) eo91)) := by
    unfold fX3_parse
    rw [r0, Option.bind_some, a1, Option.bind_some]
  have prm : fX10_goThrough 310 a (nI B) (nI L) τ = ((fX10_clause 310 τ2).bind fun s => wh (fun a : Mm => fX10_goThrough_l32 310 a) BIG s).bind fun o => fX10_goThrough_b66 310 o := by
    unfold fX10_goThrough fX10_goThrough_w32
    rw [c1, Option.bind_some, hτ2]
    cases fX10_clause 310 τ2 <;> rfl
  unfold fX3_parse_w16 at pre
  rcases X_parseL 240 σ1 τ2 0 0 0 none (by omega) (by omega) (by omega) hST hy hf (fun _ => ⟨0, rfl, rfl⟩) BIG BIG (by unfold BIG; omega) (by unfold BIG; omega) with ⟨e', σ2, τ3, b1, b2, b3, b4, b5, b6, b7⟩ | ⟨q, n2, R2, σ2, τ3, d1, d2, d3, d4, d5, d6, d7, d8⟩
  · left
    refine ⟨e', σ2, τ3, ?_, b2, ?_, b4, b5, s1.tr b6, c5.tr (tLn_G b7)⟩
    · rw [pre]
      exact (congrArg (fun x => Option.bind x _) b1).trans rfl
    · rw [prm, b3, Option.bind_some]
      unfold fX10_goThrough_b66
      rw [if_neg (by rw [b4]; exact fun z => (eqN1 (by omega)).mp z)]
  · have h0 := d4.ncur
    have hs := sk_bd (b := b) d4.tc.1
    have pre2 : fX3_parse (48 + 4 * j) σ = if sg b L q = -1 then some (1, sI σ2 1 2 (nI (sk b L q))) else some (0, sI (sI σ2 1 2 (nI (sk b L q))) 1 3 (nI (sk b L q))) := by
      rw [pre]
      refine (congrArg (fun x => Option.bind x _) d1).trans ?_
      show fX3_parse_b52 (48 + 4 * j) σ2 = _
      unfold fX3_parse_b52
      rw [d4.r0, Option.bind_some, c_next d4.tc, bnd2_some]
      by_cases z : sg b L q = -1
      · rw [if_pos z, if_pos z]
      · rw [if_neg z, if_neg z, h0.r0, Option.bind_some, c_wrong h0.tc, bnd2_some, if_pos rfl]
    have prm2 : fX10_goThrough 310 a (nI B) (nI L) τ = if sg b L q = -1 then some (sI τ3 310 10 (nI (sk b L q))) else some (sI (sI τ3 310 10 (nI (sk b L q))) 310 11 (nI (sk b L q))) := by
      rw [prm, d2, Option.bind_some]
      unfold fX10_goThrough_b66
      rw [if_pos d4.ok, m_look d4.tm, bnd2_some]
      by_cases z : sg b L q = -1
      · rw [if_pos z, if_pos z]
      · rw [if_neg z, if_neg z, m_fails h0.tm h0.ok, bnd2_some]
    have sC := s1.tr d5
    have sM := c5.tr (tLn_G d6)
    by_cases z : sg b L q = -1
    · right
      rw [if_pos z] at pre2 prm2
      have := d4.tc.1
      refine ⟨n2, R2, _, _, pre2, prm2, h0.ok, by omega, h0.sz, sC.sI rfl, sM.sI rfl, d7.keep (by rw [gI_sI, if_neg (by omega)]) (by rw [gI_sI, if_neg (by omega)]), fun hz => ?_⟩
      obtain ⟨c, hc⟩ := d8 hz
      exact ⟨c, hc.congr (fun x hx => cur_codes x hx)⟩
    · left
      rw [if_neg z] at pre2 prm2
      exact ⟨sk b L q, _, _, pre2, by rw [gI_sI, if_pos ⟨rfl, rfl⟩], prm2, by rw [gI_sI, if_pos ⟨rfl, rfl⟩], by omega, (sC.sI rfl).sI rfl, (sM.sI rfl).sI rfl⟩
end LawI
