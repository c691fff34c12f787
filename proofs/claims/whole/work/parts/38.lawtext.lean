/-! laws: the whole text, both parsers in step -/
section LawH
variable {σ τ : Mm} {b : Nat → Nat} {L p : Nat} {ℓ : Nat → Int32}
def orR (R r : Option Int32) : Option Int32 := match R with | some v => some v | none => r
/-- so many clauses, up to sign n', and what the first that speaks tells -/
def Cs (cs vs ℓ : Nat → Int32) : Nat → Nat → Option Int32 → Prop
  | 0, n', R => n' = 0 ∧ R = none
  | c + 1, n', R => ∃ m r R0, Cs cs vs ℓ c m R0 ∧ m < n' ∧ Cl cs vs ℓ m n' r ∧ R = orR R0 r
theorem Cs.congr {cs vs cs' vs' ℓ : Nat → Int32} : ∀ {c n' : Nat} {R : Option Int32}, Cs cs vs ℓ c n' R → (∀ x, x < n' → cs' x = cs x ∧ vs' x = vs x) → Cs cs' vs' ℓ c n' R := by
  intro c
  induction c with
  | zero => intro n' R h _; exact h
  | succ c ih =>
    intro n' R h hc
    obtain ⟨m, r, R0, h1, h2, h3, h4⟩ := h
    exact ⟨m, r, R0, ih h1 (fun x hx => hc x (by omega)), h2, h3.congr hc, h4⟩
def CSV (σ : Mm) (j : Nat) (ℓ : Nat → Int32) (n : Nat) (R : Option Int32) : Prop := LZ ℓ → ∃ c, Cs (gI σ (49 + 4 * j)) (gI σ (50 + 4 * j)) ℓ c n R
def FdR (τ : Mm) (R : Option Int32) : Prop := match R with
  | none => gI τ 310 17 = 0 ∧ gI τ 310 14 = 0
  | some v => gI τ 310 17 = 1 ∧ gI τ 310 14 = v
theorem FdR.keep {τ' : Mm} {R : Option Int32} (h : FdR τ R) (h1 : gI τ' 310 17 = gI τ 310 17) (h2 : gI τ' 310 14 = gI τ 310 14) : FdR τ' R := by
  cases R with
  | none => exact ⟨h1.trans h.1, h2.trans h.2⟩
  | some v => exact ⟨h1.trans h.1, h2.trans h.2⟩
theorem FdR.fnd {R : Option Int32} (h : FdR τ R) (r : Option Int32) : FdR (fndM τ r) (orR R r) := by
  unfold fndM
  cases R with
  | none =>
    rw [if_pos h.1]
    cases r with
    | none => exact h
    | some v =>
      refine ⟨?_, ?_⟩
      · rw [gI_sI, if_neg (by omega), gI_sI, if_pos ⟨rfl, rfl⟩]
      · rw [gI_sI, if_pos ⟨rfl, rfl⟩]
  | some v => rw [if_neg (by rw [h.1]; decide)]; exact h
def OUTP (j a B : Nat) (b : Nat → Nat) (L : Nat) (ℓ : Nat → Int32) (σ τ : Mm) (c : Option ((Int32 × Mm) ⊕ Mm)) (m : Option Mm) : Prop :=
  (∃ e σ' τ', c = some (Sum.inl (0, σ')) ∧ gI σ' 1 3 = nI e ∧ m = some τ' ∧ gI τ' 310 11 = nI e ∧ e ≤ 240 ∧ Sm (tLc j) σ σ' ∧ Sm tLn τ τ') ∨
  (∃ q n' R σ' τ', c = some (Sum.inr σ') ∧ m = some τ' ∧ n' ≤ q ∧ ST j a B b L ℓ σ' τ' q n' 0 ∧ Sm (tLc j) σ σ' ∧ Sm tLn τ τ' ∧ FdR τ' R ∧ CSV σ' j ℓ n' R)
theorem m_thru {s s1 : Mm} {K : Nat} (h : fX10_goThrough_l32 310 s = (fX10_clause 310 s1).bind fun sk6 => some (Sum.inl sk6)) : wh (fun a : Mm => fX10_goThrough_l32 310 a) (K + 1) s = (fX10_clause 310 s1).bind fun s2 => wh (fun a : Mm => fX10_goThrough_l32 310 a) K s2 := by
  cases e : fX10_clause 310 s1 with
  | none =>
    rw [e] at h
    have h2 : fX10_goThrough_l32 310 s = none := h
    unfold wh
    rw [h2]
    rfl
  | some s2 =>
    rw [e] at h
    exact whL h
theorem X_parseL {j a B : Nat} : ∀ (D : Nat) (σ τ : Mm) (p n i : Nat) (R : Option Int32), L - p ≤ D → n ≤ p → i ≤ p → ST j a B b L ℓ σ τ p n 0 → gI τ 310 13 = 121 → FdR τ R → CSV σ j ℓ n R → ∀ K K', D + 2 < K → D + 2 < K' →
    OUTP j a B b L ℓ σ τ (wh (fun a : Int32 × Int32 × Mm => fX3_parse_l16 (48 + 4 * j) a.1 a.2.1 a.2.2) K (1, nI i, σ)) ((fX10_clause 310 τ).bind fun s => wh (fun a : Mm => fX10_goThrough_l32 310 a) K' s) := by
  intro D
  induction D with
  | zero =>
    intro σ τ p n i R hD hn hi h hy hf hv K K' hK hK'
    obtain ⟨K, rfl⟩ : ∃ x, K = x + 1 := ⟨K - 1, by omega⟩
    obtain ⟨K', rfl⟩ : ∃ x, K' = x + 1 := ⟨K' - 1, by omega⟩
    have hL := h.tc.2.1
    have hpL := h.tc.1
    have i240 : ¬ (240 : Int32) < nI i := fun z => absurd ((ltT (a := 240) (by omega) (by omega)).mp z) (by omega)
    rcases X_clauseL h hn hy with ⟨e', σ', τ', a1, a2, a3, a4, a5, a6, a7⟩ | ⟨q, n', r, σ', τ', b1, b2, b3, b4, b5, b6, b7, b8, b9, b10⟩
    · left
      have cS : fX3_parse_l16 (48 + 4 * j) 1 (nI i) σ = some (Sum.inr (Sum.inl (0, σ'))) := by
        unfold fX3_parse_l16
        rw [if_neg z1, if_neg i240, a1, bnd2_some, if_pos rfl]
      have mS : fX10_goThrough_l32 310 τ' = some (Sum.inr τ') := by
        unfold fX10_goThrough_l32
        rw [if_neg (by rw [a4]; exact fun z => (eqN1 (by omega)).mp z)]
      exact ⟨e', σ', τ', whR cS, a2, by rw [a3, Option.bind_some]; exact whR mS, a4, a5, a6, a7⟩
    · have := b6.tc.1
      omega
  | succ D ih =>
    intro σ τ p n i R hD hn hi h hy hf hv K K' hK hK'
    obtain ⟨K, rfl⟩ : ∃ x, K = x + 1 + 1 := ⟨K - 2, by omega⟩
    obtain ⟨K', rfl⟩ : ∃ x, K' = x + 1 + 1 := ⟨K' - 2, by omega⟩
    have hL := h.tc.2.1
    have hpL := h.tc.1
    have i240 : ¬ (240 : Int32) < nI i := fun z => absurd ((ltT (a := 240) (by omega) (by omega)).mp z) (by omega)
    rcases X_clauseL h hn hy with ⟨e', σ', τ', a1, a2, a3, a4, a5, a6, a7⟩ | ⟨q, n', r, σ', τ1, b1, b2, b3, b4, b5, b6, b7, b8, b9, b10⟩
    · left
      have cS : fX3_parse_l16 (48 + 4 * j) 1 (nI i) σ = some (Sum.inr (Sum.inl (0, σ'))) := by
        unfold fX3_parse_l16
        rw [if_neg z1, if_neg i240, a1, bnd2_some, if_pos rfl]
      have mS : fX10_goThrough_l32 310 τ' = some (Sum.inr τ') := by
        unfold fX10_goThrough_l32
        rw [if_neg (by rw [a4]; exact fun z => (eqN1 (by omega)).mp z)]
      exact ⟨e', σ', τ', whR cS, a2, by rw [a3, Option.bind_some]; exact whR mS, a4, a5, a6, a7⟩
    · have b6' := b6.fnd r
      have fN : FdR (fndM τ1 r) (orR R r) := (hf.keep (b8.1 310 17 rfl) (b8.1 310 14 rfl)).fnd r
      have hyN : gI (fndM τ1 r) 310 13 = 121 := by rw [(fnd_sm τ1 r).1 310 13 rfl, b8.1 310 13 rfl]; exact hy
      have sMN : Sm tLn τ (fndM τ1 r) := (tL_n b8).tr (fnd_sm τ1 r)
      have vN : CSV σ' j ℓ n' (orR R r) := fun hz => by
        obtain ⟨c, hc⟩ := hv hz
        exact ⟨c + 1, n, r, R, hc.congr b9, b4, b10 hz, rfl⟩
      generalize hR' : orR R r = R' at *
      generalize hτ' : fndM τ1 r = τ' at *
      have qL := b6'.tc.1
      obtain ⟨s1, s2, s3⟩ := sk_bd (b := b) b6'.tc.1
      have cS : fX3_parse_l16 (48 + 4 * j) 1 (nI i) σ = bnd2 (if sg b L q = 59 then some (1, sI σ' 1 2 (nI (sk b L q + 1))) else some (0, sI σ' 1 2 (nI (sk b L q)))) fun vk8 sk8 => some (Sum.inl (vk8, nI (i + 1), sk8)) := by
        unfold fX3_parse_l16
        rw [if_neg z1, if_neg i240, b1, bnd2_some, if_neg z1, b6'.r0, Option.bind_some, c_goOver b6'.tc, nI_1]
      have mS : fX10_goThrough_l32 310 τ' = if sg b L q = 59 then (fX10_clause 310 (sI τ' 310 10 (nI (sk b L q + 1)))).bind fun sk6 => some (Sum.inl sk6) else some (Sum.inr (sI τ' 310 10 (nI (sk b L q)))) := by
        have k := b6'.ncur.tm
        unfold fX10_goThrough_l32
        rw [if_pos b6'.ok, m_look b6'.tm, bnd2_some, k.2.2.2.2.2.2.2.1, nI_1, sI_sI]
      rw [b2, Option.bind_some]
      by_cases q59 : sg b L q = 59
      · have hlt := sg_lt (x := 59) (by omega) q59
        rw [if_pos q59, bnd2_some] at cS
        rw [if_pos q59] at mS
        have hN := b6'.cur (q := sk b L q + 1) (by omega)
        have vN2 : CSV (sI σ' 1 2 (nI (sk b L q + 1))) j ℓ n' R' := fun hz => by
          obtain ⟨c, hc⟩ := vN hz
          exact ⟨c, hc.congr (fun x hx => cur_codes x hx)⟩
        have I := ih (sI σ' 1 2 (nI (sk b L q + 1))) (sI τ' 310 10 (nI (sk b L q + 1))) (sk b L q + 1) n' (i + 1) R' (by omega) (by omega) (by omega) hN (by rw [gI_sI, if_neg (by omega)]; exact hyN) (fN.keep (by rw [gI_sI, if_neg (by omega)]) (by rw [gI_sI, if_neg (by omega)])) vN2 (K + 1) (K' + 1) (by omega) (by omega)
        have eC : wh (fun a : Int32 × Int32 × Mm => fX3_parse_l16 (48 + 4 * j) a.1 a.2.1 a.2.2) (K + 1 + 1) (1, nI i, σ) = wh (fun a : Int32 × Int32 × Mm => fX3_parse_l16 (48 + 4 * j) a.1 a.2.1 a.2.2) (K + 1) (1, nI (i + 1), sI σ' 1 2 (nI (sk b L q + 1))) := whL cS
        rw [eC, m_thru mS]
        have sC2 : Sm (tLc j) σ (sI σ' 1 2 (nI (sk b L q + 1))) := b7.sI rfl
        have sM2 : Sm tLn τ (sI τ' 310 10 (nI (sk b L q + 1))) := sMN.sI rfl
        rcases I with ⟨e', σ2, τ2, a1, a2, a3, a4, a5, a6, a7⟩ | ⟨q2, n2, R2, σ2, τ2, d1, d2, d3, d4, d5, d6, d7, d8⟩
        · exact Or.inl ⟨e', σ2, τ2, a1, a2, a3, a4, a5, sC2.tr a6, sM2.tr a7⟩
        · exact Or.inr ⟨q2, n2, R2, σ2, τ2, d1, d2, d3, d4, sC2.tr d5, sM2.tr d6, d7, d8⟩
      · right
        rw [if_neg q59, bnd2_some] at cS
        rw [if_neg q59] at mS
        have cS2 : fX3_parse_l16 (48 + 4 * j) 0 (nI (i + 1)) (sI σ' 1 2 (nI (sk b L q))) = some (Sum.inr (Sum.inr (sI σ' 1 2 (nI (sk b L q))))) := by
          unfold fX3_parse_l16
          rw [if_pos rfl]
        have eC : wh (fun a : Int32 × Int32 × Mm => fX3_parse_l16 (48 + 4 * j) a.1 a.2.1 a.2.2) (K + 1 + 1) (1, nI i, σ) = wh (fun a : Int32 × Int32 × Mm => fX3_parse_l16 (48 + 4 * j) a.1 a.2.1 a.2.2) (K + 1) (0, nI (i + 1), sI σ' 1 2 (nI (sk b L q))) := whL cS
        refine ⟨sk b L q, n', R', sI σ' 1 2 (nI (sk b L q)), sI τ' 310 10 (nI (sk b L q)), by rw [eC]; exact whR cS2, whR mS, by omega, b6'.ncur, b7.sI rfl, sMN.sI rfl, fN.keep (by rw [gI_sI, if_neg (by omega)]) (by rw [gI_sI, if_neg (by omega)]), fun hz => ?_⟩
        obtain ⟨c, hc⟩ := vN hz
        exact ⟨c, hc.congr (fun x hx => cur_codes x hx)⟩
end LawH
