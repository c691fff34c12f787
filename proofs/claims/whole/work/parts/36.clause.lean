/-! laws: clauses, both parsers in step -/
section LawF
variable {σ τ : Mm} {b : Nat → Nat} {L p : Nat} {ℓ : Nat → Int32}
/-- one clause: the signs n .. n', what it tells -/
def Cl (cs vs ℓ : Nat → Int32) (n n' : Nat) (r : Option Int32) : Prop :=
  (∃ m v, Seg cs vs ℓ n m v ∧ cs m = 59 ∧ n' = m + 1 ∧ r = some v) ∨
  (∃ m c m2 v, Seg cs vs ℓ n m c ∧ cs m = 63 ∧ Seg cs vs ℓ (m + 1) m2 v ∧ cs m2 = 59 ∧ n' = m2 + 1 ∧ r = if c = 0 then none else some v)
theorem Cl.congr {cs vs cs' vs' : Nat → Int32} {n n' : Nat} {r : Option Int32} (h : Cl cs vs ℓ n n' r) (hc : ∀ x, x < n' → cs' x = cs x ∧ vs' x = vs x) : Cl cs' vs' ℓ n n' r := by
  rcases h with ⟨m, v, h1, h2, h3, h4⟩ | ⟨m, c, m2, v, h1, h2, h3, h4, h5, h6⟩
  · exact Or.inl ⟨m, v, h1.congr (fun x _ hx => hc x (by omega)), by rw [(hc m (by omega)).1]; exact h2, h3, h4⟩
  · have := h3.1
    exact Or.inr ⟨m, c, m2, v, h1.congr (fun x _ hx => hc x (by omega)), by rw [(hc m (by omega)).1]; exact h2, h3.congr (fun x _ hx => hc x (by omega)), by rw [(hc m2 (by omega)).1]; exact h4, h5, h6⟩
def CLV (σ : Mm) (j : Nat) (ℓ : Nat → Int32) (n n' : Nat) (r : Option Int32) : Prop := LZ ℓ → Cl (gI σ (49 + 4 * j)) (gI σ (50 + 4 * j)) ℓ n n' r
def tLn (c k : Nat) : Bool := c == 310 && (k == 10 || k == 11 || k == 12 || k == 14 || k == 17)
def fndM (τ : Mm) (r : Option Int32) : Mm := if gI τ 310 17 = 0 then (match r with | none => τ | some v => sI (sI τ 310 17 1) 310 14 v) else τ
theorem tL_n {x y : Mm} (h : Sm tLm x y) : Sm tLn x y := h.mono (fun c k hc => by
  unfold tLn at hc
  unfold tLm
  simp at hc ⊢
  intro z
  have := hc z
  omega)
theorem fnd_sm (τ : Mm) (r : Option Int32) : Sm tLn τ (fndM τ r) := by
  unfold fndM
  by_cases q : gI τ 310 17 = 0
  · rw [if_pos q]
    cases r with
    | none => exact Sm.rf
    | some v => exact (Sm.rf.sI rfl).sI rfl
  · rw [if_neg q]; exact Sm.rf
theorem ST.fnd {j a B n d : Nat} (h : ST j a B b L ℓ σ τ p n d) (r : Option Int32) : ST j a B b L ℓ σ (fndM τ r) p n d := by
  unfold fndM
  by_cases q : gI τ 310 17 = 0
  · rw [if_pos q]
    cases r with
    | none => exact h
    | some v =>
      exact ⟨h.rf, h.hj, h.tc, h.sz, (h.tm.oth (Or.inl ⟨rfl, by omega⟩)).oth (Or.inl ⟨rfl, by omega⟩), by rw [gI_sI, if_neg (by omega), gI_sI, if_neg (by omega)]; exact h.ok, by rw [gI_sI, if_neg (by omega), gI_sI, if_neg (by omega)]; exact h.dp, h.lt.cur.cur⟩
  · rw [if_neg q]; exact h
theorem m_b134 {c v : Int32} (h1 : gI τ 310 11 = -1) (h2 : gI τ 310 13 = 121) : fX10_clause_b134 310 121 c v τ = some (fndM τ (if c = 0 then none else some v)) := by
  unfold fX10_clause_b134 fndM
  rw [if_pos h1, h2, if_pos rfl]
  by_cases q : gI τ 310 17 = 0
  · rw [if_pos q, if_pos q]
    by_cases q2 : c = 0
    · rw [if_pos q2, if_pos q2]
    · rw [if_neg q2, if_neg q2]
  · rw [if_neg q, if_neg q]
theorem m_b134F {a c v : Int32} {e : Nat} (he : e ≤ 240) (h1 : gI τ 310 11 = nI e) : fX10_clause_b134 310 a c v τ = some τ := by
  unfold fX10_clause_b134
  rw [if_neg (by rw [h1]; exact fun z => (eqN1 (by omega)).mp z)]
def OUTC (z j a B : Nat) (b : Nat → Nat) (L : Nat) (ℓ : Nat → Int32) (n0 n p : Nat) (σ τ : Mm) (c : Option (Int32 × Mm)) (m : Option Mm) : Prop :=
  (∃ e σ' τ', c = some (0, σ') ∧ gI σ' 1 3 = nI e ∧ m = some τ' ∧ gI τ' 310 11 = nI e ∧ e ≤ 240 ∧ Sm (tLc j) σ σ' ∧ Sm tLn τ τ') ∨
  (∃ q n' r σ' τ', c = some (1, σ') ∧ m = some (fndM τ' r) ∧ p < q ∧ n < n' ∧ n' + p ≤ n + q + z ∧ ST j a B b L ℓ σ' τ' q n' 0 ∧ Sm (tLc j) σ σ' ∧ Sm tLm τ τ' ∧ (∀ i, i < n → gI σ' (49 + 4 * j) i = gI σ (49 + 4 * j) i ∧ gI σ' (50 + 4 * j) i = gI σ (50 + 4 * j) i) ∧ CLV σ' j ℓ n0 n' r)
theorem OUTC.pre {z z' j a B n0 n P : Nat} {σ1 τ1 : Mm} {c : Option (Int32 × Mm)} {m : Option Mm} (h : OUTC z j a B b L ℓ n0 n P σ1 τ1 c m) (hp : p ≤ P) (hz : p + z ≤ P + z') (s : Sm (tLc j) σ σ1) (t : Sm tLm τ τ1) (e : ∀ i, i < n → gI σ1 (49 + 4 * j) i = gI σ (49 + 4 * j) i ∧ gI σ1 (50 + 4 * j) i = gI σ (50 + 4 * j) i) : OUTC z' j a B b L ℓ n0 n p σ τ c m := by
  rcases h with ⟨e', σ', τ', a1, a2, a3, a4, a5, a6, a7⟩ | ⟨q, n', r, σ', τ', b1, b2, b3, b4, b5, b6, b7, b8, b9, b10⟩
  · exact Or.inl ⟨e', σ', τ', a1, a2, a3, a4, a5, s.tr a6, (tL_n t).tr a7⟩
  · exact Or.inr ⟨q, n', r, σ', τ', b1, b2, by omega, b4, by omega, b6, s.tr b7, t.tr b8, fun x hx => ⟨(b9 x hx).1.trans (e x hx).1, (b9 x hx).2.trans (e x hx).2⟩, b10⟩
theorem q_sum {j a B n : Nat} (h : ST j a B b L ℓ σ τ p n 0) (hn : n ≤ p) : OUT QT j a B b L ℓ 0 n n p σ τ (gX3 100 4 (48 + 4 * j) 0 0 σ) (gX10p 100 2 310 0 0 τ) := ((pall j a B b L ℓ 21) 100 100 0 σ τ p n (by omega) (by omega) (by omega) hn h).2.2.1 (by omega)
theorem q_con {j a B n : Nat} (h : ST j a B b L ℓ σ τ p n 0) (hn : n ≤ p) : OUT QB j a B b L ℓ 0 n n p σ τ (gX3 100 0 (48 + 4 * j) 0 0 σ) (gX10p 100 6 310 0 0 τ) := ((pall j a B b L ℓ 25) 100 100 0 σ τ p n (by omega) (by omega) (by omega) hn h).2.2.2.2.2.2.1 (by omega)
theorem q_conB {j a B n n0 : Nat} {v : Int32} (h : ST j a B b L ℓ σ τ p n 0) (hn : n ≤ p) (h0 : n0 ≤ n) (hv : SegV σ j ℓ n0 n v) : OUT QB j a B b L ℓ 0 n0 n p σ τ (gX3 100 0 (48 + 4 * j) 0 1 σ) (gX10p 100 6 310 1 v τ) := (((pall j a B b L ℓ 25) 100 100 0 σ τ p n (by omega) (by omega) (by omega) hn h).2.2.2.2.2.2.2 n0 v h0 hv).2.2 (by omega)
/-- behind a CONDITION -/
def cTail (l : Nat) (s : Mm) : Option (Int32 × Mm) := (gR s l 0).bind fun r14 => bnd2 (fX7_expect r14 63 s) fun vk15 sk15 => if vk15 = 0 then some (0, sk15) else (fX3_emit l 63 0 sk15).bind fun sk17 => bnd2 (gX3 100 4 l 0 0 sk17) fun vk18 sk18 => if vk18 = 0 then some (0, sk18) else fX3_clause_b123 l sk18
def mTail (c : Int32) (s : Mm) : Option Mm := bnd2 (fX10_takes 310 63 s) fun vk23 sk23 => if vk23 = 0 then some sk23 else bnd2 (gX10p 100 2 310 0 0 sk23) fun vk25 sk25 => fX10_clause_b134 310 121 c vk25 sk25
theorem X_tail {j a B n n0 : Nat} {c : Int32} (h : ST j a B b L ℓ σ τ p n 0) (hn : n ≤ p) (hv : SegV σ j ℓ n0 n c) (hy : gI τ 310 13 = 121) : OUTC 1 j a B b L ℓ n0 n p σ τ (cTail (48 + 4 * j) σ) (mTail c τ) := by
  obtain ⟨s1, s2, s3⟩ := sk_bd (b := b) h.tc.1
  have hL := h.tc.2.1
  unfold cTail mTail
  rw [h.r0, Option.bind_some, c_expect h.tc, m_takes h.tm h.ok]
  by_cases q : sg b L p = 63
  · have hlt := sg_lt (x := 63) (by omega) q
    have h1 := h.cur (q := sk b L p + 1) (by omega)
    obtain ⟨σ2, c1, c2, c3, c4, c5, c6⟩ := h1.emit (by omega) 63 0
    rw [if_pos q, if_pos q, bnd2_some, if_neg z1, c1, Option.bind_some, bnd2_some, if_neg z1]
    have sC : Sm (tLc j) σ σ2 := (Sm.rf.sI rfl : Sm (tLc j) σ (sI σ 1 2 (nI (sk b L p + 1)))).tr c3
    have sM : Sm tLm τ (sI τ 310 10 (nI (sk b L p + 1))) := Sm.rf.sI rfl
    have e2 : ∀ i, i < n → gI σ2 (49 + 4 * j) i = gI σ (49 + 4 * j) i ∧ gI σ2 (50 + 4 * j) i = gI σ (50 + 4 * j) i := fun i hi => ⟨(c6 i hi).1.trans (cur_codes i hi).1, (c6 i hi).2.trans (cur_codes i hi).2⟩
    rcases q_sum c2 (by omega) with ⟨e', σ', τ', w, a1, a2, a3, a4, a5, a6, a7, a8⟩ | ⟨q', n', w, σ', τ', b1, b2, b3, b4, b5, b6, b7, b8, b9, b10, b11⟩
    · left
      rw [a1, bnd2_some, if_pos rfl, a3, bnd2_some, m_b134F a5 a4]
      exact ⟨e', σ', τ', rfl, a2, rfl, a4, a5, sC.tr a7, tL_n (sM.tr a8)⟩
    · right
      have hqL := b6.tc.1
      obtain ⟨σ3, d1, d2, d3, d4, d5, d6⟩ := b6.emit (by omega) 59 0
      have hy' : gI τ' 310 13 = 121 := by rw [(sM.tr b9).1 310 13 rfl]; exact hy
      rw [b1, bnd2_some, if_neg z1, b2, bnd2_some, m_b134 b6.ok hy']
      unfold fX3_clause_b123
      rw [d1, Option.bind_some]
      have eo : ∀ i, i < n → gI σ3 (49 + 4 * j) i = gI σ (49 + 4 * j) i ∧ gI σ3 (50 + 4 * j) i = gI σ (50 + 4 * j) i := fun i hi => ⟨((d6 i (by omega)).1.trans (b10 i (by omega)).1).trans (e2 i hi).1, ((d6 i (by omega)).2.trans (b10 i (by omega)).2).trans (e2 i hi).2⟩
      refine ⟨q', n' + 1, if c = 0 then none else some w, σ3, τ', rfl, rfl, by omega, by omega, by omega, d2, (sC.tr b8).tr d3, sM.tr b9, eo, fun hz => ?_⟩
      right
      refine ⟨n, c, n', w, (hv hz).1.congr (fun x _ hx => eo x hx), ?_, (b11 hz).1.congr (fun x _ hx => d6 x hx), d4, rfl, rfl⟩
      rw [(d6 n (by omega)).1, (b10 n (by omega)).1]
      exact c4
  · left
    rw [if_neg q, if_neg q, bnd2_some, if_pos rfl, bnd2_some, if_pos rfl]
    exact ⟨sk b L p, _, _, rfl, by rw [gI_sI, if_pos ⟨rfl, rfl⟩], rfl, by rw [gI_sI, if_pos ⟨rfl, rfl⟩], by omega, (Sm.rf.sI rfl).sI rfl, (Sm.rf.sI rfl).sI rfl⟩
theorem X_when {j a B n n0 : Nat} {C M : Option (Int32 × Mm)} (hn : n ≤ p) (hy : gI τ 310 13 = 121) (h : OUT QB j a B b L ℓ 0 n0 n p σ τ C M) : OUTC 1 j a B b L ℓ n0 n p σ τ (bnd2 C fun v s => if v = 0 then some (0, s) else cTail (48 + 4 * j) s) (bnd2 M fun v s => mTail v s) := by
  rcases h with ⟨e', σ', τ', w, a1, a2, a3, a4, a5, a6, a7, a8⟩ | ⟨q', n', w, σ', τ', b1, b2, b3, b4, b5, b6, b7, b8, b9, b10, b11⟩
  · left
    rw [a1, bnd2_some, if_pos rfl, a3, bnd2_some]
    unfold mTail
    rw [m_takesF e' a5 a4, bnd2_some, if_pos rfl]
    exact ⟨e', σ', τ', rfl, a2, rfl, a4, a5, a7, tL_n a8⟩
  · rw [b1, bnd2_some, if_neg z1, b2, bnd2_some]
    have := X_tail b6 (by omega) b11 (by rw [b9.1 310 13 rfl]; exact hy)
    rcases this with ⟨e', σ', τ', a1, a2, a3, a4, a5, a6, a7⟩ | ⟨q, n2, r, σ', τ', d1, d2, d3, d4, d5, d6, d7, d8, d9, d10⟩
    · exact Or.inl ⟨e', σ', τ', a1, a2, a3, a4, a5, b8.tr a6, (tL_n b9).tr a7⟩
    · exact Or.inr ⟨q, n2, r, σ', τ', d1, d2, by omega, by omega, by omega, d6, b8.tr d7, b9.tr d8, fun x hx => ⟨(d9 x (by omega)).1.trans (b10 x hx).1, (d9 x (by omega)).2.trans (b10 x hx).2⟩, d10⟩
theorem six_y (x : Int32) : (if six 1110 x = -1 then (0 : Int32) else 1) = if x = 121 then 1 else 0 := by
  have e : KSb 1110 = [121] := by decide +kernel
  unfold six
  rw [e]
  unfold sixF
  by_cases q : x = 121
  · subst q
    rw [if_pos rfl, if_pos rfl, if_neg (by decide)]
  · rw [if_neg (show ¬ (121 : Int32) = x from fun z => q z.symm), if_neg q]
    unfold sixF
    rw [if_pos rfl]
theorem ST.ncur {j a B n d : Nat} (h : ST j a B b L ℓ σ τ p n d) : ST j a B b L ℓ (sI σ 1 2 (nI (sk b L p))) (sI τ 310 10 (nI (sk b L p))) (sk b L p) n d := h.cur (sk_bd h.tc.1).2.1
end LawF
