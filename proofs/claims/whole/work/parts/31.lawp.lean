/-! laws: both parsers in step: the small ones -/
section LawA
variable {σ τ : Mm} {b : Nat → Nat} {L p : Nat} {ℓ : Nat → Int32}
def tLc (j c k : Nat) : Bool := tA c k || (decide (48 + 4 * j ≤ c) && decide (c ≤ 50 + 4 * j))
def tLm (c k : Nat) : Bool := c == 310 && (k == 10 || k == 11 || k == 12)
def chL (i : Nat) : Nat := [98, 99, 100, 115, 110, 116].getD i 0
def LTR (τ : Mm) (ℓ : Nat → Int32) : Prop := gR τ 310 4 = some 314 ∧ ∀ i, i < 6 → gI τ 314 (chL i) = ℓ i
def LZ (ℓ : Nat → Int32) : Prop := ∀ i, i < 6 → NM (ℓ i)
/-- both parsers at p, n signs so far, d deep -/
def ST (j a B : Nat) (b : Nat → Nat) (L : Nat) (ℓ : Nat → Int32) (σ τ : Mm) (p n d : Nat) : Prop :=
  RF σ ∧ j < 5 ∧ TC σ b L p ∧ gI σ (48 + 4 * j) 4 = nI n ∧ TM τ a B b L p ∧ gI τ 310 11 = -1 ∧ gI τ 310 12 = nI d ∧ LTR τ ℓ
/-- the signs n0 .. n' are worth v -/
def SegV (σ : Mm) (j : Nat) (ℓ : Nat → Int32) (n0 n' : Nat) (v : Int32) : Prop := LZ ℓ → Seg (gI σ (49 + 4 * j)) (gI σ (50 + 4 * j)) ℓ n0 n' v ∧ NM v
/-- what comes of a piece read by both -/
def OUT (Q : Int32 → Prop) (j a B : Nat) (b : Nat → Nat) (L : Nat) (ℓ : Nat → Int32) (d n0 n p : Nat) (σ τ : Mm) (c m : Option (Int32 × Mm)) : Prop :=
  (∃ e σ' τ' v, c = some (0, σ') ∧ gI σ' 1 3 = nI e ∧ m = some (v, τ') ∧ gI τ' 310 11 = nI e ∧ e ≤ 240 ∧ Q v ∧ Sm (tLc j) σ σ' ∧ Sm tLm τ τ') ∨
  (∃ q n' v σ' τ', c = some (1, σ') ∧ m = some (v, τ') ∧ p < q ∧ n < n' ∧ n' + p ≤ n + q ∧ ST j a B b L ℓ σ' τ' q n' d ∧ Q v ∧ Sm (tLc j) σ σ' ∧ Sm tLm τ τ' ∧ (∀ i, i < n → gI σ' (49 + 4 * j) i = gI σ (49 + 4 * j) i ∧ gI σ' (50 + 4 * j) i = gI σ (50 + 4 * j) i) ∧ SegV σ' j ℓ n0 n' v)
theorem ln_law : ∀ j, j < 5 → ln (49 + 4 * j) = 242 ∧ ln (50 + 4 * j) = 242 ∧ ln (51 + 4 * j) = 242 := by decide +kernel
theorem ST.rf {j a B n d : Nat} (h : ST j a B b L ℓ σ τ p n d) : RF σ := h.1
theorem ST.hj {j a B n d : Nat} (h : ST j a B b L ℓ σ τ p n d) : j < 5 := h.2.1
theorem ST.tc {j a B n d : Nat} (h : ST j a B b L ℓ σ τ p n d) : TC σ b L p := h.2.2.1
theorem ST.sz {j a B n d : Nat} (h : ST j a B b L ℓ σ τ p n d) : gI σ (48 + 4 * j) 4 = nI n := h.2.2.2.1
theorem ST.tm {j a B n d : Nat} (h : ST j a B b L ℓ σ τ p n d) : TM τ a B b L p := h.2.2.2.2.1
theorem ST.ok {j a B n d : Nat} (h : ST j a B b L ℓ σ τ p n d) : gI τ 310 11 = -1 := h.2.2.2.2.2.1
theorem ST.dp {j a B n d : Nat} (h : ST j a B b L ℓ σ τ p n d) : gI τ 310 12 = nI d := h.2.2.2.2.2.2.1
theorem ST.lt {j a B n d : Nat} (h : ST j a B b L ℓ σ τ p n d) : LTR τ ℓ := h.2.2.2.2.2.2.2
theorem ST.r0 {j a B n d : Nat} (h : ST j a B b L ℓ σ τ p n d) : gR σ (48 + 4 * j) 0 = some 1 := (h.rf.law h.hj).2.1
theorem LTR.cur {k : Nat} {x : Int32} (h : LTR τ ℓ) : LTR (sI τ 310 k x) ℓ := ⟨h.1, fun i hi => by rw [gI_sI, if_neg (by omega)]; exact h.2 i hi⟩
/-- both places set -/
theorem ST.cur {j a B n d q : Nat} (h : ST j a B b L ℓ σ τ p n d) (hq : q ≤ L) : ST j a B b L ℓ (sI σ 1 2 (nI q)) (sI τ 310 10 (nI q)) q n d :=
  ⟨h.rf.sm (Sm.rf.sI rfl : Sm tA σ (sI σ 1 2 (nI q))), h.hj, h.tc.cur hq, by rw [gI_sI, if_neg (by omega)]; exact h.sz, h.tm.cur hq, by rw [gI_sI, if_neg (by omega)]; exact h.ok, by rw [gI_sI, if_neg (by omega)]; exact h.dp, h.lt.cur⟩
theorem c_emit {j n : Nat} (hF : RF σ) (hj : j < 5) (hn : n < 242) (hz : gI σ (48 + 4 * j) 4 = nI n) (c v : Int32) : fX3_emit (48 + 4 * j) c v σ = some (sI (sI (sI σ (49 + 4 * j) n c) (50 + 4 * j) n v) (48 + 4 * j) 4 (nI (n + 1))) := by
  obtain ⟨-, -, r1, r2, r3⟩ := hF.law hj
  obtain ⟨l1, l2, l3⟩ := ln_law j hj
  have e1 : gI (sI σ (49 + 4 * j) n c) (48 + 4 * j) 4 = nI n := by rw [gI_sI, if_neg (by omega)]; exact hz
  have e2 : gI (sI (sI σ (49 + 4 * j) n c) (50 + 4 * j) n v) (48 + 4 * j) 4 = nI n := by rw [gI_sI, if_neg (by omega)]; exact e1
  have x : ixB (nI n) 242 = true := ixT hn (by omega)
  have cc : Int32.toNatClampNeg (nI n) = n := clT (by omega)
  unfold fX3_emit
  simp only [hz, if_neg (show ¬ nI 242 ≤ nI n from fun z => absurd ((leT (by omega) (by omega)).mp z) (by omega)), r1, r2, Option.bind_some, l1, l2, x, cc, if_true, e1, e2, nI_1]
/-- a sign put down -/
theorem ST.emit {j a B n d : Nat} (h : ST j a B b L ℓ σ τ p n d) (hn : n < 242) (c v : Int32) : ∃ σ', fX3_emit (48 + 4 * j) c v σ = some σ' ∧ ST j a B b L ℓ σ' τ p (n + 1) d ∧ Sm (tLc j) σ σ' ∧ gI σ' (49 + 4 * j) n = c ∧ gI σ' (50 + 4 * j) n = v ∧ ∀ i, i < n → gI σ' (49 + 4 * j) i = gI σ (49 + 4 * j) i ∧ gI σ' (50 + 4 * j) i = gI σ (50 + 4 * j) i := by
  have s1 : Sm (tLc j) σ (sI (sI (sI σ (49 + 4 * j) n c) (50 + 4 * j) n v) (48 + 4 * j) 4 (nI (n + 1))) := ((Sm.rf.sI (by unfold tLc; simp <;> omega)).sI (by unfold tLc; simp <;> omega)).sI (by unfold tLc; simp)
  refine ⟨_, c_emit h.rf h.hj hn h.sz c v, ⟨h.rf.sm s1, h.hj, ((h.tc.hi (by omega)).hi (by omega)).hi (by omega), by rw [gI_sI, if_pos ⟨rfl, rfl⟩], h.tm, h.ok, h.dp, h.lt⟩, s1, ?_, ?_, fun i hi => ⟨?_, ?_⟩⟩
  · rw [gI_sI, if_neg (by omega), gI_sI, if_neg (by omega), gI_sI, if_pos ⟨rfl, rfl⟩]
  · rw [gI_sI, if_neg (by omega), gI_sI, if_pos ⟨rfl, rfl⟩]
  · rw [gI_sI, if_neg (by omega), gI_sI, if_neg (by omega), gI_sI, if_neg (by omega)]
  · rw [gI_sI, if_neg (by omega), gI_sI, if_neg (by omega), gI_sI, if_neg (by omega)]
theorem c_expect (h : TC σ b L p) (x : Int32) : fX7_expect 1 x σ = if sg b L p = x then some (1, sI σ 1 2 (nI (sk b L p + 1))) else some (0, sI (sI σ 1 2 (nI (sk b L p))) 1 3 (nI (sk b L p))) := by
  have e0 : fX7_expect 1 x σ = bnd2 (fX7_goOver 1 x σ) fun v s => if v = 1 then some (v, s) else fX7_wrongHere 1 s := by
    unfold fX7_expect fX7_goOver
    rw [c_next h, bnd2_some, bnd2_some]
    by_cases q : sg b L p = x
    · rw [if_pos q, if_pos q, bnd2_some, if_pos rfl]
    · rw [if_neg q, if_neg q, bnd2_some, if_neg (by decide), c_wrong (h.cur (sk_bd (b := b) h.1).2.1), bnd2_some]
  rw [e0, c_goOver h]
  by_cases q : sg b L p = x
  · rw [if_pos q, bnd2_some, if_pos rfl, if_pos q]
  · rw [if_neg q, bnd2_some, if_neg (by decide), c_wrong (h.cur (sk_bd (b := b) h.1).2.1), if_neg q]
theorem m_takes {a B : Nat} (k : TM τ a B b L p) (hf : gI τ 310 11 = -1) (x : Int32) : fX10_takes 310 x τ = if sg b L p = x then some (1, sI τ 310 10 (nI (sk b L p + 1))) else some (0, sI (sI τ 310 10 (nI (sk b L p))) 310 11 (nI (sk b L p))) := by
  have hM := k.cur (sk_bd (b := b) k.1).2.1
  unfold fX10_takes fX10_takes_b16
  rw [if_pos hf, m_look k, bnd2_some, hM.2.2.2.2.2.2.2.1, nI_1, sI_sI, m_fails hM (by rw [gI_sI, if_neg (by omega)]; exact hf), bnd2_some]
theorem m_takesF (e : Nat) (he : e ≤ 240) (hf : gI τ 310 11 = nI e) (x : Int32) : fX10_takes 310 x τ = some (0, τ) := by
  have ne : ¬ gI τ 310 11 = -1 := by rw [hf]; exact fun z => (eqN1 (by omega)).mp z
  unfold fX10_takes fX10_takes_b16 fX10_fails
  rw [if_neg ne, if_neg ne, bnd2_some]
theorem m_goIn {a B d : Nat} (k : TM τ a B b L p) (hd : d ≤ 6) (e : gI τ 310 12 = nI d) (hf : gI τ 310 11 = -1) : fX10_goesIn 310 τ = if d = 6 then some (0, sI τ 310 11 (nI p)) else some (1, sI (sI τ 310 12 (nI (d + 1))) 310 10 (nI (p + 1))) := by
  unfold fX10_goesIn
  rw [e]
  by_cases q : d = 6
  · rw [if_pos (by rw [q]; rfl), m_fails k hf, bnd2_some, if_pos q]
  · rw [if_neg (show ¬ nI d = 6 from fun z => q ((eqT (b := 6) (by omega) (by omega)).mp z)), if_neg q, nI_1]
    have : gI (sI τ 310 12 (nI (d + 1))) 310 10 = nI p := by rw [gI_sI, if_neg (by omega)]; exact k.2.2.2.2.2.2.2.1
    rw [this, nI_1]
/-- one digit of the model's number -/
theorem m_numL (rec : Nat → Nat → Int32 → Int32 → Mm → Option (Int32 × Mm)) {a B : Nat} (k : TM τ a B b L p) (hf : gI τ 310 11 = -1) (v told : Int32) : fX10_atom_l90 rec 310 v told τ = if dg b L p then (if told = 4 then some (Sum.inr (Sum.inr τ)) else some (Sum.inl (10 * v + nI (b p) - 48, told + 1, sI τ 310 10 (nI (p + 1))))) else some (Sum.inr (Sum.inl (v, τ))) := by
  have hl := k.ln
  unfold fX10_atom_l90
  rw [m_isDig k, Option.bind_some]
  obtain ⟨h1, h2, h3, h4, h5, h6, h7, h8, h9⟩ := k
  by_cases q : dg b L p
  · have e2 : ixB (nI (B + p)) (ln a) = true := ixT (by have := q.1; omega) (by omega)
    obtain ⟨-, -, -, t4, -⟩ := by_tab (b p) (h9 p q.1).1
    simp only [if_pos q, if_neg z1, hf, if_true, h3, Option.bind_some, h6, h8, nI_add, e2, clT (show B + p < 2147483648 by have := q.1; omega), (h9 p q.1).2, t4 q.2.1 q.2.2, nI_1]
  · rw [if_neg q, if_pos rfl, if_neg q]
/-- numbers of four digits, digit by digit -/
theorem X_num4 (rec : Nat → Nat → Int32 → Int32 → Mm → Option (Int32 × Mm)) {a B : Nat} : ∀ (d t v p : Nat) (σ τ : Mm), t + d = 4 → v < 10 ^ t → TC σ b L p → TM τ a B b L p → gI τ 310 11 = -1 → ∀ K K', d + 1 < K → d + 1 < K' →
    (∃ q w, p ≤ q ∧ q ≤ L ∧ w < 10000 ∧ (dg b L p → p < q) ∧ wh (fun x : Int32 × Int32 × Mm => fX7_number_l23 1 4 0 9999 x.1 x.2.1 x.2.2) K (nI v, nI t, σ) = some (Sum.inl (nI w, sI σ 1 2 (nI q))) ∧ wh (fun x : Int32 × Int32 × Mm => fX10_atom_l90 rec 310 x.1 x.2.1 x.2.2) K' (nI v, nI t, τ) = some (Sum.inl (nI w, sI τ 310 10 (nI q)))) ∨
    (∃ q, q ≤ L ∧ wh (fun x : Int32 × Int32 × Mm => fX7_number_l23 1 4 0 9999 x.1 x.2.1 x.2.2) K (nI v, nI t, σ) = some (Sum.inr (sI σ 1 2 (nI q))) ∧ wh (fun x : Int32 × Int32 × Mm => fX10_atom_l90 rec 310 x.1 x.2.1 x.2.2) K' (nI v, nI t, τ) = some (Sum.inr (sI τ 310 10 (nI q)))) := by
  intro d
  induction d with
  | zero =>
    intro t v p σ τ ht hv h k hf K K' hK hK'
    obtain ⟨K, rfl⟩ : ∃ x, K = x + 1 := ⟨K - 1, by omega⟩
    obtain ⟨K', rfl⟩ : ∃ x, K' = x + 1 := ⟨K' - 1, by omega⟩
    have : t = 4 := by omega
    subst this
    have idC : sI σ 1 2 (nI p) = σ := sI_id h.2.2.2.2.1
    have idM : sI τ 310 10 (nI p) = τ := sI_id k.2.2.2.2.2.2.2.1
    by_cases q : dg b L p
    · right
      refine ⟨p, h.1, ?_, ?_⟩
      · rw [idC]
        refine whR ?_
        dsimp only
        rw [c_numL h, if_pos q, if_pos (show nI 4 = 4 from rfl)]
      · rw [idM]
        refine whR ?_
        dsimp only
        rw [m_numL rec k hf, if_pos q, if_pos (show nI 4 = 4 from rfl)]
    · left
      refine ⟨p, v, Nat.le_refl _, h.1, by omega, fun z => absurd z q, ?_, ?_⟩
      · rw [idC]
        refine whR ?_
        dsimp only
        rw [c_numL h, if_neg q]
      · rw [idM]
        refine whR ?_
        dsimp only
        rw [m_numL rec k hf, if_neg q]
  | succ d ih =>
    intro t v p σ τ ht hv h k hf K K' hK hK'
    obtain ⟨K, rfl⟩ : ∃ x, K = x + 1 := ⟨K - 1, by omega⟩
    obtain ⟨K', rfl⟩ : ∃ x, K' = x + 1 := ⟨K' - 1, by omega⟩
    have idC : sI σ 1 2 (nI p) = σ := sI_id h.2.2.2.2.1
    have idM : sI τ 310 10 (nI p) = τ := sI_id k.2.2.2.2.2.2.2.1
    by_cases q : dg b L p
    · obtain ⟨q1, q2, q3⟩ := q
      have q : dg b L p := ⟨q1, q2, q3⟩
      have v4 : v < 10000 := Nat.lt_of_lt_of_le hv (Nat.pow_le_pow_right (n := 10) (by omega) (show t ≤ 4 by omega))
      have t4 : ¬ nI t = 4 := fun z => absurd ((eqT (b := 4) (by omega) (by omega)).mp z) (by omega)
      have ev : nI v * 10 + nI (b p) - 48 = nI (10 * v + b p - 48) := by
        rw [show (10 : Int32) = nI 10 from rfl, Int32.mul_comm, pk_mul, nI_add, show (48 : Int32) = nI 48 from rfl, pk_sub (by omega)]
      have ev2 : 10 * nI v + nI (b p) - 48 = nI (10 * v + b p - 48) := by
        rw [show (10 : Int32) = nI 10 from rfl, pk_mul, nI_add, show (48 : Int32) = nI 48 from rfl, pk_sub (by omega)]
      have sC : fX7_number_l23 1 4 0 9999 (nI v) (nI t) σ = some (Sum.inl (nI (10 * v + b p - 48), nI (t + 1), sI σ 1 2 (nI (p + 1)))) := by
        rw [c_numL h, if_pos q, if_neg t4, ev, nI_1]
      have sM : fX10_atom_l90 rec 310 (nI v) (nI t) τ = some (Sum.inl (nI (10 * v + b p - 48), nI (t + 1), sI τ 310 10 (nI (p + 1)))) := by
        rw [m_numL rec k hf, if_pos q, if_neg t4, ev2, nI_1]
      have eC : wh (fun x : Int32 × Int32 × Mm => fX7_number_l23 1 4 0 9999 x.1 x.2.1 x.2.2) (K + 1) (nI v, nI t, σ) = wh (fun x : Int32 × Int32 × Mm => fX7_number_l23 1 4 0 9999 x.1 x.2.1 x.2.2) K (nI (10 * v + b p - 48), nI (t + 1), sI σ 1 2 (nI (p + 1))) := whL sC
      have eM : wh (fun x : Int32 × Int32 × Mm => fX10_atom_l90 rec 310 x.1 x.2.1 x.2.2) (K' + 1) (nI v, nI t, τ) = wh (fun x : Int32 × Int32 × Mm => fX10_atom_l90 rec 310 x.1 x.2.1 x.2.2) K' (nI (10 * v + b p - 48), nI (t + 1), sI τ 310 10 (nI (p + 1))) := whL sM
      have hv' : 10 * v + b p - 48 < 10 ^ (t + 1) := by rw [Nat.pow_succ]; omega
      rw [eC, eM]
      rcases ih (t + 1) (10 * v + b p - 48) (p + 1) (sI σ 1 2 (nI (p + 1))) (sI τ 310 10 (nI (p + 1))) (by omega) hv' (h.cur (by omega)) (k.cur (by omega)) (by rw [gI_sI, if_neg (by omega)]; exact hf) K K' (by omega) (by omega) with ⟨q', w, a1, a2, a3, a4, a5, a6⟩ | ⟨q', a1, a2, a3⟩
      · left
        rw [sI_sI] at a5 a6
        exact ⟨q', w, by omega, a2, a3, fun _ => by omega, a5, a6⟩
      · right
        rw [sI_sI] at a2 a3
        exact ⟨q', a1, a2, a3⟩
    · left
      have v4 : v < 10000 := Nat.lt_of_lt_of_le hv (Nat.pow_le_pow_right (n := 10) (by omega) (show t ≤ 4 by omega))
      refine ⟨p, v, Nat.le_refl _, h.1, v4, fun z => absurd z q, ?_, ?_⟩
      · rw [idC]
        refine whR ?_
        dsimp only
        rw [c_numL h, if_neg q]
      · rw [idM]
        refine whR ?_
        dsimp only
        rw [m_numL rec k hf, if_neg q]
theorem six_let : ∀ c, c < 256 → ∀ i, i < 6 → six 1106 (nI c) = nI i → c = chL i := by decide +kernel
theorem ln314 : ln 314 = 128 := by decide +kernel
theorem chL_lt : ∀ i, i < 6 → chL i < 128 := by decide +kernel
end LawA
