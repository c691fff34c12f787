/-! laws: TERMS and SUMS, both parsers in step -/
section LawC
variable {σ τ : Mm} {b : Nat → Nat} {L p : Nat} {ℓ : Nat → Int32}
/-- as OUT, where nothing more need be read -/
def OUTW (j a B : Nat) (b : Nat → Nat) (L : Nat) (ℓ : Nat → Int32) (d n0 n p : Nat) (σ τ : Mm) (c m : Option (Int32 × Mm)) : Prop :=
  (∃ e σ' τ' v, c = some (0, σ') ∧ gI σ' 1 3 = nI e ∧ m = some (v, τ') ∧ gI τ' 310 11 = nI e ∧ e ≤ 240 ∧ Sm (tLc j) σ σ' ∧ Sm tLm τ τ') ∨
  (∃ q n' v σ' τ', c = some (1, σ') ∧ m = some (v, τ') ∧ p ≤ q ∧ n ≤ n' ∧ n' + p ≤ n + q ∧ ST j a B b L ℓ σ' τ' q n' d ∧ Sm (tLc j) σ σ' ∧ Sm tLm τ τ' ∧ (∀ i, i < n → gI σ' (49 + 4 * j) i = gI σ (49 + 4 * j) i ∧ gI σ' (50 + 4 * j) i = gI σ (50 + 4 * j) i) ∧ SegV σ' j ℓ n0 n' v)
def tvl (c v w : Int32) : Int32 := if c = 42 then lcl (Int32.toInt64 v * Int32.toInt64 w) else if w = 0 then lcl 0 else lcl (Int32.toInt64 v / Int32.toInt64 w)
def svl (c v w : Int32) : Int32 := if c = 43 then lcl (Int32.toInt64 v + Int32.toInt64 w) else lcl (Int32.toInt64 v - Int32.toInt64 w)
theorem tvl_eq {c v w : Int32} (h : NM v) (hc : c = 42 ∨ c = 47) : tvl c v w = jn c v w := by
  unfold tvl jn
  rcases hc with rfl | rfl
  · rw [if_pos rfl, if_neg (by decide), if_pos rfl]
  · rw [if_neg (show ¬ (47 : Int32) = 42 by decide), if_neg (show ¬ (47 : Int32) = 38 by decide), if_neg (show ¬ (47 : Int32) = 42 by decide), if_neg (show ¬ (47 : Int32) = 43 by decide), if_neg (show ¬ (47 : Int32) = 45 by decide), if_pos rfl, div64 h]
theorem svl_eq {c v w : Int32} (_ : NM v) (hc : c = 43 ∨ c = 45) : svl c v w = jn c v w := by
  unfold svl jn
  rcases hc with rfl | rfl
  · rw [if_pos rfl, if_neg (by decide), if_neg (by decide), if_pos rfl]
  · rw [if_neg (by decide), if_neg (by decide), if_neg (by decide), if_neg (by decide), if_pos rfl]
theorem lg0 (x : Int64) : lg_cmp x 0 = 0 ↔ x = 0 := by
  unfold lg_cmp
  constructor
  · intro h
    by_cases q : x > 0
    · rw [if_pos q] at h; exact absurd h (by decide)
    · rw [if_neg q] at h
      by_cases q2 : x = 0
      · exact q2
      · rw [if_neg q2] at h; exact absurd h (by decide)
  · rintro rfl
    rw [if_neg (by decide), if_pos rfl]
theorem t64z (x : Int32) : Int32.toInt64 x = 0 ↔ x = 0 := by
  constructor
  · intro h
    have := congrArg Int64.toInt h
    rw [Int32.toInt_toInt64] at this
    exact Int32.toInt_inj.mp this
  · rintro rfl; rfl
theorem X_termE {j a B d n0 n i P p' K K' : Nat} {v : Int32} (RC RM : RecT) (hp : sk b L p' = P) (hP : P ≤ L) (hn : n ≤ P) (hi : i ≤ P) (h0 : n0 < n) (h : ST j a B b L ℓ σ (sI τ 310 10 (nI P)) P n d) (k : TM τ a B b L p') (hv : SegV σ j ℓ n0 n v) (q1 : ¬ sg b L P = 42) (q2 : ¬ sg b L P = 47) : OUTW j a B b L ℓ d n0 n P σ τ (wh (fun x : Int32 × Int32 × Mm => fX3_term_l20 RC (48 + 4 * j) (nI d) x.1 x.2.1 x.2.2) (K + 1) (sg b L P, nI i, σ)) (wh (fun x : Int32 × Mm => fX10_term_l5 RM 310 x.1 x.2) (K' + 1) (v, τ)) := by
  have hL := h.tc.2.1
  have hPs : sk b L P = P := by rw [← hp]; exact sk_sk k.1
  have hsg : sg b L p' = sg b L P := by unfold sg; rw [hp, hPs]
  have kP := k.cur hP
  right
  refine ⟨P, n, v, σ, sI τ 310 10 (nI P), ?_, ?_, Nat.le_refl _, Nat.le_refl _, Nat.le_refl _, h, Sm.rf, Sm.rf.sI rfl, fun x _ => ⟨rfl, rfl⟩, hv⟩
  · refine whR ?_
    dsimp only
    unfold fX3_term_l20
    rw [if_neg (show ¬ (240 : Int32) < nI i from fun z => absurd ((ltT (a := 240) (by omega) (by omega)).mp z) (by omega)), if_neg q1, if_neg q2]
  · refine whR ?_
    dsimp only
    have f1 : gI τ 310 11 = -1 := by have := h.ok; rw [gI_sI, if_neg (by omega)] at this; exact this
    unfold fX10_term_l5
    rw [if_pos f1, m_look k, bnd2_some, hsg, if_neg q1, hp, m_look kP, bnd2_some, if_neg q2, hPs, sI_sI]
theorem m_term45 (RM : RecT) {v w c : Int32} {s s' : Mm} (hc : c = 42 ∨ c = 47) (e10 : sI s 310 10 ((gI s 310 10) + 1) = s') {s2 : Mm} (e : RM 0 310 0 0 s' = some (w, s2)) : fX10_term_b45 RM 310 v (if c = 42 then 1 else 0) s = some (Sum.inl (tvl c v w, s2)) := by
  unfold fX10_term_b45 fX10_term_b87 fX10_within
  rw [e10, e, bnd2_some]
  rcases hc with rfl | rfl
  · rw [if_pos rfl, if_neg z1]
    unfold tvl
    rw [if_pos rfl]
    rfl
  · rw [if_neg (show ¬ (47 : Int32) = 42 by decide), if_pos rfl]
    unfold tvl
    rw [if_neg (show ¬ (47 : Int32) = 42 by decide)]
    by_cases q : w = 0
    · rw [if_pos ((lg0 _).mpr ((t64z w).mpr q)), if_pos q]; rfl
    · rw [if_neg (fun z => q ((t64z w).mp ((lg0 _).mp z))), if_neg (fun z => q ((t64z w).mp z)), if_neg q]; rfl
theorem X_termL {j a B d n0 : Nat} (RC RM : RecT) (hA : ∀ (σ τ : Mm) (p n : Nat), n ≤ p → ST j a B b L ℓ σ τ p n d → OUT QT j a B b L ℓ d n n p σ τ (RC 6 (48 + 4 * j) (nI d) 0 σ) (RM 0 310 0 0 τ)) :
    ∀ (D : Nat) (σ τ : Mm) (P p' n i : Nat) (v : Int32), L - P ≤ D → sk b L p' = P → P ≤ L → n ≤ P → i ≤ P → n0 < n → ST j a B b L ℓ σ (sI τ 310 10 (nI P)) P n d → TM τ a B b L p' → SegV σ j ℓ n0 n v → ∀ K K', D + 2 < K → D + 2 < K' →
    OUTW j a B b L ℓ d n0 n P σ τ (wh (fun x : Int32 × Int32 × Mm => fX3_term_l20 RC (48 + 4 * j) (nI d) x.1 x.2.1 x.2.2) K (sg b L P, nI i, σ)) (wh (fun x : Int32 × Mm => fX10_term_l5 RM 310 x.1 x.2) K' (v, τ)) := by
  intro D
  induction D with
  | zero =>
    intro σ τ P p' n i v hD hp hP hn hi h0 h k hv K K' hK hK'
    obtain ⟨K, rfl⟩ : ∃ x, K = x + 1 := ⟨K - 1, by omega⟩
    obtain ⟨K', rfl⟩ : ∃ x, K' = x + 1 := ⟨K' - 1, by omega⟩
    exact X_termE RC RM hp hP hn hi h0 h k hv (by unfold sg; rw [← hp, sk_sk k.1, hp, if_neg (by omega)]; decide) (by unfold sg; rw [← hp, sk_sk k.1, hp, if_neg (by omega)]; decide)
  | succ D ih =>
    intro σ τ P p' n i v hD hp hP hn hi h0 h k hv K K' hK hK'
    obtain ⟨K, rfl⟩ : ∃ x, K = x + 1 := ⟨K - 1, by omega⟩
    obtain ⟨K', rfl⟩ : ∃ x, K' = x + 1 + 1 := ⟨K' - 2, by omega⟩
    have hL := h.tc.2.1
    have hPs : sk b L P = P := by rw [← hp]; exact sk_sk k.1
    have hsg : sg b L p' = sg b L P := by unfold sg; rw [hp, hPs]
    by_cases qop : sg b L P = 42 ∨ sg b L P = 47
    · have hlt : P < L := by
        have : sk b L P < L := by
          rcases qop with q | q
          · exact sg_lt (x := 42) (by omega) q
          · exact sg_lt (x := 47) (by omega) q
        omega
      have i240 : ¬ (240 : Int32) < nI i := fun z => absurd ((ltT (a := 240) (by omega) (by omega)).mp z) (by omega)
      have h1 := h.cur (q := P + 1) (by omega)
      rw [sI_sI] at h1
      have cS : fX3_term_l20 RC (48 + 4 * j) (nI d) (sg b L P) (nI i) σ = bnd2 (RC 6 (48 + 4 * j) (nI d) 0 (sI σ 1 2 (nI (P + 1)))) fun vk8 sk8 => if vk8 = 0 then some (Sum.inr (0, sk8)) else (fX3_emit (48 + 4 * j) (sg b L P) 0 sk8).bind fun sk10 => (gR sk10 (48 + 4 * j) 0).bind fun r11 => bnd2 (fX7_next r11 sk10) fun vk12 sk12 => some (Sum.inl (vk12, nI (i + 1), sk12)) := by
        have e39 : fX3_term_l20 RC (48 + 4 * j) (nI d) (sg b L P) (nI i) σ = fX3_term_b39 RC (48 + 4 * j) (nI d) (sg b L P) (nI i) σ := by
          unfold fX3_term_l20
          rw [if_neg i240]
          rcases qop with q | q
          · rw [if_pos q]
          · rw [q, if_neg (by decide), if_pos rfl]
        rw [e39]
        unfold fX3_term_b39
        rw [h.r0, Option.bind_some, h.tc.2.2.2.2.1, nI_1, nI_1]
      have kP := k.cur hP
      have e10 : sI (sI τ 310 10 (nI P)) 310 10 ((gI (sI τ 310 10 (nI P)) 310 10) + 1) = sI τ 310 10 (nI (P + 1)) := by rw [kP.2.2.2.2.2.2.2.1, nI_1, sI_sI]
      have mS : fX10_term_l5 RM 310 v τ = fX10_term_b45 RM 310 v (if sg b L P = 42 then 1 else 0) (sI τ 310 10 (nI P)) := by
        have f1 : gI τ 310 11 = -1 := by have := h.ok; rw [gI_sI, if_neg (by omega)] at this; exact this
        have e31 : fX10_term_b31 RM 310 v (sI τ 310 10 (nI P)) = fX10_term_b45 RM 310 v (if sg b L P = 42 then 1 else 0) (sI τ 310 10 (nI P)) := by
          unfold fX10_term_b31
          rw [m_look kP, bnd2_some, hPs, sI_sI]
          by_cases q : sg b L P = 42
          · rw [if_pos q, if_pos q]
          · rw [if_neg q, if_neg q]
        unfold fX10_term_l5
        rw [if_pos f1, m_look k, bnd2_some, hsg, hp, e31, m_look kP, bnd2_some, hPs, sI_sI, e31]
        rcases qop with q | q
        · rw [if_pos q]
        · rw [q, if_neg (by decide), if_pos rfl]
      rcases hA _ _ (P + 1) n (by omega) h1 with ⟨e', σ', τ', w, a1, a2, a3, a4, a5, a6, a7, a8⟩ | ⟨q, n', w, σ', τ', b1, b2, b3, b4, b5, b6, b7, b8, b9, b10, b11⟩
      · left
        rw [a1, bnd2_some, if_pos rfl] at cS
        rw [m_term45 RM qop e10 a3] at mS
        have mE : fX10_term_l5 RM 310 (tvl (sg b L P) v w) τ' = some (Sum.inr (tvl (sg b L P) v w, τ')) := by
          unfold fX10_term_l5
          rw [a4, if_neg (fun z => (eqN1 (by omega)).mp z)]
        refine ⟨e', σ', τ', tvl (sg b L P) v w, whR cS, a2, ?_, a4, a5, (Sm.rf.sI rfl : Sm (tLc j) σ (sI σ 1 2 (nI (P + 1)))).tr a7, (Sm.rf.sI rfl : Sm tLm τ (sI τ 310 10 (nI (P + 1)))).tr a8⟩
        have : wh (fun x : Int32 × Mm => fX10_term_l5 RM 310 x.1 x.2) (K' + 1 + 1) (v, τ) = wh (fun x : Int32 × Mm => fX10_term_l5 RM 310 x.1 x.2) (K' + 1) (tvl (sg b L P) v w, τ') := whL mS
        rw [this]
        exact whR mE
      · have hqL := b6.tc.1
        obtain ⟨σ2, c1, c2, c3, c4, c5, c6⟩ := b6.emit (by omega) (sg b L P) 0
        obtain ⟨u1, u2, u3⟩ := sk_bd (b := b) b6.tc.1
        rw [b1, bnd2_some, if_neg z1, c1, Option.bind_some, c2.r0, Option.bind_some, c_next c2.tc, bnd2_some] at cS
        rw [m_term45 RM qop e10 b2] at mS
        have eC : wh (fun x : Int32 × Int32 × Mm => fX3_term_l20 RC (48 + 4 * j) (nI d) x.1 x.2.1 x.2.2) (K + 1) (sg b L P, nI i, σ) = wh (fun x : Int32 × Int32 × Mm => fX3_term_l20 RC (48 + 4 * j) (nI d) x.1 x.2.1 x.2.2) K (sg b L (sk b L q), nI (i + 1), sI σ2 1 2 (nI (sk b L q))) := by rw [sg_sk hqL]; exact whL cS
        have eM : wh (fun x : Int32 × Mm => fX10_term_l5 RM 310 x.1 x.2) (K' + 1 + 1) (v, τ) = wh (fun x : Int32 × Mm => fX10_term_l5 RM 310 x.1 x.2) (K' + 1) (tvl (sg b L P) v w, τ') := whL mS
        have hst : ST j a B b L ℓ (sI σ2 1 2 (nI (sk b L q))) (sI τ' 310 10 (nI (sk b L q))) (sk b L q) (n' + 1) d := c2.cur u2
        have hseg : SegV (sI σ2 1 2 (nI (sk b L q))) j ℓ n0 (n' + 1) (tvl (sg b L P) v w) := by
          intro hz
          obtain ⟨g1, g2⟩ := hv hz
          obtain ⟨g3, g4⟩ := b11 hz
          have t1 : Seg (gI (sI σ2 1 2 (nI (sk b L q))) (49 + 4 * j)) (gI (sI σ2 1 2 (nI (sk b L q))) (50 + 4 * j)) ℓ n0 n v := g1.congr (fun x x1 x2 => by
            rw [gI_sI, if_neg (by omega), gI_sI, if_neg (by omega), (c6 x (by omega)).1, (c6 x (by omega)).2, (b10 x x2).1, (b10 x x2).2, gI_sI, if_neg (by omega), gI_sI, if_neg (by omega)]
            exact ⟨rfl, rfl⟩)
          have t2 : Seg (gI (sI σ2 1 2 (nI (sk b L q))) (49 + 4 * j)) (gI (sI σ2 1 2 (nI (sk b L q))) (50 + 4 * j)) ℓ n n' w := g3.congr (fun x x1 x2 => by
            rw [gI_sI, if_neg (by omega), gI_sI, if_neg (by omega), (c6 x (by omega)).1, (c6 x (by omega)).2]
            exact ⟨rfl, rfl⟩)
          have e4 : gI (sI σ2 1 2 (nI (sk b L q))) (49 + 4 * j) n' = sg b L P := by rw [gI_sI, if_neg (by omega)]; exact c4
          have hop : isOp (sg b L P) := by
            unfold isOp
            rcases qop with z | z <;> rw [z] <;> decide
          have := t1.op t2 (by rw [e4]; exact hop)
          rw [e4] at this
          rw [tvl_eq g2 qop]
          exact ⟨this, jn_nm _ _ _⟩
        rw [eC, eM]
        have sC0 : Sm (tLc j) σ (sI σ2 1 2 (nI (sk b L q))) := (((Sm.rf.sI rfl : Sm (tLc j) σ (sI σ 1 2 (nI (P + 1)))).tr b8).tr c3).sI rfl
        have sM0 : Sm tLm τ τ' := (Sm.rf.sI rfl : Sm tLm τ (sI τ 310 10 (nI (P + 1)))).tr b9
        rcases ih (sI σ2 1 2 (nI (sk b L q))) τ' (sk b L q) q (n' + 1) (i + 1) (tvl (sg b L P) v w) (by omega) rfl u2 (by omega) (by omega) (by omega) hst b6.tm hseg K (K' + 1) (by omega) (by omega) with ⟨e', s', t', w', d1, d2, d3, d4, d5, d6, d7⟩ | ⟨q', n'', w', s', t', d1, d2, d3, d4, d5, d6, d7, d8, d9, d10⟩
        · exact Or.inl ⟨e', s', t', w', d1, d2, d3, d4, d5, sC0.tr d6, sM0.tr d7⟩
        · refine Or.inr ⟨q', n'', w', s', t', d1, d2, by omega, by omega, by omega, d6, sC0.tr d7, sM0.tr d8, fun x hx => ?_, d10⟩
          rw [(d9 x (by omega)).1, (d9 x (by omega)).2, gI_sI, if_neg (by omega), gI_sI, if_neg (by omega), (c6 x (by omega)).1, (c6 x (by omega)).2, (b10 x hx).1, (b10 x hx).2, gI_sI, if_neg (by omega), gI_sI, if_neg (by omega)]
          exact ⟨rfl, rfl⟩
    · exact X_termE RC RM hp hP hn hi h0 h k hv (fun z => qop (Or.inl z)) (fun z => qop (Or.inr z))
theorem X_term {j a B n d : Nat} (RC RM : RecT) (hA : ∀ (σ τ : Mm) (p n : Nat), n ≤ p → ST j a B b L ℓ σ τ p n d → OUT QT j a B b L ℓ d n n p σ τ (RC 6 (48 + 4 * j) (nI d) 0 σ) (RM 0 310 0 0 τ)) (h : ST j a B b L ℓ σ τ p n d) (hn : n ≤ p) : OUT QT j a B b L ℓ d n n p σ τ (fX3_term RC (48 + 4 * j) (nI d) σ) (fX10_term RM 310 τ) := by
  unfold fX3_term fX10_term fX3_term_w20 fX10_term_w5
  rcases hA σ τ p n hn h with ⟨e', σ', τ', w, a1, a2, a3, a4, a5, a6, a7, a8⟩ | ⟨q, n', w, σ', τ', b1, b2, b3, b4, b5, b6, b7, b8, b9, b10, b11⟩
  · left
    have mE : wh (fun x : Int32 × Mm => fX10_term_l5 RM 310 x.1 x.2) BIG (w, τ') = some (w, τ') := by
      rw [show BIG = 999999 + 1 from rfl]
      refine whR ?_
      dsimp only
      unfold fX10_term_l5
      rw [a4, if_neg (fun z => (eqN1 (by omega)).mp z)]
    refine ⟨e', σ', τ', w, ?_, a2, ?_, a4, a5, trivial, a7, a8⟩
    · rw [a1, bnd2_some, if_pos rfl]
    · rw [a3, bnd2_some, mE]; rfl
  · obtain ⟨u1, u2, u3⟩ := sk_bd (b := b) b6.tc.1
    have hL := b6.tc.2.1
    rw [b1, bnd2_some, if_neg z1, b6.r0, Option.bind_some, c_next b6.tc, bnd2_some, b2, bnd2_some]
    have hst := b6.cur u2
    have hseg : SegV (sI σ' 1 2 (nI (sk b L q))) j ℓ n n' w := fun hz => ⟨(b11 hz).1.congr (fun x _ _ => by
      rw [gI_sI, if_neg (by omega), gI_sI, if_neg (by omega)]
      exact ⟨rfl, rfl⟩), (b11 hz).2⟩
    have := X_termL RC RM hA (L - sk b L q) (sI σ' 1 2 (nI (sk b L q))) τ' (sk b L q) q n' 0 w (Nat.le_refl _) rfl u2 (by omega) (by omega) b4 hst b6.tm hseg BIG BIG (by unfold BIG; omega) (by unfold BIG; omega)
    rw [sg_sk b6.tc.1] at this
    have sC0 : Sm (tLc j) σ (sI σ' 1 2 (nI (sk b L q))) := b8.sI rfl
    rcases this with ⟨e', s', t', w', d1, d2, d3, d4, d5, d6, d7⟩ | ⟨q', n'', w', s', t', d1, d2, d3, d4, d5, d6, d7, d8, d9, d10⟩
    · left
      refine ⟨e', s', t', w', ?_, d2, ?_, d4, d5, trivial, sC0.tr d6, b9.tr d7⟩
      · exact (congrArg (fun x => Option.bind x _) d1).trans rfl
      · rw [d3]; rfl
    · right
      refine ⟨q', n'', w', s', t', (congrArg (fun x => Option.bind x _) d1).trans rfl, by rw [d2]; rfl, by omega, by omega, by omega, d6, trivial, sC0.tr d7, b9.tr d8, fun x hx => ?_, d10⟩
      rw [(d9 x (by omega)).1, (d9 x (by omega)).2, gI_sI, if_neg (by omega), gI_sI, if_neg (by omega), (b10 x hx).1, (b10 x hx).2]
      exact ⟨rfl, rfl⟩
theorem X_sumE {j a B d n0 n i P p' K K' : Nat} {v : Int32} (RC RM : RecT) (hp : sk b L p' = P) (hP : P ≤ L) (hn : n ≤ P) (hi : i ≤ P) (h0 : n0 < n) (h : ST j a B b L ℓ σ (sI τ 310 10 (nI P)) P n d) (k : TM τ a B b L p') (hv : SegV σ j ℓ n0 n v) (q1 : ¬ sg b L P = 43) (q2 : ¬ sg b L P = 45) : OUTW j a B b L ℓ d n0 n P σ τ (wh (fun x : Int32 × Int32 × Mm => fX3_sum_l20 RC (48 + 4 * j) (nI d) x.1 x.2.1 x.2.2) (K + 1) (sg b L P, nI i, σ)) (wh (fun x : Int32 × Mm => fX10_sum_l5 RM 310 x.1 x.2) (K' + 1) (v, τ)) := by
  have hL := h.tc.2.1
  have hPs : sk b L P = P := by rw [← hp]; exact sk_sk k.1
  have hsg : sg b L p' = sg b L P := by unfold sg; rw [hp, hPs]
  have kP := k.cur hP
  right
  refine ⟨P, n, v, σ, sI τ 310 10 (nI P), ?_, ?_, Nat.le_refl _, Nat.le_refl _, Nat.le_refl _, h, Sm.rf, Sm.rf.sI rfl, fun x _ => ⟨rfl, rfl⟩, hv⟩
  · refine whR ?_
    dsimp only
    unfold fX3_sum_l20
    rw [if_neg (show ¬ (240 : Int32) < nI i from fun z => absurd ((ltT (a := 240) (by omega) (by omega)).mp z) (by omega)), if_neg q1, if_neg q2]
  · refine whR ?_
    dsimp only
    have f1 : gI τ 310 11 = -1 := by have := h.ok; rw [gI_sI, if_neg (by omega)] at this; exact this
    unfold fX10_sum_l5
    rw [if_pos f1, m_look k, bnd2_some, hsg, if_neg q1, hp, m_look kP, bnd2_some, if_neg q2, hPs, sI_sI]
theorem m_sum45 (RM : RecT) {v w c : Int32} {s s' : Mm} (hc : c = 43 ∨ c = 45) (e10 : sI s 310 10 ((gI s 310 10) + 1) = s') {s2 : Mm} (e : RM 1 310 0 0 s' = some (w, s2)) : fX10_sum_b45 RM 310 v (if c = 43 then 1 else 0) s = some (Sum.inl (svl c v w, s2)) := by
  unfold fX10_sum_b45 fX10_sum_b77 fX10_within
  rw [e10, e, bnd2_some]
  rcases hc with rfl | rfl
  · rw [if_pos rfl, if_neg z1]
    unfold svl
    rw [if_pos rfl]
    rfl
  · rw [if_neg (show ¬ (45 : Int32) = 43 by decide), if_pos rfl]
    unfold svl
    rw [if_neg (show ¬ (45 : Int32) = 43 by decide)]
    rfl
theorem X_sumL {j a B d n0 : Nat} (RC RM : RecT) (hA : ∀ (σ τ : Mm) (p n : Nat), n ≤ p → ST j a B b L ℓ σ τ p n d → OUT QT j a B b L ℓ d n n p σ τ (RC 5 (48 + 4 * j) (nI d) 0 σ) (RM 1 310 0 0 τ)) :
    ∀ (D : Nat) (σ τ : Mm) (P p' n i : Nat) (v : Int32), L - P ≤ D → sk b L p' = P → P ≤ L → n ≤ P → i ≤ P → n0 < n → ST j a B b L ℓ σ (sI τ 310 10 (nI P)) P n d → TM τ a B b L p' → SegV σ j ℓ n0 n v → ∀ K K', D + 2 < K → D + 2 < K' →
    OUTW j a B b L ℓ d n0 n P σ τ (wh (fun x : Int32 × Int32 × Mm => fX3_sum_l20 RC (48 + 4 * j) (nI d) x.1 x.2.1 x.2.2) K (sg b L P, nI i, σ)) (wh (fun x : Int32 × Mm => fX10_sum_l5 RM 310 x.1 x.2) K' (v, τ)) := by
  intro D
  induction D with
  | zero =>
    intro σ τ P p' n i v hD hp hP hn hi h0 h k hv K K' hK hK'
    obtain ⟨K, rfl⟩ : ∃ x, K = x + 1 := ⟨K - 1, by omega⟩
    obtain ⟨K', rfl⟩ : ∃ x, K' = x + 1 := ⟨K' - 1, by omega⟩
    exact X_sumE RC RM hp hP hn hi h0 h k hv (by unfold sg; rw [← hp, sk_sk k.1, hp, if_neg (by omega)]; decide) (by unfold sg; rw [← hp, sk_sk k.1, hp, if_neg (by omega)]; decide)
  | succ D ih =>
    intro σ τ P p' n i v hD hp hP hn hi h0 h k hv K K' hK hK'
    obtain ⟨K, rfl⟩ : ∃ x, K = x + 1 := ⟨K - 1, by omega⟩
    obtain ⟨K', rfl⟩ : ∃ x, K' = x + 1 + 1 := ⟨K' - 2, by omega⟩
    have hL := h.tc.2.1
    have hPs : sk b L P = P := by rw [← hp]; exact sk_sk k.1
    have hsg : sg b L p' = sg b L P := by unfold sg; rw [hp, hPs]
    by_cases qop : sg b L P = 43 ∨ sg b L P = 45
    · have hlt : P < L := by
        have : sk b L P < L := by
          rcases qop with q | q
          · exact sg_lt (x := 43) (by omega) q
          · exact sg_lt (x := 45) (by omega) q
        omega
      have i240 : ¬ (240 : Int32) < nI i := fun z => absurd ((ltT (a := 240) (by omega) (by omega)).mp z) (by omega)
      have h1 := h.cur (q := P + 1) (by omega)
      rw [sI_sI] at h1
      have cS : fX3_sum_l20 RC (48 + 4 * j) (nI d) (sg b L P) (nI i) σ = bnd2 (RC 5 (48 + 4 * j) (nI d) 0 (sI σ 1 2 (nI (P + 1)))) fun vk8 sk8 => if vk8 = 0 then some (Sum.inr (0, sk8)) else (fX3_emit (48 + 4 * j) (sg b L P) 0 sk8).bind fun sk10 => (gR sk10 (48 + 4 * j) 0).bind fun r11 => bnd2 (fX7_next r11 sk10) fun vk12 sk12 => some (Sum.inl (vk12, nI (i + 1), sk12)) := by
        have e39 : fX3_sum_l20 RC (48 + 4 * j) (nI d) (sg b L P) (nI i) σ = fX3_sum_b39 RC (48 + 4 * j) (nI d) (sg b L P) (nI i) σ := by
          unfold fX3_sum_l20
          rw [if_neg i240]
          rcases qop with q | q
          · rw [if_pos q]
          · rw [q, if_neg (by decide), if_pos rfl]
        rw [e39]
        unfold fX3_sum_b39
        rw [h.r0, Option.bind_some, h.tc.2.2.2.2.1, nI_1, nI_1]
      have kP := k.cur hP
      have e10 : sI (sI τ 310 10 (nI P)) 310 10 ((gI (sI τ 310 10 (nI P)) 310 10) + 1) = sI τ 310 10 (nI (P + 1)) := by rw [kP.2.2.2.2.2.2.2.1, nI_1, sI_sI]
      have mS : fX10_sum_l5 RM 310 v τ = fX10_sum_b45 RM 310 v (if sg b L P = 43 then 1 else 0) (sI τ 310 10 (nI P)) := by
        have f1 : gI τ 310 11 = -1 := by have := h.ok; rw [gI_sI, if_neg (by omega)] at this; exact this
        have e31 : fX10_sum_b31 RM 310 v (sI τ 310 10 (nI P)) = fX10_sum_b45 RM 310 v (if sg b L P = 43 then 1 else 0) (sI τ 310 10 (nI P)) := by
          unfold fX10_sum_b31
          rw [m_look kP, bnd2_some, hPs, sI_sI]
          by_cases q : sg b L P = 43
          · rw [if_pos q, if_pos q]
          · rw [if_neg q, if_neg q]
        unfold fX10_sum_l5
        rw [if_pos f1, m_look k, bnd2_some, hsg, hp, e31, m_look kP, bnd2_some, hPs, sI_sI, e31]
        rcases qop with q | q
        · rw [if_pos q]
        · rw [q, if_neg (by decide), if_pos rfl]
      rcases hA _ _ (P + 1) n (by omega) h1 with ⟨e', σ', τ', w, a1, a2, a3, a4, a5, a6, a7, a8⟩ | ⟨q, n', w, σ', τ', b1, b2, b3, b4, b5, b6, b7, b8, b9, b10, b11⟩
      · left
        rw [a1, bnd2_some, if_pos rfl] at cS
        rw [m_sum45 RM qop e10 a3] at mS
        have mE : fX10_sum_l5 RM 310 (svl (sg b L P) v w) τ' = some (Sum.inr (svl (sg b L P) v w, τ')) := by
          unfold fX10_sum_l5
          rw [a4, if_neg (fun z => (eqN1 (by omega)).mp z)]
        refine ⟨e', σ', τ', svl (sg b L P) v w, whR cS, a2, ?_, a4, a5, (Sm.rf.sI rfl : Sm (tLc j) σ (sI σ 1 2 (nI (P + 1)))).tr a7, (Sm.rf.sI rfl : Sm tLm τ (sI τ 310 10 (nI (P + 1)))).tr a8⟩
        have : wh (fun x : Int32 × Mm => fX10_sum_l5 RM 310 x.1 x.2) (K' + 1 + 1) (v, τ) = wh (fun x : Int32 × Mm => fX10_sum_l5 RM 310 x.1 x.2) (K' + 1) (svl (sg b L P) v w, τ') := whL mS
        rw [this]
        exact whR mE
      · have hqL := b6.tc.1
        obtain ⟨σ2, c1, c2, c3, c4, c5, c6⟩ := b6.emit (by omega) (sg b L P) 0
        obtain ⟨u1, u2, u3⟩ := sk_bd (b := b) b6.tc.1
        rw [b1, bnd2_some, if_neg z1, c1, Option.bind_some, c2.r0, Option.bind_some, c_next c2.tc, bnd2_some] at cS
        rw [m_sum45 RM qop e10 b2] at mS
        have eC : wh (fun x : Int32 × Int32 × Mm => fX3_sum_l20 RC (48 + 4 * j) (nI d) x.1 x.2.1 x.2.2) (K + 1) (sg b L P, nI i, σ) = wh (fun x : Int32 × Int32 × Mm => fX3_sum_l20 RC (48 + 4 * j) (nI d) x.1 x.2.1 x.2.2) K (sg b L (sk b L q), nI (i + 1), sI σ2 1 2 (nI (sk b L q))) := by rw [sg_sk hqL]; exact whL cS
        have eM : wh (fun x : Int32 × Mm => fX10_sum_l5 RM 310 x.1 x.2) (K' + 1 + 1) (v, τ) = wh (fun x : Int32 × Mm => fX10_sum_l5 RM 310 x.1 x.2) (K' + 1) (svl (sg b L P) v w, τ') := whL mS
        have hst : ST j a B b L ℓ (sI σ2 1 2 (nI (sk b L q))) (sI τ' 310 10 (nI (sk b L q))) (sk b L q) (n' + 1) d := c2.cur u2
        have hseg : SegV (sI σ2 1 2 (nI (sk b L q))) j ℓ n0 (n' + 1) (svl (sg b L P) v w) := by
          intro hz
          obtain ⟨g1, g2⟩ := hv hz
          obtain ⟨g3, g4⟩ := b11 hz
          have t1 : Seg (gI (sI σ2 1 2 (nI (sk b L q))) (49 + 4 * j)) (gI (sI σ2 1 2 (nI (sk b L q))) (50 + 4 * j)) ℓ n0 n v := g1.congr (fun x x1 x2 => by
            rw [gI_sI, if_neg (by omega), gI_sI, if_neg (by omega), (c6 x (by omega)).1, (c6 x (by omega)).2, (b10 x x2).1, (b10 x x2).2, gI_sI, if_neg (by omega), gI_sI, if_neg (by omega)]
            exact ⟨rfl, rfl⟩)
          have t2 : Seg (gI (sI σ2 1 2 (nI (sk b L q))) (49 + 4 * j)) (gI (sI σ2 1 2 (nI (sk b L q))) (50 + 4 * j)) ℓ n n' w := g3.congr (fun x x1 x2 => by
            rw [gI_sI, if_neg (by omega), gI_sI, if_neg (by omega), (c6 x (by omega)).1, (c6 x (by omega)).2]
            exact ⟨rfl, rfl⟩)
          have e4 : gI (sI σ2 1 2 (nI (sk b L q))) (49 + 4 * j) n' = sg b L P := by rw [gI_sI, if_neg (by omega)]; exact c4
          have hop : isOp (sg b L P) := by
            unfold isOp
            rcases qop with z | z <;> rw [z] <;> decide
          have := t1.op t2 (by rw [e4]; exact hop)
          rw [e4] at this
          rw [svl_eq g2 qop]
          exact ⟨this, jn_nm _ _ _⟩
        rw [eC, eM]
        have sC0 : Sm (tLc j) σ (sI σ2 1 2 (nI (sk b L q))) := (((Sm.rf.sI rfl : Sm (tLc j) σ (sI σ 1 2 (nI (P + 1)))).tr b8).tr c3).sI rfl
        have sM0 : Sm tLm τ τ' := (Sm.rf.sI rfl : Sm tLm τ (sI τ 310 10 (nI (P + 1)))).tr b9
        rcases ih (sI σ2 1 2 (nI (sk b L q))) τ' (sk b L q) q (n' + 1) (i + 1) (svl (sg b L P) v w) (by omega) rfl u2 (by omega) (by omega) (by omega) hst b6.tm hseg K (K' + 1) (by omega) (by omega) with ⟨e', s', t', w', d1, d2, d3, d4, d5, d6, d7⟩ | ⟨q', n'', w', s', t', d1, d2, d3, d4, d5, d6, d7, d8, d9, d10⟩
        · exact Or.inl ⟨e', s', t', w', d1, d2, d3, d4, d5, sC0.tr d6, sM0.tr d7⟩
        · refine Or.inr ⟨q', n'', w', s', t', d1, d2, by omega, by omega, by omega, d6, sC0.tr d7, sM0.tr d8, fun x hx => ?_, d10⟩
          rw [(d9 x (by omega)).1, (d9 x (by omega)).2, gI_sI, if_neg (by omega), gI_sI, if_neg (by omega), (c6 x (by omega)).1, (c6 x (by omega)).2, (b10 x hx).1, (b10 x hx).2, gI_sI, if_neg (by omega), gI_sI, if_neg (by omega)]
          exact ⟨rfl, rfl⟩
    · exact X_sumE RC RM hp hP hn hi h0 h k hv (fun z => qop (Or.inl z)) (fun z => qop (Or.inr z))
theorem X_sum {j a B n d : Nat} (RC RM : RecT) (hA : ∀ (σ τ : Mm) (p n : Nat), n ≤ p → ST j a B b L ℓ σ τ p n d → OUT QT j a B b L ℓ d n n p σ τ (RC 5 (48 + 4 * j) (nI d) 0 σ) (RM 1 310 0 0 τ)) (h : ST j a B b L ℓ σ τ p n d) (hn : n ≤ p) : OUT QT j a B b L ℓ d n n p σ τ (fX3_sum RC (48 + 4 * j) (nI d) σ) (fX10_sum RM 310 τ) := by
  unfold fX3_sum fX10_sum fX3_sum_w20 fX10_sum_w5
  rcases hA σ τ p n hn h with ⟨e', σ', τ', w, a1, a2, a3, a4, a5, a6, a7, a8⟩ | ⟨q, n', w, σ', τ', b1, b2, b3, b4, b5, b6, b7, b8, b9, b10, b11⟩
  · left
    have mE : wh (fun x : Int32 × Mm => fX10_sum_l5 RM 310 x.1 x.2) BIG (w, τ') = some (w, τ') := by
      rw [show BIG = 999999 + 1 from rfl]
      refine whR ?_
      dsimp only
      unfold fX10_sum_l5
      rw [a4, if_neg (fun z => (eqN1 (by omega)).mp z)]
    refine ⟨e', σ', τ', w, ?_, a2, ?_, a4, a5, trivial, a7, a8⟩
    · rw [a1, bnd2_some, if_pos rfl]
    · rw [a3, bnd2_some, mE]; rfl
  · obtain ⟨u1, u2, u3⟩ := sk_bd (b := b) b6.tc.1
    have hL := b6.tc.2.1
    rw [b1, bnd2_some, if_neg z1, b6.r0, Option.bind_some, c_next b6.tc, bnd2_some, b2, bnd2_some]
    have hst := b6.cur u2
    have hseg : SegV (sI σ' 1 2 (nI (sk b L q))) j ℓ n n' w := fun hz => ⟨(b11 hz).1.congr (fun x _ _ => by
      rw [gI_sI, if_neg (by omega), gI_sI, if_neg (by omega)]
      exact ⟨rfl, rfl⟩), (b11 hz).2⟩
    have := X_sumL RC RM hA (L - sk b L q) (sI σ' 1 2 (nI (sk b L q))) τ' (sk b L q) q n' 0 w (Nat.le_refl _) rfl u2 (by omega) (by omega) b4 hst b6.tm hseg BIG BIG (by unfold BIG; omega) (by unfold BIG; omega)
    rw [sg_sk b6.tc.1] at this
    have sC0 : Sm (tLc j) σ (sI σ' 1 2 (nI (sk b L q))) := b8.sI rfl
    rcases this with ⟨e', s', t', w', d1, d2, d3, d4, d5, d6, d7⟩ | ⟨q', n'', w', s', t', d1, d2, d3, d4, d5, d6, d7, d8, d9, d10⟩
    · left
      refine ⟨e', s', t', w', ?_, d2, ?_, d4, d5, trivial, sC0.tr d6, b9.tr d7⟩
      · exact (congrArg (fun x => Option.bind x _) d1).trans rfl
      · rw [d3]; rfl
    · right
      refine ⟨q', n'', w', s', t', (congrArg (fun x => Option.bind x _) d1).trans rfl, by rw [d2]; rfl, by omega, by omega, by omega, d6, trivial, sC0.tr d7, b9.tr d8, fun x hx => ?_, d10⟩
      rw [(d9 x (by omega)).1, (d9 x (by omega)).2, gI_sI, if_neg (by omega), gI_sI, if_neg (by omega), (b10 x hx).1, (b10 x hx).2]
      exact ⟨rfl, rfl⟩
end LawC
