/-! who knows what -/
section Know
variable {σ τ : Mm} {D np nr W H S acts nl : Nat} {ru pg rd w : Nat → Int32} {F : Nat → LF} {lw : Option LF} {jl pw : Nat → Nat → Int32}
def knB (w : Nat → Int32) (p : Nat) : Nat → Bool := fun r => decide (¬ w (26 + 14 * r + p) = 0)
theorem cntB_s (P : Nat → Bool) (n : Nat) : cntB P (n + 1) = if P n = true then cntB P n + 1 else cntB P n := rfl
theorem m_knownBits {m : Nat} (hl : ln m = 351) (hm : MW τ m w) (hB : WU D w) {r : Nat} (hr : r < 6) : fX10_knownBits m (nI r) τ = some (sKn w r) := by
  unfold fX10_knownBits fX10_knownBits_w4
  have key : wh (fun a : Int32 × Int32 => fX10_knownBits_l4 m (nI r) a.1 a.2 τ) BIG (0, 0) = some (sKn w r) := by
    refine wh_run (fun i => (fo (fun p acc => if w (26 + 14 * r + p) = 0 then acc else acc ||| shlI 1 (nI p)) 0 i, nI i)) 12 rfl (BIG_lt (by omega)) (fun i hi => ?_) ?_
    · unfold fX10_knownBits_l4 fX10_knownBits_b27
      have e12 : ¬ (12 : Int32) ≤ nI i := fun z => absurd ((leT (a := 12) (by omega) (by omega)).mp z) (by omega)
      rw [if_neg e12, m_knowsW hl hm hB hr hi, Option.bind_some, fo_succ, nI_1]
      by_cases q : w (26 + 14 * r + i) = 0
      · rw [if_pos q, if_pos rfl, if_pos q, Int32.or_zero]
      · rw [if_neg q, if_neg z1, if_neg q]
    · unfold fX10_knownBits_l4
      rw [if_pos (show (12 : Int32) ≤ nI 12 from Int32.le_refl _)]
      rfl
  rw [key]; rfl
theorem m_isOf (g : HB np nr W H ru pg rd) (h : HM τ np nr W H ru pg rd) {p : Nat} (hp : p < np) (b : Int32) : fX10_isOf 310 (nI p) b τ = some (if pg (4 * p + 2) = b then 1 else 0) := by
  have g1 := g.1
  obtain ⟨a1, a2, a3⟩ := m_pg (k := 2) h g1 hp (by omega)
  unfold fX10_isOf
  rw [a1, Option.bind_some, i4p, show (2 : Int32) = nI 2 from rfl, nI_add, if_pos a2, clT (by omega), a3]
  split <;> rfl
def bkB (pg : Nat → Int32) (b : Int32) : Nat → Bool := fun p => decide (pg (4 * p + 2) = b)
theorem m_bookBits (g : HB np nr W H ru pg rd) (h : HM τ np nr W H ru pg rd) (b : Int32) : fX10_bookBits 310 b τ = some (mk (bkB pg b) np) := by
  have g1 := g.1
  unfold fX10_bookBits fX10_bookBits_w4
  have key : wh (fun a : Int32 × Int32 => fX10_bookBits_l4 310 b a.1 a.2 τ) BIG (0, 0) = some (mk (bkB pg b) np) := by
    refine wh_run (fun i => (mk (bkB pg b) i, nI i)) np rfl (BIG_lt (by omega)) (fun i hi => ?_) ?_
    · unfold fX10_bookBits_l4 fX10_bookBits_b29
      have e6 : ¬ nI np ≤ nI i := fun z => absurd ((leT (by omega) (by omega)).mp z) (by omega)
      rw [h.2.2.1, if_neg e6, m_isOf g h hi, Option.bind_some, mk_succ, nI_1]
      by_cases q : pg (4 * i + 2) = b
      · rw [if_pos q, if_neg z1, if_pos (show bkB pg b i = true from decide_eq_true q)]
      · rw [if_neg q, if_pos rfl, if_neg (show ¬ bkB pg b i = true by unfold bkB; simpa using q), Int32.or_zero]
    · unfold fX10_bookBits_l4
      rw [h.2.2.1, if_pos (Int32.le_refl _)]
  rw [key]; rfl
theorem c_pagesOf (g : HB np nr W H ru pg rd) (h : HC σ 3 np nr ru pg rd) (b : Int32) : fX1_pagesOf 3 b σ = some (mk (bkB pg b) np) := by
  have g1 := g.1
  unfold fX1_pagesOf fX1_pagesOf_w4
  have key : wh (fun a : Int32 × Int32 => fX1_pagesOf_l4 3 b a.1 a.2 σ) BIG (0, 0) = some (mk (bkB pg b) np) := by
    refine wh_run (fun i => (mk (bkB pg b) i, nI i)) np rfl (BIG_lt (by omega)) (fun i hi => ?_) ?_
    · unfold fX1_pagesOf_l4 fX1_pagesOf_b27
      have e6 : ¬ nI np ≤ nI i := fun z => absurd ((leT (by omega) (by omega)).mp z) (by omega)
      rw [h.2.2.2.2.2.2.1, if_neg e6, c_pageBook g h hi, Option.bind_some, mk_succ, nI_1]
      by_cases q : pg (4 * i + 2) = b
      · rw [if_pos q, if_pos (show bkB pg b i = true from decide_eq_true q)]
      · rw [if_neg q, if_neg (show ¬ bkB pg b i = true by unfold bkB; simpa using q)]
    · unfold fX1_pagesOf_l4
      rw [h.2.2.2.2.2.2.1, if_pos (Int32.le_refl _)]
  rw [key]; rfl
theorem m_knowers (g : HB np nr W H ru pg rd) (h : HM τ np nr W H ru pg rd) (r33 : gR τ 310 33 = some 323) (hm : MW τ 323 w) (hB : WU D w) {p : Nat} (hp : p < 12) : fX10_knowers 310 (nI p) τ = some (nI (cntB (knB w p) nr)) := by
  have g2 := g.2.1
  unfold fX10_knowers fX10_knowers_w4
  have key : wh (fun a : Int32 × Int32 => fX10_knowers_l4 310 (nI p) a.1 a.2 τ) BIG (0, 0) = some (nI (cntB (knB w p) nr)) := by
    refine wh_run (fun i => (nI (cntB (knB w p) i), nI i)) nr rfl (BIG_lt (by omega)) (fun i hi => ?_) ?_
    · unfold fX10_knowers_l4 fX10_knowers_b30
      have e6 : ¬ nI nr ≤ nI i := fun z => absurd ((leT (by omega) (by omega)).mp z) (by omega)
      rw [h.2.2.2.1, if_neg e6, r33, Option.bind_some, m_knowsW ln323 hm hB (by omega) hp, Option.bind_some, nI_1, cntB_s]
      by_cases q : w (26 + 14 * i + p) = 0
      · rw [if_pos q, if_pos rfl, if_neg (show ¬ knB w p i = true by unfold knB; simpa using q), Int32.add_zero]
      · rw [if_neg q, if_neg z1, if_pos (show knB w p i = true by unfold knB; simpa using q), nI_1]
    · unfold fX10_knowers_l4
      rw [h.2.2.2.1, if_pos (Int32.le_refl _)]
  rw [key]; rfl
theorem fin0 (hF : RF σ) : gR σ 13 0 = some 3 ∧ gR σ 13 1 = some 11 ∧ gR σ 13 2 = some 14 ∧ gR σ 13 3 = some 15 ∧ gR σ 13 5 = some 16 := by
  obtain ⟨h5, h6, h7, h8, -, h9, -⟩ := hF.2.2.2.2.1
  exact ⟨h5, h6, h7, h8, h9⟩
theorem finL (hF : RF σ) : gR σ 13 4 = some 334 := hF.2.2.2.2.1.2.2.2.2.1
theorem c_knowers (hF : RF σ) (g : HB np nr W H ru pg rd) (h : HC σ 3 np nr ru pg rd) (hs : SC σ 89 w) {p : Nat} (hp : p < 12) : fX0_knowers 13 89 (nI p) σ = some (nI (cntB (knB w p) nr)) := by
  have g2 := g.2.1
  unfold fX0_knowers fX0_knowers_w5
  have key : wh (fun a : Int32 × Int32 => fX0_knowers_l5 13 89 (nI p) a.1 a.2 σ) BIG (0, 0) = some (nI (cntB (knB w p) nr)) := by
    refine wh_run (fun i => (nI (cntB (knB w p) i), nI i)) nr rfl (BIG_lt (by omega)) (fun i hi => ?_) ?_
    · unfold fX0_knowers_l5 fX0_knowers_b31
      have e6 : ¬ nI nr ≤ nI i := fun z => absurd ((leT (by omega) (by omega)).mp z) (by omega)
      rw [(fin0 hF).1, Option.bind_some, h.2.2.2.2.2.2.2.1, if_neg e6, c_recall hF.sr89 hs (by omega) hp, Option.bind_some, nI_1, nI_1, cntB_s]
      by_cases q : w (26 + 14 * i + p) = 0
      · rw [if_pos ((sub1_m1 _).mpr q), if_neg (show ¬ knB w p i = true by unfold knB; simpa using q)]
      · rw [if_neg (fun z => q ((sub1_m1 _).mp z)), if_pos (show knB w p i = true by unfold knB; simpa using q)]
    · unfold fX0_knowers_l5
      rw [(fin0 hF).1, Option.bind_some, h.2.2.2.2.2.2.2.1, if_pos (Int32.le_refl _)]
  rw [key]; rfl
/-- readers who tell otherwise -/
def Spl (w : Nat → Int32) (p n : Nat) : Prop := ∃ r, r < n ∧ ∃ q, q < r ∧ ¬ w (26 + 14 * r + p) = 0 ∧ ¬ w (26 + 14 * q + p) = 0 ∧ ¬ w (26 + 14 * r + p) = w (26 + 14 * q + p)
theorem sub1_inj (x y : Int32) : x - 1 = y - 1 ↔ x = y := by
  constructor
  · intro h
    have := congrArg (· + 1) h
    simp only [sub1_add1] at this
    exact this
  · rintro rfl; rfl
noncomputable def splI (w : Nat → Int32) (p n : Nat) : Int32 := @ite Int32 (Spl w p n) (Classical.propDecidable _) 1 0
theorem splI_t {w : Nat → Int32} {p n : Nat} (h : Spl w p n) : splI w p n = 1 := by unfold splI; rw [if_pos h]
theorem splI_f {w : Nat → Int32} {p n : Nat} (h : ¬ Spl w p n) : splI w p n = 0 := by unfold splI; rw [if_neg h]
theorem c_isSplit (hF : RF σ) (g : HB np nr W H ru pg rd) (h : HC σ 3 np nr ru pg rd) (hs : SC σ 89 w) {p : Nat} (hp : p < 12) : fX0_isSplit 13 89 (nI p) σ = some (splI w p nr) := by
  have g2 := g.2.1
  unfold fX0_isSplit fX0_isSplit_w5
  have key : ∃ x, wh (fun a : Int32 × Int32 => fX0_isSplit_l5 13 89 (nI p) a.1 a.2 σ) BIG (-1, 0) = some x ∧ x = splI w p nr := by
    refine wh_inv (fun i a => a.2 = nI i ∧ ¬ Spl w p i ∧ ∃ u, a.1 = u - 1 ∧ (∀ q, q < i → ¬ w (26 + 14 * q + p) = 0 → w (26 + 14 * q + p) = u) ∧ (¬ u = 0 → ∃ q, q < i ∧ w (26 + 14 * q + p) = u)) _ nr BIG 0 _ (Nat.zero_le _) (by unfold BIG; omega) ⟨rfl, fun ⟨r, hr, _⟩ => absurd hr (by omega), 0, rfl, fun q hq => absurd hq (by omega), fun z => absurd rfl z⟩ ?_ ?_
    · rintro i ⟨wd, j⟩ hi ⟨e1, hns, u, e2, h1, h2⟩
      simp only at e1 e2
      subst e1 e2
      have e6 : ¬ nI nr ≤ nI i := fun z => absurd ((leT (by omega) (by omega)).mp z) (by omega)
      unfold fX0_isSplit_l5 fX0_isSplit_b45 fX0_isSplit_b57
      rw [(fin0 hF).1, Option.bind_some, h.2.2.2.2.2.2.2.1, if_neg e6, c_recall hF.sr89 hs (by omega) hp, Option.bind_some, nI_1]
      simp only [sub1_m1, sub1_inj]
      have nosp : (w (26 + 14 * i + p) = 0 ∨ u = 0 ∨ w (26 + 14 * i + p) = u) → ¬ Spl w p (i + 1) := by
        rintro hc ⟨r, hr, q, hq, k1, k2, k3⟩
        by_cases z : r = i
        · subst z
          have := h1 q hq k2
          rcases hc with hc | hc | hc
          · exact k1 hc
          · exact k2 (this.trans hc)
          · exact k3 (hc.trans this.symm)
        · exact hns ⟨r, by omega, q, hq, k1, k2, k3⟩
      by_cases q1 : w (26 + 14 * i + p) = 0
      · left
        rw [if_pos q1, if_pos q1]
        refine ⟨_, rfl, rfl, nosp (Or.inl q1), u, rfl, fun q hq hz => ?_, fun hu => ?_⟩
        · by_cases y : q = i
          · subst y; exact absurd q1 hz
          · exact h1 q (by omega) hz
        · obtain ⟨q, k1, k2⟩ := h2 hu
          exact ⟨q, by omega, k2⟩
      · rw [if_neg q1]
        by_cases q2 : u = 0
        · left
          rw [if_pos q2, if_neg q1]
          refine ⟨_, rfl, rfl, nosp (Or.inr (Or.inl q2)), _, rfl, fun q hq hz => ?_, fun hu => ⟨i, by omega, rfl⟩⟩
          by_cases y : q = i
          · rw [y]
          · exact absurd ((h1 q (by omega) hz).trans q2) hz
        · rw [if_neg q2]
          by_cases q3 : w (26 + 14 * i + p) = u
          · left
            rw [if_pos q3, if_neg q1]
            refine ⟨_, rfl, rfl, nosp (Or.inr (Or.inr q3)), _, rfl, fun q hq hz => ?_, fun hu => ⟨i, by omega, rfl⟩⟩
            by_cases y : q = i
            · rw [y]
            · exact (h1 q (by omega) hz).trans q3.symm
          · right
            rw [if_neg q3]
            obtain ⟨q, k1, k2⟩ := h2 q2
            exact ⟨_, rfl, (splI_t ⟨i, hi, q, k1, q1, by rw [k2]; exact q2, by rw [k2]; exact q3⟩).symm⟩
    · rintro ⟨wd, j⟩ ⟨e1, hns, u, e2, h1, h2⟩
      simp only at e1 e2
      subst e1 e2
      unfold fX0_isSplit_l5
      rw [(fin0 hF).1, Option.bind_some, h.2.2.2.2.2.2.2.1, if_pos (Int32.le_refl _)]
      exact ⟨_, rfl, (splI_f hns).symm⟩
  obtain ⟨x, k1, k2⟩ := key
  rw [k1, k2]; rfl
theorem m_isSplit (g : HB np nr W H ru pg rd) (h : HM τ np nr W H ru pg rd) (r33 : gR τ 310 33 = some 323) (hm : MW τ 323 w) (hB : WU D w) {p : Nat} (hp : p < 12) : fX10_isSplit 310 (nI p) τ = some (splI w p nr) := by
  have g2 := g.2.1
  unfold fX10_isSplit fX10_isSplit_w2
  have key : ∃ x, wh (fun a : Int32 => fX10_isSplit_l2 310 (nI p) a τ) BIG 0 = some x ∧ x = splI w p nr := by
    refine wh_inv (fun i a => a = nI i ∧ ¬ Spl w p i) _ nr BIG 0 _ (Nat.zero_le _) (by unfold BIG; omega) ⟨rfl, fun ⟨r, hr, _⟩ => absurd hr (by omega)⟩ ?_ ?_
    · rintro i j hi ⟨e1, hns⟩
      try simp only at e1
      subst e1
      have e6 : ¬ nI nr ≤ nI i := fun z => absurd ((leT (by omega) (by omega)).mp z) (by omega)
      unfold fX10_isSplit_l2 fX10_isSplit_w12
      rw [h.2.2.2.1, if_neg e6]
      have inner : ∃ x, wh (fun a : Int32 => fX10_isSplit_l12 310 (nI p) (nI i) a τ) BIG 0 = some x ∧ ((x = Sum.inl 1 ∧ Spl w p (i + 1)) ∨ (x = Sum.inr () ∧ ¬ Spl w p (i + 1))) := by
        refine wh_inv (fun k a => a = nI k ∧ ∀ q, q < k → ¬ (¬ w (26 + 14 * i + p) = 0 ∧ ¬ w (26 + 14 * q + p) = 0 ∧ ¬ w (26 + 14 * i + p) = w (26 + 14 * q + p))) _ i BIG 0 _ (Nat.zero_le _) (by unfold BIG; omega) ⟨rfl, fun q hq => absurd hq (by omega)⟩ ?_ ?_
        · rintro k j hk ⟨e1, h1⟩
          try simp only at e1
          subst e1
          have e7 : ¬ nI i ≤ nI k := fun z => absurd ((leT (by omega) (by omega)).mp z) (by omega)
          unfold fX10_isSplit_l12 fX10_isSplit_b64
          rw [if_neg e7, r33, Option.bind_some, m_knowsW ln323 hm hB (by omega) hp, Option.bind_some, m_knowsW ln323 hm hB (by omega) hp, Option.bind_some, m_recalls ln323 (by omega) hp, Option.bind_some, m_recalls ln323 (by omega) hp, Option.bind_some, hm _ (by omega), hm _ (by omega), nI_1]
          simp only [sub1_inj]
          have go : ¬ (¬ w (26 + 14 * i + p) = 0 ∧ ¬ w (26 + 14 * k + p) = 0 ∧ ¬ w (26 + 14 * i + p) = w (26 + 14 * k + p)) → ∀ q, q < k + 1 → ¬ (¬ w (26 + 14 * i + p) = 0 ∧ ¬ w (26 + 14 * q + p) = 0 ∧ ¬ w (26 + 14 * i + p) = w (26 + 14 * q + p)) := by
            intro hc q hq
            by_cases y : q = k
            · rw [y]; exact hc
            · exact h1 q (by omega)
          by_cases q1 : w (26 + 14 * i + p) = 0
          · left; rw [if_pos q1, if_pos rfl]
            exact ⟨_, rfl, rfl, go (fun z => z.1 q1)⟩
          · rw [if_neg q1, if_neg z1]
            by_cases q2 : w (26 + 14 * k + p) = 0
            · left; rw [if_pos q2, if_pos rfl]
              exact ⟨_, rfl, rfl, go (fun z => z.2.1 q2)⟩
            · rw [if_neg q2, if_neg z1]
              by_cases q3 : w (26 + 14 * i + p) = w (26 + 14 * k + p)
              · left; rw [if_pos q3]
                exact ⟨_, rfl, rfl, go (fun z => z.2.2 q3)⟩
              · right; rw [if_neg q3]
                exact ⟨_, rfl, Or.inl ⟨rfl, i, by omega, k, hk, q1, q2, q3⟩⟩
        · rintro j ⟨e1, h1⟩
          try simp only at e1
          subst e1
          unfold fX10_isSplit_l12
          rw [if_pos (Int32.le_refl _)]
          refine ⟨_, rfl, Or.inr ⟨rfl, ?_⟩⟩
          rintro ⟨r, hr, q, hq, k1, k2, k3⟩
          by_cases y : r = i
          · subst y; exact h1 q hq ⟨k1, k2, k3⟩
          · exact hns ⟨r, by omega, q, hq, k1, k2, k3⟩
      obtain ⟨x, k1, ⟨k2, k3⟩ | ⟨k2, k3⟩⟩ := inner
      · right
        rw [k1, k2]
        refine ⟨_, rfl, (splI_t ?_).symm⟩
        obtain ⟨r, hr, z⟩ := k3
        exact ⟨r, by omega, z⟩
      · left
        rw [k1, k2]
        exact ⟨_, rfl, nI_1 i, k3⟩
    · rintro j ⟨e1, hns⟩
      subst e1
      unfold fX10_isSplit_l2
      rw [h.2.2.2.1, if_pos (Int32.le_refl _)]
      exact ⟨_, rfl, (splI_f hns).symm⟩
  obtain ⟨x, k1, k2⟩ := key
  rw [k1, k2]; rfl
theorem Q_known (h : CM np nr W H ru pg rd nl F lw D w S jl acts pw σ) (hnp : 0 < np) : WV np nr W H ru pg rd nl F lw σ (fX9_known 0 σ) (fX10_known 310 σ) := by
  have g := h.g
  have g1 := g.1
  have g2 := g.2.1
  have hM := h.mm.thr
  have key : wh (fun a : Int32 × Int32 => fX10_known_l18 310 a.1 a.2 (sI σ 310 0 0)) BIG (0, 0) = some (mk (fun p => exB (knB w p) nr) np, sI σ 310 0 0) := by
    refine wh_run (fun i => (mk (fun p => exB (knB w p) nr) i, nI i)) np rfl (BIG_lt (by omega)) (fun i hi => ?_) ?_
    · unfold fX10_known_l18 fX10_known_b42
      have e6 : ¬ nI np ≤ nI i := fun z => absurd ((leT (by omega) (by omega)).mp z) (by omega)
      rw [hM.1.hm.2.2.1, if_neg e6, m_knowers g hM.1.hm hM.r33 hM.2.1 h.wu (by omega), Option.bind_some, nI_1, mk_succ]
      have hc := cntB_le (knB w i) nr
      have ex0 : ∀ n, exB (knB w i) n = true ↔ ¬ cntB (knB w i) n = 0 := by
        intro n
        induction n with
        | zero => simp [exB, cntB]
        | succ n ih =>
          rw [cntB_s]
          unfold exB
          rw [Bool.or_eq_true, ih]
          by_cases q : knB w i n = true
          · simp [q]
          · simp [q]
      by_cases q : cntB (knB w i) nr = 0
      · rw [if_pos (by rw [q]; exact Int32.le_refl _), if_neg (fun z => (ex0 nr).mp z q), Int32.or_zero]
      · rw [if_neg (nI_nle (by omega) (by omega)), if_pos ((ex0 nr).mpr q)]
    · unfold fX10_known_l18
      rw [hM.1.hm.2.2.1, if_pos (Int32.le_refl _)]
  unfold fX9_known fX10_known fX10_known_w18
  rw [h.rf.hall, Option.bind_some, c_isOpen g h.hc, Option.bind_some, if_pos hnp, if_neg z1, h.rf.win, Option.bind_some, h.rf.now, Option.bind_some, c_pagesKnown g h.hc h.rf.wr h.rf.sr89 h.sc, Option.bind_some, hM.1.hm.2.2.1, if_neg (nI_ne0 hnp (by omega)), key, known_mk]
  refine WV.t (v := mk (fun p => exB (knB w p) nr) np) h ?_ rfl
  rw [mk_up (fun p => exB (knB w p) nr) (n := np) (N := 12) g1 (by omega)]
  refine congrArg some (mk_congr (fun p hp => ?_))
  by_cases z : p < np
  · rw [decide_eq_true z, Bool.true_and]; rfl
  · rw [decide_eq_false z, Bool.false_and]
    cases e : exB (fun r => decide (¬ w (26 + 14 * r + p) = 0)) nr with
    | false => rfl
    | true =>
      obtain ⟨r, k1, k2⟩ := (exB_iff _ _).mp e
      rw [h.wz.1 r p (by omega) (by omega) hp] at k2
      exact absurd k2 (by decide)
theorem Q_needy (h : CM np nr W H ru pg rd nl F lw D w S jl acts pw σ) (hnp : 0 < np) : WV np nr W H ru pg rd nl F lw σ (fX9_needy 0 σ) (fX10_needy 310 σ) := by
  have g := h.g
  have g1 := g.1
  have g2 := g.2.1
  have hM := h.mm.thr
  have key : ∃ b d, wh (fun a : Int32 × Int32 => fX9_needy_l16 0 a.1 a.2 σ) BIG (0, 0) = some b ∧ wh (fun a : Int32 × Int32 => fX10_needy_l18 310 a.1 a.2 (sI σ 310 0 0)) BIG (0, 0) = some d ∧ d = (b, sI σ 310 0 0) := by
    refine wh_two (fun i a c => a = c ∧ a.2 = nI i) _ nr BIG 0 _ _ (Nat.zero_le _) (by unfold BIG; omega) ⟨rfl, rfl⟩ ?_ ?_
    · rintro i ⟨a, j⟩ c hi ⟨rfl, e1⟩
      try simp only at e1
      subst e1
      left
      have e6 : ¬ nI nr ≤ nI i := fun z => absurd ((leT (by omega) (by omega)).mp z) (by omega)
      have r22 : gR (sI σ 310 0 0) 310 22 = some 319 := hM.1.hm.1.2.2.2.2.2.2.2.2.2.2.1
      have l9 : ln 319 = 24 := by decide +kernel
      have i43 : (4 : Int32) * nI i + 3 = nI (4 * i + 3) := by rw [show (4 : Int32) = nI 4 from rfl, show (3 : Int32) = nI 3 from rfl, pk_mul, nI_add]
      unfold fX9_needy_l16 fX10_needy_l18 fX9_needy_b62 fX10_needy_b62
      rw [h.rf.hall, Option.bind_some, h.hc.2.2.2.2.2.2.2.1, if_neg e6, c_need g h.hc hi, Option.bind_some, c_pagesOf g h.hc, Option.bind_some, h.rf.now, Option.bind_some, c_pagesKnownBy h.rf.sr89 h.sc (by omega), Option.bind_some]
      rw [hM.1.hm.2.2.2.1, if_neg e6, r22, Option.bind_some, i43, l9, if_pos (ixT (by omega) (by omega)), clT (by omega), hM.1.hm.2.2.2.2.2.2 _ (by omega), m_bookBits g hM.1.hm, Option.bind_some, hM.r33, Option.bind_some, m_knownBits ln323 hM.2.1 h.wu (by omega), Option.bind_some]
      by_cases q : mk (bkB pg (rd (4 * i + 3))) np &&& (sKn w i ^^^ -1) = 0
      · rw [if_pos q, if_pos q, Int32.or_zero]
        exact ⟨_, _, rfl, rfl, rfl, nI_1 i⟩
      · rw [if_neg q, if_neg q]
        exact ⟨_, _, rfl, rfl, rfl, nI_1 i⟩
    · rintro ⟨a, j⟩ c ⟨rfl, e1⟩
      try simp only at e1
      subst e1
      unfold fX9_needy_l16 fX10_needy_l18
      rw [h.rf.hall, Option.bind_some, h.hc.2.2.2.2.2.2.2.1, if_pos (Int32.le_refl _), hM.1.hm.2.2.2.1, if_pos (Int32.le_refl _)]
      exact ⟨_, _, rfl, rfl, rfl⟩
  obtain ⟨b, d, k1, k2, rfl⟩ := key
  unfold fX9_needy fX10_needy fX9_needy_w16 fX10_needy_w18
  rw [h.rf.hall, Option.bind_some, c_isOpen g h.hc, Option.bind_some, if_pos hnp, if_neg z1, k1, hM.1.hm.2.2.1, if_neg (nI_ne0 hnp (by omega)), k2]
  exact WV.t h rfl rfl
theorem Q_sure (h : CM np nr W H ru pg rd nl F lw D w S jl acts pw σ) (hnp : 0 < np) : WV np nr W H ru pg rd nl F lw σ (fX9_sure 0 σ) (fX10_sure 310 σ) := by
  have g := h.g
  have g1 := g.1
  have g2 := g.2.1
  have hM := h.mm.thr
  have key : ∃ b d, wh (fun a : Int32 × Int32 => fX9_sure_l16 0 a.1 a.2 σ) BIG (0, 0) = some b ∧ wh (fun a : Int32 × Int32 => fX10_sure_l18 310 a.1 a.2 (sI σ 310 0 0)) BIG (0, 0) = some d ∧ d = (b, sI σ 310 0 0) := by
    refine wh_two (fun i a c => a = c ∧ a.2 = nI i) _ np BIG 0 _ _ (Nat.zero_le _) (by unfold BIG; omega) ⟨rfl, rfl⟩ ?_ ?_
    · rintro i ⟨a, j⟩ c hi ⟨rfl, e1⟩
      try simp only at e1
      subst e1
      left
      have e6 : ¬ nI np ≤ nI i := fun z => absurd ((leT (by omega) (by omega)).mp z) (by omega)
      unfold fX9_sure_l16 fX10_sure_l18 fX9_sure_b64 fX10_sure_b50 fX10_sure_b51
      rw [h.rf.hall, Option.bind_some, h.hc.2.2.2.2.2.2.1, if_neg e6, h.rf.fin, Option.bind_some, h.rf.now, Option.bind_some, c_knowers h.rf g h.hc h.sc (by omega), Option.bind_some, c_isSplit h.rf g h.hc h.sc (by omega), Option.bind_some]
      rw [hM.1.hm.2.2.1, if_neg e6, m_knowers g hM.1.hm hM.r33 hM.2.1 h.wu (by omega), Option.bind_some, m_isSplit g hM.1.hm hM.r33 hM.2.1 h.wu (by omega), Option.bind_some]
      have hc := cntB_le (knB w i) nr
      by_cases q : cntB (knB w i) nr < 2
      · rw [if_pos (show nI (cntB (knB w i) nr) < 2 from (ltT (b := 2) (by omega) (by omega)).mpr q), if_pos (show nI (cntB (knB w i) nr) ≤ 1 from (leT (b := 1) (by omega) (by omega)).mpr (by omega)), Int32.or_zero]
        exact ⟨_, _, rfl, rfl, rfl, nI_1 i⟩
      · rw [if_neg (show ¬ nI (cntB (knB w i) nr) < 2 from fun z => q ((ltT (b := 2) (by omega) (by omega)).mp z)), if_neg (show ¬ nI (cntB (knB w i) nr) ≤ 1 from fun z => absurd ((leT (b := 1) (by omega) (by omega)).mp z) (by omega))]
        by_cases q2 : splI w i nr = 0
        · rw [if_pos q2, if_pos q2]
          exact ⟨_, _, rfl, rfl, rfl, nI_1 i⟩
        · rw [if_neg q2, if_neg q2, Int32.or_zero]
          exact ⟨_, _, rfl, rfl, rfl, nI_1 i⟩
    · rintro ⟨a, j⟩ c ⟨rfl, e1⟩
      try simp only at e1
      subst e1
      unfold fX9_sure_l16 fX10_sure_l18
      rw [h.rf.hall, Option.bind_some, h.hc.2.2.2.2.2.2.1, if_pos (Int32.le_refl _), hM.1.hm.2.2.1, if_pos (Int32.le_refl _)]
      exact ⟨_, _, rfl, rfl, rfl⟩
  obtain ⟨b, d, k1, k2, rfl⟩ := key
  unfold fX9_sure fX10_sure fX9_sure_w16 fX10_sure_w18
  rw [h.rf.hall, Option.bind_some, c_isOpen g h.hc, Option.bind_some, if_pos hnp, if_neg z1, k1, hM.1.hm.2.2.1, if_neg (nI_ne0 hnp (by omega)), k2]
  exact WV.t h rfl rfl
theorem Q_split (h : CM np nr W H ru pg rd nl F lw D w S jl acts pw σ) (hnp : 0 < np) : WV np nr W H ru pg rd nl F lw σ (fX9_split 0 σ) (fX10_split 310 σ) := by
  have g := h.g
  have g1 := g.1
  have g2 := g.2.1
  have hM := h.mm.thr
  have key : ∃ b d, wh (fun a : Int32 × Int32 => fX9_split_l16 0 a.1 a.2 σ) BIG (0, 0) = some b ∧ wh (fun a : Int32 × Int32 => fX10_split_l18 310 a.1 a.2 (sI σ 310 0 0)) BIG (0, 0) = some d ∧ d = (b, sI σ 310 0 0) := by
    refine wh_two (fun i a c => a = c ∧ a.2 = nI i) _ np BIG 0 _ _ (Nat.zero_le _) (by unfold BIG; omega) ⟨rfl, rfl⟩ ?_ ?_
    · rintro i ⟨a, j⟩ c hi ⟨rfl, e1⟩
      try simp only at e1
      subst e1
      left
      have e6 : ¬ nI np ≤ nI i := fun z => absurd ((leT (by omega) (by omega)).mp z) (by omega)
      unfold fX9_split_l16 fX10_split_l18 fX9_split_b48 fX10_split_b42
      rw [h.rf.hall, Option.bind_some, h.hc.2.2.2.2.2.2.1, if_neg e6, h.rf.fin, Option.bind_some, h.rf.now, Option.bind_some, c_isSplit h.rf g h.hc h.sc (by omega), Option.bind_some]
      rw [hM.1.hm.2.2.1, if_neg e6, m_isSplit g hM.1.hm hM.r33 hM.2.1 h.wu (by omega), Option.bind_some]
      by_cases q2 : splI w i nr = 0
      · rw [if_pos q2, if_pos q2, Int32.or_zero]
        exact ⟨_, _, rfl, rfl, rfl, nI_1 i⟩
      · rw [if_neg q2, if_neg q2]
        exact ⟨_, _, rfl, rfl, rfl, nI_1 i⟩
    · rintro ⟨a, j⟩ c ⟨rfl, e1⟩
      try simp only at e1
      subst e1
      unfold fX9_split_l16 fX10_split_l18
      rw [h.rf.hall, Option.bind_some, h.hc.2.2.2.2.2.2.1, if_pos (Int32.le_refl _), hM.1.hm.2.2.1, if_pos (Int32.le_refl _)]
      exact ⟨_, _, rfl, rfl, rfl⟩
  obtain ⟨b, d, k1, k2, rfl⟩ := key
  unfold fX9_split fX10_split fX9_split_w16 fX10_split_w18
  rw [h.rf.hall, Option.bind_some, c_isOpen g h.hc, Option.bind_some, if_pos hnp, if_neg z1, k1, hM.1.hm.2.2.1, if_neg (nI_ne0 hnp (by omega)), k2]
  exact WV.t h rfl rfl
end Know
