/-! the best of several -/
def apk (bt : Nat → Nat → Bool) : Nat → Nat
  | 0 => 0
  | n + 1 => if bt (n + 1) (apk bt n) = true then n + 1 else apk bt n
theorem apk_s (bt : Nat → Nat → Bool) (n : Nat) : apk bt (n + 1) = if bt (n + 1) (apk bt n) = true then n + 1 else apk bt n := rfl
theorem apk_le (bt : Nat → Nat → Bool) (n : Nat) : apk bt n ≤ n := by
  induction n with
  | zero => exact Nat.le_refl _
  | succ n ih => rw [apk_s]; split <;> omega
def sCq (c k : Nat) : Bool := scr c k || (decide (13 ≤ c) && decide (c ≤ 46)) || ((decide (94 ≤ c) && decide (c ≤ 98)) || decide (c = 334))
def sMq (c k : Nat) : Bool := sK c k || c == 324 || c == 325 || c == 328 || c == 330 || c == 331 || (c == 310 && (decide (44 ≤ k) && decide (k ≤ 47)))
theorem sQQ_c {c k : Nat} (h : sQQ c k = false) : sCq c k = false := by
  unfold sQQ at h; unfold sCq; simp only [Bool.or_eq_false_iff] at h ⊢
  exact h.1.1.1.1.1.1.1
theorem sQQ_m {c k : Nat} (h : sQQ c k = false) : sMq c k = false := by
  unfold sQQ at h; unfold sMq; simp only [Bool.or_eq_false_iff, Bool.and_eq_false_imp, beq_iff_eq] at h ⊢
  obtain ⟨⟨⟨⟨⟨⟨⟨⟨⟨h1, h2⟩, h3⟩, h4⟩, h5⟩, h6⟩, h7⟩, h8⟩, h9⟩, h10⟩ := h
  exact ⟨⟨⟨⟨⟨⟨h4, h5⟩, h6⟩, h7⟩, h8⟩, h9⟩, fun hc => (h10 hc).2⟩
theorem sCq_r {c k : Nat} (h : sCq c k = false) : scr c k = false := by
  unfold sCq at h; simp only [Bool.or_eq_false_iff] at h; exact h.1.1
theorem sMq_K {c k : Nat} (h : sMq c k = false) : sK c k = false := by
  unfold sMq at h; simp only [Bool.or_eq_false_iff] at h; exact h.1.1.1.1.1.1
theorem sCq_hi {c k : Nat} (h : 310 ≤ c) (h2 : c ≠ 334) : sCq c k = false := by
  unfold sCq; rw [scr_no (by omega)]
  simp only [Bool.false_or, Bool.or_eq_false_iff, Bool.and_eq_false_imp, decide_eq_true_eq, decide_eq_false_iff_not]
  omega
section Pick
variable {σ τ : Mm} {D np nr W H S acts nl : Nat} {ru pg rd w : Nat → Int32} {F : Nat → LF} {lw : Option LF} {jl pw : Nat → Nat → Int32}
/-- the class's question beside any memory of the model's: then the model's behind the class's -/
theorem WQ.two {c : Option (Int32 × Mm)} {m m' : Mm → Option (Int32 × Mm)} (h : CM np nr W H ru pg rd nl F lw D w S jl acts pw σ) (hm : ∀ s, m s = m' (sI s 310 0 0)) (HH : ∀ τ, MM τ np nr W H ru pg rd nl F lw w S jl acts pw → ∃ v σ' τ', c = some (v, σ') ∧ m' τ = some (v, τ') ∧ Sm sCq σ σ' ∧ Sm sMq τ τ' ∧ ME τ' np nr W H ru pg rd nl F lw) : WQ np nr W H ru pg rd nl F lw σ c m := by
  obtain ⟨v, σ', τ', k1, k2, k3, k4, k5⟩ := HH _ h.mm.thr
  have hM : MM (sI σ' 310 0 0) np nr W H ru pg rd nl F lw w S jl acts pw := (h.mm.sm k3 (fun c k hc => sCq_hi (kMM_hi hc) (kMM_ne hc)) (fun k => ⟨sCq_hi (by omega) (by omega), sCq_hi (by omega) (by omega)⟩)).thr
  obtain ⟨v2, σ2, τ2, j1, j2, j3, j4, j5⟩ := HH _ hM
  rw [k1] at j1
  have e := Option.some.inj j1
  have e1 : v = v2 := congrArg Prod.fst e
  subst e1
  exact ⟨v, σ', τ2, k1, by rw [hm]; exact j2, ((k3.mono (fun c k hc => sQQ_c hc)).sI rfl).tr (j4.mono (fun c k hc => sQQ_m hc)), j5⟩
theorem Q_learnt (h : CM np nr W H ru pg rd nl F lw D w S jl acts pw σ) (x : Int32) : WV np nr W H ru pg rd nl F lw σ (fX9_learnt 0 x σ) (fX10_learnt 310 x σ) := by
  have g := h.g
  have g1 := g.1
  have g2 := g.2.1
  have hM := h.mm.thr
  unfold fX9_learnt fX10_learnt fX9_learnt_w17 fX10_learnt_w19
  rw [h.rf.hall, Option.bind_some]
  by_cases hx : ∃ p, p < nr ∧ x = nI p
  · obtain ⟨r, hr, rfl⟩ := hx
    have key : ∃ b d, wh (fun a : Int32 × Int32 => fX9_learnt_l17 0 (nI r) a.1 a.2 σ) BIG (0, 0) = some b ∧ wh (fun a : Int32 × Int32 => fX10_learnt_l19 310 (nI r) a.1 a.2 (sI σ 310 0 0)) BIG (0, 0) = some d ∧ d = (b, sI σ 310 0 0) := by
      refine wh_two (fun i a c => a = c ∧ a.2 = nI i) _ np BIG 0 _ _ (Nat.zero_le _) (by unfold BIG; omega) ⟨rfl, rfl⟩ ?_ ?_
      · rintro i ⟨a, j⟩ c hi ⟨rfl, e1⟩
        simp only at e1
        subst e1
        left
        have e6 : ¬ nI np ≤ nI i := fun z => absurd ((leT (by omega) (by omega)).mp z) (by omega)
        have r22 : gR (sI σ 310 0 0) 310 22 = some 319 := hM.1.hm.1.2.2.2.2.2.2.2.2.2.2.1
        have l9 : ln 319 = 24 := by decide +kernel
        have i43 : ∀ i, (4 : Int32) * nI i + 3 = nI (4 * i + 3) := fun i => by rw [show (4 : Int32) = nI 4 from rfl, show (3 : Int32) = nI 3 from rfl, pk_mul, nI_add]
        obtain ⟨a1, a2, a3⟩ := m_pg (k := 3) hM.1.hm g1 hi (by omega)
        unfold fX9_learnt_l17 fX10_learnt_l19 fX9_learnt_b70 fX10_learnt_b84 fX10_learnt_b85
        rw [h.rf.hall, Option.bind_some, h.hc.2.2.2.2.2.2.1, if_neg e6, c_pageBook g h.hc hi, Option.bind_some, c_need g h.hc hr, Option.bind_some, h.rf.now, Option.bind_some, c_recall h.rf.sr89 h.sc (by omega) (by omega), Option.bind_some, c_pageSays g h.hc hi, Option.bind_some]
        rw [hM.1.hm.2.2.1, if_neg e6, r22, Option.bind_some, i43, l9, if_pos (ixT (by omega) (by omega)), clT (by omega), hM.1.hm.2.2.2.2.2.2 _ (by omega), m_isOf g hM.1.hm hi, Option.bind_some, hM.r33, Option.bind_some, m_knowsW ln323 hM.2.1 h.wu (by omega) (by omega), Option.bind_some, m_recalls ln323 (by omega) (by omega), Option.bind_some, a1, Option.bind_some, i43, if_pos a2, clT (by omega), a3, hM.2.1 _ (by omega)]
        obtain ⟨-, -, -, t, ht, et⟩ := g.2.2.2.2.2.2.2.2.1 i hi
        by_cases q : pg (4 * i + 2) = rd (4 * r + 3)
        · rw [if_pos q, if_pos q, if_neg z1]
          by_cases q2 : w (26 + 14 * r + i) = 0
          · have ne : ¬ w (26 + 14 * r + i) - 1 = pg (4 * i + 3) := by
              rw [q2, et]
              exact fun z => (eqN1 (a := t) (by omega)).mp z.symm
            rw [if_neg ne, if_pos q2, if_pos rfl, Int32.add_zero]
            exact ⟨_, _, rfl, rfl, rfl, nI_1 i⟩
          · rw [if_neg q2, if_neg z1]
            by_cases q3 : w (26 + 14 * r + i) - 1 = pg (4 * i + 3)
            · rw [if_pos q3, if_pos q3]
              exact ⟨_, _, rfl, rfl, rfl, nI_1 i⟩
            · rw [if_neg q3, if_neg q3, Int32.add_zero]
              exact ⟨_, _, rfl, rfl, rfl, nI_1 i⟩
        · rw [if_neg q, if_neg q, if_pos rfl, Int32.add_zero]
          exact ⟨_, _, rfl, rfl, rfl, nI_1 i⟩
      · rintro ⟨a, j⟩ c ⟨rfl, e1⟩
        simp only at e1
        subst e1
        unfold fX9_learnt_l17 fX10_learnt_l19
        rw [h.rf.hall, Option.bind_some, h.hc.2.2.2.2.2.2.1, if_pos (Int32.le_refl _), hM.1.hm.2.2.1, if_pos (Int32.le_refl _)]
        exact ⟨_, _, rfl, rfl, rfl⟩
    obtain ⟨b, d, k1, k2, rfl⟩ := key
    rw [c_hasReader g h.hc hr, Option.bind_some, if_neg z1, k1, Option.bind_some, m_isReader g hM.1.hm hr, Option.bind_some, if_neg z1, k2]
    exact WV.t h rfl rfl
  · exact WV.t h (by rw [c_hasReader_out g h.hc hx, Option.bind_some, if_pos rfl]) (by rw [m_isReader_out g hM.1.hm hx, Option.bind_some, if_pos rfl])
theorem Q_first (h : CM np nr W H ru pg rd nl F lw D w S jl acts pw σ) : WV np nr W H ru pg rd nl F lw σ (fX9_first 0 σ) (fX10_first 310 σ) := by
  have g := h.g
  have g1 := g.1
  have g2 := g.2.1
  have hM := h.mm.thr
  have c89 := h.rf.sr89
  unfold fX9_first fX10_first fX9_first_w16 fX10_first_w9
  rw [h.rf.win, Option.bind_some, h.rf.now, Option.bind_some, c_pagesKnown g h.hc h.rf.wr h.rf.sr89 h.sc, Option.bind_some, known_mk]
  have ex0 : ∀ i n, exB (fun r => decide (¬ w (26 + 14 * r + i) = 0)) n = true ↔ ¬ cntB (knB w i) n = 0 := by
    intro i n
    induction n with
    | zero => simp [exB, cntB]
    | succ n ih =>
      rw [cntB_s]
      unfold exB
      rw [Bool.or_eq_true, ih]
      by_cases q : knB w i n = true
      · rw [if_pos q]; simp; right; unfold knB at q; simpa using q
      · rw [if_neg q]
        unfold knB at q
        simp at q
        simp [q]
  have key : ∃ b d, wh (fun a : Int32 × Int32 => fX9_first_l16 0 (mk (fun p => exB (fun r => decide (¬ w (26 + 14 * r + p) = 0)) nr) 12) a.1 a.2 σ) BIG (-1, 0) = some b ∧ wh (fun a : Int32 × Int32 => fX10_first_l9 310 a.1 a.2 (sI σ 310 0 0)) BIG (-1, 0) = some d ∧ d = (b, sI σ 310 0 0) := by
    refine wh_two (fun i a c => a = c ∧ a.2 = nI i ∧ (a.1 = -1 ∨ ∃ b, b < np ∧ a.1 = nI b)) _ np BIG 0 _ _ (Nat.zero_le _) (by unfold BIG; omega) ⟨rfl, rfl, Or.inl rfl⟩ ?_ ?_
    · rintro i ⟨a, j⟩ c hi ⟨rfl, e1, e2⟩
      simp only at e1 e2
      subst e1
      left
      have e6 : ¬ nI np ≤ nI i := fun z => absurd ((leT (by omega) (by omega)).mp z) (by omega)
      have hc := cntB_le (knB w i) nr
      unfold fX9_first_l16 fX10_first_l9 fX9_first_b48 fX9_first_b49 fX9_first_b82 fX9_first_b84 fX10_first_b60 fX10_first_b62
      rw [h.rf.hall, Option.bind_some, h.hc.2.2.2.2.2.2.1, if_neg e6, c_isThere h.rf g h.hc h.sc hi, Option.bind_some, mk_at _ (by omega) (show i < 12 by omega), h.rf.now, Option.bind_some, c89.1, Option.bind_some, c89.2.2.2.2.1, if_pos (ixT (show i < 12 by omega) (by omega)), clT (show i < 2147483648 by omega), h.sc.1 i (by omega), nI_1]
      rw [hM.1.hm.2.2.1, if_neg e6, hM.r33, Option.bind_some, i2p, ln323, if_pos (ixT (show 2 * i < 351 by omega) (by omega)), clT (show 2 * i < 2147483648 by omega), hM.2.1 (2 * i) (by omega), m_knowers g hM.1.hm hM.r33 hM.2.1 h.wu (by omega), Option.bind_some]
      by_cases q : w (2 * i) ≤ 0
      · rw [if_pos q, if_pos rfl, if_pos rfl, if_pos q]
        exact ⟨_, _, rfl, rfl, rfl, rfl, e2⟩
      · rw [if_neg q, if_neg z1, if_neg q]
        by_cases q2 : cntB (knB w i) nr = 0
        · rw [if_neg (fun z => (ex0 i nr).mp z q2), if_neg (show ¬ (0 : Int32) = 1 by decide), if_pos rfl, if_pos (by rw [q2]; exact Int32.le_refl _)]
          exact ⟨_, _, rfl, rfl, rfl, rfl, e2⟩
        · rw [if_pos ((ex0 i nr).mpr q2), if_pos rfl, if_neg z1, if_neg (nI_nle (by omega) (by omega))]
          rcases e2 with rfl | ⟨b, hb, rfl⟩
          · rw [if_pos rfl, if_pos rfl]
            exact ⟨_, _, rfl, rfl, rfl, rfl, Or.inr ⟨i, hi, rfl⟩⟩
          · have nb : ¬ nI b = -1 := fun z => (eqN1 (by omega)).mp z
            rw [if_neg nb, if_neg nb, if_pos (ixT (show b < 12 by omega) (by omega)), clT (show b < 2147483648 by omega), h.sc.1 b (by omega), i2p, if_pos (ixT (show 2 * b < 351 by omega) (by omega)), clT (show 2 * b < 2147483648 by omega), hM.2.1 (2 * b) (by omega), if_pos (ixT (show 2 * i < 351 by omega) (by omega))]
            by_cases q3 : w (2 * b) ≤ w (2 * i)
            · rw [if_pos q3, if_pos q3]
              exact ⟨_, _, rfl, rfl, rfl, rfl, Or.inr ⟨b, hb, rfl⟩⟩
            · rw [if_neg q3, if_neg q3]
              exact ⟨_, _, rfl, rfl, rfl, rfl, Or.inr ⟨i, hi, rfl⟩⟩
    · rintro ⟨a, j⟩ c ⟨rfl, e1, e2⟩
      simp only at e1
      subst e1
      unfold fX9_first_l16 fX10_first_l9
      rw [h.rf.hall, Option.bind_some, h.hc.2.2.2.2.2.2.1, if_pos (Int32.le_refl _), hM.1.hm.2.2.1, if_pos (Int32.le_refl _)]
      exact ⟨_, _, rfl, rfl, rfl⟩
  obtain ⟨b, d, k1, k2, rfl⟩ := key
  rw [k1, k2]
  exact WV.t h rfl rfl
theorem Q_far (h : CM np nr W H ru pg rd nl F lw D w S jl acts pw σ) (hnp : 0 < np) : WV np nr W H ru pg rd nl F lw σ (fX9_far 0 σ) (fX10_far 310 σ) := by
  have g := h.g
  have g1 := g.1
  have hM := h.mm.thr
  unfold fX9_far fX10_far fX9_far_w16 fX10_far_w18
  rw [h.rf.hall, Option.bind_some, c_isOpen g h.hc, Option.bind_some, if_pos hnp, if_neg z1, hM.1.hm.2.2.1, if_neg (nI_ne0 hnp (by omega))]
  have key : ∃ b d, wh (fun a : Int32 × Int32 => fX9_far_l16 0 a.1 a.2 σ) BIG (0, 0) = some b ∧ wh (fun a : Int32 × Int32 => fX10_far_l18 310 a.1 a.2 (sI σ 310 0 0)) BIG (0, 0) = some d ∧ d = (b, sI σ 310 0 0) := by
    refine wh_two (fun i a c => a = c ∧ a.2 = nI i) _ np BIG 0 _ _ (Nat.zero_le _) (by unfold BIG; omega) ⟨rfl, rfl⟩ ?_ ?_
    · rintro i ⟨a, j⟩ c hi ⟨rfl, e1⟩
      simp only at e1
      subst e1
      left
      have e6 : ¬ nI np ≤ nI i := fun z => absurd ((leT (by omega) (by omega)).mp z) (by omega)
      have inner : ∃ b d, wh (fun y : Int32 × Int32 => fX9_far_l29 0 (nI i) y.1 y.2 σ) BIG (a, 0) = some b ∧ wh (fun y : Int32 × Int32 => fX10_far_l28 310 (nI i) y.1 y.2 (sI σ 310 0 0)) BIG (a, 0) = some d ∧ d = b := by
        refine wh_two (fun k a c => a = c ∧ a.2 = nI k) _ i BIG 0 _ _ (Nat.zero_le _) (by unfold BIG; omega) ⟨rfl, rfl⟩ ?_ ?_
        · rintro k ⟨a, j⟩ c hk ⟨rfl, e1⟩
          simp only at e1
          subst e1
          left
          have e7 : ¬ nI i ≤ nI k := fun z => absurd ((leT (by omega) (by omega)).mp z) (by omega)
          obtain ⟨a1, a2, a3⟩ := m_pg (k := 0) hM.1.hm g1 hi (by omega)
          obtain ⟨b1, b2, b3⟩ := m_pg (p := k) (k := 0) hM.1.hm g1 (by omega) (by omega)
          rw [Nat.add_zero] at a2 a3 b2 b3
          unfold fX9_far_l29 fX10_far_l28 fX9_far_b78 fX10_far_b80
          rw [if_neg e7, c_isThere h.rf g h.hc h.sc hi, Option.bind_some, c_isThere h.rf g h.hc h.sc (show k < np by omega), Option.bind_some, h.rf.hall, Option.bind_some, c_pageCell g h.hc hi, Option.bind_some, c_pageCell g h.hc (show k < np by omega), Option.bind_some, c_steps g h.hc hnp, Option.bind_some, nI_1]
          rw [if_neg e7, hM.r33, Option.bind_some, i2p, i2p, i4p, i4p, ln323, if_pos (ixT (show 2 * i < 351 by omega) (by omega)), if_pos (ixT (show 2 * k < 351 by omega) (by omega)), clT (show 2 * i < 2147483648 by omega), clT (show 2 * k < 2147483648 by omega), hM.2.1 (2 * i) (by omega), hM.2.1 (2 * k) (by omega), a1, Option.bind_some, if_pos a2, if_pos b2, clT (show 4 * i < 2147483648 by omega), clT (show 4 * k < 2147483648 by omega), a3, b3, m_apart g hM.1.hm hnp, Option.bind_some]
          by_cases q : w (2 * i) ≤ 0
          · rw [if_pos q, if_pos rfl, if_pos q]
            exact ⟨_, _, rfl, rfl, rfl, rfl⟩
          · rw [if_neg q, if_neg z1, if_neg q]
            by_cases q2 : w (2 * k) ≤ 0
            · rw [if_pos q2, if_pos rfl, if_pos q2]
              exact ⟨_, _, rfl, rfl, rfl, rfl⟩
            · rw [if_neg q2, if_neg z1, if_neg q2]
              exact ⟨_, _, rfl, rfl, rfl, rfl⟩
        · rintro ⟨a, j⟩ c ⟨rfl, e1⟩
          simp only at e1
          subst e1
          unfold fX9_far_l29 fX10_far_l28
          rw [if_pos (Int32.le_refl _), if_pos (Int32.le_refl _)]
          exact ⟨_, _, rfl, rfl, rfl⟩
      obtain ⟨b, d, k1, k2, rfl⟩ := inner
      unfold fX9_far_l16 fX10_far_l18 fX9_far_w29 fX10_far_w28
      rw [h.rf.hall, Option.bind_some, h.hc.2.2.2.2.2.2.1, if_neg e6, k1, hM.1.hm.2.2.1, if_neg e6, k2]
      exact ⟨_, _, rfl, rfl, rfl, nI_1 i⟩
    · rintro ⟨a, j⟩ c ⟨rfl, e1⟩
      simp only at e1
      subst e1
      unfold fX9_far_l16 fX10_far_l18
      rw [h.rf.hall, Option.bind_some, h.hc.2.2.2.2.2.2.1, if_pos (Int32.le_refl _), hM.1.hm.2.2.1, if_pos (Int32.le_refl _)]
      exact ⟨_, _, rfl, rfl, rfl⟩
  obtain ⟨b, d, k1, k2, rfl⟩ := key
  rw [k1, k2]
  exact WV.t h rfl rfl
end Pick
