/-! questions -/
def sQQ (c k : Nat) : Bool := scr c k || (decide (13 ≤ c) && decide (c ≤ 46)) || ((decide (94 ≤ c) && decide (c ≤ 98)) || decide (c = 334)) || sK c k || c == 324 || c == 325 || c == 328 || c == 330 || c == 331 || (c == 310 && (k == 0 || (decide (44 ≤ k) && decide (k ≤ 47))))
def WQ (np nr W H : Nat) (ru pg rd : Nat → Int32) (nl : Nat) (F : Nat → LF) (lw : Option LF) (σ : Mm) (c : Option (Int32 × Mm)) (m : Mm → Option (Int32 × Mm)) : Prop := ∃ v σ' σ'', c = some (v, σ') ∧ m σ' = some (v, σ'') ∧ Sm sQQ σ σ'' ∧ ME σ'' np nr W H ru pg rd nl F lw
def WV (np nr W H : Nat) (ru pg rd : Nat → Int32) (nl : Nat) (F : Nat → LF) (lw : Option LF) (σ : Mm) (c : Option Int32) (m : Option (Int32 × Mm)) : Prop := ∃ v σ'', c = some v ∧ m = some (v, σ'') ∧ Sm sQQ σ σ'' ∧ ME σ'' np nr W H ru pg rd nl F lw
theorem sQQ_K {c k : Nat} (h : sQQ c k = false) : sK c k = false := by
  unfold sQQ at h; simp only [Bool.or_eq_false_iff] at h; exact h.1.1.1.1.1.1.2
theorem sQQ_r {c k : Nat} (h : sQQ c k = false) : scr c k = false := by
  unfold sQQ at h; simp only [Bool.or_eq_false_iff] at h; exact h.1.1.1.1.1.1.1.1.1
theorem sQQ_kMM (c k : Nat) (h : kMM c k = true) : sQQ c k = false := by
  have hK : sK c k = false := by
    unfold kMM coreH at h
    unfold sK sG
    simp only [Bool.or_eq_true, Bool.and_eq_true, beq_iff_eq] at h
    simp only [Bool.or_eq_false_iff, Bool.and_eq_false_imp, beq_iff_eq, beq_eq_false_iff_ne, decide_eq_true_eq, decide_eq_false_iff_not, ne_eq]
    omega
  have hr : scr c k = false := scr_no (by have := kMM_hi h; omega)
  unfold sQQ
  rw [hK, hr]
  unfold kMM coreH at h
  simp only [Bool.or_eq_true, Bool.and_eq_true, beq_iff_eq] at h
  simp only [Bool.or_false, Bool.false_or, Bool.or_eq_false_iff, Bool.and_eq_false_imp, beq_iff_eq, beq_eq_false_iff_ne, decide_eq_true_eq, decide_eq_false_iff_not, ne_eq]
  omega
theorem sQQ_C (c k : Nat) (h0 : c < 310) (h1 : c < 12 ∨ 12 < c) (h2 : ¬ (48 ≤ c ∧ c < 68 ∧ (c - 48) % 4 = 3)) (h3 : ¬ (13 ≤ c ∧ c ≤ 46)) (h4 : ¬ (94 ≤ c ∧ c ≤ 98)) : sQQ c k = false := by
  have hr : scr c k = false := scr_no (by omega)
  have hK : sK c k = false := by
    unfold sK sG
    simp only [Bool.or_eq_false_iff, Bool.and_eq_false_imp, beq_iff_eq, beq_eq_false_iff_ne, decide_eq_true_eq, decide_eq_false_iff_not, ne_eq]
    omega
  unfold sQQ
  rw [hK, hr]
  simp only [Bool.or_false, Bool.false_or, Bool.or_eq_false_iff, Bool.and_eq_false_imp, beq_iff_eq, beq_eq_false_iff_ne, decide_eq_true_eq, decide_eq_false_iff_not, ne_eq]
  omega
section Qry
variable {σ : Mm} {D np nr W H S acts nl : Nat} {ru pg rd w : Nat → Int32} {F : Nat → LF} {lw : Option LF} {jl pw : Nat → Nat → Int32}
theorem CM.qry {σ' : Mm} (h : CM np nr W H ru pg rd nl F lw D w S jl acts pw σ) (s : Sm sQQ σ σ') (hE : ME σ' np nr W H ru pg rd nl F lw) : CM np nr W H ru pg rd nl F lw D w S jl acts pw σ' :=
  ⟨h.1.ag s (fun c k h0 h1 h2 h3 h4 _ => sQQ_C c k h0 h1 h2 h3 h4), h.2.1.smK hE s sQQ_kMM, h.2.2⟩
theorem WV.t {v : Int32} {c : Option Int32} {m : Option (Int32 × Mm)} (h : CM np nr W H ru pg rd nl F lw D w S jl acts pw σ) (h1 : c = some v) (h2 : m = some (v, sI σ 310 0 0)) : WV np nr W H ru pg rd nl F lw σ c m :=
  ⟨v, _, h1, h2, Sm.rf.sI rfl, h.mm.thr.1⟩
theorem WQ.t {v : Int32} {c : Option (Int32 × Mm)} {m : Mm → Option (Int32 × Mm)} (h : CM np nr W H ru pg rd nl F lw D w S jl acts pw σ) (h1 : c = some (v, σ)) (h2 : m σ = some (v, sI σ 310 0 0)) : WQ np nr W H ru pg rd nl F lw σ c m :=
  ⟨v, σ, _, h1, h2, Sm.rf.sI rfl, h.mm.thr.1⟩
theorem in4 {x : Int32} {n : Nat} : (∃ k, 0 ≤ k ∧ k ≤ n ∧ x = nI k) ∨ ¬ ∃ k, 0 ≤ k ∧ k ≤ n ∧ x = nI k := Classical.em _
theorem nin {x : Int32} {n : Nat} (h : ¬ ∃ k, 0 ≤ k ∧ k ≤ n ∧ x = nI k) (k : Nat) (hk : k ≤ n) : ¬ x = nI k := fun e => h ⟨k, by omega, hk, e⟩
theorem nin2 {x : Int32} {n : Nat} (h : ¬ ∃ k, 0 ≤ k ∧ k ≤ n ∧ x = nI k) : ¬ ∃ k, k < n + 1 ∧ x = nI k := fun ⟨k, h1, h2⟩ => h ⟨k, by omega, by omega, h2⟩
theorem Q_hall (h : CM np nr W H ru pg rd nl F lw D w S jl acts pw σ) (hnp : 0 < np) (x : Int32) : WV np nr W H ru pg rd nl F lw σ (fX9_hall 0 x σ) (fX10_hall 310 x σ) := by
  have g := h.g
  have g1 := g.1
  have hM := h.mm.thr
  have l315 : ln 315 = 5 := lnM.2.2.2.2.1
  have r18 : gR σ 310 18 = some 315 := h.mm.1.hm.1.2.2.2.2.2.2.1
  have e27 : gI (sI σ 310 0 0) 310 27 = nI np := hM.1.hm.2.2.1
  have p0 : ¬ nI np ≤ 0 := fun z => absurd ((leT (b := 0) (by omega) (by omega)).mp z) (by omega)
  obtain ⟨c1, c2, c3, c4, c5⟩ := c_rules h.hc
  have e108 : gI (sI σ 310 0 0) 323 108 = w 108 := hM.2.1 108 (by omega)
  unfold fX9_hall fX10_hall
  rw [h.rf.hall, Option.bind_some, c_isOpen g h.hc, Option.bind_some, if_pos hnp, if_neg z1, e27, if_neg p0]
  rcases in4 (x := x) (n := 4) with hx | hx
  · have hin : ∀ τ, fX10_isIn (Int32.toInt64 x) 0 4 τ = some 1 := fun τ => isInT (a := 0) (b := 4) hx (by omega)
    rw [hin, Option.bind_some, if_neg z1, r18, Option.bind_some, l315]
    obtain ⟨k, -, hk, rfl⟩ := hx
    have : k = 0 ∨ k = 1 ∨ k = 2 ∨ k = 3 ∨ k = 4 := by omega
    rcases this with rfl | rfl | rfl | rfl | rfl
    · exact WV.t h (by rw [if_pos (by decide), c1]; rfl) (by rw [if_neg (by decide), if_pos (by decide)]; exact congrArg (fun z => some (z, _)) (hM.1.hm.2.2.2.2.1 0 (by omega)))
    · exact WV.t h (by rw [if_neg (by decide), if_pos (by decide), c2]; rfl) (by rw [if_neg (by decide), if_pos (by decide)]; exact congrArg (fun z => some (z, _)) (hM.1.hm.2.2.2.2.1 1 (by omega)))
    · exact WV.t h (by rw [if_neg (by decide), if_neg (by decide), if_pos (by decide), h.rf.now, Option.bind_some, h.sc.2.2.2.2.1]) (by rw [if_pos (by decide), h.mm.r33, Option.bind_some, ln323, if_pos (by decide), show Int32.toNatClampNeg 108 = 108 from by decide, e108])
    · exact WV.t h (by rw [if_neg (by decide), if_neg (by decide), if_neg (by decide), if_pos (by decide), c4]; rfl) (by rw [if_neg (by decide), if_pos (by decide)]; exact congrArg (fun z => some (z, _)) (hM.1.hm.2.2.2.2.1 3 (by omega)))
    · exact WV.t h (by rw [if_neg (by decide), if_neg (by decide), if_neg (by decide), if_neg (by decide), if_pos (by decide), c5]; rfl) (by rw [if_neg (by decide), if_pos (by decide)]; exact congrArg (fun z => some (z, _)) (hM.1.hm.2.2.2.2.1 4 (by omega)))
  · have hin : ∀ τ, fX10_isIn (Int32.toInt64 x) 0 4 τ = some 0 := fun τ => isInF (a := 0) (b := 4) hx (by omega) (by omega)
    refine WV.t (v := -1) h ?_ (by rw [hin, Option.bind_some, if_pos rfl])
    rw [if_neg (show ¬ x = 0 from nin hx 0 (by omega)), if_neg (show ¬ x = 1 from nin hx 1 (by omega)), if_neg (show ¬ x = 2 from nin hx 2 (by omega)), if_neg (show ¬ x = 3 from nin hx 3 (by omega)), if_neg (show ¬ x = 4 from nin hx 4 (by omega))]
theorem Q_page (h : CM np nr W H ru pg rd nl F lw D w S jl acts pw σ) (x y : Int32) : WV np nr W H ru pg rd nl F lw σ (fX9_page 0 x y σ) (fX10_page 310 x y σ) := by
  have g := h.g
  have g1 := g.1
  have hM := h.mm.thr
  have c89 := h.rf.sr89
  unfold fX9_page fX10_page
  rw [h.rf.hall, Option.bind_some]
  by_cases hx : ∃ p, p < np ∧ x = nI p
  · obtain ⟨p, hp, rfl⟩ := hx
    rw [c_hasPage g h.hc hp, Option.bind_some, if_neg z1, m_isPage g hM.1.hm hp, Option.bind_some, if_neg z1]
    rcases in4 (x := y) (n := 3) with hy | hy
    · have hin : ∀ τ, fX10_isIn (Int32.toInt64 y) 0 3 τ = some 1 := fun τ => isInT (a := 0) (b := 3) hy (by omega)
      rw [hin, Option.bind_some, if_neg z1]
      obtain ⟨k, -, hk, rfl⟩ := hy
      obtain ⟨a1, a2, a3⟩ := m_pg (k := k) hM.1.hm g1 hp (by omega)
      have a1' : gR σ 310 20 = some 317 := a1
      have : k = 0 ∨ k = 1 ∨ k = 2 ∨ k = 3 := by omega
      rcases this with rfl | rfl | rfl | rfl
      · exact WV.t h (by rw [if_pos (by decide), c_pageCell g h.hc hp]; rfl) (by rw [if_neg (by decide), if_neg (by decide), a1', Option.bind_some, i4p, nI_add, if_pos a2, clT (by omega), a3]; rfl)
      · exact WV.t h (by rw [if_neg (by decide), if_pos (by decide), h.rf.now, Option.bind_some, c89.1, Option.bind_some, c89.2.2.2.2.1, if_pos (ixT (by omega) (by omega)), clT (by omega), h.sc.1 p (by omega)]) (by rw [if_pos (by decide), h.mm.r33, Option.bind_some, i2p, ln323, if_pos (ixT (by omega) (by omega)), clT (by omega), hM.2.1 _ (by omega)])
      · exact WV.t h (by rw [if_neg (by decide), if_neg (by decide), if_pos (by decide), c_pageBook g h.hc hp]; rfl) (by rw [if_neg (by decide), if_neg (by decide), a1', Option.bind_some, i4p, nI_add, if_pos a2, clT (by omega), a3])
      · exact WV.t h (by rw [if_neg (by decide), if_neg (by decide), if_neg (by decide), if_pos (by decide), h.rf.now, Option.bind_some, c89.2.1, Option.bind_some, c89.2.2.2.2.2.1, if_pos (ixT (by omega) (by omega)), clT (by omega), h.sc.2.1 p (by omega)]) (by rw [if_neg (by decide), if_pos (by decide), h.mm.r33, Option.bind_some, i2p1, ln323, if_pos (ixT (by omega) (by omega)), clT (by omega), hM.2.1 _ (by omega)])
    · have hin : ∀ τ, fX10_isIn (Int32.toInt64 y) 0 3 τ = some 0 := fun τ => isInF (a := 0) (b := 3) hy (by omega) (by omega)
      refine WV.t (v := -1) h ?_ (by rw [hin, Option.bind_some, if_pos rfl])
      rw [if_neg (show ¬ y = 0 from nin hy 0 (by omega)), if_neg (show ¬ y = 1 from nin hy 1 (by omega)), if_neg (show ¬ y = 2 from nin hy 2 (by omega)), if_neg (show ¬ y = 3 from nin hy 3 (by omega))]
  · exact WV.t h (by rw [c_hasPage_out g h.hc hx, Option.bind_some, if_pos rfl]) (by rw [m_isPage_out g hM.1.hm hx, Option.bind_some, if_pos rfl])
theorem Q_memory (h : CM np nr W H ru pg rd nl F lw D w S jl acts pw σ) (x y : Int32) : WV np nr W H ru pg rd nl F lw σ (fX9_memory 0 x y σ) (fX10_memory 310 x y σ) := by
  have g := h.g
  have g1 := g.1
  have g2 := g.2.1
  have hM := h.mm.thr
  unfold fX9_memory fX10_memory
  rw [h.rf.hall, Option.bind_some]
  by_cases hx : ∃ p, p < nr ∧ x = nI p
  · obtain ⟨r, hr, rfl⟩ := hx
    rw [c_hasReader g h.hc hr, Option.bind_some, if_neg z1, m_isReader g hM.1.hm hr, Option.bind_some, if_neg z1]
    by_cases hy : ∃ p, p < np ∧ y = nI p
    · obtain ⟨p, hp, rfl⟩ := hy
      exact WV.t h (by rw [c_hasPage g h.hc hp, Option.bind_some, if_neg z1, h.rf.now, Option.bind_some, c_recall h.rf.sr89 h.sc (by omega) (by omega)]; rfl) (by rw [m_isPage g hM.1.hm hp, Option.bind_some, if_neg z1, h.mm.r33, Option.bind_some, m_recalls ln323 (by omega) (by omega), hM.2.1 _ (by omega)]; rfl)
    · exact WV.t h (by rw [c_hasPage_out g h.hc hy, Option.bind_some, if_pos rfl]) (by rw [m_isPage_out g hM.1.hm hy, Option.bind_some, if_pos rfl])
  · exact WV.t h (by rw [c_hasReader_out g h.hc hx, Option.bind_some, if_pos rfl]) (by rw [m_isReader_out g hM.1.hm hx, Option.bind_some, if_pos rfl])
theorem Q_log (h : CM np nr W H ru pg rd nl F lw D w S jl acts pw σ) (x y : Int32) : WV np nr W H ru pg rd nl F lw σ (fX9_log 0 x y σ) (fX10_log 310 x y σ) := by
  have hM := h.mm.thr
  have hS := h.S100
  have e110 : gI (sI σ 310 0 0) 323 110 = nI (min S 60) := hM.2.2.1.2.1
  have c110 : Int32.toNatClampNeg 110 = 110 := by decide
  unfold fX9_log fX10_log fX10_log_b62
  rw [h.rf.jou, Option.bind_some, h.mm.r33, Option.bind_some, ln323, if_pos (show ixB 110 351 = true by decide), c110, e110]
  have em : min S 60 = 0 → Int32.toInt64 (nI (min S 60) - 1) = -1 := fun z => by rw [z]; rfl
  by_cases hx : ∃ i, i < min S 60 ∧ x = nI i
  · have hin : ∀ τ, fX10_isIn (Int32.toInt64 x) 0 (Int32.toInt64 (nI (min S 60) - 1)) τ = some 1 := fun τ => by
      obtain ⟨i, hi, rfl⟩ := hx
      rw [show (1 : Int32) = nI 1 from rfl, pk_sub (by omega), nI_l (n := min S 60 - 1) (by omega)]
      exact isInT (a := 0) (b := min S 60 - 1) ⟨i, by omega, by omega, rfl⟩ (by omega)
    rw [hin, Option.bind_some, if_neg z1]
    obtain ⟨i, hi, rfl⟩ := hx
    rcases in4 (x := y) (n := 3) with hy | hy
    · have hin2 : ∀ τ, fX10_isIn (Int32.toInt64 y) 0 3 τ = some 1 := fun τ => isInT (a := 0) (b := 3) hy (by omega)
      rw [hin2, Option.bind_some, if_neg z1, if_pos (show ixB 110 351 = true by decide)]
      obtain ⟨j, -, hj, rfl⟩ := hy
      have ei : (111 : Int32) + 4 * (nI (min S 60) - 1 - nI i) + nI j = nI (111 + 4 * (min S 60 - 1 - i) + j) := by
        rw [show (111 : Int32) = nI 111 from rfl, show (4 : Int32) = nI 4 from rfl, show (1 : Int32) = nI 1 from rfl, pk_sub (by omega), pk_sub (by omega), pk_mul, nI_add, nI_add]
      refine WV.t h (by rw [c_entry h.rf.j1 ln302.1 h.jc hi (by omega)]; rfl) ?_
      rw [ei, if_pos (ixT (by omega) (by omega)), clT (by omega), hM.2.2.1.2.2 _ j (by omega) (by omega)]
      unfold mlg
      rw [show 0 + (min (S - 0) 60 - 1 - (min S 60 - 1 - i)) = i by omega]
    · have hin2 : ∀ τ, fX10_isIn (Int32.toInt64 y) 0 3 τ = some 0 := fun τ => isInF (a := 0) (b := 3) hy (by omega) (by omega)
      exact WV.t h (by rw [c_entry_out h.jc (Or.inr (nin2 hy))]; rfl) (by rw [hin2, Option.bind_some, if_pos rfl])
  · have hin : ∀ τ, fX10_isIn (Int32.toInt64 x) 0 (Int32.toInt64 (nI (min S 60) - 1)) τ = some 0 := fun τ => by
      by_cases z : min S 60 = 0
      · unfold fX10_isIn
        rw [em z]
        by_cases q : lg_cmp x.toInt64 0 < 0
        · rw [if_pos q]
        · rw [if_neg q]
          have : lg_cmp x.toInt64 (-1) = 1 := by
            unfold lg_cmp at q ⊢
            have e1 : x.toInt64.toInt = x.toInt := Int32.toInt_toInt64 x
            have e0 : (0 : Int64).toInt = 0 := rfl
            have e9 : (-1 : Int64).toInt = -1 := by decide
            rw [if_pos]
            show (-1 : Int64) < _
            rw [Int64.lt_iff_toInt_lt, e9, e1]
            by_cases z1 : x.toInt64 > 0
            · have := (Int64.lt_iff_toInt_lt (x := 0) (y := x.toInt64)).mp z1
              rw [e0, e1] at this
              omega
            · rw [if_neg z1] at q
              by_cases z2 : x.toInt64 = 0
              · rw [z2, e0] at e1; omega
              · rw [if_neg z2] at q; exact absurd (by decide) q
          rw [this, if_pos (show (0 : Int32) < 1 by decide)]
      · rw [show (1 : Int32) = nI 1 from rfl, pk_sub (by omega), nI_l (n := min S 60 - 1) (by omega)]
        exact isInF (a := 0) (b := min S 60 - 1) (fun ⟨k, h1, h2, h3⟩ => hx ⟨k, by omega, h3⟩) (by omega) (by omega)
    exact WV.t h (by rw [c_entry_out h.jc (Or.inl hx)]; rfl) (by rw [hin, Option.bind_some, if_pos rfl])
theorem sQQ_w {σ1 σ2 : Mm} (s1 : Sm scr σ σ1) (s2 : Sm sK (sI σ1 310 0 0) σ2) : Sm sQQ σ σ2 :=
  ((s1.mono (fun c k hc => sQQ_r hc)).sI rfl).tr (s2.mono (fun c k hc => sQQ_K hc))
theorem MM.cl {σ1 : Mm} (hM : MM σ np nr W H ru pg rd nl F lw w S jl acts pw) (s1 : Sm scr σ σ1) : MM (sI σ1 310 0 0) np nr W H ru pg rd nl F lw w S jl acts pw :=
  (hM.sm s1 (fun c k hc => scr_no (by have := kMM_hi hc; omega)) (fun k => ⟨rfl, rfl⟩)).thr
theorem Q_loss (h : CM np nr W H ru pg rd nl F lw D w S jl acts pw σ) (hD : D < 2147483000) (x y : Int32) : WQ np nr W H ru pg rd nl F lw σ (fX9_loss 0 x y σ) (fX10_loss 310 x y) := by
  have g := h.g
  have g1 := g.1
  have g2 := g.2.1
  have hWH := WH_lt g
  have hM := h.mm.thr
  unfold fX9_loss
  rw [h.rf.hall, Option.bind_some]
  by_cases hx : ∃ p, p < nr ∧ x = nI p
  · obtain ⟨r, hr, rfl⟩ := hx
    rw [c_hasReader g h.hc hr, Option.bind_some, if_neg z1]
    by_cases hy : ∃ p, p < np ∧ y = nI p
    · obtain ⟨p, hp, rfl⟩ := hy
      rw [c_isThere h.rf g h.hc h.sc hp, Option.bind_some]
      by_cases q : w (2 * p) ≤ 0
      · rw [if_pos q]
        refine WQ.t h rfl ?_
        unfold fX10_loss
        rw [m_isReader g hM.1.hm hr, Option.bind_some, if_neg z1, m_isPage g hM.1.hm hp, Option.bind_some, if_neg z1, h.mm.r33, Option.bind_some, i2p, ln323, if_pos (ixT (by omega) (by omega)), clT (by omega), hM.2.1 _ (by omega), if_pos q]
      · obtain ⟨⟨c, hc, ec⟩, -⟩ := g.2.2.2.2.2.2.2.2.1 p hp
        obtain ⟨τ, k1, k2⟩ := c_lossIn g h.hc h.rf.wr h.rf.sr89 h.sc h.hl SB89 hr (pg (4 * p))
        have hM1 := h.mm.cl k2
        obtain ⟨τ2, j1, j2, j3⟩ := m_lossAt (c := c) g hM1.1 (Or.inl rfl) hM1.2.1 h.wu (by omega) hr (by omega)
        rw [if_neg q, if_neg z1, h.rf.win, Option.bind_some, h.rf.now, Option.bind_some, c_pageCell g h.hc hp, Option.bind_some, k1, bnd2_some]
        refine ⟨_, τ, τ2, rfl, ?_, sQQ_w k2 j2, j3⟩
        obtain ⟨a1, a2, a3⟩ := m_pg (k := 0) hM1.1.hm g1 hp (by omega)
        rw [Nat.add_zero] at a2 a3
        have a1' : gR τ 310 20 = some 317 := a1
        have r33 : gR τ 310 33 = some 323 := hM1.r33
        unfold fX10_loss
        rw [m_isReader g hM1.1.hm hr, Option.bind_some, if_neg z1, m_isPage g hM1.1.hm hp, Option.bind_some, if_neg z1, r33, Option.bind_some, i2p, ln323, if_pos (ixT (by omega) (by omega)), clT (by omega), hM1.2.1 _ (by omega), if_neg q, a1', Option.bind_some, i4p, if_pos a2, clT (by omega), a3, ec, j1, bnd2_some]
        rfl
    · rw [c_isThere_out h.rf g h.hc hy, Option.bind_some, if_pos rfl]
      refine WQ.t h rfl ?_
      unfold fX10_loss
      rw [m_isReader g hM.1.hm hr, Option.bind_some, if_neg z1, m_isPage_out g hM.1.hm hy, Option.bind_some, if_pos rfl]
  · rw [c_hasReader_out g h.hc hx, Option.bind_some, if_pos rfl]
    refine WQ.t h rfl ?_
    unfold fX10_loss
    rw [m_isReader_out g hM.1.hm hx, Option.bind_some, if_pos rfl]
theorem Q_melt (h : CM np nr W H ru pg rd nl F lw D w S jl acts pw σ) (hD : D < 2147483000) (x y z : Int32) : WQ np nr W H ru pg rd nl F lw σ (fX9_melt 0 x y z σ) (fX10_melt 310 x y z) := by
  have g := h.g
  have g1 := g.1
  have g2 := g.2.1
  have hWH := WH_lt g
  have hM := h.mm.thr
  unfold fX9_melt
  rw [h.rf.hall, Option.bind_some]
  by_cases hx : ∃ p, p < nr ∧ x = nI p
  · obtain ⟨r, hr, rfl⟩ := hx
    rw [c_hasReader g h.hc hr, Option.bind_some, if_neg z1]
    by_cases hz : ∃ c, c < W * H ∧ z = nI c
    · obtain ⟨c, hc, rfl⟩ := hz
      rw [c_hasCell g h.hc hc, Option.bind_some, if_neg z1]
      by_cases hy : ∃ p, p < np ∧ y = nI p
      · obtain ⟨p, hp, rfl⟩ := hy
        rw [c_isThere h.rf g h.hc h.sc hp, Option.bind_some]
        by_cases q : w (2 * p) ≤ 0
        · rw [if_pos q]
          refine WQ.t h rfl ?_
          unfold fX10_melt
          rw [m_isReader g hM.1.hm hr, Option.bind_some, if_neg z1, m_isPage g hM.1.hm hp, Option.bind_some, if_neg z1, m_isCell g hM.1.hm hc, Option.bind_some, if_neg z1, h.mm.r33, Option.bind_some, i2p, ln323, if_pos (ixT (by omega) (by omega)), clT (by omega), hM.2.1 _ (by omega), if_pos q]
        · obtain ⟨n, hn, en⟩ := sOth_ok nr w r (nI c) g2
          obtain ⟨τ, k1, k2⟩ := c_meltBy g h.hc h.rf.wr h.rf.sr89 h.sc h.hl (scr_SB SB89) hr hp (nI c) (nI n)
          have hM1 := h.mm.cl k2
          obtain ⟨τ2, j1, j2, j3⟩ := m_meltBy (c := c) (n := n) g hM1.1 (Or.inl rfl) hM1.2.1 h.wu.wb (by omega) hr hp (by omega) (by omega)
          rw [if_neg q, if_neg z1, h.rf.win, Option.bind_some, h.rf.now, Option.bind_some, c_others g h.hc h.rf.wr h.rf.sr89 h.sc (by omega), Option.bind_some, en, k1, bnd2_some]
          refine ⟨_, τ, τ2, rfl, ?_, sQQ_w k2 j2, j3⟩
          have r33 : gR τ 310 33 = some 323 := hM1.r33
          unfold fX10_melt
          rw [m_isReader g hM1.1.hm hr, Option.bind_some, if_neg z1, m_isPage g hM1.1.hm hp, Option.bind_some, if_neg z1, m_isCell g hM1.1.hm hc, Option.bind_some, if_neg z1, r33, Option.bind_some, i2p, ln323, if_pos (ixT (by omega) (by omega)), clT (by omega), hM1.2.1 _ (by omega), if_neg q, m_others g hM1.1.hm ln323 hM1.2.1 (by omega), Option.bind_some, en, j1, bnd2_some]
      · rw [c_isThere_out h.rf g h.hc hy, Option.bind_some, if_pos rfl]
        refine WQ.t h rfl ?_
        unfold fX10_melt
        rw [m_isReader g hM.1.hm hr, Option.bind_some, if_neg z1, m_isPage_out g hM.1.hm hy, Option.bind_some, if_pos rfl]
    · rw [c_hasCell_out g h.hc hz, Option.bind_some, if_pos rfl]
      refine WQ.t h rfl ?_
      unfold fX10_melt
      rw [m_isReader g hM.1.hm hr, Option.bind_some, if_neg z1]
      by_cases hy : ∃ p, p < np ∧ y = nI p
      · obtain ⟨p, hp, rfl⟩ := hy
        rw [m_isPage g hM.1.hm hp, Option.bind_some, if_neg z1, m_isCell_out g hM.1.hm hz, Option.bind_some, if_pos rfl]
      · rw [m_isPage_out g hM.1.hm hy, Option.bind_some, if_pos rfl]
  · rw [c_hasReader_out g h.hc hx, Option.bind_some, if_pos rfl]
    refine WQ.t h rfl ?_
    unfold fX10_melt
    rw [m_isReader_out g hM.1.hm hx, Option.bind_some, if_pos rfl]
end Qry
