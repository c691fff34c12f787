/-! tell, undo, draws -/
theorem ushr33 (L : Int64) : ∃ a, a < 2147483648 ∧ ushrL L 33 = lN a := by
  refine ⟨L.toUInt64.toNat / 2 ^ 33, ?_, ?_⟩
  · have := L.toUInt64.toNat_lt
    omega
  · unfold ushrL
    rw [show ((33 : Int32).toInt64.toUInt64 &&& Int64.toUInt64 63) = 33 from by decide]
    apply Int64.toBitVec.inj
    apply BitVec.eq_of_toNat_eq
    show (L.toUInt64 >>> 33).toNat = (BitVec.ofNat 64 (L.toUInt64.toNat / 2 ^ 33)).toNat
    rw [UInt64.toNat_shiftRight, BitVec.toNat_ofNat, Nat.shiftRight_eq_div_pow]
    have := L.toUInt64.toNat_lt
    rw [show (33 : UInt64).toNat % 64 = 33 from by decide, Nat.mod_eq_of_lt (by omega)]
def nextL (x : Int64) : Int64 := x * 6364136223846793005 + 1442695040888963407
def drawV (x : Int64) (m : Nat) : Int32 := Int64.toInt32 (remL (ushrL (nextL x) 33) (lN m))
theorem drawV_lt (x : Int64) {m : Nat} (h0 : 0 < m) (hm : m < 2147483648) : ∃ k, k < m ∧ drawV x m = nI k := by
  obtain ⟨a, ha, e⟩ := ushr33 (nextL x)
  refine ⟨a % m, Nat.mod_lt _ h0, ?_⟩
  unfold drawV
  rw [e, show remL (lN a) (lN m) = lN (a % m) from pk_lRem (by omega) h0 (by omega), lN_i]
theorem c_draw {σ : Mm} {m : Nat} (h0 : 0 < m) (hm : m < 2147483648) : fX9_draw 0 (nI m) σ = some (drawV (gL σ 0 18) m, sL σ 0 18 (nextL (gL σ 0 18))) := by
  unfold fX9_draw
  rw [if_pos (show (1 : Int32) ≤ nI m from (leT (a := 1) (by omega) (by omega)).mpr h0), nI_l (by omega), if_neg (show ¬ lN m = 0 from fun z => absurd ((pk_lEQ (b := 0) (by omega) (by omega)).mp z) (by omega)), gL_sL, if_pos ⟨rfl, rfl⟩]
  rfl
theorem m_draw {σ : Mm} {m : Nat} (h0 : 0 < m) (hm : m < 2147483648) : fX10_draw 310 (nI m) σ = some (drawV (gL σ 310 43) m, sL σ 310 43 (nextL (gL σ 310 43))) := by
  unfold fX10_draw
  rw [nI_l (by omega), if_neg (show ¬ lN m = 0 from fun z => absurd ((pk_lEQ (b := 0) (by omega) (by omega)).mp z) (by omega)), gL_sL, if_pos ⟨rfl, rfl⟩]
  rfl
theorem le0_eq {D : Nat} {w : Nat → Int32} (h : WU D w) {k : Nat} (hk : k < 109) : w k ≤ 0 ↔ w k = 0 := by
  obtain ⟨n, h1, h2⟩ := h k (by omega)
  have hn : n < 2147483648 := by
    unfold ub at h1
    split at h1
    · omega
    · split at h1
      · split at h1
        · omega
        · split at h1 <;> omega
      · rw [if_pos (by omega)] at h1; omega
  rw [h2]
  exact (leT (b := 0) hn (by omega)).trans ((show n ≤ 0 ↔ n = 0 by omega).trans (eqT (b := 0) hn (by omega)).symm)
theorem m_knowsW {σ : Mm} {m D : Nat} {w : Nat → Int32} (hl : ln m = 351) (hm : MW σ m w) (hB : WU D w) {r p : Nat} (hr : r < 6) (hp : p < 12) : fX10_knows m (nI r) (nI p) σ = some (if w (26 + 14 * r + p) = 0 then 0 else 1) := by
  rw [m_knows hl hr hp, hm _ (by omega)]
  by_cases q : w (26 + 14 * r + p) = 0
  · rw [if_pos q, if_pos ((le0_eq hB (by omega)).mpr q)]
  · rw [if_neg q, if_neg (fun z => q ((le0_eq hB (by omega)).mp z))]
theorem cntB_ext {P : Nat → Bool} {n N : Nat} (h : n ≤ N) (hP : ∀ p, n ≤ p → p < N → P p = false) : cntB P N = cntB P n := by
  induction N with
  | zero => rw [show n = 0 by omega]
  | succ k ih =>
    by_cases z : n = k + 1
    · rw [z]
    · have := ih (by omega) (fun p h1 h2 => hP p h1 (by omega))
      rw [← this]
      exact if_neg (by rw [hP k (by omega) (by omega)]; decide)
section Tell
variable {σ : Mm} {D np nr W H S acts nl : Nat} {ru pg rd w : Nat → Int32} {F : Nat → LF} {lw : Option LF} {jl pw : Nat → Nat → Int32}
def newsB (w : Nat → Int32) (r o : Nat) : Nat → Bool := fun p => decide (¬ w (26 + 14 * r + p) = 0) && !decide (¬ w (26 + 14 * o + p) = 0)
theorem m_tellL {r o cnt : Nat} {e : Nat → Nat → Int32} (g : HB np nr W H ru pg rd) (h : ME σ np nr W H ru pg rd nl F lw) (r33 : gR σ 310 33 = some 323) (hm : MW σ 323 w) (hg : MLg σ 323 cnt e) (hB : WU D w) (hr : r < nr) (ho : o < nr) (hro : r ≠ o) : ∃ σ', fX10_tell_w60 310 (nI r) (nI o) 0 0 σ = some (nI (cntB (newsB w r o) np), σ') ∧ Sm (sM 323) σ σ' ∧ MW σ' 323 (sTell np r o w) ∧ MLg σ' 323 cnt e := by
  have g1 := g.1
  have g2 := g.2.1
  unfold fX10_tell_w60
  have key : ∃ x, wh (fun a : Int32 × Int32 × Mm => fX10_tell_l60 310 (nI r) (nI o) a.1 a.2.1 a.2.2) BIG (0, 0, σ) = some x ∧ (x.1 = nI (cntB (newsB w r o) np) ∧ Sm (sM 323) σ x.2 ∧ MW x.2 323 (sTell np r o w) ∧ MLg x.2 323 cnt e) := by
    refine wh_inv (fun i a => a.1 = nI (cntB (newsB w r o) i) ∧ a.2.1 = nI i ∧ Sm (sM 323) σ a.2.2 ∧ MW a.2.2 323 (sTell i r o w) ∧ MLg a.2.2 323 cnt e) _ np BIG 0 _ (Nat.zero_le _) (by unfold BIG; omega) ⟨rfl, rfl, Sm.rf, ?_, hg⟩ ?_ ?_
    · have : sTell 0 r o w = w := by funext k; unfold sTell; rw [if_neg (by omega)]
      rw [this]; exact hm
    · rintro i ⟨acc, j, τ⟩ hi ⟨e1, e2, e3, hm', hg'⟩
      simp only at e1 e2 e3 hm' hg'
      subst e1 e2
      left
      have h' := h.sm e3 (sM_core (by omega))
      have e6 : ¬ nI np ≤ nI i := fun z => absurd ((leT (by omega) (by omega)).mp z) (by omega)
      have wo : sTell i r o w (26 + 14 * o + i) = w (26 + 14 * o + i) := by unfold sTell; rw [if_neg (by omega)]
      have wr : sTell i r o w (26 + 14 * r + i) = w (26 + 14 * r + i) := by unfold sTell; rw [if_neg (by omega)]
      have kn : ∀ t, t < nr → (gI τ 323 (26 + 14 * t + i) ≤ 0 ↔ sTell i r o w (26 + 14 * t + i) = 0) := fun t ht => by
        rw [hm' _ (by omega)]
        have : sTell i r o w (26 + 14 * t + i) = w (26 + 14 * t + i) := by unfold sTell; rw [if_neg (by omega)]
        rw [this]; exact le0_eq hB (by omega)
      have same : w (26 + 14 * r + i) = 0 ∨ ¬ w (26 + 14 * o + i) = 0 → sTell (i + 1) r o w = sTell i r o w := by
        intro hh
        funext k; unfold sTell
        by_cases y : 26 + 14 * o ≤ k ∧ k < 26 + 14 * o + i ∧ w k = 0
        · rw [if_pos y, if_pos ⟨y.1, by omega, y.2.2⟩]
        · rw [if_neg y]
          by_cases x : 26 + 14 * o ≤ k ∧ k < 26 + 14 * o + (i + 1) ∧ w k = 0
          · have hk : k = 26 + 14 * o + i := by
              by_cases z : k = 26 + 14 * o + i
              · exact z
              · exact absurd ⟨x.1, by omega, x.2.2⟩ y
            rw [if_pos x, hk, show 26 + 14 * o + i - (26 + 14 * o) = i by omega]
            rcases hh with hh | hh
            · rw [hh, ← hk]; exact x.2.2.symm
            · exact absurd (hk ▸ x.2.2) hh
          · rw [if_neg x]
      unfold fX10_tell_l60 fX10_tell_b121
      rw [h'.hm.2.2.1, if_neg e6, e3.2.2 310 33 (by omega), r33, Option.bind_some, m_knows ln323 (by omega) (by omega), Option.bind_some]
      by_cases q1 : w (26 + 14 * r + i) = 0
      · rw [if_pos ((kn r hr).mpr (wr.trans q1)), if_pos rfl]
        refine ⟨_, rfl, ?_, nI_1 i, e3, by dsimp only; rw [same (Or.inl q1)]; exact hm', hg'⟩
        exact congrArg nI (if_neg (by unfold newsB; simp [q1])).symm
      · rw [if_neg (fun z => q1 (wr.symm.trans ((kn r hr).mp z))), if_neg z1, m_knows ln323 (by omega) (by omega), Option.bind_some]
        by_cases q2 : w (26 + 14 * o + i) = 0
        · rw [if_pos ((kn o ho).mpr (wo.trans q2)), if_pos rfl, m_recalls ln323 (by omega) (by omega), Option.bind_some, m_learns ln323 (by omega) (by omega), Option.bind_some, hm' _ (by omega), wr, nI_1]
          refine ⟨_, rfl, ?_, nI_1 i, e3.sI rfl, ?_, hg'.low (by omega)⟩
          · exact congrArg nI (if_pos (by unfold newsB; simp [q1, q2])).symm
          · have : sTell (i + 1) r o w = uw (sTell i r o w) (26 + 14 * o + i) (w (26 + 14 * r + i) - 1 + 1) := by
              funext k; unfold sTell uw
              rw [sub1_add1]
              by_cases z : k = 26 + 14 * o + i
              · subst z; rw [if_pos ⟨by omega, by omega, q2⟩, if_pos rfl, show 26 + 14 * o + i - (26 + 14 * o) = i from by omega]
              · rw [if_neg z]
                dsimp only
                by_cases y : 26 + 14 * o ≤ k ∧ k < 26 + 14 * o + i ∧ w k = 0
                · rw [if_pos y, if_pos ⟨y.1, by omega, y.2.2⟩]
                · rw [if_neg y, if_neg (fun x => y ⟨x.1, by omega, x.2.2⟩)]
            dsimp only
            rw [this]; exact hm'.sI
        · rw [if_neg (fun z => q2 (wo.symm.trans ((kn o ho).mp z))), if_neg z1]
          refine ⟨_, rfl, ?_, nI_1 i, e3, by dsimp only; rw [same (Or.inr q2)]; exact hm', hg'⟩
          exact congrArg nI (if_neg (by unfold newsB; simp [q2])).symm
    · rintro ⟨acc, j, τ⟩ ⟨e1, e2, e3, hm', hg'⟩
      simp only at e1 e2 e3 hm' hg'
      subst e1 e2
      have h' := h.sm e3 (sM_core (by omega))
      unfold fX10_tell_l60
      rw [h'.hm.2.2.1, if_pos (Int32.le_refl (nI np))]
      exact ⟨_, rfl, rfl, e3, hm', hg'⟩
  obtain ⟨x, j1, j2, j3, j4, j5⟩ := key
  rw [j1]
  exact ⟨x.2, by rw [← j2], j3, j4, j5⟩
theorem tell_row {r o : Nat} (hr : r < 6) (ho : o < 6) (hnp : np ≤ 12) : uw (uw (sTell np r o w) (24 + 14 * r) (sTell np r o w (24 + 14 * r))) (25 + 14 * r) 1 = sTell np r o (uw w (25 + 14 * r) 1) := by
  funext k
  unfold sTell uw
  by_cases z : k = 25 + 14 * r
  · rw [if_pos z, if_neg (by omega), if_pos z]
  · rw [if_neg z, if_neg z]
    by_cases y : k = 24 + 14 * r
    · rw [if_pos y, if_neg (by omega), if_neg (by omega), y]
    · rw [if_neg y]
      dsimp only
      by_cases x : 26 + 14 * o ≤ k ∧ k < 26 + 14 * o + np ∧ w k = 0
      · rw [if_pos x, if_pos x, if_neg (by omega)]
      · rw [if_neg x, if_neg x]
theorem W_tell (h : CM np nr W H ru pg rd nl F lw D w S jl acts pw σ) (x y : Int32) : WK np nr W H ru pg rd nl F lw D σ (fX9_tell 0 x y σ) (fX10_tell 310 x y) := by
  have g := h.g
  have g1 := g.1
  have g2 := g.2.1
  unfold fX9_tell
  simp only [h.rf.win, h.rf.now, Option.bind_some]
  by_cases hx : ∃ r, r < nr ∧ x = nI r
  · obtain ⟨r, hr, rfl⟩ := hx
    by_cases hy : ∃ p, p < nr ∧ y = nI p
    · obtain ⟨o, ho, rfl⟩ := hy
      rw [c_may_tell g h.hc h.rf.wr h.rf.sr89 h.sc hr ho, Option.bind_some]
      have mno : ∀ {σ' : Mm}, MM σ' np nr W H ru pg rd nl F lw w S jl acts pw → sMayT w r o = 0 → fX10_tell 310 (nI r) (nI o) σ' = some (-1, sI σ' 310 0 0) := by
        intro σ' hM q
        unfold fX10_tell
        rw [hM.r33, Option.bind_some, m_canDo g hM.thr.1.hm ln323 hM.thr.2.1 hr, Option.bind_some]
        unfold sMayT at q
        by_cases q1 : w (25 + 14 * r) = 0
        · rw [if_pos q1] at q ⊢
          rw [if_neg z1, m_isReader g hM.thr.1.hm ho, Option.bind_some, if_neg z1]
          by_cases q2 : o = r
          · rw [if_pos (by rw [q2])]
          · rw [if_neg q2] at q
            rw [if_neg (fun z => q2 ((eqT (by omega) (by omega)).mp z).symm), m_cellOf ln323 (by omega), Option.bind_some, m_cellOf ln323 (by omega), Option.bind_some, hM.thr.2.1 _ (by omega), hM.thr.2.1 _ (by omega)]
            by_cases q3 : w (24 + 14 * o) = w (24 + 14 * r)
            · rw [if_pos q3] at q; exact absurd q z1
            · rw [if_neg (fun z => q3 z.symm)]
        · rw [if_neg q1, if_pos rfl]
      by_cases q : sMayT w r o = 0
      · rw [if_pos q]
        exact WK.non h rfl (mno h.mm q)
      · obtain ⟨q1, q2, q3⟩ : w (25 + 14 * r) = 0 ∧ ¬ o = r ∧ w (24 + 14 * o) = w (24 + 14 * r) := by
          unfold sMayT at q
          by_cases q1 : w (25 + 14 * r) = 0
          · rw [if_pos q1] at q
            by_cases q2 : o = r
            · rw [if_pos q2] at q; exact absurd rfl q
            · rw [if_neg q2] at q
              by_cases q3 : w (24 + 14 * o) = w (24 + 14 * r)
              · exact ⟨q1, q2, q3⟩
              · rw [if_neg q3] at q; exact absurd rfl q
          · rw [if_neg q1] at q; exact absurd rfl q
        obtain ⟨τ, k1, k2, k3⟩ := C_tell h.1 hr ho (fun z => q2 z.symm)
        have hM := h.mc k2
        obtain ⟨τ1, i1, i2, i3, i4, i5, i6⟩ := hM.rem h.S100
        obtain ⟨τ2, j1, j2, j3, j4⟩ := m_tellL g i3 (by rw [i2.2.2 _ _ (by omega)]; exact hM.r33) i4 i5 h.wu hr ho (fun z => q2 z.symm)
        have r33' : gR τ2 310 33 = some 323 := by rw [j2.2.2 _ _ (by omega), i2.2.2 _ _ (by omega)]; exact hM.r33
        have j6 := (j3.sI (k := 24 + 14 * r) (v := sTell np r o w (24 + 14 * r))).sI (k := 25 + 14 * r) (v := 1)
        rw [tell_row (by omega) (by omega) g1] at j6
        have j7 := (j4.low (k := 24 + 14 * r) (v := sTell np r o w (24 + 14 * r)) (by omega)).low (k := 25 + 14 * r) (v := 1) (by omega)
        obtain ⟨τ3, l1, l2, l3, l4⟩ := m_writes ln323 j6 j7 3 (nI r) (nI o) 0
        have s2 : Sm (sM 323) τ1 τ3 := ((j2.sI rfl).sI rfl).tr l2
        have hE3 := i3.sm s2 (sM_core (by omega))
        have hfin := MM.fin h.S100 i6 hE3 l3 l4 s2 (fun k => rfl) rfl
        rw [if_neg q, c_pagesKnownBy h.rf.sr89 h.sc (by omega), Option.bind_some, c_pagesKnownBy h.rf.sr89 h.sc (by omega), Option.bind_some, k1, Option.bind_some, sKn_mk, sKn_mk, mk_andn _ _ (by omega), bc_mk _ (by omega), Option.bind_some]
        have ecnt : cntB (fun p => decide (¬ w (26 + 14 * r + p) = 0) && !decide (¬ w (26 + 14 * o + p) = 0)) 12 = cntB (newsB w r o) np := cntB_ext g1 (fun p h1 h2 => by rw [h.wz.1 r p (by omega) h1 h2]; simp)
        rw [ecnt]
        refine WK.don h k2 k3 ((i2.mono (fun c k hc => (Bool.or_eq_false_iff.mp hc).2)).tr (s2.mono (fun c k hc => sM_Q (Bool.or_eq_false_iff.mp hc).1))) hfin (h.wu.tell g hr ho) (h.wz.tell g1 hr) (Nat.le_refl _) (by omega) rfl ?_
        have hMτ : MW (sI τ 310 0 0) 323 w := hM.2.1
        unfold fX10_tell
        have r33 : gR τ 310 33 = some 323 := hM.r33
        rw [r33, Option.bind_some, m_canDo g hM.1.hm ln323 hMτ hr, Option.bind_some, if_pos q1, if_neg z1, m_isReader g hM.1.hm ho, Option.bind_some, if_neg z1, if_neg (fun z => q2 ((eqT (by omega) (by omega)).mp z).symm), m_cellOf ln323 (by omega), Option.bind_some, m_cellOf ln323 (by omega), Option.bind_some, hMτ _ (by omega), hMτ _ (by omega), if_pos q3.symm, i1, Option.bind_some, j1, Option.bind_some]
        dsimp only
        rw [r33', Option.bind_some, m_cellOf ln323 (by omega), Option.bind_some, m_stands ln323 (by omega), Option.bind_some, j3 _ (by omega)]
        have r33'' : gR (sI (sI τ2 323 (24 + 14 * r) (sTell np r o w (24 + 14 * r))) 323 (25 + 14 * r) 1) 310 33 = some 323 := r33'
        rw [r33'', Option.bind_some, l1, Option.bind_some]
    · rw [c_may_tell_out g h.hc h.rf.wr h.sc hr hy, Option.bind_some, if_pos rfl]
      refine WK.non h rfl ?_
      unfold fX10_tell
      rw [h.mm.r33, Option.bind_some, m_canDo g h.mm.thr.1.hm ln323 h.mm.thr.2.1 hr, Option.bind_some, m_isReader_out g h.mm.thr.1.hm hy, Option.bind_some]
      by_cases q1 : w (25 + 14 * r) = 0
      · rw [if_pos q1, if_neg z1, if_pos rfl]
      · rw [if_neg q1, if_pos rfl]
  · rw [c_may_none g h.hc h.rf.wr (by decide) (by decide) hx, Option.bind_some, if_pos rfl]
    refine WK.non h rfl ?_
    unfold fX10_tell
    rw [h.mm.r33, Option.bind_some, m_canDo_out g h.mm.thr.1.hm hx, Option.bind_some, if_pos rfl]
theorem W_undo (h : CM np nr W H ru pg rd nl F lw D w S jl acts pw σ) : WK np nr W H ru pg rd nl F lw D σ (fX9_undo 0 σ) (fX10_undo 310) := by
  have g := h.g
  unfold fX9_undo
  rw [h.rf.past, Option.bind_some, h.rf.now, Option.bind_some]
  by_cases q : acts = 0
  · subst q
    have e0 : gI σ 99 1 = nI 0 := h.pc.2.1
    have : fX4_giveBack 99 89 σ = some (0, σ) := by
      unfold fX4_giveBack
      rw [e0, if_pos (by decide)]
    rw [this, bnd2_some, if_pos rfl]
    refine WK.non h rfl ?_
    unfold fX10_undo
    rw [h.mm.thr.2.2.2.2.1, if_pos (show nI 0 = 0 from rfl)]
  · have hS := h.S100
    have hA := h.pc.1
    have hAS : acts ≤ S := h.2.2.2.2.2
    obtain ⟨τ1, k1, k2, k3, k4⟩ := c_giveBack h.rf h.pc (by omega)
    have hJ1 := h.jc.sm k2 (fun k => ⟨rfl, rfl⟩)
    obtain ⟨τ2, i1, i2, i3⟩ := c_jdrop hJ1 (by omega)
    have hF1 := h.rf.sm k2
    have hF2 := hF1.sm i2
    have k3' := k3.sm i2 (fun c k hc => by
      unfold sP at hc; unfold sJb
      simp only [Bool.or_eq_true, Bool.and_eq_true, beq_iff_eq, decide_eq_true_eq] at hc
      simp only [Bool.or_eq_false_iff, beq_eq_false_iff_ne, ne_eq]
      omega)
    have s12 : Sm sAc σ τ2 := (k2.mono (fun c k hc => by
      have h1 := sAc_X hc
      have h2 := sAc_P hc
      rw [sX_S h1]
      unfold sP at h2
      rw [Bool.or_eq_false_iff] at h2
      rw [h2.1]; rfl)).tr (i2.mono (fun c k hc => sAc_J hc))
    have hM := h.mc s12
    rw [k1, bnd2_some, if_neg z1, hF1.jou, Option.bind_some, i1, Option.bind_some, hF2.past, Option.bind_some, k3'.2.1]
    have e42 : gI (sI τ2 310 0 0) 310 42 = nI acts := hM.2.2.2.2.1
    -- the model
    have key : ∃ x, wh (fun a : Int32 × Mm => fX10_undo_l26 310 a.1 a.2) BIG (0, sI (sI τ2 310 0 0) 310 42 (nI (acts - 1))) = some x ∧ (Sm sAm (sI τ2 310 0 0) x ∧ Sm (sM 323) (sI (sI τ2 310 0 0) 310 42 (nI (acts - 1))) x ∧ ∀ k, k < 351 → gI x 323 k = gI τ2 329 (351 * (acts - 1) + k)) := by
      refine wh_inv (fun i a => a.1 = nI i ∧ Sm (sM 323) (sI (sI τ2 310 0 0) 310 42 (nI (acts - 1))) a.2 ∧ ∀ k, k < i → gI a.2 323 k = gI τ2 329 (351 * (acts - 1) + k)) _ 351 BIG 0 _ (Nat.zero_le _) (by unfold BIG; omega) ⟨rfl, Sm.rf, fun k hk => by omega⟩ ?_ ?_
      · rintro i ⟨j, τ⟩ hi ⟨e2, e3, e4⟩
        simp only at e2 e3 e4
        subst e2
        left
        have e6 : ¬ (351 : Int32) ≤ nI i := fun z => absurd ((leT (a := 351) (by omega) (by omega)).mp z) (by omega)
        have r33 : gR τ 310 33 = some 323 := by rw [e3.2.2 _ _ (by omega)]; exact hM.r33
        have r41 : gR τ 310 41 = some 329 := by rw [e3.2.2 _ _ (by omega)]; exact hM.r41
        have ea : gI τ 310 42 = nI (acts - 1) := by rw [e3.1 310 42 rfl, gI_sI, if_pos ⟨rfl, rfl⟩]
        unfold fX10_undo_l26
        rw [if_neg e6, r33, Option.bind_some, r41, Option.bind_some, ea, i351, ln323, show ln 329 = 14040 by decide +kernel, if_pos (ixT (by omega) (by omega)), if_pos (ixT (by omega) (by omega)), clT (by omega), clT (by omega)]
        refine ⟨_, rfl, nI_1 i, e3.sI rfl, fun k hk => ?_⟩
        dsimp only
        rw [gI_sI]
        by_cases z : k = i
        · rw [if_pos ⟨rfl, z⟩, z, e3.1 329 _ rfl, gI_sI, if_neg (by omega), gI_sI, if_neg (by omega)]
        · rw [if_neg (fun x => z x.2)]; exact e4 k (by omega)
      · rintro ⟨j, τ⟩ ⟨e2, e3, e4⟩
        simp only at e2 e3 e4
        subst e2
        unfold fX10_undo_l26
        rw [if_pos (show (351 : Int32) ≤ nI 351 from Int32.le_refl _)]
        exact ⟨_, rfl, (Sm.rf.sI (S := sAm) rfl).tr (e3.mono (fun c k hc => sM_Q (Bool.or_eq_false_iff.mp hc).1)), e3, e4⟩
    obtain ⟨x, j1, j2, j3, j4⟩ := key
    have ex : gI x 310 42 = nI (acts - 1) := by rw [j3.1 310 42 rfl, gI_sI, if_pos ⟨rfl, rfl⟩]
    refine ⟨_, τ2, x, rfl, ?_, D, pw 0, S - 1, (fun i j => jl (i + 1) j), acts - 1, (fun u => pw (u + 1)), ?_, ((s12.mono (fun c k hc => sAA_c hc)).sI rfl).tr (j2.mono (fun c k hc => sAA_m hc)), by omega⟩
    · unfold fX10_undo fX10_undo_w26
      rw [e42, if_neg (nI_ne0 (by omega) (by omega)), show (1 : Int32) = nI 1 from rfl, pk_sub (by omega), j1, Option.bind_some]
      dsimp only
      rw [ex]
    · have hx329 : ∀ k, gI x 329 k = gI τ2 329 k := fun k => by rw [j3.1 329 k rfl, gI_sI, if_neg (by omega), gI_sI, if_neg (by omega)]
      have hrow := (hM.2.2.2.2.2 0 (by omega)).cp (σ' := x) (c' := 323) (b' := 0) (fun k hk => by rw [Nat.zero_add, j4 k hk, gI_sI, if_neg (by omega)]; congr 1)
      have s3 : Sm sAA σ x := ((s12.mono (fun c k hc => sAA_c hc)).sI rfl).tr (j2.mono (fun c k hc => sAA_m hc))
      have sx : Sm sAA τ2 x := (Sm.rf.sI (S := sAA) rfl).tr (j2.mono (fun c k hc => sAA_m hc))
      have hE : ME x np nr W H ru pg rd nl F lw := hM.1.sm ((Sm.rf.sI (S := fun c k => sU c k || sM 323 c k) rfl).tr (j3.mono (fun c k hc => (Bool.or_eq_false_iff.mp hc).2))) (fun c k hc => by
        have h1 := sM_core (m := 323) (by omega) c k hc
        rw [h1, Bool.or_false]
        unfold coreM coreH at hc; unfold sU
        simp only [Bool.or_eq_true, Bool.and_eq_true, beq_iff_eq] at hc
        simp only [Bool.or_eq_false_iff, Bool.and_eq_false_imp, beq_iff_eq, beq_eq_false_iff_ne, ne_eq]
        omega)
      have lo : ∀ c k, c < 310 → sAm c k = false := fun c k hc => sAm_hi hc
      have sT' : Sm (fun c k => sAm c k || sT c k) τ2 x := (Sm.rf.sI (S := fun c k => sAm c k || sT c k) rfl).tr (j2.mono (fun c k hc => (Bool.or_eq_false_iff.mp hc).1))
      have hCC : CC x np nr W H ru pg rd lw (pw 0) (S - 1) (fun i j => jl (i + 1) j) (acts - 1) (fun u => pw (u + 1)) := by
        have hCC2 : CC τ2 np nr W H ru pg rd lw (pw 0) (S - 1) (fun i j => jl (i + 1) j) (acts - 1) (fun u => pw (u + 1)) :=
          ⟨hF2, g, h.hc.sm s12 (by omega) (fun j k hj => sAc_no (by omega) (by omega)), h.hl.sm s12 (fun j k hj => ⟨sAc_no (by omega) (by omega), sAc_no (by omega) (by omega), sAc_no (by omega) (by omega)⟩), k4.sm i2 (fun j k hj => by unfold sJb; simp only [Bool.or_eq_false_iff, beq_eq_false_iff_ne, ne_eq]; omega), k3', i3⟩
        exact hCC2.ag sT' (fun c k hc _ _ _ _ _ => by rw [lo c k hc, Bool.false_or]; unfold sT; simp; omega)
      obtain ⟨m1, m2⟩ := hrow.mw
      refine ⟨hCC, ⟨hE, m1, ?_, by omega, ex, fun u hu => ?_⟩, (h.2.2.2.2.1 0 (by omega)).1, (h.2.2.2.2.1 0 (by omega)).2, fun u hu => h.2.2.2.2.1 (u + 1) (by omega), by omega⟩
      · rw [show min (S - 1) 60 = min (S - (0 + 1)) 60 by omega]
        refine m2.ex (fun i j hi => ?_)
        unfold mlg
        dsimp only
        congr 1
        omega
      · have := (hM.2.2.2.2.2 (u + 1) (by omega)).cp (σ' := x) (c' := 329) (b' := 351 * (acts - 1 - 1 - u)) (fun k hk => by
          rw [hx329, gI_sI, if_neg (by omega)]
          congr 2
          omega)
        rw [show min (S - 1 - (u + 1)) 60 = min (S - (u + 1 + 1)) 60 by omega]
        refine this.ex (fun i j hi => ?_)
        unfold mlg
        dsimp only
        congr 1
        omega
end Tell
