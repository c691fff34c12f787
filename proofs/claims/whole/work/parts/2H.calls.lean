/-! the calls that act -/
section Calls
variable {σ : Mm} {D np nr W H S acts nl : Nat} {ru pg rd w : Nat → Int32} {F : Nat → LF} {lw : Option LF} {jl pw : Nat → Nat → Int32}
/-- a call of the class, and the same call of the model behind it -/
def WK (np nr W H : Nat) (ru pg rd : Nat → Int32) (nl : Nat) (F : Nat → LF) (lw : Option LF) (D : Nat) (σ : Mm) (c : Option (Int32 × Mm)) (m : Mm → Option (Int32 × Mm)) : Prop :=
  ∃ v σ' σ'', c = some (v, σ') ∧ m σ' = some (v, σ'') ∧ ∃ D' w' S' jl' acts' pw', CM np nr W H ru pg rd nl F lw D' w' S' jl' acts' pw' σ'' ∧ Sm sAA σ σ'' ∧ D' ≤ D + 60
theorem WK.non {v : Int32} {c : Option (Int32 × Mm)} {m : Mm → Option (Int32 × Mm)} (h : CM np nr W H ru pg rd nl F lw D w S jl acts pw σ) (h1 : c = some (v, σ)) (h2 : m σ = some (v, sI σ 310 0 0)) : WK np nr W H ru pg rd nl F lw D σ c m :=
  ⟨v, σ, _, h1, h2, D, w, S, jl, acts, pw, h.thr, Sm.rf.sI rfl, by omega⟩
theorem WK.don {v : Int32} {τ τ2 : Mm} {w' : Nat → Int32} {jl' : Nat → Nat → Int32} {D' : Nat} {c : Option (Int32 × Mm)} {m : Mm → Option (Int32 × Mm)} (h : CM np nr W H ru pg rd nl F lw D w S jl acts pw σ) (k2 : Sm sAc σ τ) (k3 : CC τ np nr W H ru pg rd lw w' (min 100 (S + 1)) jl' (min 40 (acts + 1)) (sPw w pw)) (j4 : Sm sAm (sI τ 310 0 0) τ2) (j5 : MM τ2 np nr W H ru pg rd nl F lw w' (min 100 (S + 1)) jl' (min 40 (acts + 1)) (sPw w pw)) (hU : WU D' w') (hZ : WZ np nr w') (hD : D ≤ D') (hD2 : D' ≤ D + 60) (h1 : c = some (v, τ)) (h2 : m τ = some (v, τ2)) : WK np nr W H ru pg rd nl F lw D σ c m :=
  ⟨v, τ, τ2, h1, h2, D', _, _, _, _, _, h.act (k3.ag (Sm.rf.sI (S := sT) rfl) (fun c k hc _ _ _ _ _ => by unfold sT; simp; omega)) j4 (fun c k hc => sAm_hi hc) j5 hU hZ hD, ((k2.mono (fun c k hc => sAA_c hc)).sI rfl).tr (j4.mono (fun c k hc => sAA_m hc)), hD2⟩
theorem ln323 : ln 323 = 351 := by decide +kernel
theorem W_recut (h : CM np nr W H ru pg rd nl F lw D w S jl acts pw σ) (x y : Int32) : WK np nr W H ru pg rd nl F lw D σ (fX9_recut 0 x y σ) (fX10_recut 310 x y) := by
  have g := h.g
  have g1 := g.1
  have g2 := g.2.1
  unfold fX9_recut
  simp only [h.rf.win, h.rf.now, Option.bind_some]
  by_cases hx : ∃ r, r < nr ∧ x = nI r
  · obtain ⟨r, hr, rfl⟩ := hx
    by_cases hy : ∃ p, p < np ∧ y = nI p
    · obtain ⟨p, hp, rfl⟩ := hy
      rw [c_may_recut g h.hc h.rf.wr h.rf.sr89 h.sc hr hp, Option.bind_some]
      by_cases q : sMayC ru pg rd w r p = 0
      · rw [if_pos q]
        refine WK.non h rfl ?_
        unfold fX10_recut
        rw [h.mm.r33, Option.bind_some, m_canRecut g h.mm.thr.1.hm ln323 h.mm.thr.2.1 h.wu.wb hr hp, Option.bind_some, if_pos q]
      · obtain ⟨τ, k1, k2, k3⟩ := C_recut h.1 hr hp
        have hM := h.mc k2
        obtain ⟨τ1, τ2, j1, j2, j3, j4, j5⟩ := M_recut hM g h.S100 hr hp
        have c89 : SR τ 89 := k3.1.sr89
        have r33 : gR τ 310 33 = some 323 := hM.r33
        have hk : ¬ w (26 + 14 * r + p) = 0 := fun z => q (by unfold sMayC; rw [if_pos z]; split <;> rfl)
        rw [if_neg q, h.rf.hall, Option.bind_some, c_hasPage g h.hc hp, Option.bind_some, if_neg z1, k1, Option.bind_some, k3.1.now, Option.bind_some, c89.2.1, Option.bind_some, c89.2.2.2.2.2.1, if_pos (ixT (by omega) (by omega)), clT (by omega), k3.2.2.2.2.1.2.1 p (by omega)]
        refine WK.don h k2 k3 j4 j5 (h.wu.recut g hr hp hk) (h.wz.recut g1 hr hp) (Nat.le_refl _) (by omega) rfl ?_
        unfold fX10_recut
        rw [r33, Option.bind_some, m_canRecut g hM.1.hm ln323 hM.2.1 h.wu.wb hr hp, Option.bind_some, if_neg q, j1, Option.bind_some, j2, Option.bind_some, j3, Option.bind_some, j5.r33, Option.bind_some, i2p1, ln323, if_pos (ixT (by omega) (by omega)), clT (by omega), j5.2.1 (2 * p + 1) (by omega)]
    · rw [c_may_recut_out g h.hc h.rf.wr h.sc hr hy, Option.bind_some, if_pos rfl]
      refine WK.non h rfl ?_
      unfold fX10_recut
      rw [h.mm.r33, Option.bind_some, m_canRecut_out g h.mm.thr.1.hm ln323 h.mm.thr.2.1 (Or.inr hy), Option.bind_some, if_pos rfl]
  · rw [c_may_none g h.hc h.rf.wr (by decide) (by decide) hx, Option.bind_some, if_pos rfl]
    refine WK.non h rfl ?_
    unfold fX10_recut
    rw [h.mm.r33, Option.bind_some, m_canRecut_out g h.mm.thr.1.hm ln323 h.mm.thr.2.1 (Or.inl hx), Option.bind_some, if_pos rfl]
theorem W_go (h : CM np nr W H ru pg rd nl F lw D w S jl acts pw σ) (hnp : 0 < np) (x y : Int32) : WK np nr W H ru pg rd nl F lw D σ (fX9_go 0 x y σ) (fX10_go 310 x y) := by
  have g := h.g
  have g1 := g.1
  have g2 := g.2.1
  unfold fX9_go
  simp only [h.rf.win, h.rf.now, Option.bind_some]
  by_cases hx : ∃ r, r < nr ∧ x = nI r
  · obtain ⟨r, hr, rfl⟩ := hx
    by_cases hy : ∃ c, c < W * H ∧ y = nI c
    · obtain ⟨c, hc, rfl⟩ := hy
      rw [c_may_go g h.hc h.rf.wr h.rf.sr89 h.sc hr hnp hc, Option.bind_some]
      by_cases q : sMayG ru rd w r (nI c) = 0
      · rw [if_pos q]
        refine WK.non h rfl ?_
        unfold fX10_go
        rw [h.mm.r33, Option.bind_some, m_canGo g h.mm.thr.1.hm ln323 h.mm.thr.2.1 hnp hr hc, Option.bind_some, if_pos q]
      · obtain ⟨τ, k1, k2, k3⟩ := C_go h.1 hr (nI c)
        have hM := h.mc k2
        obtain ⟨τ1, τ2, j1, j2, j6, j7, j3, j4, j5⟩ := M_go hM h.S100 (show r < 6 by omega) (nI c)
        have c89 := h.rf.sr89
        have r33 : gR τ 310 33 = some 323 := hM.r33
        rw [if_neg q, h.rf.hall, Option.bind_some, c_hasReader g h.hc hr, Option.bind_some, if_neg z1, c89.2.2.1, Option.bind_some, c89.2.2.2.2.2.2.1, if_pos (ixT (by omega) (by omega)), clT (by omega), h.sc.2.2.1 r (by omega), c_steps g h.hc hnp, Option.bind_some, k1, Option.bind_some]
        refine WK.don h k2 k3 j4 j5 (h.wu.go g hr hc) (h.wz.go hr) (Nat.le_refl _) (by omega) rfl ?_
        unfold fX10_go
        rw [r33, Option.bind_some, m_canGo g hM.1.hm ln323 hM.2.1 hnp hr hc, Option.bind_some, if_neg q, j1, Option.bind_some, j2, Option.bind_some, m_cellOf ln323 (by omega), Option.bind_some, j7 _ (by omega), m_apart g j6.hm hnp, Option.bind_some, j3, Option.bind_some]
    · rw [c_may_go_out g h.hc h.rf.wr h.sc hr hy, Option.bind_some, if_pos rfl]
      refine WK.non h rfl ?_
      unfold fX10_go
      rw [h.mm.r33, Option.bind_some, m_canGo_out g h.mm.thr.1.hm ln323 h.mm.thr.2.1 (Or.inr hy), Option.bind_some, if_pos rfl]
  · rw [c_may_none g h.hc h.rf.wr (by decide) (by decide) hx, Option.bind_some, if_pos rfl]
    refine WK.non h rfl ?_
    unfold fX10_go
    rw [h.mm.r33, Option.bind_some, m_canGo_out g h.mm.thr.1.hm ln323 h.mm.thr.2.1 (Or.inl hx), Option.bind_some, if_pos rfl]
theorem W_night (h : CM np nr W H ru pg rd nl F lw D w S jl acts pw σ) (hnp : 0 < np) : WK np nr W H ru pg rd nl F lw D σ (fX9_night 0 σ) (fX10_night 310) := by
  have g := h.g
  have g1 := g.1
  unfold fX9_night
  rw [h.rf.win, Option.bind_some, h.rf.now, Option.bind_some, c_may_night g h.hc h.rf.wr, Option.bind_some, if_pos hnp, if_neg z1]
  obtain ⟨τ, k1, k2, k3⟩ := C_night h.1 (-1) (-1)
  have hM := h.mc k2
  obtain ⟨τ1, τ2, j1, j2, j3, j4, j5⟩ := M_night hM g h.S100 h.wu h.wz
  rw [k1, Option.bind_some, k3.1.now, Option.bind_some, k3.2.2.2.2.1.2.2.2.2.2.1]
  refine WK.don h k2 k3 j4 j5 (h.wu.night g) (h.wz.night g1) (Nat.le_succ _) (by omega) rfl ?_
  unfold fX10_night
  rw [hM.1.hm.2.2.1, if_neg (nI_ne0 hnp (by omega)), j1, Option.bind_some, j2, Option.bind_some, j3, Option.bind_some, j5.r33, Option.bind_some, ln323, if_pos (by decide), show Int32.toNatClampNeg 109 = 109 from by decide, j5.2.1 109 (by omega)]
theorem m_hareL {c cnt : Nat} {e : Nat → Nat → Int32} (g : HB np nr W H ru pg rd) (h : ME σ np nr W H ru pg rd nl F lw) (r33 : gR σ 310 33 = some 323) (hm : MW σ 323 w) (hg : MLg σ 323 cnt e) : ∃ σ', fX10_hare_w23 310 (nI c) 0 0 σ = some (sCutL (fun p => decide (pg (4 * p) = nI c)) 3 w np, σ') ∧ Sm (sM 323) σ σ' ∧ MW σ' 323 (sCut (fun p => decide (pg (4 * p) = nI c)) 3 np w) ∧ MLg σ' 323 cnt e := by
  have g1 := g.1
  unfold fX10_hare_w23
  have key : ∃ x, wh (fun a : Int32 × Int32 × Mm => fX10_hare_l23 310 (nI c) a.1 a.2.1 a.2.2) BIG (0, 0, σ) = some x ∧ (x.1 = sCutL (fun p => decide (pg (4 * p) = nI c)) 3 w np ∧ Sm (sM 323) σ x.2 ∧ MW x.2 323 (sCut (fun p => decide (pg (4 * p) = nI c)) 3 np w) ∧ MLg x.2 323 cnt e) := by
    refine wh_inv (fun i a => a.1 = sCutL (fun p => decide (pg (4 * p) = nI c)) 3 w i ∧ a.2.1 = nI i ∧ Sm (sM 323) σ a.2.2 ∧ MW a.2.2 323 (sCut (fun p => decide (pg (4 * p) = nI c)) 3 i w) ∧ MLg a.2.2 323 cnt e) _ np BIG 0 _ (Nat.zero_le _) (by unfold BIG; omega) ⟨rfl, rfl, Sm.rf, by rw [sCut_0]; exact hm, hg⟩ ?_ ?_
    · rintro i ⟨acc, j, τ⟩ hi ⟨e1, e2, e3, hm', hg'⟩
      simp only at e1 e2 e3 hm' hg'
      subst e1 e2
      left
      have h' := h.sm e3 (sM_core (by omega))
      have e6 : ¬ nI np ≤ nI i := fun z => absurd ((leT (by omega) (by omega)).mp z) (by omega)
      obtain ⟨a1, a2, a3⟩ := m_pg (k := 0) h'.hm g1 hi (by omega)
      rw [Nat.add_zero] at a2 a3
      unfold fX10_hare_l23 fX10_hare_b78
      rw [h'.hm.2.2.1, if_neg e6, a1, Option.bind_some, i4p, if_pos a2, clT (by omega), a3]
      by_cases q : pg (4 * i) = nI c
      · have comm : minI 3 (w (2 * i)) = minI (w (2 * i)) 3 := by
          unfold minI
          by_cases x1 : w (2 * i) < 3
          · rw [if_pos x1, if_neg (fun y => Int32.lt_irrefl (Int32.lt_trans x1 y))]
          · by_cases x2 : 3 < w (2 * i)
            · rw [if_neg x1, if_pos x2]
            · rw [if_neg x1, if_neg x2]
              exact Int32.le_antisymm (Int32.not_lt.mp x1) (Int32.not_lt.mp x2)
        rw [if_pos q, e3.2.2 310 33 (by omega), r33, Option.bind_some, i2p, ln323, if_pos (ixT (by omega) (by omega)), if_pos (ixT (by omega) (by omega)), if_pos (ixT (by omega) (by omega)), clT (by omega), hm' (2 * i) (by omega), sCut_at, comm]
        refine ⟨_, rfl, ?_, nI_1 i, e3.sI rfl, ?_, hg'.low (by omega)⟩
        · show _ = sCutL _ 3 w (i + 1)
          unfold sCutL; rw [fo_succ, if_pos (decide_eq_true q)]
        · dsimp only
          rw [sCut_yes (decide_eq_true q)]; exact hm'.sI
      · rw [if_neg q]
        refine ⟨_, rfl, ?_, nI_1 i, e3, ?_, hg'⟩
        · show _ = sCutL _ 3 w (i + 1)
          unfold sCutL; rw [fo_succ, if_neg (by simpa using q)]
        · dsimp only
          rw [sCut_no (by simpa using q)]; exact hm'
    · rintro ⟨acc, j, τ⟩ ⟨e1, e2, e3, hm', hg'⟩
      simp only at e1 e2 e3 hm' hg'
      subst e1 e2
      have h' := h.sm e3 (sM_core (by omega))
      unfold fX10_hare_l23
      rw [h'.hm.2.2.1, if_pos (Int32.le_refl (nI np))]
      exact ⟨_, rfl, rfl, e3, hm', hg'⟩
  obtain ⟨x, j1, j2, j3, j4, j5⟩ := key
  rw [j1]
  exact ⟨x.2, by rw [← j2], j3, j4, j5⟩
theorem W_hare (h : CM np nr W H ru pg rd nl F lw D w S jl acts pw σ) (x : Int32) : WK np nr W H ru pg rd nl F lw D σ (fX9_hare 0 x σ) (fX10_hare 310 x) := by
  have g := h.g
  have g1 := g.1
  unfold fX9_hare
  rw [h.rf.win, Option.bind_some, h.rf.now, Option.bind_some]
  by_cases hx : ∃ c, c < W * H ∧ x = nI c
  · obtain ⟨c, hc, rfl⟩ := hx
    rw [c_may_hare g h.hc h.rf.wr hc, Option.bind_some, if_neg z1]
    obtain ⟨τ, k1, k2, k3⟩ := C_hare h.1 (-1) (nI c)
    have hM := h.mc k2
    obtain ⟨τ1, i1, i2, i3, i4, i5, i6⟩ := hM.rem h.S100
    obtain ⟨τ2, j1, j2, j3, j4⟩ := m_hareL (c := c) g i3 (by rw [i2.2.2 _ _ (by omega)]; exact hM.r33) i4 i5
    obtain ⟨τ3, l1, l2, l3, l4⟩ := m_writes ln323 j3 j4 5 (-1) (nI c) (sCutL (fun p => decide (pg (4 * p) = nI c)) 3 w np)
    have hJ := k3.2.2.2.2.2.2
    rw [k1, Option.bind_some, k3.1.jou, Option.bind_some, show (0 : Int32) = nI 0 from rfl, show (3 : Int32) = nI 3 from rfl, c_entry k3.1.j1 ln302.1 hJ (show 0 < min (min 100 (S + 1)) 60 by omega) (by omega), Option.bind_some]
    have hE3 := (i3.sm j2 (sM_core (by omega))).sm l2 (sM_core (by omega))
    have hfin := MM.fin h.S100 i6 hE3 l3 l4 (j2.tr l2) (fun k => rfl) rfl
    refine WK.don h k2 k3 ((i2.mono (fun c k hc => (Bool.or_eq_false_iff.mp hc).2)).tr ((j2.tr l2).mono (fun c k hc => sM_Q (Bool.or_eq_false_iff.mp hc).1))) hfin (WU.cut g1 h.wu ⟨3, by omega, rfl⟩) (h.wz.cut g1) (Nat.le_refl _) (by omega) rfl ?_
    unfold fX10_hare
    rw [m_isCell g hM.1.hm hc, Option.bind_some, if_neg z1, i1, Option.bind_some, j1, Option.bind_some]
    dsimp only
    have r33' : gR τ2 310 33 = some 323 := by rw [j2.2.2 _ _ (by omega), i2.2.2 _ _ (by omega)]; exact hM.r33
    rw [r33', Option.bind_some, l1, Option.bind_some]
    rfl
  · rw [c_may_hare_out g h.hc h.rf.wr hx, Option.bind_some, if_pos rfl]
    refine WK.non h rfl ?_
    unfold fX10_hare
    rw [m_isCell_out g h.mm.thr.1.hm hx, Option.bind_some, if_pos rfl]
end Calls
