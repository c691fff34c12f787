/-! the model's acts on a row -/
def sQ (m c k : Nat) : Bool := sK c k || c == 328 || c == m
theorem sQ_core {m : Nat} (hmm : m = 323 ∨ m = 324) (c k : Nat) (h : coreH c k = true) : sQ m c k = false := by
  have h1 := sK_core c k h
  unfold sQ
  rw [h1]
  unfold coreH at h
  simp only [Bool.or_eq_true, Bool.and_eq_true, beq_iff_eq] at h
  simp only [Bool.false_or, Bool.or_eq_false_iff, beq_eq_false_iff_ne, ne_eq]
  omega
theorem sM_core {m : Nat} (hmm : m = 323 ∨ m = 324 ∨ m = 328) (c k : Nat) (h : coreM c k = true) : sM m c k = false := by
  unfold sM
  unfold coreM coreH at h
  simp only [Bool.or_eq_true, Bool.and_eq_true, beq_iff_eq] at h
  simp only [beq_eq_false_iff_ne, ne_eq]
  omega
theorem sK_row {m : Nat} (hmm : m = 323 ∨ m = 324) (k : Nat) : sK m k = false := by rcases hmm with rfl | rfl <;> rfl
theorem sM_Q {m c k : Nat} (h : sQ m c k = false) : sM m c k = false := by
  unfold sQ at h; unfold sM; exact (Bool.or_eq_false_iff.mp h).2
theorem sK_Q {m c k : Nat} (h : sQ m c k = false) : sK c k = false := by
  unfold sQ at h; exact (Bool.or_eq_false_iff.mp (Bool.or_eq_false_iff.mp h).1).1
theorem sQ_m {m k : Nat} : sQ m m k = true := by unfold sQ; simp
theorem lnRow {m : Nat} (hmm : m = 323 ∨ m = 324) : ln m = 351 := by rcases hmm with rfl | rfl <;> decide +kernel
section MAct
variable {σ : Mm} {m np nr W H nl D cnt : Nat} {ru pg rd w : Nat → Int32} {F : Nat → LF} {lw : Option LF} {e : Nat → Nat → Int32}
theorem m_lossAt {c : Nat} (g : HB np nr W H ru pg rd) (h : ME σ np nr W H ru pg rd nl F lw) (hmm : m = 323 ∨ m = 324) (hm : MW σ m w) (hB : WU D w) (hD : D < 2147483648) {r : Nat} (hr : r < nr) (hc : c < 30) : ∃ σ', fX10_lossAt 310 m (nI r) (nI c) σ = some (sLoss (sMel lw nr ru pg rd w r (nI c)) w np, σ') ∧ Sm sK σ σ' ∧ ME σ' np nr W H ru pg rd nl F lw := by
  have g1 := g.1
  have g2 := g.2.1
  have hl := lnRow hmm
  unfold fX10_lossAt fX10_lossAt_w15
  rw [m_others g h.hm hl hm (by omega)]
  obtain ⟨n, hn, en⟩ := sOth_ok nr w r (nI c) g2
  have key : ∃ x, wh (fun a : Int32 × Int32 × Mm => fX10_lossAt_l15 310 m (nI r) (nI c) (sOth nr w r (nI c)) a.1 a.2.1 a.2.2) BIG (0, 0, σ) = some x ∧ (x.1 = sLoss (sMel lw nr ru pg rd w r (nI c)) w np ∧ Sm sK σ x.2 ∧ ME x.2 np nr W H ru pg rd nl F lw) := by
    refine wh_inv (fun i a => a.1 = sLoss (sMel lw nr ru pg rd w r (nI c)) w i ∧ a.2.1 = nI i ∧ Sm sK σ a.2.2 ∧ ME a.2.2 np nr W H ru pg rd nl F lw) _ np BIG 0 _ (Nat.zero_le _) (by unfold BIG; omega) ⟨rfl, rfl, Sm.rf, h⟩ ?_ ?_
    · rintro i ⟨acc, j, τ⟩ hi ⟨e1, e2, e3, h'⟩
      simp only at e1 e2 e3 h'
      subst e1 e2
      left
      have hm' := hm.sm e3 (sK_row hmm)
      have e6 : ¬ nI np ≤ nI i := fun z => absurd ((leT (by omega) (by omega)).mp z) (by omega)
      unfold fX10_lossAt_l15 fX10_lossAt_b58
      rw [h'.hm.2.2.1, if_neg e6, i2p, hl, if_pos (ixT (by omega) (by omega)), clT (by omega), hm' (2 * i) (by omega)]
      by_cases q : w (2 * i) ≤ 0
      · rw [if_pos q]
        refine ⟨_, rfl, ?_, nI_1 i, e3, h'⟩
        show _ = sLoss _ w (i + 1)
        unfold sLoss; rw [fo_succ, if_pos q]
      · rw [if_neg q, if_pos (ixT (by omega) (by omega)), en]
        obtain ⟨τ2, k1, k2, k3⟩ := m_meltBy g h' hmm hm' hB.wb hD hr hi hc (show n < 7 by omega)
        rw [k1, bnd2_some]
        refine ⟨_, rfl, ?_, nI_1 i, e3.tr k2, k3⟩
        show _ = sLoss _ w (i + 1)
        unfold sLoss; rw [fo_succ, if_neg q]
        unfold sMel; rw [en]
    · rintro ⟨acc, j, τ⟩ ⟨e1, e2, e3, h'⟩
      simp only at e1 e2 e3 h'
      subst e1 e2
      unfold fX10_lossAt_l15
      rw [h'.hm.2.2.1, if_pos (Int32.le_refl (nI np))]
      exact ⟨_, rfl, rfl, e3, h'⟩
  obtain ⟨x, k1, k2, k3, k4⟩ := key
  rw [Option.bind_some, k1]
  exact ⟨x.2, by rw [Option.bind_some, ← k2], k3, k4⟩
theorem m_breathes {c : Nat} (g : HB np nr W H ru pg rd) (h : ME σ np nr W H ru pg rd nl F lw) (hmm : m = 323 ∨ m = 324) (hm : MW σ m w) (hg : MLg σ m cnt e) (hB : WU D w) (hD : D < 2147483648) {r : Nat} (hr : r < nr) (hc : c < 30) (ec : w (24 + 14 * r) = nI c) : ∃ σ', fX10_breathes 310 m (nI r) σ = some (sLoss (sMel lw nr ru pg rd w r (nI c)) w np, σ') ∧ Sm (sQ m) σ σ' ∧ ME σ' np nr W H ru pg rd nl F lw ∧ MW σ' m (sBr (sMel lw nr ru pg rd w r (nI c)) w np) ∧ MLg σ' m cnt e := by
  have g1 := g.1
  have g2 := g.2.1
  have hl := lnRow hmm
  unfold fX10_breathes fX10_breathes_w21 fX10_breathes_w79
  rw [m_cellOf hl (by omega), Option.bind_some, hm _ (by omega), ec, m_others g h.hm hl hm (by omega), Option.bind_some]
  obtain ⟨n, hn, en⟩ := sOth_ok nr w r (nI c) g2
  have l328 : ln 328 = 12 := by decide +kernel
  have key : ∃ x, wh (fun a : Int32 × Mm => fX10_breathes_l21 310 m (nI r) (nI c) (sOth nr w r (nI c)) 0 a.1 a.2) BIG (0, σ) = some x ∧ (Sm (fun c k => sK c k || c == 328) σ x ∧ ME x np nr W H ru pg rd nl F lw ∧ ∀ p, p < np → gI x 328 p = if w (2 * p) ≤ 0 then 0 else minI (w (2 * p)) (sMel lw nr ru pg rd w r (nI c) p)) := by
    refine wh_inv (fun i a => a.1 = nI i ∧ Sm (fun c k => sK c k || c == 328) σ a.2 ∧ ME a.2 np nr W H ru pg rd nl F lw ∧ ∀ p, p < i → gI a.2 328 p = if w (2 * p) ≤ 0 then 0 else minI (w (2 * p)) (sMel lw nr ru pg rd w r (nI c) p)) _ np BIG 0 _ (Nat.zero_le _) (by unfold BIG; omega) ⟨rfl, Sm.rf, h, fun p hp => by omega⟩ ?_ ?_
    · rintro i ⟨j, τ⟩ hi ⟨e2, e3, h', hp'⟩
      simp only at e2 e3 h' hp'
      subst e2
      left
      have hm' := hm.sm e3 (fun k => by rw [sK_row hmm]; rcases hmm with rfl | rfl <;> rfl)
      have e6 : ¬ nI np ≤ nI i := fun z => absurd ((leT (by omega) (by omega)).mp z) (by omega)
      have r40 : gR τ 310 40 = some 328 := h'.hm.1.2.2.2.2.2.2.2.2.2.2.2.2.2.2.2.2.2.2.2.1
      unfold fX10_breathes_l21 fX10_breathes_b69
      rw [h'.hm.2.2.1, if_neg e6, r40, Option.bind_some, i2p, hl, if_pos (ixT (by omega) (by omega)), clT (by omega), hm' (2 * i) (by omega), l328]
      by_cases q : w (2 * i) ≤ 0
      · rw [if_pos q, if_pos (ixT (by omega) (by omega)), clT (by omega)]
        refine ⟨_, rfl, nI_1 i, e3.sI rfl, h'.sm (Sm.rf.sI (S := sM 328) rfl) (sM_core (by omega)), fun p hp => ?_⟩
        dsimp only
        rw [gI_sI]
        by_cases z : p = i
        · subst z; rw [if_pos ⟨rfl, rfl⟩, if_pos q]
        · rw [if_neg (fun x => z x.2)]; exact hp' p (by omega)
      · rw [if_neg q, if_pos (ixT (by omega) (by omega)), en]
        obtain ⟨τ2, k1, k2, k3⟩ := m_meltBy g h' hmm hm' hB.wb hD hr hi hc (show n < 7 by omega)
        rw [k1, bnd2_some, if_pos (ixT (by omega) (by omega)), clT (by omega)]
        refine ⟨_, rfl, nI_1 i, (e3.tr (k2.mono (fun c k hc => (Bool.or_eq_false_iff.mp hc).1))).sI rfl, k3.sm (Sm.rf.sI (S := sM 328) rfl) (sM_core (by omega)), fun p hp => ?_⟩
        dsimp only
        rw [gI_sI]
        by_cases z : p = i
        · subst z; rw [if_pos ⟨rfl, rfl⟩, if_neg q]; unfold sMel; rw [en]
        · rw [if_neg (fun x => z x.2), k2.1 328 p rfl]; exact hp' p (by omega)
    · rintro ⟨j, τ⟩ ⟨e2, e3, h', hp'⟩
      simp only at e2 e3 h' hp'
      subst e2
      unfold fX10_breathes_l21
      rw [h'.hm.2.2.1, if_pos (Int32.le_refl (nI np))]
      exact ⟨_, rfl, e3, h', hp'⟩
  obtain ⟨τ, k1, k2, k3, k4⟩ := key
  rw [k1, Option.bind_some]
  dsimp only
  have hS : ∀ k, (fun c k => sK c k || c == 328) m k = false := fun k => by
    dsimp only
    rw [sK_row hmm]; rcases hmm with rfl | rfl <;> rfl
  have hmτ := hm.sm k2 hS
  have hgτ := hg.sm k2 hS
  have key : ∃ x, wh (fun a : Int32 × Int32 × Mm => fX10_breathes_l79 310 m a.1 a.2.1 a.2.2) BIG (0, 0, τ) = some x ∧ (x.1 = sLoss (sMel lw nr ru pg rd w r (nI c)) w np ∧ Sm (sM m) τ x.2 ∧ MW x.2 m (sBr (sMel lw nr ru pg rd w r (nI c)) w np) ∧ MLg x.2 m cnt e) := by
    refine wh_inv (fun i a => a.1 = sLoss (sMel lw nr ru pg rd w r (nI c)) w i ∧ a.2.1 = nI i ∧ Sm (sM m) τ a.2.2 ∧ MW a.2.2 m (sBr (sMel lw nr ru pg rd w r (nI c)) w i) ∧ MLg a.2.2 m cnt e) _ np BIG 0 _ (Nat.zero_le _) (by unfold BIG; omega) ⟨rfl, rfl, Sm.rf, ?_, hgτ⟩ ?_ ?_
    · have : sBr (sMel lw nr ru pg rd w r (nI c)) w 0 = w := by funext k; unfold sBr; rw [if_neg (by omega)]
      rw [this]; exact hmτ
    · rintro i ⟨acc, j, τ2⟩ hi ⟨e1, e2, e3, hm', hg'⟩
      simp only at e1 e2 e3 hm' hg'
      subst e1 e2
      left
      have h' := k3.sm e3 (sM_core (by omega))
      have e6 : ¬ nI np ≤ nI i := fun z => absurd ((leT (by omega) (by omega)).mp z) (by omega)
      have r40 : gR τ2 310 40 = some 328 := h'.hm.1.2.2.2.2.2.2.2.2.2.2.2.2.2.2.2.2.2.2.2.1
      have v := k4 i hi
      rw [← e3.1 328 i (by unfold sM; rcases hmm with rfl | rfl <;> rfl)] at v
      have m328 : ¬ (328 = m ∧ i = 2 * i) := by omega
      have wi : sBr (sMel lw nr ru pg rd w r (nI c)) w i (2 * i) = w (2 * i) := by unfold sBr; rw [if_neg (by omega)]
      unfold fX10_breathes_l79
      rw [h'.hm.2.2.1, if_neg e6, i2p, hl, if_pos (ixT (by omega) (by omega)), r40, Option.bind_some, l328, if_pos (ixT (by omega) (by omega)), if_pos (ixT (by omega) (by omega)), if_pos (ixT (by omega) (by omega)), clT (by omega), clT (by omega), hm' (2 * i) (by omega), gI_sI, if_neg m328, v, wi]
      refine ⟨_, rfl, ?_, nI_1 i, e3.sI (by unfold sM; simp), ?_, hg'.low (by omega)⟩
      · show _ = sLoss _ w (i + 1)
        unfold sLoss; rw [fo_succ]
        by_cases q : w (2 * i) ≤ 0
        · rw [if_pos q, if_pos q, Int32.add_zero]
        · rw [if_neg q, if_neg q]
      · have : sBr (sMel lw nr ru pg rd w r (nI c)) w (i + 1) = uw (sBr (sMel lw nr ru pg rd w r (nI c)) w i) (2 * i) (w (2 * i) - if w (2 * i) ≤ 0 then 0 else minI (w (2 * i)) (sMel lw nr ru pg rd w r (nI c) i)) := by
          funext k; unfold sBr uw
          by_cases z : k = 2 * i
          · subst z
            rw [if_pos rfl, show 2 * i / 2 = i from by omega]
            by_cases q : w (2 * i) ≤ 0
            · rw [if_neg (fun y => y.2.2 q), if_pos q, Int32.sub_zero]
            · rw [if_pos ⟨by omega, by omega, q⟩, if_neg q]
          · rw [if_neg z]
            dsimp only
            by_cases y : k < 2 * i ∧ k % 2 = 0 ∧ ¬ w k ≤ 0
            · rw [if_pos y, if_pos ⟨by omega, y.2⟩]
            · rw [if_neg y, if_neg (fun x => y ⟨by omega, x.2⟩)]
        dsimp only
        rw [this]; exact hm'.sI
    · rintro ⟨acc, j, τ2⟩ ⟨e1, e2, e3, hm', hg'⟩
      simp only at e1 e2 e3 hm' hg'
      subst e1 e2
      have h' := k3.sm e3 (sM_core (by omega))
      unfold fX10_breathes_l79
      rw [h'.hm.2.2.1, if_pos (Int32.le_refl (nI np))]
      exact ⟨_, rfl, rfl, e3, hm', hg'⟩
  obtain ⟨x, j1, j2, j3, j4, j5⟩ := key
  rw [j1]
  exact ⟨x.2, by rw [Option.bind_some, ← j2], (k2.mono (fun c k hc => by unfold sQ at hc; exact (Bool.or_eq_false_iff.mp hc).1)).tr (j3.mono (fun c k hc => sM_Q hc)), k3.sm j3 (sM_core (by omega)), j4, j5⟩
theorem m_reads (g : HB np nr W H ru pg rd) (h : ME σ np nr W H ru pg rd nl F lw) (hmm : m = 323 ∨ m = 324) (hm : MW σ m w) (hg : MLg σ m cnt e) (hB : WU D w) (hD : D < 2147483648) {r p : Nat} (hr : r < nr) (hp : p < np) : ∃ σ', fX10_reads 310 m (nI r) (nI p) σ = some (sReadL lw np nr ru pg rd w r p, σ') ∧ Sm (sQ m) σ σ' ∧ ME σ' np nr W H ru pg rd nl F lw ∧ MW σ' m (sRead lw np nr ru pg rd w r p) ∧ MLg σ' m (sLogN cnt) (sLog cnt e 0 (nI r) (nI p) (sReadL lw np nr ru pg rd w r p)) := by
  have g1 := g.1
  have g2 := g.2.1
  have hl := lnRow hmm
  have hWH := WH_lt g
  obtain ⟨a1, a2, a3⟩ := m_pg (k := 0) h.hm g1 hp (by omega)
  rw [Nat.add_zero] at a2 a3
  obtain ⟨⟨c, hc, ec⟩, -⟩ := g.2.2.2.2.2.2.2.2.1 p hp
  unfold fX10_reads
  rw [a1, Option.bind_some, i4p, if_pos a2, clT (by omega), a3, m_stands hl (by omega), Option.bind_some, i2p1, hl, if_pos (ixT (by omega) (by omega)), clT (by omega)]
  have hm2 : MW (sI (sI σ m (24 + 14 * r) (pg (4 * p))) m (25 + 14 * r) 1) m (uw (uw w (24 + 14 * r) (pg (4 * p))) (25 + 14 * r) 1) := hm.sI.sI
  rw [uw_comm (by omega)] at hm2
  rw [hm2 (2 * p + 1) (by omega), uw_ne (by omega), uw_ne (by omega), m_learns hl (by omega) (by omega), Option.bind_some]
  have hm3 := hm2.sI (k := 26 + 14 * r + p) (v := w (2 * p + 1) + 1)
  have s3 : Sm (sM m) σ (sI (sI (sI σ m (24 + 14 * r) (pg (4 * p))) m (25 + 14 * r) 1) m (26 + 14 * r + p) (w (2 * p + 1) + 1)) := ((Sm.rf.sI (by unfold sM; simp)).sI (by unfold sM; simp)).sI (by unfold sM; simp)
  have hg3 := ((hg.low (k := 24 + 14 * r) (v := pg (4 * p)) (by omega)).low (k := 25 + 14 * r) (v := 1) (by omega)).low (k := 26 + 14 * r + p) (v := w (2 * p + 1) + 1) (by omega)
  have hB3 : WU D (sRd pg w r p) := hB.rdd g hr hp
  have hm3' : MW (sI (sI (sI σ m (24 + 14 * r) (pg (4 * p))) m (25 + 14 * r) 1) m (26 + 14 * r + p) (w (2 * p + 1) + 1)) m (sRd pg w r p) := hm3
  obtain ⟨τ, k1, k2, k3, k4, k5⟩ := m_breathes (c := c) g (h.sm s3 (sM_core (by omega))) hmm hm3' hg3 hB3 hD hr (by omega) (by unfold sRd; rw [uw_ne (by omega), uw_at, ec])
  rw [k1, bnd2_some]
  obtain ⟨τ2, j1, j2, j3, j4⟩ := m_writes hl k4 k5 0 (nI r) (nI p) (sLoss (sMel lw nr ru pg rd (sRd pg w r p) r (nI c)) (sRd pg w r p) np)
  rw [j1, Option.bind_some]
  unfold sReadL sRead
  rw [ec]
  exact ⟨τ2, rfl, ((s3.mono (fun c k hc => sM_Q hc)).tr k2).tr (j2.mono (fun c k hc => sM_Q hc)), k3.sm j2 (sM_core (by omega)), j3, j4⟩
theorem m_recuts (g : HB np nr W H ru pg rd) (h : ME σ np nr W H ru pg rd nl F lw) (hmm : m = 323 ∨ m = 324) (hm : MW σ m w) (hg : MLg σ m cnt e) {r p : Nat} (hr : r < nr) (hp : p < np) : ∃ σ', fX10_recuts 310 m (nI r) (nI p) σ = some σ' ∧ Sm (sM m) σ σ' ∧ MW σ' m (sRecut pg w r p) ∧ MLg σ' m (sLogN cnt) (sLog cnt e 1 (nI r) (nI p) 0) := by
  have g1 := g.1
  have g2 := g.2.1
  have hl := lnRow hmm
  obtain ⟨a1, a2, a3⟩ := m_pg (k := 0) h.hm g1 hp (by omega)
  rw [Nat.add_zero] at a2 a3
  unfold fX10_recuts
  rw [a1, Option.bind_some, i4p, if_pos a2, clT (by omega), a3, m_stands hl (by omega), Option.bind_some, i2p1, i2p, hl, if_pos (ixT (by omega) (by omega)), clT (by omega)]
  have hm2 : MW (sI (sI σ m (24 + 14 * r) (pg (4 * p))) m (25 + 14 * r) 1) m (uw (uw w (24 + 14 * r) (pg (4 * p))) (25 + 14 * r) 1) := hm.sI.sI
  rw [uw_comm (by omega)] at hm2
  have hm3 := hm2.sI (k := 2 * p) (v := 9)
  rw [m_recalls hl (by omega) (by omega), Option.bind_some, if_pos (ixT (by omega) (by omega)), clT (by omega), hm3 _ (by omega), uw_ne (by omega), uw_ne (by omega), uw_ne (by omega)]
  have hm4 := hm3.sI (k := 2 * p + 1) (v := w (26 + 14 * r + p) - 1)
  have s3 : Sm (sM m) σ (sI (sI (sI (sI σ m (24 + 14 * r) (pg (4 * p))) m (25 + 14 * r) 1) m (2 * p) 9) m (2 * p + 1) (w (26 + 14 * r + p) - 1)) := (((Sm.rf.sI (by unfold sM; simp)).sI (by unfold sM; simp)).sI (by unfold sM; simp)).sI (by unfold sM; simp)
  have hg3 := (((hg.low (k := 24 + 14 * r) (v := pg (4 * p)) (by omega)).low (k := 25 + 14 * r) (v := 1) (by omega)).low (k := 2 * p) (v := 9) (by omega)).low (k := 2 * p + 1) (v := w (26 + 14 * r + p) - 1) (by omega)
  obtain ⟨τ2, j1, j2, j3, j4⟩ := m_writes hl hm4 hg3 1 (nI r) (nI p) 0
  rw [j1]
  exact ⟨τ2, rfl, s3.tr j2, j3, j4⟩
theorem m_goes (hmm : m = 323 ∨ m = 324) (hm : MW σ m w) (hg : MLg σ m cnt e) {r : Nat} (hr : r < 6) (c : Int32) : ∃ σ', fX10_goes m (nI r) c σ = some σ' ∧ Sm (sM m) σ σ' ∧ MW σ' m (sGo w r c) ∧ MLg σ' m (sLogN cnt) (sLog cnt e 2 (nI r) c 0) := by
  have hl := lnRow hmm
  unfold fX10_goes
  rw [m_stands hl (by omega), Option.bind_some]
  have hm2 : MW (sI (sI σ m (24 + 14 * r) c) m (25 + 14 * r) 1) m (uw (uw w (24 + 14 * r) c) (25 + 14 * r) 1) := hm.sI.sI
  rw [uw_comm (by omega)] at hm2
  have s3 : Sm (sM m) σ (sI (sI σ m (24 + 14 * r) c) m (25 + 14 * r) 1) := (Sm.rf.sI (by unfold sM; simp)).sI (by unfold sM; simp)
  have hg3 := (hg.low (k := 24 + 14 * r) (v := c) (by omega)).low (k := 25 + 14 * r) (v := 1) (by omega)
  obtain ⟨τ2, j1, j2, j3, j4⟩ := m_writes hl hm2 hg3 2 (nI r) c 0
  rw [j1]
  exact ⟨τ2, rfl, s3.tr j2, j3, j4⟩
theorem m_nightFall (g : HB np nr W H ru pg rd) (h : ME σ np nr W H ru pg rd nl F lw) (hmm : m = 323 ∨ m = 324) (hm : MW σ m w) (hg : MLg σ m cnt e) (hB : WU D w) : ∃ σ', fX10_goNight_b77 310 m 0 σ = some σ' ∧ Sm (sM m) σ σ' ∧ MW σ' m (sCut (fun _ => true) 1 np w) ∧ MLg σ' m (sLogN cnt) (sLog cnt e 4 (-1) (-1) (sCutL (fun _ => true) 1 w np)) := by
  have g1 := g.1
  have hl := lnRow hmm
  unfold fX10_goNight_b77 fX10_goNight_w79
  have key : ∃ x, wh (fun a : Int32 × Int32 × Mm => fX10_goNight_l79 310 m a.1 a.2.1 a.2.2) BIG (0, 0, σ) = some x ∧ (x.1 = sCutL (fun _ => true) 1 w np ∧ Sm (sM m) σ x.2 ∧ MW x.2 m (sCut (fun _ => true) 1 np w) ∧ MLg x.2 m cnt e) := by
    refine wh_inv (fun i a => a.1 = sCutL (fun _ => true) 1 w i ∧ a.2.1 = nI i ∧ Sm (sM m) σ a.2.2 ∧ MW a.2.2 m (sCut (fun _ => true) 1 i w) ∧ MLg a.2.2 m cnt e) _ np BIG 0 _ (Nat.zero_le _) (by unfold BIG; omega) ⟨rfl, rfl, Sm.rf, by rw [sCut_0]; exact hm, hg⟩ ?_ ?_
    · rintro i ⟨acc, j, τ⟩ hi ⟨e1, e2, e3, hm', hg'⟩
      simp only at e1 e2 e3 hm' hg'
      subst e1 e2
      left
      have h' := h.sm e3 (sM_core (by omega))
      have e6 : ¬ nI np ≤ nI i := fun z => absurd ((leT (by omega) (by omega)).mp z) (by omega)
      obtain ⟨d, hd, ed⟩ := hB (2 * i) (by omega)
      rw [ub_dp (by omega)] at hd
      unfold fX10_goNight_l79 fX10_goNight_b110
      rw [h'.hm.2.2.1, if_neg e6, i2p, hl, if_pos (ixT (by omega) (by omega)), clT (by omega), hm' (2 * i) (by omega), sCut_at]
      by_cases q : w (2 * i) = 0
      · rw [if_pos q]
        have d0 : minI (w (2 * i)) 1 = 0 := by rw [q]; rfl
        refine ⟨_, rfl, ?_, nI_1 i, e3, ?_, hg'⟩
        · show _ = sCutL _ 1 w (i + 1)
          unfold sCutL; rw [fo_succ, if_pos rfl, d0, Int32.add_zero]
        · dsimp only
          rw [sCut_yes rfl, d0, Int32.sub_zero]
          intro k hk
          rw [hm' k hk]
          unfold uw
          by_cases z : k = 2 * i
          · subst z; rw [if_pos rfl, sCut_at]
          · rw [if_neg z]
      · have dp : d ≠ 0 := fun z => q (by rw [ed, z]; rfl)
        have d1 : minI (w (2 * i)) 1 = 1 := by
          rw [ed, show (1 : Int32) = nI 1 from rfl, minN _ _ (by omega) (by omega), Nat.min_eq_right (by omega)]
        rw [if_neg q, if_pos (ixT (by omega) (by omega)), if_pos (ixT (by omega) (by omega))]
        refine ⟨_, rfl, ?_, nI_1 i, e3.sI (by unfold sM; simp), ?_, hg'.low (by omega)⟩
        · show _ = sCutL _ 1 w (i + 1)
          unfold sCutL; rw [fo_succ, if_pos rfl, d1]
        · dsimp only
          rw [sCut_yes rfl, d1]
          exact hm'.sI
    · rintro ⟨acc, j, τ⟩ ⟨e1, e2, e3, hm', hg'⟩
      simp only at e1 e2 e3 hm' hg'
      subst e1 e2
      have h' := h.sm e3 (sM_core (by omega))
      unfold fX10_goNight_l79
      rw [h'.hm.2.2.1, if_pos (Int32.le_refl (nI np))]
      exact ⟨_, rfl, rfl, e3, hm', hg'⟩
  obtain ⟨x, j1, j2, j3, j4, j5⟩ := key
  rw [j1, Option.bind_some]
  dsimp only
  unfold fX10_goNight_b116
  rw [j2]
  obtain ⟨τ2, i1, i2, i3, i4⟩ := m_writes hl j4 j5 4 (-1) (-1) (sCutL (fun _ => true) 1 w np)
  rw [i1]
  exact ⟨τ2, rfl, j3.tr i2, i3, i4⟩
theorem m_goNight (g : HB np nr W H ru pg rd) (h : ME σ np nr W H ru pg rd nl F lw) (hmm : m = 323 ∨ m = 324) (hm : MW σ m w) (hg : MLg σ m cnt e) (hB : WU D w) (hZ : WZ np nr w) : ∃ σ', fX10_goNight 310 m σ = some σ' ∧ Sm (sM m) σ σ' ∧ MW σ' m (sNight ru np w) ∧ MLg σ' m (sLogN cnt) (sLog cnt e 4 (-1) (-1) (sNightL ru np w)) := by
  have g2 := g.2.1
  have hl := lnRow hmm
  have r18 : gR σ 310 18 = some 315 := h.hm.1.2.2.2.2.2.2.1
  have l315 : ln 315 = 5 := by decide +kernel
  have c108 : Int32.toNatClampNeg 108 = 108 := by decide
  have c109 : Int32.toNatClampNeg 109 = 109 := by decide
  have c3 : Int32.toNatClampNeg 3 = 3 := by decide
  have c4 : Int32.toNatClampNeg 4 = 4 := by decide
  have n0 : ¬ 315 = m := by omega
  unfold fX10_goNight fX10_goNight_w29
  rw [hl, r18, Option.bind_some, l315, if_pos (show ixB 109 351 = true by decide), if_pos (show ixB 109 351 = true by decide), if_pos (show ixB 108 351 = true by decide), if_pos (show ixB 3 5 = true by decide), if_pos (show ixB 108 351 = true by decide), c108, c109, c3, c4, hm 109 (by omega)]
  rw [gI_sI, if_neg (by omega), hm 108 (by omega), gI_sI, if_neg (fun x => n0 x.1), h.hm.2.2.2.2.1 3 (by omega)]
  have hm1 : MW (sI (sI σ m 109 (w 109 + 1)) m 108 (maxI 0 (w 108 - ru 3))) m (uw (uw w 109 (w 109 + 1)) 108 (maxI 0 (w 108 - ru 3))) := hm.sI.sI
  have s1 : Sm (sM m) σ (sI (sI σ m 109 (w 109 + 1)) m 108 (maxI 0 (w 108 - ru 3))) := (Sm.rf.sI (by unfold sM; simp)).sI (by unfold sM; simp)
  have hg1 := (hg.low (k := 109) (v := w 109 + 1) (by omega)).low (k := 108) (v := maxI 0 (w 108 - ru 3)) (by omega)
  generalize sI (sI σ m 109 (w 109 + 1)) m 108 (maxI 0 (w 108 - ru 3)) = τ at hm1 s1 hg1
  have hZ1 : WZ np nr (uw (uw w 109 (w 109 + 1)) 108 (maxI 0 (w 108 - ru 3))) := by
    refine (hZ.up ?_ ?_).up ?_ ?_ <;> intros <;> omega
  have key : ∃ x, wh (fun a : Int32 × Mm => fX10_goNight_l29 310 m a.1 a.2) BIG (0, τ) = some x ∧ (Sm (sM m) σ x ∧ MW x m (sNi ru w) ∧ MLg x m cnt e) := by
    refine wh_inv (fun i a => a.1 = nI i ∧ Sm (sM m) σ a.2 ∧ MW a.2 m (fun k => if 25 ≤ k ∧ k < 25 + 14 * i ∧ (k - 25) % 14 = 0 then 0 else uw (uw w 109 (w 109 + 1)) 108 (maxI 0 (w 108 - ru 3)) k) ∧ MLg a.2 m cnt e) _ nr BIG 0 _ (Nat.zero_le _) (by unfold BIG; omega) ⟨rfl, s1, ?_, hg1⟩ ?_ ?_
    · intro k hk
      dsimp only
      rw [if_neg (by omega)]; exact hm1 k hk
    · rintro i ⟨j, τ⟩ hi ⟨e2, e3, hm', hg'⟩
      simp only at e2 e3 hm' hg'
      subst e2
      left
      have h' := h.sm e3 (sM_core (by omega))
      have e6 : ¬ nI nr ≤ nI i := fun z => absurd ((leT (by omega) (by omega)).mp z) (by omega)
      have i25 : (24 : Int32) + 14 * nI i + 1 = nI (25 + 14 * i) := by
        rw [show (24 : Int32) = nI 24 from rfl, show (14 : Int32) = nI 14 from rfl, show (1 : Int32) = nI 1 from rfl, pk_mul, nI_add, nI_add]; congr 1; omega
      unfold fX10_goNight_l29
      rw [h'.hm.2.2.2.1, if_neg e6, i25, hl, if_pos (ixT (by omega) (by omega)), clT (by omega)]
      refine ⟨_, rfl, nI_1 i, e3.sI (by unfold sM; simp), ?_, hg'.low (by omega)⟩
      intro k hk
      dsimp only
      rw [gI_sI]
      by_cases z : k = 25 + 14 * i
      · rw [if_pos ⟨rfl, z⟩, if_pos (by omega)]
      · rw [if_neg (fun x => z x.2), hm' k hk]
        dsimp only
        by_cases y : 25 ≤ k ∧ k < 25 + 14 * i ∧ (k - 25) % 14 = 0
        · rw [if_pos y, if_pos (by omega)]
        · rw [if_neg y, if_neg (by omega)]
    · rintro ⟨j, τ⟩ ⟨e2, e3, hm', hg'⟩
      simp only at e2 e3 hm' hg'
      subst e2
      have h' := h.sm e3 (sM_core (by omega))
      unfold fX10_goNight_l29
      rw [h'.hm.2.2.2.1, if_pos (Int32.le_refl (nI nr))]
      refine ⟨_, rfl, e3, ?_, hg'⟩
      intro k hk
      rw [hm' k hk]
      dsimp only
      unfold sNi sDawn
      by_cases y : 25 ≤ k ∧ k < 108 ∧ (k - 25) % 14 = 0
      · rw [if_pos y]
        by_cases x : k < 25 + 14 * nr
        · rw [if_pos (by omega)]
        · rw [if_neg (by omega)]
          have := hZ1.2 ((k - 25) / 14) (by omega) (by omega)
          rw [show 25 + 14 * ((k - 25) / 14) = k by omega] at this
          exact this
      · rw [if_neg y, if_neg (by omega)]
  obtain ⟨x, j1, j3, j4, j5⟩ := key
  rw [j1, Option.bind_some]
  dsimp only
  have h' := h.sm j3 (sM_core (by omega))
  have r18' : gR x 310 18 = some 315 := h'.hm.1.2.2.2.2.2.2.1
  have v8 : sNi ru w 108 = maxI 0 (w 108 - ru 3) := by unfold sNi sDawn; rw [if_neg (by omega), uw_at]
  have v9 : sNi ru w 109 = w 109 + 1 := by unfold sNi sDawn; rw [if_neg (by omega), uw_ne (by omega), uw_at]
  have q0 : maxI 0 (w 108 - ru 3) = 0 ↔ maxI 0 (w 108 - ru 3) ≤ 0 := by
    obtain ⟨k, hk, ek, -⟩ := max0 (w 108 - ru 3)
    rw [ek]
    exact (eqT (b := 0) hk (by omega)).trans ((show k = 0 ↔ k ≤ 0 by omega).trans (leT (b := 0) hk (by omega)).symm)
  rw [r18', Option.bind_some, l315, if_pos (show ixB 108 351 = true by decide), if_pos (show ixB 109 351 = true by decide), if_pos (show ixB 4 5 = true by decide), j4 108 (by omega), j4 109 (by omega), h'.hm.2.2.2.2.1 4 (by omega), v8, v9]
  unfold sNight sNightL
  by_cases q1 : maxI 0 (w 108 - ru 3) ≤ 0
  · rw [if_pos (q0.mpr q1), if_pos q1, if_pos q1]
    obtain ⟨τ2, i1, i2, i3, i4⟩ := m_nightFall g h' hmm j4 j5 (hB.ni g)
    exact ⟨τ2, i1, j3.tr i2, i3, i4⟩
  · rw [if_neg (fun z => q1 (q0.mp z)), if_neg q1, if_neg q1]
    by_cases q2 : ru 4 ≤ w 109 + 1
    · rw [if_neg (fun z => absurd q2 (by rw [Int32.not_le]; exact z)), if_pos q2, if_pos q2]
      obtain ⟨τ2, i1, i2, i3, i4⟩ := m_nightFall g h' hmm j4 j5 (hB.ni g)
      exact ⟨τ2, i1, j3.tr i2, i3, i4⟩
    · rw [if_pos (Int32.not_le.mp q2), if_neg q2, if_neg q2]
      unfold fX10_goNight_b116
      obtain ⟨τ2, i1, i2, i3, i4⟩ := m_writes hl j4 j5 4 (-1) (-1) 0
      rw [i1]
      exact ⟨τ2, rfl, j3.tr i2, i3, i4⟩
end MAct
