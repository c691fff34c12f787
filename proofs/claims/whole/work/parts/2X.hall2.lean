/-! halls: a clause, both parsers in step -/
section Clause
variable {σ τ : Mm} {b : Nat → Nat} {L p : Nat}
theorem m_us {κ rm F : Nat} (hκ : κ < 3) (hrm : rm = 316 ∨ rm = 318 ∨ rm = 320) (hFm : F + kLn κ ≤ ln rm) (hl2 : ln rm ≤ 48) : ∃ τ', fX10_readItems_w3 310 (kCh κ) rm (nI F) (1100 + 2 * κ) 0 τ = some τ' ∧ (Sm (fun c k => c == rm && decide (F ≤ k)) τ τ' ∧ (∀ k, k < kLn κ → gI τ' rm (F + k) = nI (kUs κ k)) ∧ gR τ' 310 5 = gR τ 310 5) := by
  obtain ⟨tb, t1, -⟩ := it_tab κ hκ
  have h5 := kLn5 κ
  unfold fX10_readItems_w3
  refine wh_inv (fun i a => a.1 = nI i ∧ Sm (fun c k => c == rm && decide (F ≤ k)) τ a.2 ∧ (∀ k, k < i → gI a.2 rm (F + k) = nI (kUs κ k)) ∧ gR a.2 310 5 = gR τ 310 5) _ (kLn κ) BIG 0 _ (Nat.zero_le _) (by unfold BIG; omega) ⟨rfl, Sm.rf, fun k hk => by omega, rfl⟩ ?_ ?_
  · rintro i ⟨j, s⟩ hi ⟨e1, e2, e3, e4⟩
    simp only at e1 e2 e3 e4
    subst e1
    left
    unfold fX10_readItems_l3 slen
    simp only [t1, if_neg (show ¬ nI (kLn κ) ≤ nI i from fun z => absurd ((leT (by omega) (by omega)).mp z) (by omega)), m_usual hκ hi, Option.bind_some, nI_add, ixT (show F + i < ln rm by omega) (show ln rm ≤ 2147483648 by omega), if_true, clT (show F + i < 2147483648 by omega), nI_1]
    refine ⟨_, rfl, rfl, e2.sI (by simp), fun k hk => ?_, e4⟩
    dsimp only
    rw [gI_sI]
    by_cases q : k = i
    · rw [if_pos ⟨rfl, by omega⟩, q]
    · rw [if_neg (by omega)]; exact e3 k (by omega)
  · rintro ⟨j, s⟩ ⟨e1, e2, e3, e4⟩
    simp only at e1 e2 e3 e4
    subst e1
    unfold fX10_readItems_l3 slen
    rw [t1, if_pos (Int32.le_refl _)]
    exact ⟨_, rfl, e2, e3, e4⟩
theorem X_items {κ r rm F : Nat} (hκ : κ < 3) (hr : 8 ≤ r ∧ r ≤ 10) (hrm : rm = 316 ∨ rm = 318 ∨ rm = 320) (hFr : F + kLn κ ≤ ln r) (hFm : F + kLn κ ≤ ln rm) (hl1 : ln r ≤ 48) (hl2 : ln rm ≤ 48) (r0 : gR σ 7 0 = some 1) (h : TC σ b L p) (hp : p < L) (k : TM τ 311 0 b L (p + 1)) (hf : gI τ 310 11 = -1) (hu : ∀ k, k < kLn κ → gI σ r (F + k) = nI (kUs κ k)) :
    ∃ σ' τ', Sm (tHc r F) σ σ' ∧ Sm (tHm rm F) τ τ' ∧
    ((∃ e, fX1_items 7 (nI κ) r (nI F) σ = some (0, σ') ∧ gI σ' 1 3 = nI e ∧ fX10_readItems 310 (kCh κ) rm (nI F) (1100 + 2 * κ) τ = some τ' ∧ gI τ' 310 11 = nI e ∧ e ≤ 240) ∨
     (∃ q, p < q ∧ q ≤ L ∧ fX1_items 7 (nI κ) r (nI F) σ = some (1, σ') ∧ fX10_readItems 310 (kCh κ) rm (nI F) (1100 + 2 * κ) τ = some τ' ∧ TC σ' b L q ∧ TM τ' 311 0 b L q ∧ gI τ' 310 11 = -1 ∧ Vals F κ r rm σ' τ')) := by
  obtain ⟨tb, t1, t2, t3, t4, t5⟩ := it_tab κ hκ
  have h5 := kLn5 κ
  obtain ⟨τ1, u1, u2, u3, u4⟩ := m_us (τ := τ) hκ hrm hFm hl2
  have hk1 : TM τ1 311 0 b L (p + 1) := by
    obtain ⟨h1, h2, h3, h4, h5, h6, h7, h8, h9⟩ := k
    have nz : ∀ c k, c ≠ rm → gI τ1 c k = gI τ c k := fun c k hc => u2.1 c k (by simp [hc])
    exact ⟨h1, h2, by rw [u4]; exact h3, h4, h5, by rw [nz _ _ (by omega)]; exact h6, by rw [nz _ _ (by omega)]; exact h7, by rw [nz _ _ (by omega)]; exact h8, fun y hy => by rw [nz _ _ (by omega)]; exact h9 y hy⟩
  have hC1 := h.cur (q := p + 1) (by omega)
  have f1 : gI τ1 310 11 = -1 := by rw [u2.1 _ _ (by simp; omega)]; exact hf
  have s2 := sk_bd (b := b) hC1.1
  have hk2 := hk1.cur s2.2.1
  have hV : Vals F κ r rm (sI σ 1 2 (nI (p + 1))) (sI τ1 310 10 (nI (sk b L (p + 1)))) := fun y hy => by
    obtain ⟨v1, v2, v3, v4, v5, v6⟩ := tb y hy
    exact ⟨kUs κ y, v4, v5, by rw [gI_sI, if_neg (by omega)]; exact hu y hy, by rw [gI_sI, if_neg (by omega)]; exact u3 y hy⟩
  have c0 : ∀ n, cntB (fun _ => false) n = 0 := by
    intro n
    induction n with
    | zero => rfl
    | succ n ih => rw [cntB_s, if_neg (by decide), ih]
  have eC : fX1_items 7 (nI κ) r (nI F) σ = (fX1_items_w94 7 r (nI F) (1100 + 2 * κ) (1000 + 3 * κ) (1000 + (3 * κ + 1)) 0 0 (sI σ 1 2 (nI (p + 1)))).bind gC := by
    have e73 : ∀ t lo hi, fX1_items_b73 7 r (nI F) t lo hi σ = (fX1_items_w94 7 r (nI F) t lo hi 0 0 (sI σ 1 2 (nI (p + 1)))).bind gC := fun t lo hi => by
      unfold fX1_items_b73
      rw [r0, Option.bind_some, h.2.2.2.2.1, nI_1]
      rfl
    unfold fX1_items fX1_items_b21 fX1_items_b47
    rcases k_cases hκ with rfl | rfl | rfl
    · rw [if_pos (show nI 0 = 0 from rfl), if_pos (show nI 0 = 0 from rfl), if_pos (show nI 0 = 0 from rfl), e73]
    · rw [if_neg (show ¬ nI 1 = 0 by decide), if_pos (show nI 1 = 1 from rfl), if_neg (show ¬ nI 1 = 0 by decide), if_pos (show nI 1 = 1 from rfl), if_neg (show ¬ nI 1 = 0 by decide), if_pos (show nI 1 = 1 from rfl), e73]
    · rw [if_neg (show ¬ nI 2 = 0 by decide), if_neg (show ¬ nI 2 = 1 by decide), if_neg (show ¬ nI 2 = 0 by decide), if_neg (show ¬ nI 2 = 1 by decide), if_neg (show ¬ nI 2 = 0 by decide), if_neg (show ¬ nI 2 = 1 by decide), e73]
  have eM : fX10_readItems 310 (kCh κ) rm (nI F) (1100 + 2 * κ) τ = (fX10_readItems_w45 310 (kCh κ) rm (nI F) (1100 + 2 * κ) 0 (six (1100 + 2 * κ) (sg b L (p + 1))) (sI τ1 310 10 (nI (sk b L (p + 1))))).bind gM := by
    unfold fX10_readItems
    rw [u1, Option.bind_some]
    show (bnd2 (fX10_look 310 τ1) fun vk5 sk5 => (fX10_spotOf (1100 + 2 * κ) vk5 sk5).bind fun vk6 => (fX10_readItems_w45 310 (kCh κ) rm (nI F) (1100 + 2 * κ) 0 vk6 sk5).bind gM) = _
    rw [m_look hk1, bnd2_some, m_spot _ _ (by rw [t1]; omega), Option.bind_some]
  have m0 : mk (fun _ => false) (kLn κ) = 0 := (mk_0 _ (by omega)).mpr (fun _ _ => rfl)
  obtain ⟨σ', τ', a1, a2, a3⟩ := X_itL hκ hr hrm hFr hFm hl1 hl2 (kLn κ) 0 (fun _ => false) (sI σ 1 2 (nI (p + 1))) (sI τ1 310 10 (nI (sk b L (p + 1)))) (p + 1) (by omega) (c0 _).symm r0 hC1 hk2 (by rw [gI_sI, if_neg (by omega)]; exact f1) hV BIG BIG (by unfold BIG; omega) (by unfold BIG; omega)
  rw [m0] at a3
  have sC : Sm (tHc r F) σ σ' := (Sm.rf.sI rfl : Sm (tHc r F) σ (sI σ 1 2 (nI (p + 1)))).tr a1
  have sM : Sm (tHm rm F) τ τ' := ((u2.mono (fun c k hc => (Bool.or_eq_false_iff.mp hc).2)).sI rfl).tr a2
  refine ⟨σ', τ', sC, sM, ?_⟩
  rw [eC, eM]
  rcases a3 with a3 | ⟨q, c1, c2⟩
  · exact Or.inl a3
  · exact Or.inr ⟨q, by omega, c2⟩
/-- the hall that is read: so far np pages, nr readers, and its rules -/
def HS (σ τ : Mm) (np nr : Nat) (ruled : Bool) : Prop :=
  gI σ 7 4 = nI np ∧ gI τ 310 29 = nI np ∧ np ≤ 12 ∧ gI σ 7 5 = nI nr ∧ gI τ 310 30 = nI nr ∧ nr ≤ 6 ∧ gI σ 7 6 = (if ruled = true then 1 else 0) ∧ gI τ 310 32 = (if ruled = true then 1 else 0) ∧ Vals 0 0 8 316 σ τ ∧ (ruled = false → ∀ k, k < 5 → gI σ 8 k = nI (kUs 0 k)) ∧ (∀ p, p < np → Vals (4 * p) 1 9 318 σ τ) ∧ ∀ r, r < nr → Vals (4 * r) 2 10 320 σ τ
def tHC (c k : Nat) : Bool := tA c k || (decide (7 ≤ c) && decide (c ≤ 10))
def tHM (c k : Nat) : Bool := tM c k || c == 316 || c == 318 || c == 320 || (c == 310 && (k == 29 || k == 30 || k == 32))
theorem lnH : ln 8 = 5 ∧ ln 9 = 48 ∧ ln 10 = 24 ∧ ln 316 = 5 ∧ ln 318 = 48 ∧ ln 320 = 24 := by decide +kernel
theorem tHc_C {r F : Nat} {x y : Mm} (hr : 8 ≤ r ∧ r ≤ 10) (h : Sm (tHc r F) x y) : Sm tHC x y := h.mono (fun c k hc => by
  unfold tHC at hc; unfold tHc
  simp only [Bool.or_eq_false_iff, Bool.and_eq_false_imp, beq_iff_eq, decide_eq_true_eq, decide_eq_false_iff_not] at hc ⊢
  exact ⟨hc.1, fun z => by omega⟩)
theorem tHm_M {rm F : Nat} {x y : Mm} (hr : rm = 316 ∨ rm = 318 ∨ rm = 320) (h : Sm (tHm rm F) x y) : Sm tHM x y := h.mono (fun c k hc => by
  unfold tHM at hc; unfold tHm
  simp only [Bool.or_eq_false_iff, Bool.and_eq_false_imp, beq_iff_eq, beq_eq_false_iff_ne, ne_eq] at hc ⊢
  exact ⟨hc.1.1.1.1, fun z => by omega⟩)
theorem Vals.low {F' κ' r rm F κ : Nat} {σ' τ' : Mm} (h : Vals F' κ' r rm σ τ) (h1 : Sm (tHc r F) σ σ') (h2 : Sm (tHm rm F) τ τ') (hF : F' + kLn κ' ≤ F) (hr : 8 ≤ r) (hrm : rm ≠ 310) : Vals F' κ' r rm σ' τ' := fun k hk => by
  rw [h1.1 _ _ (by unfold tHc tA; simp; omega), h2.1 _ _ (by unfold tHm tM; simp; omega)]
  exact h k hk
theorem Vals.oth {F' κ' r' rm' r rm F : Nat} {σ' τ' : Mm} (h : Vals F' κ' r' rm' σ τ) (h1 : Sm (tHc r F) σ σ') (h2 : Sm (tHm rm F) τ τ') (hr : r' ≠ r) (hrm : rm' ≠ rm) (h8 : 8 ≤ r') (h3 : rm' ≠ 310) : Vals F' κ' r' rm' σ' τ' := h.of (fun k => h1.1 _ _ (by unfold tHc tA; simp; omega)) (fun k => h2.1 _ _ (by unfold tHm tM; simp; omega))
theorem RF.nx (h : RF σ) : gR σ 7 0 = some 1 ∧ gR σ 7 1 = some 8 ∧ gR σ 7 2 = some 9 ∧ gR σ 7 3 = some 10 := h.2.2.1 7 (Or.inr rfl)
theorem va_cpyN (f g : Nat → Int32) {d n : Nat} (hd : d < 2147483648) (hn : n < 2147483648) (k : Nat) : va_cpy f g (Int32.toNatClampNeg 0) (Int32.toNatClampNeg (nI d)) (Int32.toNatClampNeg (nI n)) k = if d ≤ k ∧ k < d + n then f (k - d) else g k := by
  rw [clT hd, clT hn, show Int32.toNatClampNeg 0 = 0 from rfl]
  unfold va_cpy
  rw [Nat.zero_add]
theorem TC.hi {c k : Nat} {v : Int32} (h : TC σ b L p) (hc : 3 ≤ c) : TC (sI σ c k v) b L p := by
  have s9 : Sm (fun x (_ : Nat) => x == c) σ (sI σ c k v) := Sm.rf.sI (by simp)
  exact h.sm s9 (by simp; omega) (by simp; omega) (fun _ => by simp; omega)
theorem TC.hiA {c : Nat} {f : Nat → Int32} (h : TC σ b L p) (hc : 3 ≤ c) : TC (sA σ c f) b L p := by
  have s9 : Sm (fun x (_ : Nat) => x == c) σ (sA σ c f) := Sm.rf.sA (fun _ => by simp)
  exact h.sm s9 (by simp; omega) (by simp; omega) (fun _ => by simp; omega)
theorem X_clause {np nr : Nat} {ruled : Bool} (hF : RF σ) (h : TC σ b L p) (k : TM τ 311 0 b L p) (hf : gI τ 310 11 = -1) (r19 : gR τ 310 19 = some 316) (r21 : gR τ 310 21 = some 318) (r23 : gR τ 310 23 = some 320) (hS : HS σ τ np nr ruled) :
    ∃ σ' τ', Sm tHC σ σ' ∧ Sm tHM τ τ' ∧
    ((∃ e, fX1_clause 7 σ = some (0, σ') ∧ gI σ' 1 3 = nI e ∧ fX10_readClause 310 τ = some τ' ∧ gI τ' 310 11 = nI e ∧ e ≤ 240) ∨
     (∃ q np' nr' ruled', p < q ∧ q ≤ L ∧ fX1_clause 7 σ = some (1, σ') ∧ fX10_readClause 310 τ = some τ' ∧ TC σ' b L q ∧ TM τ' 311 0 b L q ∧ gI τ' 310 11 = -1 ∧ HS σ' τ' np' nr' ruled')) := by
  obtain ⟨r0, r1, r2, r3⟩ := hF.nx
  obtain ⟨l1, l2, l3, l4, l5, l6⟩ := lnH
  obtain ⟨h1, h2, h3, h4, h5, h6, h7, h8, h9, h10, h11, h12⟩ := hS
  obtain ⟨s1, s2, s3⟩ := sk_bd (b := b) h.1
  have hL := h.2.1
  have hC := h.cur s2
  have hM := k.cur s2
  have q74 : gI (sI σ 1 2 (nI (sk b L p))) 7 4 = nI np := by rw [gI_sI, if_neg (by omega)]; exact h1
  have q75 : gI (sI σ 1 2 (nI (sk b L p))) 7 5 = nI nr := by rw [gI_sI, if_neg (by omega)]; exact h4
  have q76 : gI (sI σ 1 2 (nI (sk b L p))) 7 6 = (if ruled = true then 1 else 0) := by rw [gI_sI, if_neg (by omega)]; exact h7
  have m29 : gI (sI τ 310 10 (nI (sk b L p))) 310 29 = nI np := by rw [gI_sI, if_neg (by omega)]; exact h2
  have m30 : gI (sI τ 310 10 (nI (sk b L p))) 310 30 = nI nr := by rw [gI_sI, if_neg (by omega)]; exact h5
  have m32 : gI (sI τ 310 10 (nI (sk b L p))) 310 32 = (if ruled = true then 1 else 0) := by rw [gI_sI, if_neg (by omega)]; exact h8
  have m11 : gI (sI τ 310 10 (nI (sk b L p))) 310 11 = -1 := by rw [gI_sI, if_neg (by omega)]; exact hf
  -- refused at this place
  have bad : fX1_clause 7 σ = some (0, sI (sI σ 1 2 (nI (sk b L p))) 1 3 (nI (sk b L p))) → fX10_readClause 310 τ = some (sI (sI τ 310 10 (nI (sk b L p))) 310 11 (nI (sk b L p))) → ∃ σ' τ', Sm tHC σ σ' ∧ Sm tHM τ τ' ∧ ((∃ e, fX1_clause 7 σ = some (0, σ') ∧ gI σ' 1 3 = nI e ∧ fX10_readClause 310 τ = some τ' ∧ gI τ' 310 11 = nI e ∧ e ≤ 240) ∨ (∃ q np' nr' ruled', p < q ∧ q ≤ L ∧ fX1_clause 7 σ = some (1, σ') ∧ fX10_readClause 310 τ = some τ' ∧ TC σ' b L q ∧ TM τ' 311 0 b L q ∧ gI τ' 310 11 = -1 ∧ HS σ' τ' np' nr' ruled')) := fun e1 e2 =>
    ⟨_, _, (Sm.rf.sI rfl).sI rfl, (Sm.rf.sI rfl).sI rfl, Or.inl ⟨sk b L p, e1, by rw [gI_sI, if_pos ⟨rfl, rfl⟩], e2, by rw [gI_sI, if_pos ⟨rfl, rfl⟩], by omega⟩⟩
  have wr : (bnd2 (fX7_wrongHere 1 (sI σ 1 2 (nI (sk b L p)))) fun vk5 sk5 => some (vk5, sk5)) = some (0, sI (sI σ 1 2 (nI (sk b L p))) 1 3 (nI (sk b L p))) := by rw [c_wrong hC, bnd2_some]
  have fl : fX10_readClause_b53 310 (sg b L p) 0 (sI τ 310 10 (nI (sk b L p))) = some (sI (sI τ 310 10 (nI (sk b L p))) 310 11 (nI (sk b L p))) := by
    unfold fX10_readClause_b53
    rw [if_pos rfl, m_fails hM m11, bnd2_some]
  have r0' : gR (sI σ 1 2 (nI (sk b L p))) 7 0 = some 1 := r0
  have eC : fX1_clause 7 σ = (fun vk2 sk2 => if vk2 = 112 then if 12 ≤ (gI sk2 7 4) then (gR sk2 7 0).bind fun r4 => bnd2 (fX7_wrongHere r4 sk2) fun vk5 sk5 => some (vk5, sk5) else bnd2 (fX1_pageClause 7 sk2) fun vk6 sk6 => some (vk6, sk6) else if vk2 = 113 then (gR sk2 7 0).bind fun r7 => bnd2 (fX7_wrongHere r7 sk2) fun vk8 sk8 => some (vk8, sk8) else if vk2 = 114 then if 6 ≤ (gI sk2 7 5) then (gR sk2 7 0).bind fun r10 => bnd2 (fX7_wrongHere r10 sk2) fun vk11 sk11 => some (vk11, sk11) else bnd2 (fX1_readerClause 7 sk2) fun vk12 sk12 => some (vk12, sk12) else if vk2 = 115 then if (gI sk2 7 6) = 0 then bnd2 (fX1_ruleClause 7 sk2) fun vk14 sk14 => some (vk14, sk14) else (gR sk2 7 0).bind fun r15 => bnd2 (fX7_wrongHere r15 sk2) fun vk16 sk16 => some (vk16, sk16) else (gR sk2 7 0).bind fun r17 => bnd2 (fX7_wrongHere r17 sk2) fun vk18 sk18 => some (vk18, sk18)) (sg b L p) (sI σ 1 2 (nI (sk b L p))) := by
    unfold fX1_clause
    rw [r0, Option.bind_some, c_next h, bnd2_some]
  have eM : fX10_readClause 310 τ = (fun vk1 sk1 => if vk1 = 115 then if (gI sk1 310 32) = 0 then fX10_readClause_b48 310 vk1 sk1 else fX10_readClause_b18 310 vk1 sk1 else fX10_readClause_b18 310 vk1 sk1) (sg b L p) (sI τ 310 10 (nI (sk b L p))) := by
    unfold fX10_readClause
    rw [m_look k, bnd2_some]
  dsimp only at eC eM
  by_cases q112 : sg b L p = 112
  · have hlt := sg_lt (x := 112) (by omega) q112
    rw [q112] at eC eM fl
    rw [if_pos rfl, q74] at eC
    rw [if_neg (show ¬ (112 : Int32) = 115 by decide)] at eM
    unfold fX10_readClause_b18 at eM
    rw [if_pos rfl, m29] at eM
    by_cases q12 : np < 12
    · rw [if_neg (show ¬ (12 : Int32) ≤ nI np from fun z => absurd ((leT (a := 12) (by omega) (by omega)).mp z) (by omega))] at eC
      rw [if_pos (show nI np < 12 from (ltT (b := 12) (by omega) (by omega)).mpr q12)] at eM
      unfold fX10_readClause_b48 fX10_readClause_b53 at eM
      rw [if_neg z1, if_neg (show ¬ (112 : Int32) = 115 by decide), if_pos rfl, show gR (sI τ 310 10 (nI (sk b L p))) 310 21 = some 318 from r21, Option.bind_some, hM.2.2.2.2.2.2.2.1, nI_1, sI_sI] at eM
      have g29 : gI (sI τ 310 10 (nI (sk b L p + 1))) 310 29 = nI np := by rw [gI_sI, if_neg (by omega)]; exact h2
      rw [g29, nI_1, gI_sI, if_pos ⟨rfl, rfl⟩, show (1 : Int32) = nI 1 from rfl, pk_sub (by omega), Nat.add_sub_cancel, i4p] at eM
      have np4 : nI np * 4 = nI (4 * np) := by rw [Int32.mul_comm]; exact i4p np
      generalize hS1 : sI (sA (sI σ 1 2 (nI (sk b L p))) 9 (va_cpy (KI ((1000 + 5) - 1000)) (gI (sI σ 1 2 (nI (sk b L p))) 9) (Int32.toNatClampNeg 0) (Int32.toNatClampNeg (nI (4 * np))) (Int32.toNatClampNeg 4))) 7 4 (nI (np + 1)) = S1
      generalize hT1 : sI (sI τ 310 10 (nI (sk b L p + 1))) 310 29 (nI (np + 1)) = T1 at eM
      have eP : fX1_pageClause 7 (sI σ 1 2 (nI (sk b L p))) = bnd2 (fX1_items 7 (nI 1) 9 (nI (4 * np)) S1) fun vk3 sk3 => some (vk3, sk3) := by
        have cb : cpB 0 (nI (4 * np)) 4 (ln (1000 + 5)) (ln 9) = true := by
          rw [l2, show ln (1000 + 5) = 4 by decide +kernel]
          unfold cpB
          rw [clT (show 4 * np < 2147483648 by omega), show Int32.toNatClampNeg 0 = 0 from rfl, show Int32.toNatClampNeg 4 = 4 by decide]
          exact decide_eq_true ⟨by decide, nI_pos (by omega), by decide, by omega, by omega⟩
        unfold fX1_pageClause
        rw [show gR (sI σ 1 2 (nI (sk b L p))) 7 2 = some 9 from r2, Option.bind_some, q74, np4, if_pos cb]
        have g74 : gI (sA (sI σ 1 2 (nI (sk b L p))) 9 (va_cpy (KI ((1000 + 5) - 1000)) (gI (sI σ 1 2 (nI (sk b L p))) 9) (Int32.toNatClampNeg 0) (Int32.toNatClampNeg (nI (4 * np))) (Int32.toNatClampNeg 4))) 7 4 = nI np := by rw [gI_sA, if_neg (by omega)]; exact q74
        rw [g74, nI_1, hS1]
        rfl
      have hC1 : TC S1 b L (sk b L p) := by rw [← hS1]; exact (hC.hiA (by omega)).hi (by omega)
      have hM1 : TM T1 311 0 b L (sk b L p + 1) := by rw [← hT1]; exact (k.cur (by omega)).oth (Or.inl ⟨rfl, by omega⟩)
      have hu : ∀ y, y < kLn 1 → gI S1 9 (4 * np + y) = nI (kUs 1 y) := by
        intro y hy
        have hy4 : y < 4 := hy
        rw [← hS1, gI_sI, if_neg (by omega), gI_sA, if_pos rfl, show (4 : Int32) = nI 4 from rfl, va_cpyN _ _ (by omega) (by omega), if_pos (by omega), show 4 * np + y - 4 * np = y by omega]
        exact ((it_tab 1 (by omega)).1 y hy).2.2.1
      obtain ⟨σ', τ', a1, a2, a3⟩ := X_items (κ := 1) (r := 9) (rm := 318) (F := 4 * np) (by omega) (by omega) (by omega) (by rw [l2]; show 4 * np + 4 ≤ 48; omega) (by rw [l5]; show 4 * np + 4 ≤ 48; omega) (by omega) (by omega) (show gR S1 7 0 = some 1 by rw [← hS1]; exact r0) hC1 hlt hM1 (by rw [← hT1, gI_sI, if_neg (by omega), gI_sI, if_neg (by omega)]; exact hf) hu
      have sC : Sm tHC σ S1 := by
        rw [← hS1]
        exact ((Sm.rf.sI rfl).sA (fun _ => rfl)).sI rfl
      have sM : Sm tHM τ T1 := by rw [← hT1]; exact (Sm.rf.sI rfl).sI rfl
      have eM2 : fX10_readClause 310 τ = fX10_readItems 310 (kCh 1) 318 (nI (4 * np)) (1100 + 2 * 1) T1 := by
        rw [eM]
        show (fX10_readItems 310 (kCh 1) 318 (nI (4 * np)) (1100 + 2 * 1) T1).bind (fun sk11 => some sk11) = _
        cases fX10_readItems 310 (kCh 1) 318 (nI (4 * np)) (1100 + 2 * 1) T1 <;> rfl
      refine ⟨σ', τ', sC.tr (tHc_C (by omega) a1), sM.tr (tHm_M (by omega) a2), ?_⟩
      rw [eC, eP, eM2]
      rcases a3 with ⟨e, b1, b2, b3, b4, b5⟩ | ⟨q, b1, b2, b3, b4, b5, b6, b7, b8⟩
      · left
        rw [b1]
        exact ⟨e, rfl, b2, b3, b4, b5⟩
      · right
        rw [b3]
        have oC : ∀ c k, c ≠ 1 → c ≠ 9 → gI σ' c k = gI S1 c k := fun c k h1 h2 => a1.1 _ _ (by unfold tHc tA; simp; omega)
        have oM : ∀ c k, c ≠ 318 → (c = 310 → k ≠ 10 ∧ k ≠ 11) → gI τ' c k = gI T1 c k := fun c k h1 h2 => a2.1 _ _ (by unfold tHm tM; simp; omega)
        have hV1 : ∀ p, p < np → Vals (4 * p) 1 9 318 S1 T1 := fun p hp y hy => by
          have hy4 : y < 4 := hy
          rw [← hS1, ← hT1, gI_sI, if_neg (by omega), gI_sA, if_pos rfl, show (4 : Int32) = nI 4 from rfl, va_cpyN _ _ (by omega) (by omega), if_neg (by omega), gI_sI, if_neg (by omega), gI_sI, if_neg (by omega), gI_sI, if_neg (by omega)]
          exact h11 p hp y hy
        have z9 : Vals 0 0 8 316 S1 T1 := h9.of (fun y => by rw [← hS1, gI_sI, if_neg (by omega), gI_sA, if_neg (by omega), gI_sI, if_neg (by omega)]) (fun y => by rw [← hT1, gI_sI, if_neg (by omega), gI_sI, if_neg (by omega)])
        have z12 : ∀ r, r < nr → Vals (4 * r) 2 10 320 S1 T1 := fun r hr => (h12 r hr).of (fun y => by rw [← hS1, gI_sI, if_neg (by omega), gI_sA, if_neg (by omega), gI_sI, if_neg (by omega)]) (fun y => by rw [← hT1, gI_sI, if_neg (by omega), gI_sI, if_neg (by omega)])
        refine ⟨q, np + 1, nr, ruled, by omega, b2, rfl, b4, b5, b6, b7, ?_, ?_, by omega, ?_, ?_, h6, ?_, ?_, z9.oth a1 a2 (by omega) (by omega) (by omega) (by omega), fun hq y hy => ?_, fun p hp => ?_, fun r hr => (z12 r hr).oth a1 a2 (by omega) (by omega) (by omega) (by omega)⟩
        · rw [oC _ _ (by omega) (by omega), ← hS1, gI_sI, if_pos ⟨rfl, rfl⟩]
        · rw [oM _ _ (by omega) (by omega), ← hT1, gI_sI, if_pos ⟨rfl, rfl⟩]
        · rw [oC _ _ (by omega) (by omega), ← hS1, gI_sI, if_neg (by omega), gI_sA, if_neg (by omega)]; exact q75
        · rw [oM _ _ (by omega) (by omega), ← hT1, gI_sI, if_neg (by omega), gI_sI, if_neg (by omega)]; exact h5
        · rw [oC _ _ (by omega) (by omega), ← hS1, gI_sI, if_neg (by omega), gI_sA, if_neg (by omega)]; exact q76
        · rw [oM _ _ (by omega) (by omega), ← hT1, gI_sI, if_neg (by omega), gI_sI, if_neg (by omega)]; exact h8
        · rw [oC _ _ (by omega) (by omega), ← hS1, gI_sI, if_neg (by omega), gI_sA, if_neg (by omega), gI_sI, if_neg (by omega)]; exact h10 hq y hy
        · by_cases z : p = np
          · rw [z]; exact b8
          · exact (hV1 p (by omega)).low (κ := 1) a1 a2 (by show 4 * p + 4 ≤ 4 * np; omega) (by omega) (by omega)
    · refine bad ?_ ?_
      · rw [eC, if_pos (show (12 : Int32) ≤ nI np from (leT (a := 12) (by omega) (by omega)).mpr (by omega)), r0', Option.bind_some, wr]
      · rw [eM, if_neg (show ¬ nI np < 12 from fun z => absurd ((ltT (b := 12) (by omega) (by omega)).mp z) (by omega))]
        unfold fX10_readClause_b33 fX10_readClause_b52
        rw [if_neg (show ¬ (112 : Int32) = 114 by decide), fl]
  · by_cases q115 : sg b L p = 115
    · have hlt := sg_lt (x := 115) (by omega) q115
      rw [q115] at eC eM fl
      rw [if_neg (show ¬ (115 : Int32) = 112 by decide), if_neg (show ¬ (115 : Int32) = 113 by decide), if_neg (show ¬ (115 : Int32) = 114 by decide), if_pos rfl, q76] at eC
      rw [if_pos rfl, m32] at eM
      by_cases qr : ruled = true
      · rw [if_pos qr, if_neg z1, r0', Option.bind_some, wr] at eC
        rw [if_pos qr, if_neg z1] at eM
        refine bad eC ?_
        rw [eM]
        unfold fX10_readClause_b18 fX10_readClause_b33 fX10_readClause_b52
        rw [if_neg (show ¬ (115 : Int32) = 112 by decide), if_neg (show ¬ (115 : Int32) = 114 by decide), fl]
      · rw [if_neg qr, if_pos rfl] at eC eM
        have qr' : ruled = false := by simpa using qr
        unfold fX10_readClause_b48 fX10_readClause_b53 at eM
        rw [if_neg z1, if_pos rfl, show gR (sI τ 310 10 (nI (sk b L p))) 310 19 = some 316 from r19, Option.bind_some, hM.2.2.2.2.2.2.2.1, nI_1, sI_sI] at eM
        generalize hS1 : sI (sI σ 1 2 (nI (sk b L p))) 7 6 1 = S1
        generalize hT1 : sI (sI τ 310 10 (nI (sk b L p + 1))) 310 32 1 = T1 at eM
        have eP : fX1_ruleClause 7 (sI σ 1 2 (nI (sk b L p))) = bnd2 (fX1_items 7 (nI 0) 8 (nI 0) S1) fun vk3 sk3 => some (vk3, sk3) := by
          unfold fX1_ruleClause
          rw [show gR (sI σ 1 2 (nI (sk b L p))) 7 1 = some 8 from r1, Option.bind_some, hS1]
          rfl
        have hC1 : TC S1 b L (sk b L p) := by rw [← hS1]; exact hC.hi (by omega)
        have hM1 : TM T1 311 0 b L (sk b L p + 1) := by rw [← hT1]; exact (k.cur (by omega)).oth (Or.inl ⟨rfl, by omega⟩)
        obtain ⟨σ', τ', a1, a2, a3⟩ := X_items (κ := 0) (r := 8) (rm := 316) (F := 0) (by omega) (by omega) (by omega) (by rw [l1]; decide) (by rw [l4]; decide) (by omega) (by omega) (show gR S1 7 0 = some 1 by rw [← hS1]; exact r0) hC1 hlt hM1 (by rw [← hT1, gI_sI, if_neg (by omega), gI_sI, if_neg (by omega)]; exact hf) (fun y hy => by rw [Nat.zero_add, ← hS1, gI_sI, if_neg (by omega), gI_sI, if_neg (by omega)]; exact h10 qr' y hy)
        have sC : Sm tHC σ S1 := by rw [← hS1]; exact (Sm.rf.sI rfl).sI rfl
        have sM : Sm tHM τ T1 := by rw [← hT1]; exact (Sm.rf.sI rfl).sI rfl
        have eM2 : fX10_readClause 310 τ = fX10_readItems 310 (kCh 0) 316 (nI 0) (1100 + 2 * 0) T1 := by
          rw [eM]
          show (fX10_readItems 310 (kCh 0) 316 (nI 0) (1100 + 2 * 0) T1).bind (fun sk11 => some sk11) = _
          cases fX10_readItems 310 (kCh 0) 316 (nI 0) (1100 + 2 * 0) T1 <;> rfl
        refine ⟨σ', τ', sC.tr (tHc_C (by omega) a1), sM.tr (tHm_M (by omega) a2), ?_⟩
        rw [eC, eP, eM2]
        rcases a3 with ⟨e, b1, b2, b3, b4, b5⟩ | ⟨q, b1, b2, b3, b4, b5, b6, b7, b8⟩
        · left
          rw [b1]
          exact ⟨e, rfl, b2, b3, b4, b5⟩
        · right
          rw [b3]
          have oC : ∀ c k, c ≠ 1 → c ≠ 8 → gI σ' c k = gI S1 c k := fun c k h1 h2 => a1.1 _ _ (by unfold tHc tA; simp; omega)
          have oM : ∀ c k, c ≠ 316 → (c = 310 → k ≠ 10 ∧ k ≠ 11) → gI τ' c k = gI T1 c k := fun c k h1 h2 => a2.1 _ _ (by unfold tHm tM; simp; omega)
          have z11 : ∀ p, p < np → Vals (4 * p) 1 9 318 S1 T1 := fun r hr => (h11 r hr).of (fun y => by rw [← hS1, gI_sI, if_neg (by omega), gI_sI, if_neg (by omega)]) (fun y => by rw [← hT1, gI_sI, if_neg (by omega), gI_sI, if_neg (by omega)])
          have z12 : ∀ r, r < nr → Vals (4 * r) 2 10 320 S1 T1 := fun r hr => (h12 r hr).of (fun y => by rw [← hS1, gI_sI, if_neg (by omega), gI_sI, if_neg (by omega)]) (fun y => by rw [← hT1, gI_sI, if_neg (by omega), gI_sI, if_neg (by omega)])
          refine ⟨q, np, nr, true, by omega, b2, rfl, b4, b5, b6, b7, ?_, ?_, h3, ?_, ?_, h6, ?_, ?_, b8, fun hq => absurd hq (by decide), fun p hp => (z11 p hp).oth a1 a2 (by omega) (by omega) (by omega) (by omega), fun r hr => (z12 r hr).oth a1 a2 (by omega) (by omega) (by omega) (by omega)⟩
          · rw [oC _ _ (by omega) (by omega), ← hS1, gI_sI, if_neg (by omega)]; exact q74
          · rw [oM _ _ (by omega) (by omega), ← hT1, gI_sI, if_neg (by omega), gI_sI, if_neg (by omega)]; exact h2
          · rw [oC _ _ (by omega) (by omega), ← hS1, gI_sI, if_neg (by omega)]; exact q75
          · rw [oM _ _ (by omega) (by omega), ← hT1, gI_sI, if_neg (by omega), gI_sI, if_neg (by omega)]; exact h5
          · rw [oC _ _ (by omega) (by omega), ← hS1, gI_sI, if_pos ⟨rfl, rfl⟩, if_pos rfl]
          · rw [oM _ _ (by omega) (by omega), ← hT1, gI_sI, if_pos ⟨rfl, rfl⟩, if_pos rfl]
    · rw [if_neg q112] at eC
      rw [if_neg q115] at eM
      unfold fX10_readClause_b18 at eM
      rw [if_neg q112] at eM
      unfold fX10_readClause_b33 at eM
      by_cases q114 : sg b L p = 114
      · have hlt := sg_lt (x := 114) (by omega) q114
        rw [q114] at eC eM fl
        rw [if_neg (show ¬ (114 : Int32) = 113 by decide), if_pos rfl, q75] at eC
        rw [if_pos rfl, m30] at eM
        by_cases q6 : nr < 6
        · rw [if_neg (show ¬ (6 : Int32) ≤ nI nr from fun z => absurd ((leT (a := 6) (by omega) (by omega)).mp z) (by omega))] at eC eM
          unfold fX10_readClause_b48 fX10_readClause_b53 at eM
          rw [if_neg z1, if_neg (show ¬ (114 : Int32) = 115 by decide), if_neg (show ¬ (114 : Int32) = 112 by decide), show gR (sI τ 310 10 (nI (sk b L p))) 310 23 = some 320 from r23, Option.bind_some, hM.2.2.2.2.2.2.2.1, nI_1, sI_sI] at eM
          have g30 : gI (sI τ 310 10 (nI (sk b L p + 1))) 310 30 = nI nr := by rw [gI_sI, if_neg (by omega)]; exact h5
          rw [g30, nI_1, gI_sI, if_pos ⟨rfl, rfl⟩, show (1 : Int32) = nI 1 from rfl, pk_sub (by omega), Nat.add_sub_cancel, i4p] at eM
          have nr4 : nI nr * 4 = nI (4 * nr) := by rw [Int32.mul_comm]; exact i4p nr
          generalize hS1 : sI (sA (sI σ 1 2 (nI (sk b L p))) 10 (va_cpy (KI ((1000 + 8) - 1000)) (gI (sI σ 1 2 (nI (sk b L p))) 10) (Int32.toNatClampNeg 0) (Int32.toNatClampNeg (nI (4 * nr))) (Int32.toNatClampNeg 4))) 7 5 (nI (nr + 1)) = S1
          generalize hT1 : sI (sI τ 310 10 (nI (sk b L p + 1))) 310 30 (nI (nr + 1)) = T1 at eM
          have eP : fX1_readerClause 7 (sI σ 1 2 (nI (sk b L p))) = bnd2 (fX1_items 7 (nI 2) 10 (nI (4 * nr)) S1) fun vk3 sk3 => some (vk3, sk3) := by
            have cb : cpB 0 (nI (4 * nr)) 4 (ln (1000 + 8)) (ln 10) = true := by
              rw [l3, show ln (1000 + 8) = 4 by decide +kernel]
              unfold cpB
              rw [clT (show 4 * nr < 2147483648 by omega), show Int32.toNatClampNeg 0 = 0 from rfl, show Int32.toNatClampNeg 4 = 4 by decide]
              exact decide_eq_true ⟨by decide, nI_pos (by omega), by decide, by omega, by omega⟩
            unfold fX1_readerClause
            rw [show gR (sI σ 1 2 (nI (sk b L p))) 7 3 = some 10 from r3, Option.bind_some, q75, nr4, if_pos cb]
            have g75 : gI (sA (sI σ 1 2 (nI (sk b L p))) 10 (va_cpy (KI ((1000 + 8) - 1000)) (gI (sI σ 1 2 (nI (sk b L p))) 10) (Int32.toNatClampNeg 0) (Int32.toNatClampNeg (nI (4 * nr))) (Int32.toNatClampNeg 4))) 7 5 = nI nr := by rw [gI_sA, if_neg (by omega)]; exact q75
            rw [g75, nI_1, hS1]
            rfl
          have hC1 : TC S1 b L (sk b L p) := by rw [← hS1]; exact (hC.hiA (by omega)).hi (by omega)
          have hM1 : TM T1 311 0 b L (sk b L p + 1) := by rw [← hT1]; exact (k.cur (by omega)).oth (Or.inl ⟨rfl, by omega⟩)
          have hu : ∀ y, y < kLn 2 → gI S1 10 (4 * nr + y) = nI (kUs 2 y) := by
            intro y hy
            have hy4 : y < 4 := hy
            rw [← hS1, gI_sI, if_neg (by omega), gI_sA, if_pos rfl, show (4 : Int32) = nI 4 from rfl, va_cpyN _ _ (by omega) (by omega), if_pos (by omega), show 4 * nr + y - 4 * nr = y by omega]
            exact ((it_tab 2 (by omega)).1 y hy).2.2.1
          obtain ⟨σ', τ', a1, a2, a3⟩ := X_items (κ := 2) (r := 10) (rm := 320) (F := 4 * nr) (by omega) (by omega) (by omega) (by rw [l3]; show 4 * nr + 4 ≤ 24; omega) (by rw [l6]; show 4 * nr + 4 ≤ 24; omega) (by omega) (by omega) (show gR S1 7 0 = some 1 by rw [← hS1]; exact r0) hC1 hlt hM1 (by rw [← hT1, gI_sI, if_neg (by omega), gI_sI, if_neg (by omega)]; exact hf) hu
          have sC : Sm tHC σ S1 := by
            rw [← hS1]
            exact ((Sm.rf.sI rfl).sA (fun _ => rfl)).sI rfl
          have sM : Sm tHM τ T1 := by rw [← hT1]; exact (Sm.rf.sI rfl).sI rfl
          have eM2 : fX10_readClause 310 τ = fX10_readItems 310 (kCh 2) 320 (nI (4 * nr)) (1100 + 2 * 2) T1 := by
            rw [eM]
            show (fX10_readItems 310 (kCh 2) 320 (nI (4 * nr)) (1100 + 2 * 2) T1).bind (fun sk11 => some sk11) = _
            cases fX10_readItems 310 (kCh 2) 320 (nI (4 * nr)) (1100 + 2 * 2) T1 <;> rfl
          refine ⟨σ', τ', sC.tr (tHc_C (by omega) a1), sM.tr (tHm_M (by omega) a2), ?_⟩
          rw [eC, eP, eM2]
          rcases a3 with ⟨e, b1, b2, b3, b4, b5⟩ | ⟨q, b1, b2, b3, b4, b5, b6, b7, b8⟩
          · left
            rw [b1]
            exact ⟨e, rfl, b2, b3, b4, b5⟩
          · right
            rw [b3]
            have oC : ∀ c k, c ≠ 1 → c ≠ 10 → gI σ' c k = gI S1 c k := fun c k h1 h2 => a1.1 _ _ (by unfold tHc tA; simp; omega)
            have oM : ∀ c k, c ≠ 320 → (c = 310 → k ≠ 10 ∧ k ≠ 11) → gI τ' c k = gI T1 c k := fun c k h1 h2 => a2.1 _ _ (by unfold tHm tM; simp; omega)
            have hV1 : ∀ p, p < nr → Vals (4 * p) 2 10 320 S1 T1 := fun p hp y hy => by
              have hy4 : y < 4 := hy
              rw [← hS1, ← hT1, gI_sI, if_neg (by omega), gI_sA, if_pos rfl, show (4 : Int32) = nI 4 from rfl, va_cpyN _ _ (by omega) (by omega), if_neg (by omega), gI_sI, if_neg (by omega), gI_sI, if_neg (by omega), gI_sI, if_neg (by omega)]
              exact h12 p hp y hy
            have z9 : Vals 0 0 8 316 S1 T1 := h9.of (fun y => by rw [← hS1, gI_sI, if_neg (by omega), gI_sA, if_neg (by omega), gI_sI, if_neg (by omega)]) (fun y => by rw [← hT1, gI_sI, if_neg (by omega), gI_sI, if_neg (by omega)])
            have z11 : ∀ r, r < np → Vals (4 * r) 1 9 318 S1 T1 := fun r hr => (h11 r hr).of (fun y => by rw [← hS1, gI_sI, if_neg (by omega), gI_sA, if_neg (by omega), gI_sI, if_neg (by omega)]) (fun y => by rw [← hT1, gI_sI, if_neg (by omega), gI_sI, if_neg (by omega)])
            refine ⟨q, np, nr + 1, ruled, by omega, b2, rfl, b4, b5, b6, b7, ?_, ?_, h3, ?_, ?_, by omega, ?_, ?_, z9.oth a1 a2 (by omega) (by omega) (by omega) (by omega), fun hq y hy => ?_, fun r hr => (z11 r hr).oth a1 a2 (by omega) (by omega) (by omega) (by omega), fun p hp => ?_⟩
            · rw [oC _ _ (by omega) (by omega), ← hS1, gI_sI, if_neg (by omega), gI_sA, if_neg (by omega)]; exact q74
            · rw [oM _ _ (by omega) (by omega), ← hT1, gI_sI, if_neg (by omega), gI_sI, if_neg (by omega)]; exact h2
            · rw [oC _ _ (by omega) (by omega), ← hS1, gI_sI, if_pos ⟨rfl, rfl⟩]
            · rw [oM _ _ (by omega) (by omega), ← hT1, gI_sI, if_pos ⟨rfl, rfl⟩]
            · rw [oC _ _ (by omega) (by omega), ← hS1, gI_sI, if_neg (by omega), gI_sA, if_neg (by omega)]; exact q76
            · rw [oM _ _ (by omega) (by omega), ← hT1, gI_sI, if_neg (by omega), gI_sI, if_neg (by omega)]; exact h8
            · rw [oC _ _ (by omega) (by omega), ← hS1, gI_sI, if_neg (by omega), gI_sA, if_neg (by omega), gI_sI, if_neg (by omega)]; exact h10 hq y hy
            · by_cases z : p = nr
              · rw [z]; exact b8
              · exact (hV1 p (by omega)).low (κ := 2) a1 a2 (by show 4 * p + 4 ≤ 4 * nr; omega) (by omega) (by omega)
        · rw [if_pos (show (6 : Int32) ≤ nI nr from (leT (a := 6) (by omega) (by omega)).mpr (by omega))] at eC eM
          refine bad ?_ ?_
          · rw [eC, r0', Option.bind_some, wr]
          · rw [eM]
            unfold fX10_readClause_b52
            rw [fl]
      · rw [if_neg q114, if_neg q115] at eC
        rw [if_neg q114] at eM
        unfold fX10_readClause_b52 at eM
        rw [fl] at eM
        refine bad ?_ eM
        rw [eC, r0', Option.bind_some, wr, ite_self]
end Clause
