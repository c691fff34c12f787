/-! halls: the items of a clause, both parsers in step -/
def kLn (κ : Nat) : Nat := if κ = 0 then 5 else 4
def kLo (κ k : Nat) : Nat := Int32.toNatClampNeg (KI (3 * κ) k)
def kHi (κ k : Nat) : Nat := Int32.toNatClampNeg (KI (3 * κ + 1) k)
def kUs (κ k : Nat) : Nat := Int32.toNatClampNeg (KI (3 * κ + 2) k)
def kCh (κ : Nat) : Int32 := if κ = 0 then 115 else if κ = 1 then 112 else 114
theorem it_tab : ∀ κ, κ < 3 → (∀ k, k < kLn κ → KI (3 * κ) k = nI (kLo κ k) ∧ KI (3 * κ + 1) k = nI (kHi κ k) ∧ KI (3 * κ + 2) k = nI (kUs κ k) ∧ kLo κ k ≤ kUs κ k ∧ kUs κ k ≤ kHi κ k ∧ kHi κ k < 100) ∧ slenN (1100 + 2 * κ) = kLn κ ∧ six (1100 + 2 * κ) (-1) = -1 ∧ ln (1000 + 3 * κ) = kLn κ ∧ ln (1000 + (3 * κ + 1)) = kLn κ ∧ ln (1000 + (3 * κ + 2)) = kLn κ := by decide +kernel
theorem k_cases {κ : Nat} (h : κ < 3) : κ = 0 ∨ κ = 1 ∨ κ = 2 := by omega
theorem k_item {κ k : Nat} (h : k < kLn κ) : k = 0 ∨ k = 1 ∨ k = 2 ∨ k = 3 ∨ (k = 4 ∧ κ = 0) := by
  unfold kLn at h
  split at h <;> omega
theorem kLn5 (κ : Nat) : kLn κ ≤ 5 := by unfold kLn; split <;> omega
theorem kLn4 (κ : Nat) : 4 ≤ kLn κ := by unfold kLn; split <;> omega
theorem m_least {κ k : Nat} (hκ : κ < 3) (hk : k < kLn κ) (s : Mm) : fX10_leastOf (kCh κ) (nI k) s = some (nI (kLo κ k)) := by
  rcases k_cases hκ with rfl | rfl | rfl <;> rcases k_item hk with rfl | rfl | rfl | rfl | ⟨rfl, h⟩ <;> first | rfl | (exact absurd h (by decide))
theorem m_most {κ k : Nat} (hκ : κ < 3) (hk : k < kLn κ) (s : Mm) : fX10_mostOf (kCh κ) (nI k) s = some (nI (kHi κ k)) := by
  rcases k_cases hκ with rfl | rfl | rfl <;> rcases k_item hk with rfl | rfl | rfl | rfl | ⟨rfl, h⟩ <;> first | rfl | (exact absurd h (by decide))
theorem m_usual {κ k : Nat} (hκ : κ < 3) (hk : k < kLn κ) (s : Mm) : fX10_usual (kCh κ) (nI k) s = some (nI (kUs κ k)) := by
  rcases k_cases hκ with rfl | rfl | rfl <;> rcases k_item hk with rfl | rfl | rfl | rfl | ⟨rfl, h⟩ <;> first | rfl | (exact absurd h (by decide))
section Items
variable {σ τ : Mm} {b : Nat → Nat} {L p : Nat}
def tHc (r F c k : Nat) : Bool := tA c k || (c == r && decide (F ≤ k))
def tHm (rm F c k : Nat) : Bool := tM c k || (c == rm && decide (F ≤ k))
def Vals (F κ r rm : Nat) (σ τ : Mm) : Prop := ∀ k, k < kLn κ → ∃ v, kLo κ k ≤ v ∧ v ≤ kHi κ k ∧ gI σ r (F + k) = nI v ∧ gI τ rm (F + k) = nI v
theorem Vals.of {F κ r rm : Nat} {σ' τ' : Mm} (h : Vals F κ r rm σ τ) (h1 : ∀ k, gI σ' r k = gI σ r k) (h2 : ∀ k, gI τ' rm k = gI τ rm k) : Vals F κ r rm σ' τ' := fun k hk => by
  rw [h1, h2]; exact h k hk
theorem cnt_full (P : Nat → Bool) (n : Nat) (h : cntB P n = n) : ∀ p, p < n → P p = true := by
  intro p hp
  refine Classical.byContradiction fun z => ?_
  have e := cntB_not P (fun p => !P p) n (fun _ _ => rfl)
  have := cnt_pos (fun p => !P p) n p hp (by simp at z; simp [z])
  omega
theorem cnt_add (P : Nat → Bool) (n p : Nat) (hp : p < n) (hP : P p = false) : cntB (fun q => P q || decide (q = p)) n = cntB P n + 1 := by
  have := cnt_rm (fun q => P q || decide (q = p)) n p hp (by simp)
  rw [← this]
  congr 1
  exact cntB_congr (fun k hk => by
    by_cases z : k = p
    · subst z; simp [hP]
    · simp [z])
def gC (r : (Int32 × Mm) ⊕ Mm) : Option (Int32 × Mm) := (Sum.elim (fun eo210 => some eo210) (fun eo211 => (fun so21 => (gR so21 7 0).bind fun r22 => bnd2 (fX7_wrongHere r22 so21) fun vk23 sk23 => some (vk23, sk23)) eo211)) r
def gM (r : Mm ⊕ Mm) : Option Mm := (Sum.elim (fun eo180 => some eo180) (fun eo181 => (fun so18 => bnd2 (fX10_fails 310 so18) fun vk19 sk19 => some sk19) eo181)) r
theorem X_itL {κ r rm F : Nat} (hκ : κ < 3) (hr : 8 ≤ r ∧ r ≤ 10) (hrm : rm = 316 ∨ rm = 318 ∨ rm = 320) (hFr : F + kLn κ ≤ ln r) (hFm : F + kLn κ ≤ ln rm) (hl1 : ln r ≤ 48) (hl2 : ln rm ≤ 48) :
    ∀ (d i : Nat) (P : Nat → Bool) (σ τ : Mm) (p : Nat), i + d = kLn κ → i = cntB P (kLn κ) → gR σ 7 0 = some 1 → TC σ b L p → TM τ 311 0 b L (sk b L p) → gI τ 310 11 = -1 → Vals F κ r rm σ τ → ∀ K K', d + 1 < K → d + 2 < K' →
    ∃ σ' τ', Sm (tHc r F) σ σ' ∧ Sm (tHm rm F) τ τ' ∧
    ((∃ e, (wh (fun a : Int32 × Int32 × Mm => fX1_items_l94 7 r (nI F) (1100 + 2 * κ) (1000 + 3 * κ) (1000 + (3 * κ + 1)) a.1 a.2.1 a.2.2) K (mk P (kLn κ), nI i, σ)).bind gC = some (0, σ') ∧ gI σ' 1 3 = nI e ∧ (wh (fun a : Int32 × Int32 × Mm => fX10_readItems_l45 310 (kCh κ) rm (nI F) (1100 + 2 * κ) a.1 a.2.1 a.2.2) K' (mk P (kLn κ), six (1100 + 2 * κ) (sg b L p), τ)).bind gM = some τ' ∧ gI τ' 310 11 = nI e ∧ e ≤ 240) ∨
     (∃ q, p ≤ q ∧ q ≤ L ∧ (wh (fun a : Int32 × Int32 × Mm => fX1_items_l94 7 r (nI F) (1100 + 2 * κ) (1000 + 3 * κ) (1000 + (3 * κ + 1)) a.1 a.2.1 a.2.2) K (mk P (kLn κ), nI i, σ)).bind gC = some (1, σ') ∧ (wh (fun a : Int32 × Int32 × Mm => fX10_readItems_l45 310 (kCh κ) rm (nI F) (1100 + 2 * κ) a.1 a.2.1 a.2.2) K' (mk P (kLn κ), six (1100 + 2 * κ) (sg b L p), τ)).bind gM = some τ' ∧ TC σ' b L q ∧ TM τ' 311 0 b L q ∧ gI τ' 310 11 = -1 ∧ Vals F κ r rm σ' τ')) := by
  obtain ⟨tb, t1, t2, t3, t4, t5⟩ := it_tab κ hκ
  have h5 := kLn5 κ
  intro d
  induction d with
  | zero =>
    intro i P σ τ p hid hi r0 h k hf hV K K' hK hK'
    obtain ⟨K, rfl⟩ : ∃ x, K = x + 1 := ⟨K - 1, by omega⟩
    obtain ⟨K', rfl⟩ : ∃ x, K' = x + 1 := ⟨K' - 1, by omega⟩
    obtain ⟨s1, s2, s3⟩ := sk_bd (b := b) h.1
    have hC := h.cur s2
    have hL := h.2.1
    have n0 : ¬ nI (kLn κ) < nI i := fun z => absurd ((ltT (by omega) (by omega)).mp z) (by omega)
    have eC : fX1_items_l94 7 r (nI F) (1100 + 2 * κ) (1000 + 3 * κ) (1000 + (3 * κ + 1)) (mk P (kLn κ)) (nI i) σ = if six (1100 + 2 * κ) (sg b L p) < 0 then some (Sum.inr (Sum.inl (1, sI σ 1 2 (nI (sk b L p))))) else some (Sum.inr (Sum.inr (sI σ 1 2 (nI (sk b L p))))) := by
      unfold fX1_items_l94 slen
      rw [t1, if_neg n0, r0, Option.bind_some, c_nextOf h _ t2, bnd2_some]
      rcases six_rng (1100 + 2 * κ) (sg b L p) with e | ⟨x, hx, e⟩
      · rw [e, if_pos (by decide), if_pos (by decide)]
      · rw [t1] at hx
        have := cnt_full P (kLn κ) (by omega) x hx
        rw [e, if_neg (nI_pos (by omega)), if_neg (nI_pos (by omega)), t3, if_pos ((ltT (by omega) (by omega)).mpr hx), mk_at P (by omega) hx, if_pos this, if_pos rfl]
    rcases six_rng (1100 + 2 * κ) (sg b L p) with e | ⟨x, hx, e⟩
    · rw [e, if_pos (show (-1 : Int32) < 0 by decide)] at eC
      refine ⟨_, τ, (Sm.rf.sI (v := nI (sk b L p)) rfl : Sm (tHc r F) σ (sI σ 1 2 (nI (sk b L p)))), Sm.rf, Or.inr ⟨sk b L p, s1, s2, ?_, ?_, hC, k, hf, hV.of (fun k => by rw [gI_sI, if_neg (by omega)]) (fun _ => rfl)⟩⟩
      · rw [whR eC]; rfl
      · rw [e]
        have eM : fX10_readItems_l45 310 (kCh κ) rm (nI F) (1100 + 2 * κ) (mk P (kLn κ)) (-1) τ = some (Sum.inr (Sum.inl τ)) := by
          unfold fX10_readItems_l45; rw [if_pos rfl]
        rw [whR eM]; rfl
    · rw [t1] at hx
      have hPx := cnt_full P (kLn κ) (by omega) x hx
      rw [e, if_neg (nI_pos (by omega))] at eC
      refine ⟨sI (sI σ 1 2 (nI (sk b L p))) 1 3 (nI (sk b L p)), sI τ 310 11 (nI (sk b L p)), (Sm.rf.sI rfl).sI rfl, Sm.rf.sI rfl, Or.inl ⟨sk b L p, ?_, by rw [gI_sI, if_pos ⟨rfl, rfl⟩], ?_, by rw [gI_sI, if_pos ⟨rfl, rfl⟩], by omega⟩⟩
      · rw [whR eC]
        show ((gR (sI σ 1 2 (nI (sk b L p))) 7 0).bind fun r22 => bnd2 (fX7_wrongHere r22 (sI σ 1 2 (nI (sk b L p)))) fun vk23 sk23 => some (vk23, sk23)) = _
        rw [show gR (sI σ 1 2 (nI (sk b L p))) 7 0 = some 1 from r0, Option.bind_some, c_wrong hC, bnd2_some]
      · have eM : fX10_readItems_l45 310 (kCh κ) rm (nI F) (1100 + 2 * κ) (mk P (kLn κ)) (nI x) τ = some (Sum.inr (Sum.inr τ)) := by
          unfold fX10_readItems_l45 fX10_has
          rw [if_neg (fun z => (eqN1 (by omega)).mp z), hf, if_pos rfl, mk_at P (by omega) hx, if_pos hPx, if_pos rfl, Option.bind_some, if_neg z1]
        rw [e, whR eM]
        show (bnd2 (fX10_fails 310 τ) fun vk19 sk19 => some sk19) = _
        rw [m_fails k hf, bnd2_some]
  | succ d ih =>
    intro i P σ τ p hid hi r0 h k hf hV K K' hK hK'
    obtain ⟨K, rfl⟩ : ∃ x, K = x + 1 := ⟨K - 1, by omega⟩
    obtain ⟨K', rfl⟩ : ∃ x, K' = x + 1 + 1 := ⟨K' - 2, by omega⟩
    obtain ⟨s1, s2, s3⟩ := sk_bd (b := b) h.1
    have hC := h.cur s2
    have hL := h.2.1
    have n0 : ¬ nI (kLn κ) < nI i := fun z => absurd ((ltT (by omega) (by omega)).mp z) (by omega)
    rcases six_rng (1100 + 2 * κ) (sg b L p) with e | ⟨x, hx, e⟩
    · have eC : fX1_items_l94 7 r (nI F) (1100 + 2 * κ) (1000 + 3 * κ) (1000 + (3 * κ + 1)) (mk P (kLn κ)) (nI i) σ = some (Sum.inr (Sum.inl (1, sI σ 1 2 (nI (sk b L p))))) := by
        unfold fX1_items_l94 slen
        rw [t1, if_neg n0, r0, Option.bind_some, c_nextOf h _ t2, bnd2_some, e, if_pos (by decide)]
      refine ⟨_, τ, (Sm.rf.sI (v := nI (sk b L p)) rfl : Sm (tHc r F) σ (sI σ 1 2 (nI (sk b L p)))), Sm.rf, Or.inr ⟨sk b L p, s1, s2, ?_, ?_, hC, k, hf, hV.of (fun k => by rw [gI_sI, if_neg (by omega)]) (fun _ => rfl)⟩⟩
      · rw [whR eC]; rfl
      · rw [e]
        have eM : fX10_readItems_l45 310 (kCh κ) rm (nI F) (1100 + 2 * κ) (mk P (kLn κ)) (-1) τ = some (Sum.inr (Sum.inl τ)) := by
          unfold fX10_readItems_l45; rw [if_pos rfl]
        rw [whR eM]; rfl
    · rw [t1] at hx
      have hlt := six_lt h t2 (by rw [e]; exact fun z => (eqN1 (by omega)).mp z)
      have nx : ¬ nI x < 0 := nI_pos (by omega)
      have xl : nI x < nI (kLn κ) := (ltT (by omega) (by omega)).mpr hx
      by_cases hPx : P x = true
      · have eC : fX1_items_l94 7 r (nI F) (1100 + 2 * κ) (1000 + 3 * κ) (1000 + (3 * κ + 1)) (mk P (kLn κ)) (nI i) σ = some (Sum.inr (Sum.inr (sI σ 1 2 (nI (sk b L p))))) := by
          unfold fX1_items_l94 slen
          rw [t1, if_neg n0, r0, Option.bind_some, c_nextOf h _ t2, bnd2_some, e, if_neg nx, t3, if_pos xl, mk_at P (by omega) hx, if_pos hPx, if_pos rfl]
        refine ⟨sI (sI σ 1 2 (nI (sk b L p))) 1 3 (nI (sk b L p)), sI τ 310 11 (nI (sk b L p)), (Sm.rf.sI rfl).sI rfl, Sm.rf.sI rfl, Or.inl ⟨sk b L p, ?_, by rw [gI_sI, if_pos ⟨rfl, rfl⟩], ?_, by rw [gI_sI, if_pos ⟨rfl, rfl⟩], by omega⟩⟩
        · rw [whR eC]
          show ((gR (sI σ 1 2 (nI (sk b L p))) 7 0).bind fun r22 => bnd2 (fX7_wrongHere r22 (sI σ 1 2 (nI (sk b L p)))) fun vk23 sk23 => some (vk23, sk23)) = _
          rw [show gR (sI σ 1 2 (nI (sk b L p))) 7 0 = some 1 from r0, Option.bind_some, c_wrong hC, bnd2_some]
        · have eM : fX10_readItems_l45 310 (kCh κ) rm (nI F) (1100 + 2 * κ) (mk P (kLn κ)) (nI x) τ = some (Sum.inr (Sum.inr τ)) := by
            unfold fX10_readItems_l45 fX10_has
            rw [if_neg (fun z => (eqN1 (by omega)).mp z), hf, if_pos rfl, mk_at P (by omega) hx, if_pos hPx, if_pos rfl, Option.bind_some, if_neg z1]
          rw [e, whR eM]
          show (bnd2 (fX10_fails 310 τ) fun vk19 sk19 => some sk19) = _
          rw [m_fails k hf, bnd2_some]
      · obtain ⟨k1, k2, k3, k4, k5, k6⟩ := tb x hx
        have hC1 := h.cur (q := sk b L p + 1) (by omega)
        have hM1 := k.cur (q := sk b L p + 1) (by omega)
        have f1 : gI (sI τ 310 10 (nI (sk b L p + 1))) 310 11 = -1 := by rw [gI_sI, if_neg (by omega)]; exact hf
        have xi : ixB (nI x) (kLn κ) = true := ixT hx (by omega)
        have xc : Int32.toNatClampNeg (nI x) = x := clT (by omega)
        have xr : ixB (nI (F + x)) (ln r) = true := ixT (by omega) (by omega)
        have xm : ixB (nI (F + x)) (ln rm) = true := ixT (by omega) (by omega)
        have xcF : Int32.toNatClampNeg (nI (F + x)) = F + x := clT (by omega)
        have sC1 : Sm (tHc r F) σ (sI σ 1 2 (nI (sk b L p + 1))) := Sm.rf.sI rfl
        have sM1 : Sm (tHm rm F) τ (sI τ 310 10 (nI (sk b L p + 1))) := Sm.rf.sI rfl
        have eC : fX1_items_l94 7 r (nI F) (1100 + 2 * κ) (1000 + 3 * κ) (1000 + (3 * κ + 1)) (mk P (kLn κ)) (nI i) σ = bnd2 (fX7_number 1 2 (nI (kLo κ x)) (nI (kHi κ x)) (sI σ 1 2 (nI (sk b L p + 1)))) fun vk17 sk17 => if vk17 < 0 then some (Sum.inr (Sum.inl (0, sk17))) else some (Sum.inl ((mk P (kLn κ) ||| shlI 1 (nI x)), nI (i + 1), sI sk17 r (F + x) vk17)) := by
          unfold fX1_items_l94 slen
          rw [t1, if_neg n0, r0, Option.bind_some, c_nextOf h _ t2, bnd2_some, e, if_neg nx, t3, if_pos xl, mk_at P (by omega) hx, if_neg hPx, if_neg (show ¬ (0 : Int32) = 1 by decide), show gR (sI σ 1 2 (nI (sk b L p))) 7 0 = some 1 from r0, Option.bind_some, t4]
          simp only [xi, xc, if_true, hC.2.2.2.2.1, nI_1, sI_sI, nI_add, xr, xcF]
          rw [show 1000 + 3 * κ - 1000 = 3 * κ by omega, show 1000 + (3 * κ + 1) - 1000 = 3 * κ + 1 by omega, k1, k2]
          simp only [if_pos (show nI (F + x) < nI (ln r) from (ltT (by omega) (by omega)).mpr (by omega))]
        have eM : fX10_readItems_l45 310 (kCh κ) rm (nI F) (1100 + 2 * κ) (mk P (kLn κ)) (nI x) τ = bnd2 (fX10_number 310 (nI (kLo κ x)) (nI (kHi κ x)) (sI τ 310 10 (nI (sk b L p + 1)))) fun vk13 sk13 => if (gI (sI sk13 rm (F + x) vk13) 310 11) = (-1) then bnd2 (fX10_look 310 (sI sk13 rm (F + x) vk13)) fun vk16 sk16 => (fX10_spotOf (1100 + 2 * κ) vk16 sk16).bind fun vk17 => some (Sum.inl ((mk P (kLn κ) ||| (shlI 1 (nI x))), vk17, sk16)) else some (Sum.inl ((mk P (kLn κ) ||| (shlI 1 (nI x))), nI x, (sI sk13 rm (F + x) vk13))) := by
          unfold fX10_readItems_l45 fX10_has
          rw [if_neg (fun z => (eqN1 (by omega)).mp z), hf, if_pos rfl, mk_at P (by omega) hx, if_neg hPx, if_neg (show ¬ (0 : Int32) = 1 by decide), Option.bind_some, if_pos rfl, k.2.2.2.2.2.2.2.1, nI_1, m_least hκ hx, Option.bind_some, m_most hκ hx, Option.bind_some]
          simp only [nI_add, xm, xcF, if_true]
        rcases X_num2 (lo := kLo κ x) (hi := kHi κ x) hC1 hM1 f1 (by omega) (by omega) with ⟨ee, σ', τ', v, a1, a2, a3, a4, a5, a6, a7⟩ | ⟨v, q, a1, a2, a3, a4, a5, a6⟩
        · rw [a1, bnd2_some, if_pos (by decide)] at eC
          rw [a4, bnd2_some, if_neg (by rw [gI_sI, if_neg (by omega), a5]; exact fun z => (eqN1 (by omega)).mp z)] at eM
          refine ⟨σ', sI τ' rm (F + x) v, sC1.tr (a3.mono (fun c k hc => (Bool.or_eq_false_iff.mp hc).1)), (sM1.tr (a6.mono (fun c k hc => (Bool.or_eq_false_iff.mp hc).1))).sI (by unfold tHm; simp), Or.inl ⟨ee, ?_, a2, ?_, by rw [gI_sI, if_neg (by omega)]; exact a5, a7⟩⟩
          · rw [whR eC]; rfl
          · have eM2 : fX10_readItems_l45 310 (kCh κ) rm (nI F) (1100 + 2 * κ) (mk P (kLn κ) ||| shlI 1 (nI x)) (nI x) (sI τ' rm (F + x) v) = some (Sum.inr (Sum.inl (sI τ' rm (F + x) v))) := by
              unfold fX10_readItems_l45
              have g11 : gI (sI τ' rm (F + x) v) 310 11 = nI ee := by rw [gI_sI, if_neg (by omega)]; exact a5
              rw [if_neg (fun z => (eqN1 (by omega)).mp z), g11, if_neg (fun z => (eqN1 (by omega)).mp z)]
            rw [e, whL eM, whR eM2]; rfl
        · obtain ⟨u1, u2, u3⟩ := sk_bd (b := b) (show q ≤ L from a4)
          have hMq : TM (sI (sI (sI τ 310 10 (nI (sk b L p + 1))) 310 10 (nI q)) rm (F + x) (nI v)) 311 0 b L q := (hM1.cur (q := q) a4).oth (Or.inr ⟨by omega, by omega, by omega⟩)
          rw [a5, bnd2_some, if_neg (nI_pos (by omega)), sI_sI] at eC
          have hMq' : TM (sI (sI τ 310 10 (nI q)) rm (F + x) (nI v)) 311 0 b L q := by rw [sI_sI] at hMq; exact hMq
          rw [a6, bnd2_some, sI_sI, if_pos (by rw [gI_sI, if_neg (by omega), gI_sI, if_neg (by omega)]; exact hf), m_look hMq', bnd2_some, m_spot _ _ (by rw [t1]; omega), Option.bind_some] at eM
          have hmask : mk P (kLn κ) ||| shlI 1 (nI x) = mk (fun y => P y || decide (y = x)) (kLn κ) := by rw [one_mk hx (by omega), mk_or _ _ (by omega)]
          have hPf : P x = false := by simpa using hPx
          have hCq : TC (sI (sI σ 1 2 (nI q)) r (F + x) (nI v)) b L q := by
            have s9 : Sm (fun c (_ : Nat) => c == r) (sI σ 1 2 (nI q)) (sI (sI σ 1 2 (nI q)) r (F + x) (nI v)) := Sm.rf.sI (by simp)
            exact (h.cur a4).sm s9 (by simp; omega) (by simp; omega) (fun _ => by simp; omega)
          have hTq : TM (sI (sI (sI τ 310 10 (nI q)) rm (F + x) (nI v)) 310 10 (nI (sk b L q))) 311 0 b L (sk b L q) := hMq'.cur u2
          have hVq : Vals F κ r rm (sI (sI σ 1 2 (nI q)) r (F + x) (nI v)) (sI (sI (sI τ 310 10 (nI q)) rm (F + x) (nI v)) 310 10 (nI (sk b L q))) := by
            intro y hy
            simp only [gI_sI]
            by_cases z : y = x
            · subst z
              exact ⟨v, a1, a2, by rw [if_pos (by simp)], by rw [if_neg (by omega), if_pos (by simp)]⟩
            · rw [if_neg (by omega), if_neg (by omega), if_neg (by omega), if_neg (by omega), if_neg (by omega)]
              exact hV y hy
          have sC2 : Sm (tHc r F) σ (sI (sI σ 1 2 (nI q)) r (F + x) (nI v)) := (Sm.rf.sI rfl).sI (by unfold tHc; simp)
          have sM2 : Sm (tHm rm F) τ (sI (sI (sI τ 310 10 (nI q)) rm (F + x) (nI v)) 310 10 (nI (sk b L q))) := ((Sm.rf.sI rfl).sI (by unfold tHm; simp)).sI rfl
          obtain ⟨σ', τ', c1, c2, c3⟩ := ih (i + 1) (fun y => P y || decide (y = x)) (sI (sI σ 1 2 (nI q)) r (F + x) (nI v)) (sI (sI (sI τ 310 10 (nI q)) rm (F + x) (nI v)) 310 10 (nI (sk b L q))) q (by omega) (by rw [cnt_add P _ x hx hPf, hi]) r0 hCq hTq (by simp only [gI_sI]; rw [if_neg (by omega), if_neg (by omega), if_neg (by omega)]; exact hf) hVq K (K' + 1) (by omega) (by omega)
          have wC : wh (fun a : Int32 × Int32 × Mm => fX1_items_l94 7 r (nI F) (1100 + 2 * κ) (1000 + 3 * κ) (1000 + (3 * κ + 1)) a.1 a.2.1 a.2.2) (K + 1) (mk P (kLn κ), nI i, σ) = wh (fun a : Int32 × Int32 × Mm => fX1_items_l94 7 r (nI F) (1100 + 2 * κ) (1000 + 3 * κ) (1000 + (3 * κ + 1)) a.1 a.2.1 a.2.2) K (mk (fun y => P y || decide (y = x)) (kLn κ), nI (i + 1), sI (sI σ 1 2 (nI q)) r (F + x) (nI v)) := by
            rw [← hmask]; exact whL eC
          have wM : wh (fun a : Int32 × Int32 × Mm => fX10_readItems_l45 310 (kCh κ) rm (nI F) (1100 + 2 * κ) a.1 a.2.1 a.2.2) (K' + 1 + 1) (mk P (kLn κ), nI x, τ) = wh (fun a : Int32 × Int32 × Mm => fX10_readItems_l45 310 (kCh κ) rm (nI F) (1100 + 2 * κ) a.1 a.2.1 a.2.2) (K' + 1) (mk (fun y => P y || decide (y = x)) (kLn κ), six (1100 + 2 * κ) (sg b L q), sI (sI (sI τ 310 10 (nI q)) rm (F + x) (nI v)) 310 10 (nI (sk b L q))) := by
            rw [← hmask]; exact whL eM
          rw [e, wC, wM]
          refine ⟨σ', τ', sC2.tr c1, sM2.tr c2, ?_⟩
          rcases c3 with c3 | ⟨q', d1, d2⟩
          · exact Or.inl c3
          · exact Or.inr ⟨q', by omega, d2⟩
end Items
