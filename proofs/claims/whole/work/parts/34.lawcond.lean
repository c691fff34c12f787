/-! laws: comparisons, UNITS, TRUTHS, CONDITIONS, both parsers in step -/
section LawD
variable {σ τ : Mm} {b : Nat → Nat} {L p : Nat} {ℓ : Nat → Int32}
def QB (v : Int32) : Prop := v = 0 ∨ v = 1
theorem OUT.pre {Q : Int32 → Prop} {j a B d n0 n P : Nat} {σ1 τ1 : Mm} {c m : Option (Int32 × Mm)} (h : OUT Q j a B b L ℓ d n0 n P σ1 τ1 c m) (hp : p ≤ P) (s : Sm (tLc j) σ σ1) (t : Sm tLm τ τ1) (e : ∀ i, i < n → gI σ1 (49 + 4 * j) i = gI σ (49 + 4 * j) i ∧ gI σ1 (50 + 4 * j) i = gI σ (50 + 4 * j) i) : OUT Q j a B b L ℓ d n0 n p σ τ c m := by
  rcases h with ⟨e', σ', τ', w, a1, a2, a3, a4, a5, a6, a7, a8⟩ | ⟨q, n', w, σ', τ', b1, b2, b3, b4, b5, b6, b7, b8, b9, b10, b11⟩
  · exact Or.inl ⟨e', σ', τ', w, a1, a2, a3, a4, a5, a6, s.tr a7, t.tr a8⟩
  · exact Or.inr ⟨q, n', w, σ', τ', b1, b2, by omega, b4, by omega, b6, b7, s.tr b8, t.tr b9, fun x hx => ⟨(b10 x hx).1.trans (e x hx).1, (b10 x hx).2.trans (e x hx).2⟩, b11⟩
theorem cur_codes {j n : Nat} {x : Int32} : ∀ i, i < n → gI (sI σ 1 2 x) (49 + 4 * j) i = gI σ (49 + 4 * j) i ∧ gI (sI σ 1 2 x) (50 + 4 * j) i = gI σ (50 + 4 * j) i := fun i _ => by
  rw [gI_sI, if_neg (by omega), gI_sI, if_neg (by omega)]
  exact ⟨rfl, rfl⟩
theorem SegV.congr {j n0 n' : Nat} {v : Int32} {σ' : Mm} (h : SegV σ j ℓ n0 n' v) (e : ∀ i, i < n' → gI σ' (49 + 4 * j) i = gI σ (49 + 4 * j) i ∧ gI σ' (50 + 4 * j) i = gI σ (50 + 4 * j) i) : SegV σ' j ℓ n0 n' v := fun hz => ⟨(h hz).1.congr (fun x _ hx => e x hx), (h hz).2⟩
theorem isS (x : Int32) (s t : Mm) : ∃ y, fX3_isComparison x s = some y ∧ fX10_isSign x t = some y ∧ ((y = 0 ∧ ¬ x = 61 ∧ ¬ x = 60 ∧ ¬ x = 62) ∨ (y = 1 ∧ (x = 61 ∨ x = 60 ∨ x = 62))) := by
  unfold fX3_isComparison fX10_isSign
  by_cases q1 : x = 61
  · rw [if_pos q1]; exact ⟨1, rfl, rfl, Or.inr ⟨rfl, Or.inl q1⟩⟩
  · rw [if_neg q1]
    by_cases q2 : x = 60
    · rw [if_pos q2]; exact ⟨1, rfl, rfl, Or.inr ⟨rfl, Or.inr (Or.inl q2)⟩⟩
    · rw [if_neg q2]
      by_cases q3 : x = 62
      · rw [if_pos q3]; exact ⟨1, rfl, rfl, Or.inr ⟨rfl, Or.inr (Or.inr q3)⟩⟩
      · rw [if_neg q3]; exact ⟨0, rfl, rfl, Or.inl ⟨rfl, q1, q2, q3⟩⟩
theorem lcl01 : lcl 0 = 0 ∧ lcl 1 = 1 := by decide
def cvl (c v w : Int32) : Int32 := if c = 61 then (if v = w then 1 else 0) else if c = 60 then (if w ≤ v then 0 else 1) else if v ≤ w then 0 else 1
theorem cvl_eq {c v w : Int32} (hc : c = 61 ∨ c = 60 ∨ c = 62) : cvl c v w = jn c v w := by
  unfold cvl jn
  rw [lcl01.1, lcl01.2]
  rcases hc with rfl | rfl | rfl
  · rw [if_pos rfl, if_neg (show ¬ (61 : Int32) = 38 by decide), if_neg (show ¬ (61 : Int32) = 42 by decide), if_neg (show ¬ (61 : Int32) = 43 by decide), if_neg (show ¬ (61 : Int32) = 45 by decide), if_neg (show ¬ (61 : Int32) = 47 by decide), if_neg (show ¬ (61 : Int32) = 60 by decide), if_pos rfl]
  · rw [if_neg (show ¬ (60 : Int32) = 61 by decide), if_pos rfl, if_neg (show ¬ (60 : Int32) = 38 by decide), if_neg (show ¬ (60 : Int32) = 42 by decide), if_neg (show ¬ (60 : Int32) = 43 by decide), if_neg (show ¬ (60 : Int32) = 45 by decide), if_neg (show ¬ (60 : Int32) = 47 by decide), if_pos rfl]
  · rw [if_neg (show ¬ (62 : Int32) = 61 by decide), if_neg (show ¬ (62 : Int32) = 60 by decide), if_neg (show ¬ (62 : Int32) = 38 by decide), if_neg (show ¬ (62 : Int32) = 42 by decide), if_neg (show ¬ (62 : Int32) = 43 by decide), if_neg (show ¬ (62 : Int32) = 45 by decide), if_neg (show ¬ (62 : Int32) = 47 by decide), if_neg (show ¬ (62 : Int32) = 60 by decide), if_neg (show ¬ (62 : Int32) = 61 by decide), if_pos rfl]
theorem cvl_b (c v w : Int32) : QB (cvl c v w) := by
  unfold cvl QB
  repeat (first | exact Or.inl rfl | exact Or.inr rfl | split)
theorem nmB {v : Int32} (h : QB v) : NM v := by
  rcases h with rfl | rfl <;> unfold NM <;> decide
theorem b61_cur {j a B n d : Nat} (RC : RecT) (h : ST j a B b L ℓ σ τ p n d) : fX3_unit_b61 RC (48 + 4 * j) (nI d) (sI σ 1 2 (nI (sk b L p))) = fX3_unit_b61 RC (48 + 4 * j) (nI d) σ := by
  have h0 := h.cur (sk_bd (b := b) h.tc.1).2.1
  unfold fX3_unit_b61
  rw [h.r0, h0.r0, Option.bind_some, Option.bind_some, c_next h.tc, c_next h0.tc, bnd2_some, bnd2_some, sg_sk h.tc.1, sk_sk h.tc.1, sI_sI]
theorem X_cmpB {j a B n d n0 : Nat} {v : Int32} (RC RM : RecT) (hS : ∀ (σ τ : Mm) (p n : Nat), n ≤ p → ST j a B b L ℓ σ τ p n d → OUT QT j a B b L ℓ d n n p σ τ (RC 4 (48 + 4 * j) (nI d) 0 σ) (RM 2 310 0 0 τ)) (h : ST j a B b L ℓ σ τ p n d) (hn : n ≤ p) (hv : SegV σ j ℓ n0 n v) : OUT QB j a B b L ℓ d n0 n p σ τ (fX3_unit_b61 RC (48 + 4 * j) (nI d) σ) (fX10_compares_b12 RM 310 v τ) := by
  obtain ⟨s1, s2, s3⟩ := sk_bd (b := b) h.tc.1
  have hL := h.tc.2.1
  have h0 := h.cur s2
  obtain ⟨y, y1, y2, y3⟩ := isS (sg b L p) (sI σ 1 2 (nI (sk b L p))) (sI τ 310 10 (nI (sk b L p)))
  unfold fX3_unit_b61 fX10_compares_b12
  rw [h.r0, Option.bind_some, c_next h.tc, bnd2_some, y1, Option.bind_some, h.ok, if_pos rfl, m_look h.tm, bnd2_some, y2, Option.bind_some]
  rcases y3 with ⟨rfl, n1, n2, n3⟩ | ⟨rfl, hc⟩
  · left
    rw [if_pos rfl, if_pos rfl, h0.r0, Option.bind_some, c_wrong h0.tc, bnd2_some, m_fails h0.tm h0.ok, bnd2_some]
    exact ⟨sk b L p, _, _, _, rfl, by rw [gI_sI, if_pos ⟨rfl, rfl⟩], rfl, by rw [gI_sI, if_pos ⟨rfl, rfl⟩], by omega, Or.inl rfl, (Sm.rf.sI rfl).sI rfl, (Sm.rf.sI rfl).sI rfl⟩
  · have hlt : sk b L p < L := by
      rcases hc with q | q | q
      · exact sg_lt (x := 61) (by omega) q
      · exact sg_lt (x := 60) (by omega) q
      · exact sg_lt (x := 62) (by omega) q
    have h1 := h.cur (q := sk b L p + 1) (by omega)
    rw [if_neg z1, if_neg z1, h0.r0, Option.bind_some, h0.tc.2.2.2.2.1, nI_1, sI_sI, h0.tm.2.2.2.2.2.2.2.1, nI_1, sI_sI]
    rcases hS _ _ (sk b L p + 1) n (by omega) h1 with ⟨e', σ', τ', w, a1, a2, a3, a4, a5, a6, a7, a8⟩ | ⟨q, n', w, σ', τ', b1, b2, b3, b4, b5, b6, b7, b8, b9, b10, b11⟩
    · left
      have em : (if sg b L p = 61 then if v = w then some ((1 : Int32), τ') else some (0, τ') else if sg b L p = 60 then if w ≤ v then some (0, τ') else some (1, τ') else if v ≤ w then some (0, τ') else some (1, τ')) = some (cvl (sg b L p) v w, τ') := by
        unfold cvl
        repeat (first | rfl | split)
      rw [a1, bnd2_some, if_pos rfl, a3, bnd2_some, em]
      exact ⟨e', _, _, _, rfl, a2, rfl, a4, a5, cvl_b _ _ _, (Sm.rf.sI rfl : Sm (tLc j) σ (sI σ 1 2 (nI (sk b L p + 1)))).tr a7, (Sm.rf.sI rfl : Sm tLm τ (sI τ 310 10 (nI (sk b L p + 1)))).tr a8⟩
    · right
      have em : (if sg b L p = 61 then if v = w then some ((1 : Int32), τ') else some (0, τ') else if sg b L p = 60 then if w ≤ v then some (0, τ') else some (1, τ') else if v ≤ w then some (0, τ') else some (1, τ')) = some (cvl (sg b L p) v w, τ') := by
        unfold cvl
        repeat (first | rfl | split)
      have hqL := b6.tc.1
      obtain ⟨σ2, c1, c2, c3, c4, c5, c6⟩ := b6.emit (by omega) (sg b L p) 0
      rw [b1, bnd2_some, if_neg z1, c1, Option.bind_some, b2, bnd2_some, em]
      refine ⟨q, n' + 1, _, _, _, rfl, rfl, by omega, by omega, by omega, c2, cvl_b _ _ _, ((Sm.rf.sI rfl : Sm (tLc j) σ (sI σ 1 2 (nI (sk b L p + 1)))).tr b8).tr c3, (Sm.rf.sI rfl : Sm tLm τ (sI τ 310 10 (nI (sk b L p + 1)))).tr b9, fun x hx => ?_, fun hz => ?_⟩
      · rw [(c6 x (by omega)).1, (c6 x (by omega)).2, (b10 x hx).1, (b10 x hx).2]
        exact cur_codes x hx
      · obtain ⟨g1, g2⟩ := hv hz
        obtain ⟨g3, g4⟩ := b11 hz
        have t1 : Seg (gI σ2 (49 + 4 * j)) (gI σ2 (50 + 4 * j)) ℓ n0 n v := g1.congr (fun x x1 x2 => by
          rw [(c6 x (by omega)).1, (c6 x (by omega)).2, (b10 x x2).1, (b10 x x2).2]
          exact cur_codes x x2)
        have t2 : Seg (gI σ2 (49 + 4 * j)) (gI σ2 (50 + 4 * j)) ℓ n n' w := g3.congr (fun x x1 x2 => c6 x (by omega))
        have hop : isOp (sg b L p) := by
          unfold isOp
          rcases hc with z | z | z <;> rw [z] <;> decide
        have := t1.op t2 (by rw [c4]; exact hop)
        rw [c4, ← cvl_eq hc] at this
        exact ⟨this, nmB (cvl_b _ _ _)⟩
def cmpC (RC : RecT) (l : Nat) (d : Int32) (σ : Mm) : Option (Int32 × Mm) := bnd2 (RC 4 l d 0 σ) fun vk15 sk15 => if vk15 = 0 then some (0, sk15) else fX3_unit_b61 RC l d sk15
theorem X_cmp0 {j a B n d : Nat} {x : Int32} (RC RM : RecT) (hS : ∀ (σ τ : Mm) (p n : Nat), n ≤ p → ST j a B b L ℓ σ τ p n d → OUT QT j a B b L ℓ d n n p σ τ (RC 4 (48 + 4 * j) (nI d) 0 σ) (RM 2 310 0 0 τ)) (h : ST j a B b L ℓ σ τ p n d) (hn : n ≤ p) : OUT QB j a B b L ℓ d n n p σ τ (cmpC RC (48 + 4 * j) (nI d) σ) (fX10_compares RM 310 0 x τ) := by
  unfold cmpC fX10_compares
  rw [if_pos rfl]
  rcases hS σ τ p n hn h with ⟨e', σ', τ', w, a1, a2, a3, a4, a5, a6, a7, a8⟩ | ⟨q, n', w, σ', τ', b1, b2, b3, b4, b5, b6, b7, b8, b9, b10, b11⟩
  · left
    have e12 : fX10_compares_b12 RM 310 w τ' = some (0, τ') := by
      unfold fX10_compares_b12
      rw [a4, if_neg (fun z => (eqN1 (by omega)).mp z)]
    rw [a1, bnd2_some, if_pos rfl, a3, bnd2_some, e12]
    exact ⟨e', _, _, _, rfl, a2, rfl, a4, a5, Or.inl rfl, a7, a8⟩
  · rw [b1, bnd2_some, if_neg z1, b2, bnd2_some]
    rcases X_cmpB RC RM hS b6 (by omega) b11 with ⟨e', s', t', w', d1, d2, d3, d4, d5, d6, d7, d8⟩ | ⟨q', n'', w', s', t', d1, d2, d3, d4, d5, d6, d7, d8, d9, d10, d11⟩
    · exact Or.inl ⟨e', s', t', w', d1, d2, d3, d4, d5, d6, b8.tr d7, b9.tr d8⟩
    · exact Or.inr ⟨q', n'', w', s', t', d1, d2, by omega, by omega, by omega, d6, d7, b8.tr d8, b9.tr d9, fun x hx => ⟨(d10 x (by omega)).1.trans (b10 x hx).1, (d10 x (by omega)).2.trans (b10 x hx).2⟩, d11⟩
theorem dec_deep {j a B n d q : Nat} (h : ST j a B b L ℓ σ τ q n (d + 1)) : ST j a B b L ℓ σ (sI τ 310 12 (gI τ 310 12 - 1)) q n d := by
  rw [h.dp, show (1 : Int32) = nI 1 from rfl, pk_sub (by omega), Nat.add_sub_cancel]
  exact ⟨h.rf, h.hj, h.tc, h.sz, h.tm.oth (Or.inl ⟨rfl, by omega⟩), by rw [gI_sI, if_neg (by omega)]; exact h.ok, by rw [gI_sI, if_pos ⟨rfl, rfl⟩], h.lt.cur⟩
theorem X_unit {j a B n d : Nat} (RC RC' RM : RecT) (hC : ∀ (σ τ : Mm) (p n : Nat), n ≤ p → ST j a B b L ℓ σ τ p n d → OUT QB j a B b L ℓ d n n p σ τ (cmpC RC (48 + 4 * j) (nI d) σ) (RM 3 310 0 0 τ)) (hN : ∀ x s, RC 3 (48 + 4 * j) (nI d) x s = fX3_nestedUnit RC' (48 + 4 * j) (nI d) x s) (hU : d < 6 → ∀ (σ τ : Mm) (p n : Nat), n ≤ p → ST j a B b L ℓ σ τ p n (d + 1) → OUT QB j a B b L ℓ (d + 1) n n p σ τ (RC' 2 (48 + 4 * j) (nI (d + 1)) 0 σ) (RM 4 310 0 0 τ)) (hO : d < 6 → ∀ (σ τ : Mm) (p n : Nat), n ≤ p → ST j a B b L ℓ σ τ p n (d + 1) → OUT QB j a B b L ℓ (d + 1) n n p σ τ (RC' 0 (48 + 4 * j) (nI (d + 1)) 0 σ) (RM 6 310 0 0 τ)) (hd : d ≤ 6) (h : ST j a B b L ℓ σ τ p n d) (hn : n ≤ p) : OUT QB j a B b L ℓ d n n p σ τ (fX3_unit RC (48 + 4 * j) (nI d) 0 σ) (fX10_unit RM 310 τ) := by
  obtain ⟨s1, s2, s3⟩ := sk_bd (b := b) h.tc.1
  have hL := h.tc.2.1
  have h0 := h.cur s2
  have eC : fX3_unit RC (48 + 4 * j) (nI d) 0 σ = if sg b L p = 33 ∨ sg b L p = 40 then fX3_unit_b24 RC (48 + 4 * j) (nI d) (sg b L p) (sI σ 1 2 (nI (sk b L p))) else cmpC RC (48 + 4 * j) (nI d) (sI σ 1 2 (nI (sk b L p))) := by
    unfold fX3_unit
    rw [h.r0, Option.bind_some, c_next h.tc, bnd2_some, if_pos rfl]
    have e47 : fX3_unit_b47 RC (48 + 4 * j) (nI d) 0 (sI σ 1 2 (nI (sk b L p))) = cmpC RC (48 + 4 * j) (nI d) (sI σ 1 2 (nI (sk b L p))) := by
      unfold fX3_unit_b47 cmpC
      rw [if_pos rfl]
    rw [e47]
    by_cases q1 : sg b L p = 33
    · rw [if_pos q1, if_pos (Or.inl q1)]
    · rw [if_neg q1]
      by_cases q2 : sg b L p = 40
      · rw [if_pos q2, if_pos (Or.inr q2)]
      · rw [if_neg q2, if_neg (fun z => z.elim q1 q2)]
  have eM : fX10_unit RM 310 τ = (fun vk1 sk1 => if vk1 = 33 then bnd2 (fX10_goesIn 310 sk1) fun vk10 sk10 => if vk10 = 0 then some (0, sk10) else bnd2 (RM 4 310 0 0 sk10) fun vk12 sk12 => if vk12 = 0 then some (1, (sI sk12 310 12 ((gI sk12 310 12) - 1))) else some (0, (sI sk12 310 12 ((gI sk12 310 12) - 1))) else if vk1 = 40 then bnd2 (fX10_goesIn 310 sk1) fun vk5 sk5 => if vk5 = 0 then some (0, sk5) else bnd2 (RM 6 310 0 0 sk5) fun vk7 sk7 => bnd2 (fX10_takes 310 41 sk7) fun vk8 sk8 => if vk8 = 0 then some (0, sk8) else some (vk7, (sI sk8 310 12 ((gI sk8 310 12) - 1))) else bnd2 (RM 3 310 0 0 sk1) fun vk4 sk4 => some (vk4, sk4)) (sg b L p) (sI τ 310 10 (nI (sk b L p))) := by
    unfold fX10_unit
    rw [m_look h.tm, bnd2_some]
  dsimp only at eM
  have sC0 : Sm (tLc j) σ (sI σ 1 2 (nI (sk b L p))) := Sm.rf.sI rfl
  have sM0 : Sm tLm τ (sI τ 310 10 (nI (sk b L p))) := Sm.rf.sI rfl
  by_cases qq : sg b L p = 33 ∨ sg b L p = 40
  · rw [if_pos qq] at eC
    have hlt : sk b L p < L := by
      rcases qq with q | q
      · exact sg_lt (x := 33) (by omega) q
      · exact sg_lt (x := 40) (by omega) q
    unfold fX3_unit_b24 at eC
    rw [m_goIn h0.tm hd h0.dp h0.ok] at eM
    by_cases q6 : d = 6
    · left
      rw [if_pos (show (6 : Int32) ≤ nI d by rw [q6]; exact Int32.le_refl _), h0.r0, Option.bind_some, c_wrong h0.tc, bnd2_some] at eC
      rw [if_pos q6, bnd2_some, if_pos rfl, bnd2_some, if_pos rfl] at eM
      have eM2 : fX10_unit RM 310 τ = some (0, sI (sI τ 310 10 (nI (sk b L p))) 310 11 (nI (sk b L p))) := by
        rw [eM]
        rcases qq with q | q
        · rw [if_pos q]
        · rw [q, if_neg (by decide), if_pos rfl]
      exact ⟨sk b L p, _, _, _, eC, by rw [gI_sI, if_pos ⟨rfl, rfl⟩], eM2, by rw [gI_sI, if_pos ⟨rfl, rfl⟩], by omega, Or.inl rfl, (Sm.rf.sI rfl).sI rfl, (Sm.rf.sI rfl).sI rfl⟩
    · have d6 : d < 6 := by omega
      rw [if_neg (show ¬ (6 : Int32) ≤ nI d from fun z => absurd ((leT (a := 6) (by omega) (by omega)).mp z) (by omega)), hN] at eC
      rw [if_neg q6, bnd2_some, if_neg z1, bnd2_some, if_neg z1] at eM
      have hq := h.cur (q := sk b L p + 1) (by omega)
      have e2 : sI (sI (sI τ 310 10 (nI (sk b L p))) 310 12 (nI (d + 1))) 310 10 (nI (sk b L p + 1)) = sI (sI τ 310 10 (nI (sk b L p + 1))) 310 12 (nI (d + 1)) := by
        unfold sI
        refine Prod.ext ?_ rfl
        funext x y
        dsimp only
        by_cases c1 : x = 310 ∧ y = 10
        · rw [if_pos c1, if_neg (show ¬ (x = 310 ∧ y = 12) by omega), if_pos c1]
        · rw [if_neg c1]
          by_cases c2 : x = 310 ∧ y = 12
          · rw [if_pos c2, if_pos c2]
          · rw [if_neg c2, if_neg c1, if_neg c2, if_neg c1]
      rw [e2] at eM
      have hST : ST j a B b L ℓ (sI σ 1 2 (nI (sk b L p + 1))) (sI (sI τ 310 10 (nI (sk b L p + 1))) 310 12 (nI (d + 1))) (sk b L p + 1) n (d + 1) :=
        ⟨hq.rf, hq.hj, hq.tc, hq.sz, hq.tm.oth (Or.inl ⟨rfl, by omega⟩), by rw [gI_sI, if_neg (by omega)]; exact hq.ok, by rw [gI_sI, if_pos ⟨rfl, rfl⟩], hq.lt.cur⟩
      have sC1 : Sm (tLc j) σ (sI σ 1 2 (nI (sk b L p + 1))) := Sm.rf.sI rfl
      have sM1 : Sm tLm τ (sI (sI τ 310 10 (nI (sk b L p + 1))) 310 12 (nI (d + 1))) := (Sm.rf.sI rfl).sI rfl
      have cod : ∀ {s : Mm}, (∀ i, i < n → gI s (49 + 4 * j) i = gI (sI σ 1 2 (nI (sk b L p + 1))) (49 + 4 * j) i ∧ gI s (50 + 4 * j) i = gI (sI σ 1 2 (nI (sk b L p + 1))) (50 + 4 * j) i) → ∀ i, i < n → gI s (49 + 4 * j) i = gI σ (49 + 4 * j) i ∧ gI s (50 + 4 * j) i = gI σ (50 + 4 * j) i := fun hh x hx => ⟨(hh x hx).1.trans (cur_codes x hx).1, (hh x hx).2.trans (cur_codes x hx).2⟩
      unfold fX3_nestedUnit at eC
      rw [h0.r0, Option.bind_some, h0.tc.2.2.2.2.1, nI_1, sI_sI, nI_1] at eC
      rcases qq with q33 | q40
      · rw [q33, if_neg (show ¬ (33 : Int32) = 40 by decide)] at eC
        rw [if_pos q33] at eM
        rcases hU d6 _ _ (sk b L p + 1) n (by omega) hST with ⟨e', σ', τ', v, a1, a2, a3, a4, a5, a6, a7, a8⟩ | ⟨q, n', v, σ', τ', b1, b2, b3, b4, b5, b6, b7, b8, b9, b10, b11⟩
        · left
          rw [a1, bnd2_some, if_pos rfl, bnd2_some] at eC
          rw [a3, bnd2_some] at eM
          have eM2 : ∃ w, QB w ∧ fX10_unit RM 310 τ = some (w, sI τ' 310 12 (gI τ' 310 12 - 1)) := by
            rw [eM]
            by_cases z : v = 0
            · rw [if_pos z]; exact ⟨1, Or.inr rfl, rfl⟩
            · rw [if_neg z]; exact ⟨0, Or.inl rfl, rfl⟩
          obtain ⟨w, w1, w2⟩ := eM2
          exact ⟨e', _, _, w, eC, a2, w2, by rw [gI_sI, if_neg (by omega)]; exact a4, a5, w1, sC1.tr a7, (sM1.tr a8).sI rfl⟩
        · right
          have hqL := b6.tc.1
          have hdd := dec_deep b6
          obtain ⟨σ2, c1, c2, c3, c4, c5, c6⟩ := hdd.emit (by omega) 33 0
          rw [b1, bnd2_some, if_neg z1, c1, Option.bind_some, bnd2_some] at eC
          rw [b2, bnd2_some] at eM
          have eM2 : fX10_unit RM 310 τ = some (1 - v, sI τ' 310 12 (gI τ' 310 12 - 1)) := by
            rw [eM]
            rcases b7 with rfl | rfl
            · rw [if_pos rfl]; rfl
            · rw [if_neg z1]; rfl
          refine ⟨q, n' + 1, 1 - v, _, _, eC, eM2, by omega, by omega, by omega, c2, ?_, (sC1.tr b8).tr c3, (sM1.tr b9).sI rfl, cod (fun x hx => ⟨(c6 x (by omega)).1.trans (b10 x hx).1, (c6 x (by omega)).2.trans (b10 x hx).2⟩), fun hz => ?_⟩
          · rcases b7 with rfl | rfl
            · right; rfl
            · left; rfl
          · have t1 : Seg (gI σ2 (49 + 4 * j)) (gI σ2 (50 + 4 * j)) ℓ n n' v := (b11 hz).1.congr (fun x x1 x2 => c6 x x2)
            refine ⟨t1.neg c4, ?_⟩
            rcases b7 with rfl | rfl <;> unfold NM <;> decide
      · rw [q40, if_pos rfl] at eC
        rw [q40, if_neg (show ¬ (40 : Int32) = 33 by decide), if_pos rfl] at eM
        rcases hO d6 _ _ (sk b L p + 1) n (by omega) hST with ⟨e', σ', τ', v, a1, a2, a3, a4, a5, a6, a7, a8⟩ | ⟨q, n', v, σ', τ', b1, b2, b3, b4, b5, b6, b7, b8, b9, b10, b11⟩
        · left
          rw [a1, bnd2_some, if_pos rfl, bnd2_some] at eC
          rw [a3, bnd2_some, m_takesF e' a5 a4, bnd2_some, if_pos rfl] at eM
          exact ⟨e', _, _, _, eC, a2, eM, a4, a5, Or.inl rfl, sC1.tr a7, sM1.tr a8⟩
        · rw [b1, bnd2_some, if_neg z1, b6.r0, Option.bind_some, c_expect b6.tc] at eC
          rw [b2, bnd2_some, m_takes b6.tm b6.ok] at eM
          obtain ⟨u1, u2, u3⟩ := sk_bd (b := b) b6.tc.1
          by_cases q41 : sg b L q = 41
          · right
            have hlt2 := sg_lt (x := 41) (by omega) q41
            rw [if_pos q41, bnd2_some, if_neg z1, bnd2_some] at eC
            rw [if_pos q41, bnd2_some, if_neg z1] at eM
            have hr := dec_deep (b6.cur (q := sk b L q + 1) (by omega))
            exact ⟨sk b L q + 1, n', v, _, _, eC, eM, by omega, by omega, by omega, hr, b7, (sC1.tr b8).sI rfl, ((sM1.tr b9).sI rfl).sI rfl, cod (fun x hx => ⟨(cur_codes x hx).1.trans (b10 x hx).1, (cur_codes x hx).2.trans (b10 x hx).2⟩), b11.congr (fun x hx => cur_codes x hx)⟩
          · left
            rw [if_neg q41, bnd2_some, if_pos rfl, bnd2_some] at eC
            rw [if_neg q41, bnd2_some, if_pos rfl] at eM
            exact ⟨sk b L q, _, _, _, eC, by rw [gI_sI, if_pos ⟨rfl, rfl⟩], eM, by rw [gI_sI, if_pos ⟨rfl, rfl⟩], by omega, Or.inl rfl, ((sC1.tr b8).sI rfl).sI rfl, ((sM1.tr b9).sI rfl).sI rfl⟩
  · rw [if_neg qq] at eC
    rw [if_neg (fun z => qq (Or.inl z)), if_neg (fun z => qq (Or.inr z))] at eM
    have := (hC _ _ (sk b L p) n (by omega) h0).pre (p := p) s1 sC0 sM0 (fun x hx => cur_codes x hx)
    rw [eC, eM]
    have eid : (bnd2 (RM 3 310 0 0 (sI τ 310 10 (nI (sk b L p)))) fun vk4 sk4 => some (vk4, sk4)) = RM 3 310 0 0 (sI τ 310 10 (nI (sk b L p))) := by
      cases RM 3 310 0 0 (sI τ 310 10 (nI (sk b L p))) <;> rfl
    rw [eid]
    exact this
theorem X_unitB {j a B n d n0 : Nat} {v : Int32} (RC RM : RecT) (hS : ∀ (σ τ : Mm) (p n : Nat), n ≤ p → ST j a B b L ℓ σ τ p n d → OUT QT j a B b L ℓ d n n p σ τ (RC 4 (48 + 4 * j) (nI d) 0 σ) (RM 2 310 0 0 τ)) (h : ST j a B b L ℓ σ τ p n d) (hn : n ≤ p) (hv : SegV σ j ℓ n0 n v) : OUT QB j a B b L ℓ d n0 n p σ τ (fX3_unit RC (48 + 4 * j) (nI d) 1 σ) (fX10_compares RM 310 1 v τ) := by
  have eC : fX3_unit RC (48 + 4 * j) (nI d) 1 σ = fX3_unit_b61 RC (48 + 4 * j) (nI d) σ := by
    unfold fX3_unit fX3_unit_b47
    rw [h.r0, Option.bind_some, c_next h.tc, bnd2_some, if_neg z1, if_neg z1, b61_cur RC h]
  have eM : fX10_compares RM 310 1 v τ = fX10_compares_b12 RM 310 v τ := by
    unfold fX10_compares
    rw [if_neg z1]
  rw [eC, eM]
  exact X_cmpB RC RM hS h hn hv
def avl (v w : Int32) : Int32 := if v = 0 then 0 else if w = 0 then 0 else 1
def ovl (v w : Int32) : Int32 := if v = 0 then (if w = 0 then 0 else 1) else 1
theorem avl_eq {v w : Int32} (h : QB v) (h' : QB w) : avl v w = jn 38 v w := by
  rcases h with rfl | rfl <;> rcases h' with rfl | rfl <;> decide
theorem ovl_eq {v w : Int32} (h : QB v) (h' : QB w) : ovl v w = jn 124 v w := by
  rcases h with rfl | rfl <;> rcases h' with rfl | rfl <;> decide
theorem avl_b (v w : Int32) : QB (avl v w) := by
  unfold avl QB
  repeat (first | exact Or.inl rfl | exact Or.inr rfl | split)
theorem ovl_b (v w : Int32) : QB (ovl v w) := by
  unfold ovl QB
  repeat (first | exact Or.inl rfl | exact Or.inr rfl | split)
theorem zB_of {v : Int32} (h : QB v) : zB v = true := decide_eq_true h
/-- as OUT of a truth, where nothing more need be read -/
def OUTB (j a B : Nat) (b : Nat → Nat) (L : Nat) (ℓ : Nat → Int32) (d n0 n p : Nat) (σ τ : Mm) (c m : Option (Int32 × Mm)) : Prop :=
  (∃ e σ' τ' v, c = some (0, σ') ∧ gI σ' 1 3 = nI e ∧ m = some (v, τ') ∧ gI τ' 310 11 = nI e ∧ e ≤ 240 ∧ QB v ∧ Sm (tLc j) σ σ' ∧ Sm tLm τ τ') ∨
  (∃ q n' v σ' τ', c = some (1, σ') ∧ m = some (v, τ') ∧ p ≤ q ∧ n ≤ n' ∧ n' + p ≤ n + q ∧ ST j a B b L ℓ σ' τ' q n' d ∧ QB v ∧ Sm (tLc j) σ σ' ∧ Sm tLm τ τ' ∧ (∀ i, i < n → gI σ' (49 + 4 * j) i = gI σ (49 + 4 * j) i ∧ gI σ' (50 + 4 * j) i = gI σ (50 + 4 * j) i) ∧ SegV σ' j ℓ n0 n' v)
theorem m_truthS (RM : RecT) {v : Int32} {s s' : Mm} {a B : Nat} (k : TM s a B b L p) (hf : gI s 310 11 = -1) (hv : QB v) : fX10_part_l18 RM 310 v s = if sg b L p = 38 then bnd2 (RM 4 310 0 0 (sI s 310 10 (nI (sk b L p + 1)))) (fun w s2 => some (Sum.inl (avl v w, s2))) else some (Sum.inr (v, sI s 310 10 (nI (sk b L p)))) := by
  have kP := k.cur (sk_bd (b := b) k.1).2.1
  unfold fX10_part_l18
  rw [if_pos hf, m_look k, bnd2_some, if_pos (zB_of hv), kP.2.2.2.2.2.2.2.1, nI_1, sI_sI]
  by_cases q : sg b L p = 38
  · rw [if_pos q, if_pos q]
    congr 1
    funext w s2
    unfold avl
    unfold fX10_part_b64 fX10_part_b65
    by_cases q1 : v = 0
    · rw [if_pos q1, if_pos q1]
    · rw [if_neg q1, if_neg q1]
      by_cases q2 : w = 0
      · rw [if_pos q2, if_pos q2]
      · rw [if_neg q2, if_neg q2]
  · rw [if_neg q, if_neg q]
theorem X_truthE {j a B d n0 n i K K' : Nat} {v : Int32} (RC RM : RecT) (hn : n ≤ p) (hi : i ≤ p) (h0 : n0 < n) (h : ST j a B b L ℓ σ τ p n d) (hq : QB v) (hv : SegV σ j ℓ n0 n v) (qc : ¬ sg b L p = 38) : OUTB j a B b L ℓ d n0 n p σ τ (wh (fun x : Int32 × Mm => fX3_truth_l13 RC (48 + 4 * j) (nI d) x.1 x.2) (K + 1) (nI i, σ)) (wh (fun x : Int32 × Mm => fX10_part_l18 RM 310 x.1 x.2) (K' + 1) (v, τ)) := by
  obtain ⟨s1, s2, s3⟩ := sk_bd (b := b) h.tc.1
  have hL := h.tc.2.1
  have hpL := h.tc.1
  right
  refine ⟨sk b L p, n, v, sI σ 1 2 (nI (sk b L p)), sI τ 310 10 (nI (sk b L p)), ?_, ?_, s1, Nat.le_refl _, by omega, h.cur s2, hq, Sm.rf.sI rfl, Sm.rf.sI rfl, fun x hx => cur_codes x hx, hv.congr (fun x hx => cur_codes x hx)⟩
  · refine whR ?_
    dsimp only
    unfold fX3_truth_l13
    rw [if_neg (show ¬ (240 : Int32) < nI i from fun z => absurd ((ltT (a := 240) (by omega) (by omega)).mp z) (by omega)), h.r0, Option.bind_some, c_goOver h.tc, if_neg qc, bnd2_some, if_pos rfl]
  · refine whR ?_
    dsimp only
    rw [m_truthS RM (s' := τ) h.tm h.ok hq, if_neg qc]
theorem X_truthL {j a B d n0 : Nat} (RC RM : RecT) (hA : ∀ (σ τ : Mm) (p n : Nat), n ≤ p → ST j a B b L ℓ σ τ p n d → OUT QB j a B b L ℓ d n n p σ τ (RC 2 (48 + 4 * j) (nI d) 0 σ) (RM 4 310 0 0 τ)) :
    ∀ (D : Nat) (σ τ : Mm) (p n i : Nat) (v : Int32), L - p ≤ D → n ≤ p → i ≤ p → n0 < n → ST j a B b L ℓ σ τ p n d → QB v → SegV σ j ℓ n0 n v → ∀ K K', D + 2 < K → D + 2 < K' →
    OUTB j a B b L ℓ d n0 n p σ τ (wh (fun x : Int32 × Mm => fX3_truth_l13 RC (48 + 4 * j) (nI d) x.1 x.2) K (nI i, σ)) (wh (fun x : Int32 × Mm => fX10_part_l18 RM 310 x.1 x.2) K' (v, τ)) := by
  intro D
  induction D with
  | zero =>
    intro σ τ p n i v hD hn hi h0 h hq hv K K' hK hK'
    obtain ⟨K, rfl⟩ : ∃ x, K = x + 1 := ⟨K - 1, by omega⟩
    obtain ⟨K', rfl⟩ : ∃ x, K' = x + 1 := ⟨K' - 1, by omega⟩
    refine X_truthE RC RM hn hi h0 h hq hv ?_
    intro z
    have := sg_lt (x := 38) (by omega) z
    have := (sk_bd (b := b) h.tc.1).1
    omega
  | succ D ih =>
    intro σ τ p n i v hD hn hi h0 h hq hv K K' hK hK'
    obtain ⟨K, rfl⟩ : ∃ x, K = x + 1 := ⟨K - 1, by omega⟩
    obtain ⟨K', rfl⟩ : ∃ x, K' = x + 1 + 1 := ⟨K' - 2, by omega⟩
    by_cases qc : sg b L p = 38
    · have hL := h.tc.2.1
      have hlt := sg_lt (x := 38) (by omega) qc
      obtain ⟨s1, s2, s3⟩ := sk_bd (b := b) h.tc.1
      have i240 : ¬ (240 : Int32) < nI i := fun z => absurd ((ltT (a := 240) (by omega) (by omega)).mp z) (by omega)
      have h1 := h.cur (q := sk b L p + 1) (by omega)
      have cS : fX3_truth_l13 RC (48 + 4 * j) (nI d) (nI i) σ = bnd2 (RC 2 (48 + 4 * j) (nI d) 0 (sI σ 1 2 (nI (sk b L p + 1)))) fun vk7 sk7 => if vk7 = 0 then some (Sum.inr (0, sk7)) else (fX3_emit (48 + 4 * j) 38 0 sk7).bind fun sk9 => some (Sum.inl (nI (i + 1), sk9)) := by
        unfold fX3_truth_l13
        rw [if_neg i240, h.r0, Option.bind_some, c_goOver h.tc, if_pos qc, bnd2_some, if_neg z1, nI_1]
      have mS := m_truthS RM (s' := τ) h.tm h.ok hq
      rw [if_pos qc] at mS
      rcases hA _ _ (sk b L p + 1) n (by omega) h1 with ⟨e', σ', τ', w, a1, a2, a3, a4, a5, a6, a7, a8⟩ | ⟨q, n', w, σ', τ', b1, b2, b3, b4, b5, b6, b7, b8, b9, b10, b11⟩
      · left
        rw [a1, bnd2_some, if_pos rfl] at cS
        rw [a3, bnd2_some] at mS
        have mE : fX10_part_l18 RM 310 (avl v w) τ' = some (Sum.inr (avl v w, τ')) := by
          unfold fX10_part_l18
          rw [a4, if_neg (fun z => (eqN1 (by omega)).mp z), if_pos (zB_of (avl_b _ _))]
        refine ⟨e', σ', τ', avl v w, whR cS, a2, ?_, a4, a5, avl_b _ _, (Sm.rf.sI rfl : Sm (tLc j) σ (sI σ 1 2 (nI (sk b L p + 1)))).tr a7, (Sm.rf.sI rfl : Sm tLm τ (sI τ 310 10 (nI (sk b L p + 1)))).tr a8⟩
        have : wh (fun x : Int32 × Mm => fX10_part_l18 RM 310 x.1 x.2) (K' + 1 + 1) (v, τ) = wh (fun x : Int32 × Mm => fX10_part_l18 RM 310 x.1 x.2) (K' + 1) (avl v w, τ') := whL mS
        rw [this]
        exact whR mE
      · have hqL := b6.tc.1
        obtain ⟨σ2, c1, c2, c3, c4, c5, c6⟩ := b6.emit (by omega) 38 0
        rw [b1, bnd2_some, if_neg z1, c1, Option.bind_some] at cS
        rw [b2, bnd2_some] at mS
        have eC : wh (fun x : Int32 × Mm => fX3_truth_l13 RC (48 + 4 * j) (nI d) x.1 x.2) (K + 1) (nI i, σ) = wh (fun x : Int32 × Mm => fX3_truth_l13 RC (48 + 4 * j) (nI d) x.1 x.2) K (nI (i + 1), σ2) := whL cS
        have eM : wh (fun x : Int32 × Mm => fX10_part_l18 RM 310 x.1 x.2) (K' + 1 + 1) (v, τ) = wh (fun x : Int32 × Mm => fX10_part_l18 RM 310 x.1 x.2) (K' + 1) (avl v w, τ') := whL mS
        have hseg : SegV σ2 j ℓ n0 (n' + 1) (avl v w) := by
          intro hz
          obtain ⟨g1, g2⟩ := hv hz
          obtain ⟨g3, g4⟩ := b11 hz
          have t1 : Seg (gI σ2 (49 + 4 * j)) (gI σ2 (50 + 4 * j)) ℓ n0 n v := g1.congr (fun x x1 x2 => by
            rw [(c6 x (by omega)).1, (c6 x (by omega)).2, (b10 x x2).1, (b10 x x2).2]
            exact cur_codes x x2)
          have t2 : Seg (gI σ2 (49 + 4 * j)) (gI σ2 (50 + 4 * j)) ℓ n n' w := g3.congr (fun x x1 x2 => c6 x x2)
          have := t1.op t2 (by rw [c4]; unfold isOp; decide)
          rw [c4, ← avl_eq hq b7] at this
          exact ⟨this, nmB (avl_b _ _)⟩
        rw [eC, eM]
        have sC0 : Sm (tLc j) σ σ2 := ((Sm.rf.sI rfl : Sm (tLc j) σ (sI σ 1 2 (nI (sk b L p + 1)))).tr b8).tr c3
        have sM0 : Sm tLm τ τ' := (Sm.rf.sI rfl : Sm tLm τ (sI τ 310 10 (nI (sk b L p + 1)))).tr b9
        rcases ih σ2 τ' q (n' + 1) (i + 1) (avl v w) (by omega) (by omega) (by omega) (by omega) c2 (avl_b _ _) hseg K (K' + 1) (by omega) (by omega) with ⟨e', s', t', w', d1, d2, d3, d4, d5, d6, d7, d8⟩ | ⟨q', n'', w', s', t', d1, d2, d3, d4, d5, d6, d7, d8, d9, d10, d11⟩
        · exact Or.inl ⟨e', s', t', w', d1, d2, d3, d4, d5, d6, sC0.tr d7, sM0.tr d8⟩
        · refine Or.inr ⟨q', n'', w', s', t', d1, d2, by omega, by omega, by omega, d6, d7, sC0.tr d8, sM0.tr d9, fun x hx => ?_, d11⟩
          rw [(d10 x (by omega)).1, (d10 x (by omega)).2, (c6 x (by omega)).1, (c6 x (by omega)).2, (b10 x hx).1, (b10 x hx).2]
          exact cur_codes x hx
    · exact X_truthE RC RM hn hi h0 h hq hv qc
theorem X_truth {j a B n d n0 : Nat} {bg : Int32} {M1 : Option (Int32 × Mm)} (RC RM : RecT) (hA : ∀ (σ τ : Mm) (p n : Nat), n ≤ p → ST j a B b L ℓ σ τ p n d → OUT QB j a B b L ℓ d n n p σ τ (RC 2 (48 + 4 * j) (nI d) 0 σ) (RM 4 310 0 0 τ)) (h0 : n0 ≤ n) (h1 : OUT QB j a B b L ℓ d n0 n p σ τ (RC 2 (48 + 4 * j) (nI d) bg σ) M1) (hn : n ≤ p) : OUT QB j a B b L ℓ d n0 n p σ τ (fX3_truth RC (48 + 4 * j) (nI d) bg σ) (bnd2 M1 fun v s => wh (fun x : Int32 × Mm => fX10_part_l18 RM 310 x.1 x.2) BIG (v, s)) := by
  unfold fX3_truth fX3_truth_w13
  rcases h1 with ⟨e', σ', τ', w, a1, a2, a3, a4, a5, a6, a7, a8⟩ | ⟨q, n', w, σ', τ', b1, b2, b3, b4, b5, b6, b7, b8, b9, b10, b11⟩
  · left
    have mE : wh (fun x : Int32 × Mm => fX10_part_l18 RM 310 x.1 x.2) BIG (w, τ') = some (w, τ') := by
      rw [show BIG = 999999 + 1 from rfl]
      refine whR ?_
      dsimp only
      unfold fX10_part_l18
      rw [a4, if_neg (fun z => (eqN1 (by omega)).mp z), if_pos (zB_of a6)]
    refine ⟨e', σ', τ', w, ?_, a2, ?_, a4, a5, a6, a7, a8⟩
    · rw [a1, bnd2_some, if_pos rfl]
    · rw [a3, bnd2_some, mE]
  · have hL := b6.tc.2.1
    have hqL := b6.tc.1
    rw [b1, bnd2_some, if_neg z1, b2, bnd2_some]
    rcases X_truthL RC RM hA (L - q) σ' τ' q n' 0 w (Nat.le_refl _) (by omega) (by omega) (by omega) b6 b7 b11 BIG BIG (by unfold BIG; omega) (by unfold BIG; omega) with ⟨e', s', t', w', d1, d2, d3, d4, d5, d6, d7, d8⟩ | ⟨q', n'', w', s', t', d1, d2, d3, d4, d5, d6, d7, d8, d9, d10, d11⟩
    · exact Or.inl ⟨e', s', t', w', (congrArg (fun x => Option.bind x _) d1).trans rfl, d2, d3, d4, d5, d6, b8.tr d7, b9.tr d8⟩
    · exact Or.inr ⟨q', n'', w', s', t', (congrArg (fun x => Option.bind x _) d1).trans rfl, d2, by omega, by omega, by omega, d6, d7, b8.tr d8, b9.tr d9, fun x hx => ⟨(d10 x (by omega)).1.trans (b10 x hx).1, (d10 x (by omega)).2.trans (b10 x hx).2⟩, d11⟩
theorem m_conditionS (RM : RecT) {v : Int32} {s s' : Mm} {a B : Nat} (k : TM s a B b L p) (hf : gI s 310 11 = -1) (hv : QB v) : fX10_condition_l7 RM 310 v s = if sg b L p = 124 then bnd2 (RM 5 310 0 0 (sI s 310 10 (nI (sk b L p + 1)))) (fun w s2 => some (Sum.inl (ovl v w, s2))) else some (Sum.inr (v, sI s 310 10 (nI (sk b L p)))) := by
  have kP := k.cur (sk_bd (b := b) k.1).2.1
  unfold fX10_condition_l7
  rw [if_pos hf, m_look k, bnd2_some, if_pos (zB_of hv), kP.2.2.2.2.2.2.2.1, nI_1, sI_sI]
  by_cases q : sg b L p = 124
  · rw [if_pos q, if_pos q]
    congr 1
    funext w s2
    unfold ovl
    unfold fX10_condition_b51 fX10_condition_b56
    by_cases q1 : v = 0
    · rw [if_pos q1, if_pos q1]
      by_cases q2 : w = 0
      · rw [if_pos q2, if_pos q2]
      · rw [if_neg q2, if_neg q2]
    · rw [if_neg q1, if_neg q1]
  · rw [if_neg q, if_neg q]
theorem X_conditionE {j a B d n0 n i K K' : Nat} {v : Int32} (RC RM : RecT) (hn : n ≤ p) (hi : i ≤ p) (h0 : n0 < n) (h : ST j a B b L ℓ σ τ p n d) (hq : QB v) (hv : SegV σ j ℓ n0 n v) (qc : ¬ sg b L p = 124) : OUTB j a B b L ℓ d n0 n p σ τ (wh (fun x : Int32 × Mm => fX3_condition_l13 RC (48 + 4 * j) (nI d) x.1 x.2) (K + 1) (nI i, σ)) (wh (fun x : Int32 × Mm => fX10_condition_l7 RM 310 x.1 x.2) (K' + 1) (v, τ)) := by
  obtain ⟨s1, s2, s3⟩ := sk_bd (b := b) h.tc.1
  have hL := h.tc.2.1
  have hpL := h.tc.1
  right
  refine ⟨sk b L p, n, v, sI σ 1 2 (nI (sk b L p)), sI τ 310 10 (nI (sk b L p)), ?_, ?_, s1, Nat.le_refl _, by omega, h.cur s2, hq, Sm.rf.sI rfl, Sm.rf.sI rfl, fun x hx => cur_codes x hx, hv.congr (fun x hx => cur_codes x hx)⟩
  · refine whR ?_
    dsimp only
    unfold fX3_condition_l13
    rw [if_neg (show ¬ (240 : Int32) < nI i from fun z => absurd ((ltT (a := 240) (by omega) (by omega)).mp z) (by omega)), h.r0, Option.bind_some, c_goOver h.tc, if_neg qc, bnd2_some, if_pos rfl]
  · refine whR ?_
    dsimp only
    rw [m_conditionS RM (s' := τ) h.tm h.ok hq, if_neg qc]
theorem X_conditionL {j a B d n0 : Nat} (RC RM : RecT) (hA : ∀ (σ τ : Mm) (p n : Nat), n ≤ p → ST j a B b L ℓ σ τ p n d → OUT QB j a B b L ℓ d n n p σ τ (RC 1 (48 + 4 * j) (nI d) 0 σ) (RM 5 310 0 0 τ)) :
    ∀ (D : Nat) (σ τ : Mm) (p n i : Nat) (v : Int32), L - p ≤ D → n ≤ p → i ≤ p → n0 < n → ST j a B b L ℓ σ τ p n d → QB v → SegV σ j ℓ n0 n v → ∀ K K', D + 2 < K → D + 2 < K' →
    OUTB j a B b L ℓ d n0 n p σ τ (wh (fun x : Int32 × Mm => fX3_condition_l13 RC (48 + 4 * j) (nI d) x.1 x.2) K (nI i, σ)) (wh (fun x : Int32 × Mm => fX10_condition_l7 RM 310 x.1 x.2) K' (v, τ)) := by
  intro D
  induction D with
  | zero =>
    intro σ τ p n i v hD hn hi h0 h hq hv K K' hK hK'
    obtain ⟨K, rfl⟩ : ∃ x, K = x + 1 := ⟨K - 1, by omega⟩
    obtain ⟨K', rfl⟩ : ∃ x, K' = x + 1 := ⟨K' - 1, by omega⟩
    refine X_conditionE RC RM hn hi h0 h hq hv ?_
    intro z
    have := sg_lt (x := 124) (by omega) z
    have := (sk_bd (b := b) h.tc.1).1
    omega
  | succ D ih =>
    intro σ τ p n i v hD hn hi h0 h hq hv K K' hK hK'
    obtain ⟨K, rfl⟩ : ∃ x, K = x + 1 := ⟨K - 1, by omega⟩
    obtain ⟨K', rfl⟩ : ∃ x, K' = x + 1 + 1 := ⟨K' - 2, by omega⟩
    by_cases qc : sg b L p = 124
    · have hL := h.tc.2.1
      have hlt := sg_lt (x := 124) (by omega) qc
      obtain ⟨s1, s2, s3⟩ := sk_bd (b := b) h.tc.1
      have i240 : ¬ (240 : Int32) < nI i := fun z => absurd ((ltT (a := 240) (by omega) (by omega)).mp z) (by omega)
      have h1 := h.cur (q := sk b L p + 1) (by omega)
      have cS : fX3_condition_l13 RC (48 + 4 * j) (nI d) (nI i) σ = bnd2 (RC 1 (48 + 4 * j) (nI d) 0 (sI σ 1 2 (nI (sk b L p + 1)))) fun vk7 sk7 => if vk7 = 0 then some (Sum.inr (0, sk7)) else (fX3_emit (48 + 4 * j) 124 0 sk7).bind fun sk9 => some (Sum.inl (nI (i + 1), sk9)) := by
        unfold fX3_condition_l13
        rw [if_neg i240, h.r0, Option.bind_some, c_goOver h.tc, if_pos qc, bnd2_some, if_neg z1, nI_1]
      have mS := m_conditionS RM (s' := τ) h.tm h.ok hq
      rw [if_pos qc] at mS
      rcases hA _ _ (sk b L p + 1) n (by omega) h1 with ⟨e', σ', τ', w, a1, a2, a3, a4, a5, a6, a7, a8⟩ | ⟨q, n', w, σ', τ', b1, b2, b3, b4, b5, b6, b7, b8, b9, b10, b11⟩
      · left
        rw [a1, bnd2_some, if_pos rfl] at cS
        rw [a3, bnd2_some] at mS
        have mE : fX10_condition_l7 RM 310 (ovl v w) τ' = some (Sum.inr (ovl v w, τ')) := by
          unfold fX10_condition_l7
          rw [a4, if_neg (fun z => (eqN1 (by omega)).mp z), if_pos (zB_of (ovl_b _ _))]
        refine ⟨e', σ', τ', ovl v w, whR cS, a2, ?_, a4, a5, ovl_b _ _, (Sm.rf.sI rfl : Sm (tLc j) σ (sI σ 1 2 (nI (sk b L p + 1)))).tr a7, (Sm.rf.sI rfl : Sm tLm τ (sI τ 310 10 (nI (sk b L p + 1)))).tr a8⟩
        have : wh (fun x : Int32 × Mm => fX10_condition_l7 RM 310 x.1 x.2) (K' + 1 + 1) (v, τ) = wh (fun x : Int32 × Mm => fX10_condition_l7 RM 310 x.1 x.2) (K' + 1) (ovl v w, τ') := whL mS
        rw [this]
        exact whR mE
      · have hqL := b6.tc.1
        obtain ⟨σ2, c1, c2, c3, c4, c5, c6⟩ := b6.emit (by omega) 124 0
        rw [b1, bnd2_some, if_neg z1, c1, Option.bind_some] at cS
        rw [b2, bnd2_some] at mS
        have eC : wh (fun x : Int32 × Mm => fX3_condition_l13 RC (48 + 4 * j) (nI d) x.1 x.2) (K + 1) (nI i, σ) = wh (fun x : Int32 × Mm => fX3_condition_l13 RC (48 + 4 * j) (nI d) x.1 x.2) K (nI (i + 1), σ2) := whL cS
        have eM : wh (fun x : Int32 × Mm => fX10_condition_l7 RM 310 x.1 x.2) (K' + 1 + 1) (v, τ) = wh (fun x : Int32 × Mm => fX10_condition_l7 RM 310 x.1 x.2) (K' + 1) (ovl v w, τ') := whL mS
        have hseg : SegV σ2 j ℓ n0 (n' + 1) (ovl v w) := by
          intro hz
          obtain ⟨g1, g2⟩ := hv hz
          obtain ⟨g3, g4⟩ := b11 hz
          have t1 : Seg (gI σ2 (49 + 4 * j)) (gI σ2 (50 + 4 * j)) ℓ n0 n v := g1.congr (fun x x1 x2 => by
            rw [(c6 x (by omega)).1, (c6 x (by omega)).2, (b10 x x2).1, (b10 x x2).2]
            exact cur_codes x x2)
          have t2 : Seg (gI σ2 (49 + 4 * j)) (gI σ2 (50 + 4 * j)) ℓ n n' w := g3.congr (fun x x1 x2 => c6 x x2)
          have := t1.op t2 (by rw [c4]; unfold isOp; decide)
          rw [c4, ← ovl_eq hq b7] at this
          exact ⟨this, nmB (ovl_b _ _)⟩
        rw [eC, eM]
        have sC0 : Sm (tLc j) σ σ2 := ((Sm.rf.sI rfl : Sm (tLc j) σ (sI σ 1 2 (nI (sk b L p + 1)))).tr b8).tr c3
        have sM0 : Sm tLm τ τ' := (Sm.rf.sI rfl : Sm tLm τ (sI τ 310 10 (nI (sk b L p + 1)))).tr b9
        rcases ih σ2 τ' q (n' + 1) (i + 1) (ovl v w) (by omega) (by omega) (by omega) (by omega) c2 (ovl_b _ _) hseg K (K' + 1) (by omega) (by omega) with ⟨e', s', t', w', d1, d2, d3, d4, d5, d6, d7, d8⟩ | ⟨q', n'', w', s', t', d1, d2, d3, d4, d5, d6, d7, d8, d9, d10, d11⟩
        · exact Or.inl ⟨e', s', t', w', d1, d2, d3, d4, d5, d6, sC0.tr d7, sM0.tr d8⟩
        · refine Or.inr ⟨q', n'', w', s', t', d1, d2, by omega, by omega, by omega, d6, d7, sC0.tr d8, sM0.tr d9, fun x hx => ?_, d11⟩
          rw [(d10 x (by omega)).1, (d10 x (by omega)).2, (c6 x (by omega)).1, (c6 x (by omega)).2, (b10 x hx).1, (b10 x hx).2]
          exact cur_codes x hx
    · exact X_conditionE RC RM hn hi h0 h hq hv qc
theorem X_condition {j a B n d n0 : Nat} {bg : Int32} {M1 : Option (Int32 × Mm)} (RC RM : RecT) (hA : ∀ (σ τ : Mm) (p n : Nat), n ≤ p → ST j a B b L ℓ σ τ p n d → OUT QB j a B b L ℓ d n n p σ τ (RC 1 (48 + 4 * j) (nI d) 0 σ) (RM 5 310 0 0 τ)) (h0 : n0 ≤ n) (h1 : OUT QB j a B b L ℓ d n0 n p σ τ (RC 1 (48 + 4 * j) (nI d) bg σ) M1) (hn : n ≤ p) : OUT QB j a B b L ℓ d n0 n p σ τ (fX3_condition RC (48 + 4 * j) (nI d) bg σ) (bnd2 M1 fun v s => wh (fun x : Int32 × Mm => fX10_condition_l7 RM 310 x.1 x.2) BIG (v, s)) := by
  unfold fX3_condition fX3_condition_w13
  rcases h1 with ⟨e', σ', τ', w, a1, a2, a3, a4, a5, a6, a7, a8⟩ | ⟨q, n', w, σ', τ', b1, b2, b3, b4, b5, b6, b7, b8, b9, b10, b11⟩
  · left
    have mE : wh (fun x : Int32 × Mm => fX10_condition_l7 RM 310 x.1 x.2) BIG (w, τ') = some (w, τ') := by
      rw [show BIG = 999999 + 1 from rfl]
      refine whR ?_
      dsimp only
      unfold fX10_condition_l7
      rw [a4, if_neg (fun z => (eqN1 (by omega)).mp z), if_pos (zB_of a6)]
    refine ⟨e', σ', τ', w, ?_, a2, ?_, a4, a5, a6, a7, a8⟩
    · rw [a1, bnd2_some, if_pos rfl]
    · rw [a3, bnd2_some, mE]
  · have hL := b6.tc.2.1
    have hqL := b6.tc.1
    rw [b1, bnd2_some, if_neg z1, b2, bnd2_some]
    rcases X_conditionL RC RM hA (L - q) σ' τ' q n' 0 w (Nat.le_refl _) (by omega) (by omega) (by omega) b6 b7 b11 BIG BIG (by unfold BIG; omega) (by unfold BIG; omega) with ⟨e', s', t', w', d1, d2, d3, d4, d5, d6, d7, d8⟩ | ⟨q', n'', w', s', t', d1, d2, d3, d4, d5, d6, d7, d8, d9, d10, d11⟩
    · exact Or.inl ⟨e', s', t', w', (congrArg (fun x => Option.bind x _) d1).trans rfl, d2, d3, d4, d5, d6, b8.tr d7, b9.tr d8⟩
    · exact Or.inr ⟨q', n'', w', s', t', (congrArg (fun x => Option.bind x _) d1).trans rfl, d2, by omega, by omega, by omega, d6, d7, b8.tr d8, b9.tr d9, fun x hx => ⟨(d10 x (by omega)).1.trans (b10 x hx).1, (d10 x (by omega)).2.trans (b10 x hx).2⟩, d11⟩
end LawD
