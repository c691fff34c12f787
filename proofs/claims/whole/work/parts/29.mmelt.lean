/-! the model's melting -/
theorem sAp_key : ∀ W, W < 7 → ∀ a, a < 30 → ∀ b, b < 30 → W = 0 ∨ (0 ≤ absI (remI (nI a) (nI W) - remI (nI b) (nI W)) + absI (nI a / nI W - nI b / nI W) ∧ absI (remI (nI a) (nI W) - remI (nI b) (nI W)) + absI (nI a / nI W - nI b / nI W) ≤ nI 40) := by decide +kernel
theorem sAp_bd {np nr W H : Nat} {ru pg rd : Nat → Int32} (g : HB np nr W H ru pg rd) (hnp : 0 < np) {a b : Nat} (ha : a < 30) (hb : b < 30) : ∃ s, s ≤ 40 ∧ sAp ru (nI a) (nI b) = nI s := by
  obtain ⟨g1, g2, g3, g4, g5, g6, g7, -⟩ := g
  have hW := (g7 hnp).1
  unfold sAp
  rw [g5]
  rcases sAp_key W (by omega) a ha b hb with h | ⟨h1, h2⟩
  · omega
  · obtain ⟨k, hk, e⟩ := nI_of (x := absI (remI (nI a) (nI W) - remI (nI b) (nI W)) + absI (nI a / nI W - nI b / nI W)) (fun h => by
      rw [Int32.lt_iff_toInt_lt] at h
      rw [Int32.le_iff_toInt_le] at h1
      omega)
    rw [e] at h2 ⊢
    exact ⟨k, (leT (by omega) (by omega)).mp h2, rfl⟩
theorem rad {k x y a b : Nat} (ha : a < k) (hb : b < k) (h : k * x + a = k * y + b) : x = y ∧ a = b := by
  have h1 : (k * x + a) % k = (k * y + b) % k := by rw [h]
  have h2 : (k * x + a) / k = (k * y + b) / k := by rw [h]
  rw [Nat.mul_add_mod, Nat.mul_add_mod, Nat.mod_eq_of_lt ha, Nat.mod_eq_of_lt hb] at h1
  rw [Nat.mul_add_div (by omega), Nat.mul_add_div (by omega), Nat.div_eq_of_lt ha, Nat.div_eq_of_lt hb] at h2
  exact ⟨by omega, h1⟩
def mKy (t c b d s n j : Nat) : Nat := 5 * (7 * (2 * (10 * (10 * (100 * t + c) + b) + d) + s) + n) + j + 1
theorem mKy_inj {t c b d s n j t' c' b' d' s' n' j' : Nat} (hc : c < 100) (hb : b < 10) (hd : d < 10) (hs : s < 2) (hn : n < 7) (hj : j < 5) (hc' : c' < 100) (hb' : b' < 10) (hd' : d' < 10) (hs' : s' < 2) (hn' : n' < 7) (hj' : j' < 5) (h : mKy t c b d s n j = mKy t' c' b' d' s' n' j') : t = t' ∧ c = c' ∧ b = b' ∧ d = d' ∧ s = s' ∧ n = n' ∧ j = j' := by
  unfold mKy at h
  obtain ⟨h, e1⟩ := rad hj hj' (Nat.add_right_cancel h)
  obtain ⟨h, e2⟩ := rad hn hn' h
  obtain ⟨h, e3⟩ := rad hs hs' h
  obtain ⟨h, e4⟩ := rad hd hd' h
  obtain ⟨h, e5⟩ := rad hb hb' h
  obtain ⟨h, e6⟩ := rad hc hc' h
  exact ⟨h, e6, e5, e4, e3, e2, e1⟩
abbrev LF := Int32 → Int32 → Int32 → Int32 → Int32 → Int32 → Int32
def Memo (σ : Mm) (nl : Nat) (F : Nat → LF) : Prop := ∀ z t c b d s n j : Nat, z < 8191 → t < 2147483648 → c < 100 → b < 10 → d < 10 → s < 2 → n < 7 → j < 4 → gL σ 326 z = lN (mKy t c b d s n j) → j < nl ∧ gI σ 327 z = F j (nI b) (nI c) (nI d) (nI s) (nI n) (nI t)
def sG (c k : Nat) : Bool := c == 310 && ((decide (8 ≤ k) && decide (k ≤ 14)) || k == 17)
/-- letters that are not negative -/
def LOK (f : Nat → Int32) : Prop := ∀ k, k = 98 ∨ k = 99 ∨ k = 100 ∨ k = 115 ∨ k = 110 ∨ k = 116 → ∃ n, n < 2147483648 ∧ f k = nI n
def LawM (σ : Mm) (j : Nat) (f : LF) : Prop := ∀ σ' : Mm, (∀ k, k < 240 → gI σ' 312 (240 * j + k) = gI σ 312 (240 * j + k)) → gI σ' 313 j = gI σ 313 j → gR σ' 310 4 = gR σ 310 4 → LOK (gI σ' 314) → ∃ σ'', fX10_goThrough 310 312 (nI (240 * j)) (gI σ' 313 j) σ' = some σ'' ∧ gI σ'' 310 14 = f (gI σ' 314 98) (gI σ' 314 99) (gI σ' 314 100) (gI σ' 314 115) (gI σ' 314 110) (gI σ' 314 116) ∧ Sm sG σ' σ''
def ME (σ : Mm) (np nr W H : Nat) (ru pg rd : Nat → Int32) (nl : Nat) (F : Nat → LF) (lw : Option LF) : Prop :=
  HM σ np nr W H ru pg rd ∧ nl ≤ 4 ∧ (∀ j, j < nl → LawM σ j (F j)) ∧ Memo σ nl F ∧ ((gI σ 310 36 = -1 ∧ lw = none) ∨ ∃ j, j < nl ∧ gI σ 310 36 = nI j ∧ lw = some (F j))
section MEp
variable {σ : Mm} {np nr W H nl : Nat} {ru pg rd : Nat → Int32} {F : Nat → LF} {lw : Option LF}
theorem ME.hm (h : ME σ np nr W H ru pg rd nl F lw) : HM σ np nr W H ru pg rd := h.1
theorem ME.nl4 (h : ME σ np nr W H ru pg rd nl F lw) : nl ≤ 4 := h.2.1
theorem ME.laws (h : ME σ np nr W H ru pg rd nl F lw) : ∀ j, j < nl → LawM σ j (F j) := h.2.2.1
theorem ME.memo (h : ME σ np nr W H ru pg rd nl F lw) : Memo σ nl F := h.2.2.2.1
theorem ME.law (h : ME σ np nr W H ru pg rd nl F lw) : (gI σ 310 36 = -1 ∧ lw = none) ∨ ∃ j, j < nl ∧ gI σ 310 36 = nI j ∧ lw = some (F j) := h.2.2.2.2
end MEp
def coreH (c k : Nat) : Bool := c == 312 || c == 313 || c == 315 || c == 317 || c == 319 || (c == 310 && (k == 26 || k == 27 || k == 28 || k == 36))
def coreM (c k : Nat) : Bool := coreH c k || c == 326 || c == 327
theorem LawM.sm {S : Nat → Nat → Bool} {σ σ' : Mm} {j : Nat} {f : LF} (h : LawM σ j f) (s : Sm S σ σ') (hs : ∀ k, S 312 k = false ∧ S 313 k = false) : LawM σ' j f := fun σ2 e1 e2 e3 e4 => h σ2 (fun k hk => (e1 k hk).trans (s.1 _ _ (hs _).1)) (e2.trans (s.1 _ _ (hs _).2)) (e3.trans (s.2.2 310 4 (by omega))) e4
section ME
variable {σ : Mm} {m np nr W H nl : Nat} {ru pg rd w : Nat → Int32} {F : Nat → LF} {lw : Option LF}
theorem ME.smH {S : Nat → Nat → Bool} {σ' : Mm} (h : ME σ np nr W H ru pg rd nl F lw) (s : Sm S σ σ') (hs : ∀ c k, coreH c k = true → S c k = false) (hM : Memo σ' nl F) : ME σ' np nr W H ru pg rd nl F lw :=
  ⟨h.hm.sm s ⟨hs _ _ rfl, hs _ _ rfl, hs _ _ rfl⟩ (fun k => ⟨hs _ _ rfl, hs _ _ rfl, hs _ _ rfl⟩), h.nl4, fun j hj => (h.laws j hj).sm s (fun k => ⟨hs _ _ rfl, hs _ _ rfl⟩), hM, by rw [s.1 _ _ (hs 310 36 rfl)]; exact h.law⟩
theorem ME.sm {S : Nat → Nat → Bool} {σ' : Mm} (h : ME σ np nr W H ru pg rd nl F lw) (s : Sm S σ σ') (hs : ∀ c k, coreM c k = true → S c k = false) : ME σ' np nr W H ru pg rd nl F lw :=
  h.smH s (fun c k hk => hs c k (by unfold coreM; rw [hk]; rfl)) (fun z t c b d s2 n j hz h1 h2 h3 h4 h5 h6 h7 e => by
    rw [s.2.1 _ _ (hs 326 z rfl)] at e
    rw [s.1 _ _ (hs 327 z rfl)]
    exact h.memo z t c b d s2 n j hz h1 h2 h3 h4 h5 h6 h7 e)
def sK (c k : Nat) : Bool := c == 314 || c == 326 || c == 327 || sG c k
theorem sG_core (c k : Nat) (h : coreM c k = true) : sG c k = false := by
  unfold coreM coreH at h; unfold sG
  simp only [Bool.or_eq_true, Bool.and_eq_true, beq_iff_eq] at h
  simp only [Bool.and_eq_false_imp, beq_iff_eq, Bool.or_eq_false_iff, beq_eq_false_iff_ne, decide_eq_true_eq, decide_eq_false_iff_not, ne_eq]
  omega
theorem sK_core (c k : Nat) (h : coreH c k = true) : sK c k = false := by
  unfold coreH at h; unfold sK sG
  simp only [Bool.or_eq_true, Bool.and_eq_true, beq_iff_eq] at h
  simp only [Bool.and_eq_false_imp, beq_iff_eq, Bool.or_eq_false_iff, beq_eq_false_iff_ne, decide_eq_true_eq, decide_eq_false_iff_not, ne_eq]
  omega
theorem m_worth (h : ME σ np nr W H ru pg rd nl F lw) {t c b d s n j : Nat} (ht : t < 2147483648) (hc : c < 100) (hb : b < 10) (hd : d < 10) (hs : s < 2) (hn : n < 7) (hj : j < nl) (e1 : gI σ 314 116 = nI t) (e2 : gI σ 314 99 = nI c) (e3 : gI σ 314 98 = nI b) (e4 : gI σ 314 100 = nI d) (e5 : gI σ 314 115 = nI s) (e6 : gI σ 314 110 = nI n) (e7 : gI σ 310 36 = nI j) : ∃ σ', fX10_worthNow 310 σ = some (F j (nI b) (nI c) (nI d) (nI s) (nI n) (nI t), σ') ∧ Sm sK σ σ' ∧ ME σ' np nr W H ru pg rd nl F lw := by
  have n4 := h.nl4
  have r := h.hm.1
  have r2 : gR σ 310 2 = some 312 := r.2.1
  have r3 : gR σ 310 3 = some 313 := r.2.2.1
  have r4 : gR σ 310 4 = some 314 := r.2.2.2.1
  have r38 : gR σ 310 38 = some 326 := r.2.2.2.2.2.2.2.2.2.2.2.2.2.2.2.2.2.1
  have r39 : gR σ 310 39 = some 327 := r.2.2.2.2.2.2.2.2.2.2.2.2.2.2.2.2.2.2.1
  obtain ⟨l1, l2, l3, l4, l5, l6, l7, l8, l9, l10, l11, l12, l13, l14, l15, l16, l17, -⟩ := lnM
  have c98 : Int32.toNatClampNeg 98 = 98 := by decide
  have c99 : Int32.toNatClampNeg 99 = 99 := by decide
  have c100 : Int32.toNatClampNeg 100 = 100 := by decide
  have c110 : Int32.toNatClampNeg 110 = 110 := by decide
  have c115 : Int32.toNatClampNeg 115 = 115 := by decide
  have c116 : Int32.toNatClampNeg 116 = 116 := by decide
  unfold fX10_worthNow
  rw [r4, Option.bind_some, l4, c98, c99, c100, c110, c115, c116, if_pos (show ixB 116 128 = true by decide), if_pos (show ixB 99 128 = true by decide), if_pos (show ixB 98 128 = true by decide), if_pos (show ixB 100 128 = true by decide), if_pos (show ixB 115 128 = true by decide), if_pos (show ixB 110 128 = true by decide), e1, e2, e3, e4, e5, e6, e7, nI_l (show t < 2 ^ 31 by omega), nI_l (show c < 2 ^ 31 by omega), nI_l (show b < 2 ^ 31 by omega), nI_l (show d < 2 ^ 31 by omega), nI_l (show s < 2 ^ 31 by omega), nI_l (show n < 2 ^ 31 by omega), nI_l (show j < 2 ^ 31 by omega)]
  have hk : (((5 * ((7 * ((2 * ((10 * ((10 * ((100 * lN t) + lN c)) + lN b)) + lN d)) + lN s)) + lN n)) + lN j) + 1 : Int64) = lN (mKy t c b d s n j) := by
    rw [show (100 : Int64) = lN 100 from rfl, show (10 : Int64) = lN 10 from rfl, show (2 : Int64) = lN 2 from rfl, show (7 : Int64) = lN 7 from rfl, show (5 : Int64) = lN 5 from rfl, show (1 : Int64) = lN 1 from rfl]
    simp only [lN_mul, lN_add]
    rfl
  rw [hk]
  have kb : mKy t c b d s n j < 2 ^ 62 := by unfold mKy; omega
  generalize hK : mKy t c b d s n j = K at kb
  have hz : remL (lN K) 8191 = lN (K % 8191) := pk_lRem (b := 8191) (by omega) (by omega) (by omega)
  have hz8 : K % 8191 < 8191 := Nat.mod_lt _ (by omega)
  generalize K % 8191 = z at hz hz8
  rw [hz, lN_i, r38, Option.bind_some, l16, if_pos (ixT hz8 (by omega)), clT (by omega)]
  have hcmp : lg_cmp (gL σ 326 z) (lN K) = 0 ↔ gL σ 326 z = lN K := by
    unfold lg_cmp
    constructor
    · intro q
      by_cases x1 : gL σ 326 z > lN K
      · rw [if_pos x1] at q; exact absurd q (by decide)
      · rw [if_neg x1] at q
        by_cases x2 : gL σ 326 z = lN K
        · exact x2
        · rw [if_neg x2] at q; exact absurd q (by decide)
    · intro q
      rw [q, if_neg (fun z => Int64.lt_irrefl z), if_pos rfl]
  by_cases q : gL σ 326 z = lN K
  · rw [if_pos (hcmp.mpr q), r39, Option.bind_some, l17, if_pos (ixT hz8 (by omega))]
    rw [← hK] at q
    have := (h.memo z t c b d s n j hz8 ht hc hb hd hs hn (by omega) q).2
    exact ⟨σ, by rw [this], Sm.rf, h⟩
  · rw [if_neg (fun x => q (hcmp.mp x)), r2, Option.bind_some, r3, Option.bind_some, l3, if_pos (ixT (show j < 4 by omega) (by omega)), clT (by omega), show (240 : Int32) = nI 240 from rfl, pk_mul]
    obtain ⟨τ, k1, k2, k3⟩ := h.laws j hj σ (fun k _ => rfl) rfl rfl (fun k hk => by
      rcases hk with rfl | rfl | rfl | rfl | rfl | rfl
      · exact ⟨b, by omega, e3⟩
      · exact ⟨c, by omega, e2⟩
      · exact ⟨d, by omega, e4⟩
      · exact ⟨s, by omega, e5⟩
      · exact ⟨n, by omega, e6⟩
      · exact ⟨t, ht, e1⟩)
    rw [k1, Option.bind_some, k3.2.2 310 38 (by omega), r38, Option.bind_some, l16, if_pos (ixT hz8 (by omega)), k3.2.2 310 39 (by omega), r39, Option.bind_some, l17, if_pos (ixT hz8 (by omega))]
    rw [e1, e2, e3, e4, e5, e6] at k2
    have hf : gI (sL τ 326 z (lN K)) 310 14 = F j (nI b) (nI c) (nI d) (nI s) (nI n) (nI t) := k2
    rw [hf]
    have s1 : Sm sK σ (sI (sL τ 326 z (lN K)) 327 z (F j (nI b) (nI c) (nI d) (nI s) (nI n) (nI t))) := ((k3.mono (fun c k hc => by unfold sK at hc; exact (Bool.or_eq_false_iff.mp hc).2)).sL rfl).sI rfl
    refine ⟨_, ?_, s1, h.smH s1 sK_core ?_⟩
    · rw [gI_sI, if_neg (by omega), hf]
    · intro z' t' c' b' d' s' n' j' hz' h1 h2 h3 h4 h5 h6 h7 e
      rw [gL_sI, gL_sL] at e
      rw [gI_sI, gI_sL]
      by_cases y : z' = z
      · subst y
        rw [if_pos ⟨rfl, rfl⟩] at e
        rw [if_pos ⟨rfl, rfl⟩]
        have e2 : mKy t c b d s n j = mKy t' c' b' d' s' n' j' := by
          rw [hK]; exact (pk_lEQ (by omega) (by unfold mKy; omega)).mp e
        obtain ⟨rfl, rfl, rfl, rfl, rfl, rfl, rfl⟩ := mKy_inj hc hb hd hs hn (by omega) h2 h3 h4 h5 h6 (by omega) e2
        exact ⟨hj, rfl⟩
      · rw [if_neg (fun x => y x.2)] at e
        rw [if_neg (fun x => y x.2)]
        rw [k3.2.1 326 z' rfl] at e
        rw [k3.1 327 z' rfl]
        exact h.memo z' t' c' b' d' s' n' j' hz' h1 h2 h3 h4 h5 h6 h7 e
theorem m_meltBy {D c n : Nat} (g : HB np nr W H ru pg rd) (h : ME σ np nr W H ru pg rd nl F lw) (hmm : m = 323 ∨ m = 324) (hm : MW σ m w) (hB : WB D w) (hD : D < 2147483648) {r p : Nat} (hr : r < nr) (hp : p < np) (hc : c < 30) (hn : n < 7) : ∃ σ', fX10_meltBy 310 m (nI r) (nI p) (nI c) (nI n) σ = some (sMelt lw ru pg rd w r p (nI c) (nI n), σ') ∧ Sm sK σ σ' ∧ ME σ' np nr W H ru pg rd nl F lw := by
  have hl : ln m = 351 := by rcases hmm with rfl | rfl <;> decide +kernel
  have g1 := g.1
  have g2 := g.2.1
  have hWH := WH_lt g
  obtain ⟨a1, a2, a3⟩ := m_pg (k := 0) h.hm g1 hp (by omega)
  rw [Nat.add_zero] at a2 a3
  have r22 : gR σ 310 22 = some 319 := h.hm.1.2.2.2.2.2.2.2.2.2.2.1
  have r4 : gR σ 310 4 = some 314 := h.hm.1.2.2.2.1
  obtain ⟨l1, l2, l3, l4, l5, l6, l7, l8, l9, l10, l11, l12, l13, l14, l15, l16, l17, -⟩ := lnM
  have i41 : (4 : Int32) * nI r + 1 = nI (4 * r + 1) := by rw [show (4 : Int32) = nI 4 from rfl, show (1 : Int32) = nI 1 from rfl, pk_mul, nI_add]
  have eb := h.hm.2.2.2.2.2.2 (4 * r + 1) (by omega)
  have c108 : Int32.toNatClampNeg 108 = 108 := by decide
  have c109 : Int32.toNatClampNeg 109 = 109 := by decide
  have c98 : Int32.toNatClampNeg 98 = 98 := by decide
  have c99 : Int32.toNatClampNeg 99 = 99 := by decide
  have c100 : Int32.toNatClampNeg 100 = 100 := by decide
  have c110 : Int32.toNatClampNeg 110 = 110 := by decide
  have c115 : Int32.toNatClampNeg 115 = 115 := by decide
  have c116 : Int32.toNatClampNeg 116 = 116 := by decide
  unfold fX10_meltBy sMelt
  rw [a1, Option.bind_some, i4p, if_pos a2, clT (by omega), a3, m_apart g h.hm (by omega), Option.bind_some]
  obtain ⟨⟨pc, hpc, epc⟩, -⟩ := g.2.2.2.2.2.2.2.2.1 p hp
  obtain ⟨s, hs, es⟩ := sAp_bd g (by omega) (show c < 30 by omega) (show pc < 30 by omega)
  rw [epc, es]
  by_cases q : s ≤ 1
  · have q1 : nI s ≤ 1 := (leT (b := 1) (by omega) (by omega)).mpr q
    have q2 : ¬ (1 : Int32) < nI s := fun x => absurd ((ltT (a := 1) (by omega) (by omega)).mp x) (by omega)
    rw [if_pos q1, if_neg q2, r22, Option.bind_some, i41, l9, if_pos (ixT (by omega) (by omega)), hl, if_pos (show ixB 108 351 = true by decide), clT (by omega), eb, c108, hm 108 (by omega)]
    rcases h.law with ⟨e0, rfl⟩ | ⟨j, hj, e0, rfl⟩
    · rw [if_pos e0]
      exact ⟨σ, rfl, Sm.rf, h⟩
    · have n4 := h.nl4
      have i2 : ixB (2 * nI p) 351 = true := by rw [i2p]; exact ixT (by omega) (by omega)
      rw [if_neg (by rw [e0]; exact fun x => (eqN1 (by omega)).mp x), r4, Option.bind_some, l4, if_pos (show ixB 98 128 = true by decide), if_pos (show ixB 99 128 = true by decide), if_pos i2, if_pos (show ixB 100 128 = true by decide), if_pos (show ixB 115 128 = true by decide), if_pos (show ixB 110 128 = true by decide), if_pos (show ixB 109 351 = true by decide), if_pos (show ixB 116 128 = true by decide), if_pos (show ixB 108 351 = true by decide)]
      rw [c98, c99, c100, c110, c115, c116, c109, i2p, clT (by omega)]
      have m314 : ¬ m = 314 := by omega
      have m310 : ¬ 310 = 314 := by omega
      simp only [gI_sI, m314, false_and, if_false]
      rw [hm 108 (by omega), hm 109 (by omega), hm (2 * p) (by omega)]
      obtain ⟨-, ⟨b', hb', eb'⟩, -⟩ := g.2.2.2.2.2.2.2.2.2.1 r hr
      obtain ⟨c', hc', ec'⟩ := hB.2.2.1
      obtain ⟨t', ht', et'⟩ := hB.2.2.2
      obtain ⟨⟨d', hd', ed'⟩, -⟩ := hB.1 p (by omega)
      rw [eb', ec', et', ed']
      generalize hτ : sI (sI (sI (sI (sI (sI σ 314 98 (nI b')) 314 99 (nI c')) 314 100 (nI d')) 314 115 (nI s)) 314 110 (nI n)) 314 116 (nI t') = τ
      have s1 : Sm (fun c _ => c == 314) σ τ := by rw [← hτ]; exact (((((Sm.rf.sI rfl).sI rfl).sI rfl).sI rfl).sI rfl).sI rfl
      have hE := h.sm s1 (fun c k hc => by
        unfold coreM coreH at hc
        simp only [Bool.or_eq_true, Bool.and_eq_true, beq_iff_eq] at hc
        simp only [beq_eq_false_iff_ne, ne_eq]
        omega)
      obtain ⟨τ2, k1, k2, k3⟩ := m_worth hE (t := t') (c := c') (b := b') (d := d') (s := s) (n := n) (j := j) (by omega) hc' hb' (by omega) (by omega) hn hj (by rw [← hτ]; simp [gI_sI]) (by rw [← hτ]; simp [gI_sI]) (by rw [← hτ]; simp [gI_sI]) (by rw [← hτ]; simp [gI_sI]) (by rw [← hτ]; simp [gI_sI]) (by rw [← hτ]; simp [gI_sI]) (by rw [← hτ]; simp [gI_sI, e0])
      rw [k1, bnd2_some]
      exact ⟨τ2, rfl, (s1.mono (fun c k hc => by unfold sK at hc; simp only [Bool.or_eq_false_iff] at hc; exact hc.1.1.1)).tr k2, k3⟩
  · have q1 : ¬ nI s ≤ 1 := fun x => q ((leT (b := 1) (by omega) (by omega)).mp x)
    have q2 : (1 : Int32) < nI s := (ltT (a := 1) (by omega) (by omega)).mpr (by omega)
    rw [if_neg q1, if_pos q2]
    exact ⟨σ, rfl, Sm.rf, h⟩
end ME
