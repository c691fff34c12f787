/-! the model's rows wherever they lie: copied, remembered, given back -/
def RowAt (σ : Mm) (c b : Nat) (w : Nat → Int32) (cnt : Nat) (e : Nat → Nat → Int32) : Prop := (∀ k, k < 110 → gI σ c (b + k) = w k) ∧ cnt ≤ 60 ∧ gI σ c (b + 110) = nI cnt ∧ ∀ i j, i < cnt → j < 4 → gI σ c (b + (111 + 4 * i + j)) = e i j
theorem RowAt.cp {σ σ' : Mm} {c b c' b' cnt : Nat} {w : Nat → Int32} {e : Nat → Nat → Int32} (h : RowAt σ c b w cnt e) (hc : ∀ k, k < 351 → gI σ' c' (b' + k) = gI σ c (b + k)) : RowAt σ' c' b' w cnt e :=
  ⟨fun k hk => by rw [hc k (by omega)]; exact h.1 k hk, h.2.1, by rw [hc 110 (by omega)]; exact h.2.2.1, fun i j hi hj => by
    have := h.2.1
    rw [hc _ (by omega)]; exact h.2.2.2 i j hi hj⟩
theorem RowAt.mw {σ : Mm} {m cnt : Nat} {w : Nat → Int32} {e : Nat → Nat → Int32} (h : RowAt σ m 0 w cnt e) : MW σ m w ∧ MLg σ m cnt e :=
  ⟨fun k hk => by have := h.1 k hk; rwa [Nat.zero_add] at this, h.2.1, h.2.2.1, fun i j hi hj => by have := h.2.2.2 i j hi hj; rwa [Nat.zero_add] at this⟩
theorem RowAt.of {σ : Mm} {m cnt : Nat} {w : Nat → Int32} {e : Nat → Nat → Int32} (h : MW σ m w) (hg : MLg σ m cnt e) : RowAt σ m 0 w cnt e :=
  ⟨fun k hk => by rw [Nat.zero_add]; exact h k hk, hg.1, hg.2.1, fun i j hi hj => by rw [Nat.zero_add]; exact hg.2.2 i j hi hj⟩
theorem RowAt.ex {σ : Mm} {c b cnt : Nat} {w : Nat → Int32} {e e' : Nat → Nat → Int32} (h : RowAt σ c b w cnt e) (he : ∀ i j, i < cnt → e i j = e' i j) : RowAt σ c b w cnt e' :=
  ⟨h.1, h.2.1, h.2.2.1, fun i j hi hj => (h.2.2.2 i j hi hj).trans (he i j hi)⟩
theorem MLg.ex {σ : Mm} {m cnt : Nat} {e e' : Nat → Nat → Int32} (h : MLg σ m cnt e) (he : ∀ i j, i < cnt → e i j = e' i j) : MLg σ m cnt e' :=
  ⟨h.1, h.2.1, fun i j hi hj => (h.2.2 i j hi hj).trans (he i j hi)⟩
def mlg (S off : Nat) (jl : Nat → Nat → Int32) : Nat → Nat → Int32 := fun i j => jl (off + (min (S - off) 60 - 1 - i)) j
def sJ (jl : Nat → Nat → Int32) (a b c d : Int32) : Nat → Nat → Int32 := fun i j => if i = 0 then row4 a b c d j else jl (i - 1) j
def sPw (w : Nat → Int32) (pw : Nat → Nat → Int32) : Nat → Nat → Int32 := fun u => if u = 0 then w else pw (u - 1)
def MP (σ : Mm) (acts : Nat) (pw : Nat → Nat → Int32) (S : Nat) (jl : Nat → Nat → Int32) : Prop := acts ≤ 40 ∧ gI σ 310 42 = nI acts ∧ ∀ u, u < acts → RowAt σ 329 (351 * (acts - 1 - u)) (pw u) (min (S - (u + 1)) 60) (mlg S (u + 1) jl)
theorem log_next {S : Nat} {jl : Nat → Nat → Int32} {a b c d : Int32} (hS : S ≤ 100) : sLogN (min S 60) = min (min 100 (S + 1)) 60 ∧ ∀ i j, i < min (min 100 (S + 1)) 60 → sLog (min S 60) (mlg S 0 jl) a b c d i j = mlg (min 100 (S + 1)) 0 (sJ jl a b c d) i j := by
  constructor
  · unfold sLogN; split <;> omega
  · intro i j hi
    unfold sLog mlg sJ
    by_cases q : min S 60 = 60
    · rw [if_pos q]
      by_cases z : i = 59
      · rw [if_pos z, if_pos (by omega)]
      · rw [if_neg z, if_neg (by omega)]
        congr 1
        omega
    · rw [if_neg q]
      by_cases z : i = min S 60
      · rw [if_pos z, if_pos (by omega)]
      · rw [if_neg z, if_neg (by omega)]
        congr 1
        omega
theorem MP.sm {S : Nat → Nat → Bool} {σ σ' : Mm} {acts T : Nat} {pw jl : Nat → Nat → Int32} (h : MP σ acts pw T jl) (s : Sm S σ σ') (hs : ∀ k, S 329 k = false) (h0 : S 310 42 = false) : MP σ' acts pw T jl :=
  ⟨h.1, by rw [s.1 _ _ h0]; exact h.2.1, fun u hu => (h.2.2 u hu).cp (fun k hk => s.1 _ _ (hs _))⟩
def sU (c k : Nat) : Bool := c == 329 || (c == 310 && k == 42)
section Rows
variable {σ : Mm}
/-- a row copied from the array c1 at b1 to the array c2 at b2 -/
theorem m_copy {a0 a1 : Nat} (h0 : ln a0 = 351) (h1 : ln a1 = 351) (hne : a0 ≠ a1) : ∃ σ', fX10_copy a0 a1 σ = some σ' ∧ Sm (sM a1) σ σ' ∧ ∀ k, k < 351 → gI σ' a1 k = gI σ a0 k := by
  unfold fX10_copy fX10_copy_w2
  have key : ∃ x, wh (fun a : Int32 × Mm => fX10_copy_l2 a0 a1 a.1 a.2) BIG (0, σ) = some x ∧ (Sm (sM a1) σ x ∧ ∀ k, k < 351 → gI x a1 k = gI σ a0 k) := by
    refine wh_inv (fun i a => a.1 = nI i ∧ Sm (sM a1) σ a.2 ∧ ∀ k, k < i → gI a.2 a1 k = gI σ a0 k) _ 351 BIG 0 _ (Nat.zero_le _) (by unfold BIG; omega) ⟨rfl, Sm.rf, fun k hk => by omega⟩ ?_ ?_
    · rintro i ⟨j, τ⟩ hi ⟨e2, e3, e4⟩
      simp only at e2 e3 e4
      subst e2
      left
      have e6 : ¬ (351 : Int32) ≤ nI i := fun z => absurd ((leT (a := 351) (by omega) (by omega)).mp z) (by omega)
      unfold fX10_copy_l2
      rw [if_neg e6, h0, h1, if_pos (ixT (by omega) (by omega)), if_pos (ixT (by omega) (by omega)), clT (by omega)]
      refine ⟨_, rfl, nI_1 i, e3.sI (by unfold sM; simp), fun k hk => ?_⟩
      dsimp only
      rw [gI_sI]
      by_cases z : k = i
      · rw [if_pos ⟨rfl, z⟩, z, e3.1 a0 i (by unfold sM; simp; omega)]
      · rw [if_neg (fun x => z x.2)]; exact e4 k (by omega)
    · rintro ⟨j, τ⟩ ⟨e2, e3, e4⟩
      simp only at e2 e3 e4
      subst e2
      unfold fX10_copy_l2
      rw [if_pos (show (351 : Int32) ≤ nI 351 from Int32.le_refl _)]
      exact ⟨_, rfl, e3, e4⟩
  obtain ⟨x, k1, k2⟩ := key
  rw [k1]
  exact ⟨x, rfl, k2⟩
theorem i351 (a k : Nat) : (351 : Int32) * nI a + nI k = nI (351 * a + k) := by rw [show (351 : Int32) = nI 351 from rfl, pk_mul, nI_add]
theorem m_load {q m : Nat} (r35 : gR σ 310 35 = some 325) (hq : q < 5) (hm : ln m = 351) (hne : m ≠ 325) : ∃ σ', fX10_load 310 (nI q) m σ = some σ' ∧ Sm (sM m) σ σ' ∧ ∀ k, k < 351 → gI σ' m k = gI σ 325 (351 * q + k) := by
  unfold fX10_load fX10_load_w2
  have l325 : ln 325 = 1755 := by decide +kernel
  have key : ∃ x, wh (fun a : Int32 × Mm => fX10_load_l2 310 (nI q) m a.1 a.2) BIG (0, σ) = some x ∧ (Sm (sM m) σ x ∧ ∀ k, k < 351 → gI x m k = gI σ 325 (351 * q + k)) := by
    refine wh_inv (fun i a => a.1 = nI i ∧ Sm (sM m) σ a.2 ∧ ∀ k, k < i → gI a.2 m k = gI σ 325 (351 * q + k)) _ 351 BIG 0 _ (Nat.zero_le _) (by unfold BIG; omega) ⟨rfl, Sm.rf, fun k hk => by omega⟩ ?_ ?_
    · rintro i ⟨j, τ⟩ hi ⟨e2, e3, e4⟩
      simp only at e2 e3 e4
      subst e2
      left
      have e6 : ¬ (351 : Int32) ≤ nI i := fun z => absurd ((leT (a := 351) (by omega) (by omega)).mp z) (by omega)
      unfold fX10_load_l2
      rw [if_neg e6, e3.2.2 310 35 (by omega), r35, Option.bind_some, i351, hm, l325, if_pos (ixT (by omega) (by omega)), if_pos (ixT (by omega) (by omega)), clT (by omega), clT (by omega)]
      refine ⟨_, rfl, nI_1 i, e3.sI (by unfold sM; simp), fun k hk => ?_⟩
      dsimp only
      rw [gI_sI]
      by_cases z : k = i
      · rw [if_pos ⟨rfl, z⟩, z, e3.1 325 _ (by unfold sM; simp; omega)]
      · rw [if_neg (fun x => z x.2)]; exact e4 k (by omega)
    · rintro ⟨j, τ⟩ ⟨e2, e3, e4⟩
      simp only at e2 e3 e4
      subst e2
      unfold fX10_load_l2
      rw [if_pos (show (351 : Int32) ≤ nI 351 from Int32.le_refl _)]
      exact ⟨_, rfl, e3, e4⟩
  obtain ⟨x, k1, k2⟩ := key
  rw [k1]
  exact ⟨x, rfl, k2⟩
theorem m_save {q m : Nat} (r35 : gR σ 310 35 = some 325) (hq : q < 5) (hm : ln m = 351) (hne : m ≠ 325) : ∃ σ', fX10_save 310 (nI q) m σ = some σ' ∧ Sm (fun c k => c == 325 && (decide (351 * q ≤ k) && decide (k < 351 * q + 351))) σ σ' ∧ ∀ k, k < 351 → gI σ' 325 (351 * q + k) = gI σ m k := by
  unfold fX10_save fX10_save_w2
  have l325 : ln 325 = 1755 := by decide +kernel
  have key : ∃ x, wh (fun a : Int32 × Mm => fX10_save_l2 310 (nI q) m a.1 a.2) BIG (0, σ) = some x ∧ (Sm (fun c k => c == 325 && (decide (351 * q ≤ k) && decide (k < 351 * q + 351))) σ x ∧ ∀ k, k < 351 → gI x 325 (351 * q + k) = gI σ m k) := by
    refine wh_inv (fun i a => a.1 = nI i ∧ Sm (fun c k => c == 325 && (decide (351 * q ≤ k) && decide (k < 351 * q + 351))) σ a.2 ∧ ∀ k, k < i → gI a.2 325 (351 * q + k) = gI σ m k) _ 351 BIG 0 _ (Nat.zero_le _) (by unfold BIG; omega) ⟨rfl, Sm.rf, fun k hk => by omega⟩ ?_ ?_
    · rintro i ⟨j, τ⟩ hi ⟨e2, e3, e4⟩
      simp only at e2 e3 e4
      subst e2
      left
      have e6 : ¬ (351 : Int32) ≤ nI i := fun z => absurd ((leT (a := 351) (by omega) (by omega)).mp z) (by omega)
      unfold fX10_save_l2
      rw [if_neg e6, e3.2.2 310 35 (by omega), r35, Option.bind_some, i351, hm, l325, if_pos (ixT (by omega) (by omega)), if_pos (ixT (by omega) (by omega)), clT (by omega), clT (by omega)]
      refine ⟨_, rfl, nI_1 i, e3.sI (by simp; omega), fun k hk => ?_⟩
      dsimp only
      rw [gI_sI]
      by_cases z : k = i
      · rw [if_pos ⟨rfl, by omega⟩, z, e3.1 m i (by simp; omega)]
      · rw [if_neg (by omega)]; exact e4 k (by omega)
    · rintro ⟨j, τ⟩ ⟨e2, e3, e4⟩
      simp only at e2 e3 e4
      subst e2
      unfold fX10_save_l2
      rw [if_pos (show (351 : Int32) ≤ nI 351 from Int32.le_refl _)]
      exact ⟨_, rfl, e3, e4⟩
  obtain ⟨x, k1, k2⟩ := key
  rw [k1]
  exact ⟨x, rfl, k2⟩
theorem m_rem50 {acts : Nat} (r41 : gR σ 310 41 = some 329) (r33 : gR σ 310 33 = some 323) (ha : acts < 40) (ea : gI σ 310 42 = nI acts) : ∃ σ', fX10_remember_b50 310 σ = some σ' ∧ Sm sU σ σ' ∧ gI σ' 310 42 = nI (acts + 1) ∧ (∀ k, k < 351 → gI σ' 329 (351 * acts + k) = gI σ 323 k) ∧ ∀ k, k < 351 * acts → gI σ' 329 k = gI σ 329 k := by
  unfold fX10_remember_b50 fX10_remember_w52
  have l329 : ln 329 = 14040 := by decide +kernel
  have l323 : ln 323 = 351 := by decide +kernel
  have key : ∃ x, wh (fun a : Int32 × Mm => fX10_remember_l52 310 a.1 a.2) BIG (0, σ) = some x ∧ (Sm (sM 329) σ x ∧ (∀ k, k < 351 → gI x 329 (351 * acts + k) = gI σ 323 k) ∧ ∀ k, k < 351 * acts → gI x 329 k = gI σ 329 k) := by
    refine wh_inv (fun i a => a.1 = nI i ∧ Sm (sM 329) σ a.2 ∧ (∀ k, k < i → gI a.2 329 (351 * acts + k) = gI σ 323 k) ∧ ∀ k, k < 351 * acts → gI a.2 329 k = gI σ 329 k) _ 351 BIG 0 _ (Nat.zero_le _) (by unfold BIG; omega) ⟨rfl, Sm.rf, fun k hk => by omega, fun k hk => rfl⟩ ?_ ?_
    · rintro i ⟨j, τ⟩ hi ⟨e2, e3, e4, e5⟩
      simp only at e2 e3 e4 e5
      subst e2
      left
      have e6 : ¬ (351 : Int32) ≤ nI i := fun z => absurd ((leT (a := 351) (by omega) (by omega)).mp z) (by omega)
      unfold fX10_remember_l52
      rw [if_neg e6, e3.2.2 310 41 (by omega), r41, Option.bind_some, e3.2.2 310 33 (by omega), r33, Option.bind_some, e3.1 310 42 rfl, ea, i351, l323, l329, if_pos (ixT (by omega) (by omega)), if_pos (ixT (by omega) (by omega)), clT (by omega), clT (by omega)]
      refine ⟨_, rfl, nI_1 i, e3.sI rfl, fun k hk => ?_, fun k hk => ?_⟩
      · dsimp only
        rw [gI_sI]
        by_cases z : k = i
        · rw [if_pos ⟨rfl, by omega⟩, z, e3.1 323 i rfl]
        · rw [if_neg (by omega)]; exact e4 k (by omega)
      · dsimp only
        rw [gI_sI, if_neg (by omega)]; exact e5 k hk
    · rintro ⟨j, τ⟩ ⟨e2, e3, e4, e5⟩
      simp only at e2 e3 e4 e5
      subst e2
      unfold fX10_remember_l52
      rw [if_pos (show (351 : Int32) ≤ nI 351 from Int32.le_refl _)]
      exact ⟨_, rfl, e3, e4, e5⟩
  obtain ⟨x, k1, k2, k3, k4⟩ := key
  rw [k1, Option.bind_some]
  dsimp only
  rw [k2.1 310 42 rfl, ea, nI_1]
  refine ⟨_, rfl, (k2.mono (fun c k hc => by unfold sU at hc; exact (Bool.or_eq_false_iff.mp hc).1)).sI rfl, by rw [gI_sI, if_pos ⟨rfl, rfl⟩], fun k hk => ?_, fun k hk => ?_⟩
  · rw [gI_sI, if_neg (by omega)]; exact k3 k hk
  · rw [gI_sI, if_neg (by omega)]; exact k4 k hk
theorem m_remember {acts S : Nat} {w : Nat → Int32} {pw jl : Nat → Nat → Int32} (r41 : gR σ 310 41 = some 329) (r33 : gR σ 310 33 = some 323) (hP : MP σ acts pw S jl) (hm : MW σ 323 w) (hg : MLg σ 323 (min S 60) (mlg S 0 jl)) (hS : S ≤ 100) : ∃ σ', fX10_remember 310 σ = some σ' ∧ Sm sU σ σ' ∧ ∀ a b c d, MP σ' (min 40 (acts + 1)) (sPw w pw) (min 100 (S + 1)) (sJ jl a b c d) := by
  obtain ⟨ha, ea, hr⟩ := hP
  have hrow := RowAt.of hm hg
  -- what a new past is, when the rows lie as they should
  have fin : ∀ (σ' : Mm) (n : Nat), n < 40 → gI σ' 310 42 = nI (n + 1) → min 40 (acts + 1) = n + 1 → (∀ k, k < 351 → gI σ' 329 (351 * n + k) = gI σ 323 k) → (∀ u, u < n → ∀ k, k < 351 → gI σ' 329 (351 * (n - 1 - u) + k) = gI σ 329 (351 * (acts - 1 - u) + k)) → n ≤ acts → ∀ a b c d, MP σ' (min 40 (acts + 1)) (sPw w pw) (min 100 (S + 1)) (sJ jl a b c d) := by
    intro σ' n hn e1 e2 e3 e4 e5 a b c d
    rw [e2]
    refine ⟨by omega, e1, fun u hu => ?_⟩
    unfold sPw
    by_cases z : u = 0
    · subst z
      rw [if_pos rfl, show n + 1 - 1 - 0 = n by omega, show min (min 100 (S + 1) - (0 + 1)) 60 = min S 60 by omega]
      refine (hrow.cp (c' := 329) (b' := 351 * n) (fun k hk => by rw [e3 k hk, Nat.zero_add])).ex (fun i j hi => ?_)
      unfold mlg sJ
      rw [if_neg (by omega)]
      congr 1
      omega
    · rw [if_neg z, show n + 1 - 1 - u = n - 1 - (u - 1) by omega, show min (min 100 (S + 1) - (u + 1)) 60 = min (S - (u - 1 + 1)) 60 by omega]
      refine ((hr (u - 1) (by omega)).cp (c' := 329) (b' := 351 * (n - 1 - (u - 1))) (fun k hk => e4 (u - 1) (by omega) k hk)).ex (fun i j hi => ?_)
      unfold mlg sJ
      rw [if_neg (by omega)]
      congr 1
      omega
  unfold fX10_remember
  rw [ea]
  by_cases q : acts = 40
  · subst q
    rw [if_pos (show nI 40 = 40 from rfl)]
    unfold fX10_remember_w11
    have l329 : ln 329 = 14040 := by decide +kernel
    have key : ∃ x, wh (fun a : Int32 × Mm => fX10_remember_l11 310 a.1 a.2) BIG (0, σ) = some x ∧ (Sm (sM 329) σ x ∧ (∀ k, k < 13689 → gI x 329 k = gI σ 329 (k + 351))) := by
      refine wh_inv (fun i a => a.1 = nI i ∧ Sm (sM 329) σ a.2 ∧ (∀ k, k < i → gI a.2 329 k = gI σ 329 (k + 351)) ∧ ∀ k, i ≤ k → gI a.2 329 k = gI σ 329 k) _ 13689 BIG 0 _ (Nat.zero_le _) (by unfold BIG; omega) ⟨rfl, Sm.rf, fun k hk => by omega, fun k hk => rfl⟩ ?_ ?_
      · rintro i ⟨j, τ⟩ hi ⟨e2, e3, e4, e5⟩
        simp only at e2 e3 e4 e5
        subst e2
        left
        have e6 : ¬ (13689 : Int32) ≤ nI i := fun z => absurd ((leT (a := 13689) (by omega) (by omega)).mp z) (by omega)
        unfold fX10_remember_l11
        rw [if_neg e6, e3.2.2 310 41 (by omega), r41, Option.bind_some, show (351 : Int32) = nI 351 from rfl, nI_add, l329, if_pos (ixT (by omega) (by omega)), if_pos (ixT (by omega) (by omega)), clT (by omega), clT (by omega)]
        refine ⟨_, rfl, nI_1 i, e3.sI rfl, fun k hk => ?_, fun k hk => ?_⟩
        · dsimp only
          rw [gI_sI]
          by_cases z : k = i
          · rw [if_pos ⟨rfl, z⟩, z, e5 _ (by omega)]
          · rw [if_neg (by omega)]; exact e4 k (by omega)
        · dsimp only
          rw [gI_sI, if_neg (by omega)]; exact e5 k (by omega)
      · rintro ⟨j, τ⟩ ⟨e2, e3, e4, e5⟩
        simp only at e2 e3 e4 e5
        subst e2
        unfold fX10_remember_l11
        rw [if_pos (show (13689 : Int32) ≤ nI 13689 from Int32.le_refl _)]
        exact ⟨_, rfl, e3, e4⟩
    obtain ⟨x, k1, k2, k3⟩ := key
    rw [k1, Option.bind_some]
    dsimp only
    rw [k2.1 310 42 rfl, ea, show nI 40 - 1 = nI 39 from rfl]
    obtain ⟨τ, j1, j2, j3, j4, j5⟩ := m_rem50 (σ := sI x 310 42 (nI 39)) (acts := 39) (by show gR x 310 41 = _; rw [k2.2.2 310 41 (by omega)]; exact r41) (by show gR x 310 33 = _; rw [k2.2.2 310 33 (by omega)]; exact r33) (by omega) (by rw [gI_sI, if_pos ⟨rfl, rfl⟩])
    rw [j1]
    refine ⟨τ, rfl, ((k2.mono (fun c k hc => by unfold sU at hc; exact (Bool.or_eq_false_iff.mp hc).1)).sI (S := sU) rfl).tr j2, fin τ 39 (by omega) j3 (by omega) (fun k hk => ?_) (fun u hu k hk => ?_) (by omega)⟩
    · rw [j4 k hk, gI_sI, if_neg (by omega), k2.1 323 k rfl]
    · rw [j5 _ (by omega), gI_sI, if_neg (by omega), k3 _ (by omega)]
      congr 1
      omega
  · have q' : ¬ nI acts = 40 := fun z => q ((eqT (b := 40) (by omega) (by omega)).mp z)
    rw [if_neg q']
    obtain ⟨τ, j1, j2, j3, j4, j5⟩ := m_rem50 r41 r33 (by omega) ea
    rw [j1]
    refine ⟨τ, rfl, j2, fin τ acts (by omega) j3 (by omega) j4 (fun u hu k hk => ?_) (by omega)⟩
    rw [j5 _ (by omega)]
end Rows
