/-! texts: places, blanks, signs -/
theorem sI_sI (σ : Mm) (c k : Nat) (x y : Int32) : sI (sI σ c k x) c k y = sI σ c k y := by
  unfold sI
  refine Prod.ext ?_ rfl
  funext a b
  dsimp only
  by_cases q : a = c ∧ b = k
  · rw [if_pos q, if_pos q]
  · rw [if_neg q, if_neg q, if_neg q]
theorem sI_id {σ : Mm} {c k : Nat} {v : Int32} (h : gI σ c k = v) : sI σ c k v = σ := by
  unfold sI
  refine Prod.ext ?_ rfl
  funext a b
  dsimp only
  by_cases q : a = c ∧ b = k
  · rw [if_pos q, q.1, q.2]; exact h.symm
  · rw [if_neg q]
theorem whL {α β : Type} {f : α → Option (α ⊕ β)} {a a' : α} {n : Nat} (h : f a = some (.inl a')) : wh f (n + 1) a = wh f n a' := by
  show (match f a with | none => none | some (.inl a') => wh f n a' | some (.inr b) => some b) = _
  rw [h]
theorem whR {α β : Type} {f : α → Option (α ⊕ β)} {a : α} {b : β} {n : Nat} (h : f a = some (.inr b)) : wh f (n + 1) a = some b := by
  show (match f a with | none => none | some (.inl a') => wh f n a' | some (.inr b) => some b) = _
  rw [h]
def skN (b : Nat → Nat) : Nat → Nat → Nat
  | 0, p => p
  | n + 1, p => if b p = 32 then skN b n (p + 1) else p
def sk (b : Nat → Nat) (L p : Nat) : Nat := skN b (L - p) p
theorem skN_bd (b : Nat → Nat) : ∀ n p, p ≤ skN b n p ∧ skN b n p ≤ p + n ∧ (skN b n p < p + n → b (skN b n p) ≠ 32) := by
  intro n
  induction n with
  | zero => intro p; exact ⟨Nat.le_refl _, Nat.le_refl _, fun h => absurd h (Nat.lt_irrefl _)⟩
  | succ n ih =>
    intro p
    unfold skN
    by_cases q : b p = 32
    · rw [if_pos q]
      obtain ⟨h1, h2, h3⟩ := ih (p + 1)
      exact ⟨by omega, by omega, fun h => h3 (by omega)⟩
    · rw [if_neg q]
      exact ⟨Nat.le_refl _, by omega, fun _ => q⟩
theorem sk_bd {b : Nat → Nat} {L p : Nat} (h : p ≤ L) : p ≤ sk b L p ∧ sk b L p ≤ L ∧ (sk b L p < L → b (sk b L p) ≠ 32) := by
  obtain ⟨h1, h2, h3⟩ := skN_bd b (L - p) p
  exact ⟨h1, by unfold sk; omega, fun z => h3 (by unfold sk at z; omega)⟩
theorem sk_no {b : Nat → Nat} {L p : Nat} (h : p < L → b p ≠ 32) : sk b L p = p := by
  unfold sk
  by_cases q : p < L
  · obtain ⟨n, e⟩ : ∃ n, L - p = n + 1 := ⟨L - p - 1, by omega⟩
    rw [e]
    unfold skN
    rw [if_neg (h q)]
  · have e : L - p = 0 := by omega
    rw [e]
    rfl
theorem sk_sk {b : Nat → Nat} {L p : Nat} (h : p ≤ L) : sk b L (sk b L p) = sk b L p := sk_no (sk_bd h).2.2
theorem sk_s {b : Nat → Nat} {L p : Nat} (h : p < L) (hb : b p = 32) : sk b L p = sk b L (p + 1) := by
  unfold sk
  obtain ⟨n, e⟩ : ∃ n, L - p = n + 1 := ⟨L - p - 1, by omega⟩
  rw [e, show L - (p + 1) = n by omega]
  show (if b p = 32 then skN b n (p + 1) else p) = _
  rw [if_pos hb]
/-- the sign that stands next, -1 for none -/
def sg (b : Nat → Nat) (L p : Nat) : Int32 := if sk b L p < L then nI (b (sk b L p)) else -1
theorem sg_sk {b : Nat → Nat} {L p : Nat} (h : p ≤ L) : sg b L (sk b L p) = sg b L p := by unfold sg; rw [sk_sk h]
abbrev dg (b : Nat → Nat) (L p : Nat) : Prop := p < L ∧ 48 ≤ b p ∧ b p ≤ 57

section TCs
variable {σ τ : Mm} {b : Nat → Nat} {L p : Nat}
/-- the class's tape, its place at p -/
def TC (σ : Mm) (b : Nat → Nat) (L p : Nat) : Prop := p ≤ L ∧ L ≤ 240 ∧ gR σ 1 0 = some 2 ∧ gI σ 1 1 = nI L ∧ gI σ 1 2 = nI p ∧ ∀ k, k < L → b k < 256 ∧ gI σ 2 k = nI (b k)
theorem TC.cur {q : Nat} (h : TC σ b L p) (hq : q ≤ L) : TC (sI σ 1 2 (nI q)) b L q := by
  obtain ⟨h1, h2, h3, h4, h5, h6⟩ := h
  exact ⟨hq, h2, h3, by rw [gI_sI, if_neg (by omega)]; exact h4, by rw [gI_sI, if_pos ⟨rfl, rfl⟩], fun k hk => by rw [gI_sI, if_neg (by omega)]; exact h6 k hk⟩
theorem TC.sm {T : Nat → Nat → Bool} {σ' : Mm} (h : TC σ b L p) (s : Sm T σ σ') (h1 : T 1 1 = false) (h2 : T 1 2 = false) (h3 : ∀ k, T 2 k = false) : TC σ' b L p :=
  ⟨h.1, h.2.1, by rw [s.2.2 _ _ (by omega)]; exact h.2.2.1, by rw [s.1 _ _ h1]; exact h.2.2.2.1, by rw [s.1 _ _ h2]; exact h.2.2.2.2.1, fun k hk => by rw [s.1 _ _ (h3 k)]; exact h.2.2.2.2.2 k hk⟩
theorem ln2 : ln 2 = 240 ∧ ln 311 = 240 ∧ ln 312 = 960 := by decide +kernel
theorem c_next (h : TC σ b L p) : fX7_next 1 σ = some (sg b L p, sI σ 1 2 (nI (sk b L p))) := by
  have l2 := ln2.1
  unfold fX7_next fX7_next_w0
  have key : ∀ n q s, L - q = n → TC s b L q → n < 1000 → ∀ K, n < K → wh (fun a : Mm => fX7_next_l0 1 a) K s = some (sI s 1 2 (nI (sk b L q))) := by
    intro n
    induction n with
    | zero =>
      intro q s hn h _ K hK
      obtain ⟨K, rfl⟩ : ∃ K', K = K' + 1 := ⟨K - 1, by omega⟩
      have hq : q = L := by have := h.1; omega
      subst hq
      have h2 := h.2.1
      refine whR ?_
      unfold fX7_next_l0
      rw [h.2.2.2.1, h.2.2.2.2.1, if_pos (Int32.le_refl _), sk_no (fun z => absurd z (Nat.lt_irrefl _)), sI_id h.2.2.2.2.1]
    | succ n ih =>
      intro q s hn h hb K hK
      obtain ⟨K, rfl⟩ : ∃ K', K = K' + 1 := ⟨K - 1, by omega⟩
      obtain ⟨h1, h2, h3, h4, h5, h6⟩ := h
      have hq : q < L := by omega
      obtain ⟨h7, h8⟩ := h6 q hq
      have e1 : ¬ nI L ≤ nI q := fun z => absurd ((leT (by omega) (by omega)).mp z) (by omega)
      have e2 : ixB (nI q) 240 = true := ixT (by omega) (by omega)
      by_cases z : b q = 32
      · have st : fX7_next_l0 1 s = some (.inl (sI s 1 2 (nI (q + 1)))) := by
          unfold fX7_next_l0
          simp only [h4, h5, if_neg e1, h3, Option.bind_some, l2, e2, if_true, clT (show q < 2147483648 by omega), h8, z, show nI 32 = 32 from rfl, nI_1]
        rw [whL st, ih (q + 1) _ (by omega) (TC.cur (p := q) ⟨h1, h2, h3, h4, h5, h6⟩ (by omega)) (by omega) K (by omega), sI_sI, sk_s hq z]
      · have st : fX7_next_l0 1 s = some (.inr s) := by
          have z' : ¬ nI (b q) = 32 := fun y => z ((eqT (b := 32) (by omega) (by omega)).mp y)
          unfold fX7_next_l0
          simp only [h4, h5, if_neg e1, h3, Option.bind_some, l2, e2, if_true, clT (show q < 2147483648 by omega), h8, if_neg z']
        rw [whR st, sk_no (fun _ => z), sI_id h5]
  have h2 := h.2.1
  rw [key (L - p) p σ rfl h (by omega) BIG (by unfold BIG; omega), Option.bind_some]
  have hs := sk_bd (b := b) h.1
  obtain ⟨c1, c2, c3, c4, c5, c6⟩ := h.cur hs.2.1
  unfold fX7_next_b38 sg
  dsimp only
  rw [c4, c5]
  by_cases q : sk b L p < L
  · rw [if_neg (fun z => absurd ((leT (by omega) (by omega)).mp z) (by omega)), c3, Option.bind_some, l2, if_pos (ixT (by omega) (by omega)), clT (by omega), (c6 _ q).2, if_pos q]
  · rw [if_pos ((leT (by omega) (by omega)).mpr (by omega)), if_neg q]
/-- the model's text -/
def TM (τ : Mm) (a B : Nat) (b : Nat → Nat) (L p : Nat) : Prop := p ≤ L ∧ L ≤ 240 ∧ gR τ 310 5 = some a ∧ (a = 311 ∨ a = 312) ∧ B + 240 ≤ ln a ∧ gI τ 310 8 = nI B ∧ gI τ 310 9 = nI L ∧ gI τ 310 10 = nI p ∧ ∀ k, k < L → b k < 256 ∧ gI τ a (B + k) = byI (nI (b k))
theorem TM.ln {a B : Nat} (h : TM τ a B b L p) : ln a ≤ 960 := by
  rcases h.2.2.2.1 with rfl | rfl
  · rw [ln2.2.1]; omega
  · rw [ln2.2.2]; omega
theorem TM.cur {a B q : Nat} (h : TM τ a B b L p) (hq : q ≤ L) : TM (sI τ 310 10 (nI q)) a B b L q := by
  obtain ⟨h1, h2, h3, h4, h5, h6, h7, h8, h9⟩ := h
  exact ⟨hq, h2, h3, h4, h5, by rw [gI_sI, if_neg (by omega)]; exact h6, by rw [gI_sI, if_neg (by omega)]; exact h7, by rw [gI_sI, if_pos ⟨rfl, rfl⟩], fun k hk => by rw [gI_sI, if_neg (by omega)]; exact h9 k hk⟩
theorem TM.oth {a B c k : Nat} {v : Int32} (h : TM τ a B b L p) (hc : c = 310 ∧ (k < 8 ∨ 10 < k) ∨ c ≠ 310 ∧ c ≠ 311 ∧ c ≠ 312) : TM (sI τ c k v) a B b L p := by
  obtain ⟨h1, h2, h3, h4, h5, h6, h7, h8, h9⟩ := h
  exact ⟨h1, h2, h3, h4, h5, by rw [gI_sI, if_neg (by omega)]; exact h6, by rw [gI_sI, if_neg (by omega)]; exact h7, by rw [gI_sI, if_neg (by omega)]; exact h8, fun k hk => by rw [gI_sI, if_neg (by omega)]; exact h9 k hk⟩
theorem by_tab : ∀ x, x < 256 → (byI (nI x) &&& 255 = nI x) ∧ (byI (nI x) = 32 ↔ x = 32) ∧ (byI (nI x) < 48 ∨ 57 < byI (nI x) ↔ ¬ (48 ≤ x ∧ x ≤ 57)) ∧ (48 ≤ x → x ≤ 57 → byI (nI x) = nI x) ∧ chI (nI x) = nI x ∧ chB (nI x) = true := by decide +kernel
theorem m_look {a B : Nat} (h : TM τ a B b L p) : fX10_look 310 τ = some (sg b L p, sI τ 310 10 (nI (sk b L p))) := by
  have hl := h.ln
  unfold fX10_look fX10_look_w0
  have key : ∀ n q s, L - q = n → TM s a B b L q → ∀ K, n < K → wh (fun a : Mm => fX10_look_l0 310 a) K s = some (sI s 310 10 (nI (sk b L q))) := by
    intro n
    induction n with
    | zero =>
      intro q s hn h K hK
      obtain ⟨K, rfl⟩ : ∃ K', K = K' + 1 := ⟨K - 1, by omega⟩
      have hq : q = L := by have := h.1; omega
      subst hq
      refine whR ?_
      unfold fX10_look_l0
      rw [h.2.2.2.2.2.2.1, h.2.2.2.2.2.2.2.1, if_pos (Int32.le_refl _), sk_no (fun z => absurd z (Nat.lt_irrefl _)), sI_id h.2.2.2.2.2.2.2.1]
    | succ n ih =>
      intro q s hn h K hK
      obtain ⟨K, rfl⟩ : ∃ K', K = K' + 1 := ⟨K - 1, by omega⟩
      obtain ⟨h1, h2, h3, h4, h5, h6, h7, h8, h9⟩ := h
      have hq : q < L := by omega
      obtain ⟨h10, h11⟩ := h9 q hq
      obtain ⟨t1, t2, -⟩ := by_tab (b q) h10
      have e1 : ¬ nI L ≤ nI q := fun z => absurd ((leT (by omega) (by omega)).mp z) (by omega)
      have e2 : ixB (nI (B + q)) (ln a) = true := ixT (by omega) (by omega)
      by_cases z : b q = 32
      · have st : fX10_look_l0 310 s = some (.inl (sI s 310 10 (nI (q + 1)))) := by
          unfold fX10_look_l0
          simp only [h6, h7, h8, if_neg e1, h3, Option.bind_some, nI_add, e2, if_true, clT (show B + q < 2147483648 by omega), h11, if_pos (t2.mpr z), nI_1]
        rw [whL st, ih (q + 1) _ (by omega) (TM.cur (p := q) ⟨h1, h2, h3, h4, h5, h6, h7, h8, h9⟩ (by omega)) K (by omega), sI_sI, sk_s hq z]
      · have st : fX10_look_l0 310 s = some (.inr s) := by
          unfold fX10_look_l0
          simp only [h6, h7, h8, if_neg e1, h3, Option.bind_some, nI_add, e2, if_true, clT (show B + q < 2147483648 by omega), h11, if_neg (fun y => z (t2.mp y))]
        rw [whR st, sk_no (fun _ => z), sI_id h8]
  have h2 := h.2.1
  rw [key (L - p) p τ rfl h BIG (by unfold BIG; omega), Option.bind_some]
  have hs := sk_bd (b := b) h.1
  obtain ⟨c1, c2, c3, c4, c5, c6, c7, c8, c9⟩ := h.cur hs.2.1
  unfold fX10_look_b43 sg
  dsimp only
  rw [c6, c7, c8]
  by_cases q : sk b L p < L
  · rw [if_neg (fun z => absurd ((leT (by omega) (by omega)).mp z) (by omega)), c3, Option.bind_some, nI_add, if_pos (ixT (by omega) (by omega)), clT (by omega), (c9 _ q).2, (by_tab _ (c9 _ q).1).1, if_pos q]
  · rw [if_pos ((leT (by omega) (by omega)).mpr (by omega)), if_neg q]
theorem m_isDig {a B : Nat} (h : TM τ a B b L p) : fX10_isDigit 310 τ = some (if dg b L p then 1 else 0) := by
  have hl := h.ln
  obtain ⟨h1, h2, h3, h4, h5, h6, h7, h8, h9⟩ := h
  unfold fX10_isDigit
  rw [h6, h7, h8]
  by_cases q : p < L
  · obtain ⟨h10, h11⟩ := h9 p q
    obtain ⟨-, -, t3, -⟩ := by_tab (b p) h10
    have e2 : ixB (nI (B + p)) (ln a) = true := ixT (by omega) (by omega)
    simp only [if_neg (show ¬ nI L ≤ nI p from fun z => absurd ((leT (by omega) (by omega)).mp z) (by omega)), h3, Option.bind_some, nI_add, e2, if_true, clT (show B + p < 2147483648 by omega), h11]
    by_cases z : 48 ≤ b p ∧ b p ≤ 57
    · have t := fun y => (t3.mp y) z
      rw [if_neg (fun y => t (Or.inl y)), if_neg (fun y => t (Or.inr y)), if_pos (show dg b L p from ⟨q, z⟩)]
    · rw [if_neg (show ¬ dg b L p from fun y => z y.2)]
      rcases t3.mpr z with y | y
      · rw [if_pos y]
      · by_cases u : byI (nI (b p)) < 48
        · rw [if_pos u]
        · rw [if_neg u, if_pos y]
  · rw [if_pos ((leT (by omega) (by omega)).mpr (by omega)), if_neg (show ¬ dg b L p from fun y => q y.1)]
theorem c_isDig {x : Nat} (hx : x < 256) : fX7_isDigit (nI x) σ = some (if 48 ≤ x ∧ x ≤ 57 then 1 else 0) := by
  unfold fX7_isDigit
  by_cases z : 48 ≤ x ∧ x ≤ 57
  · rw [if_neg (show ¬ nI x < 48 from fun y => absurd ((ltT (b := 48) (by omega) (by omega)).mp y) (by omega)), if_neg (show ¬ 57 < nI x from fun y => absurd ((ltT (a := 57) (by omega) (by omega)).mp y) (by omega)), if_pos z]
  · rw [if_neg z]
    by_cases u : x < 48
    · rw [if_pos (show nI x < 48 from (ltT (b := 48) (by omega) (by omega)).mpr u)]
    · rw [if_neg (show ¬ nI x < 48 from fun y => absurd ((ltT (b := 48) (by omega) (by omega)).mp y) u), if_pos (show 57 < nI x from (ltT (a := 57) (by omega) (by omega)).mpr (by omega))]
/-- the digit test on the sign that stands next -/
theorem c_isDigS (h : TC σ b L p) {s : Mm} : fX7_isDigit (sg b L p) s = some (if dg b L (sk b L p) then 1 else 0) := by
  unfold sg dg
  by_cases q : sk b L p < L
  · rw [if_pos q, c_isDig (h.2.2.2.2.2 _ q).1]
    by_cases z : 48 ≤ b (sk b L p) ∧ b (sk b L p) ≤ 57
    · rw [if_pos z, if_pos ⟨q, z⟩]
    · rw [if_neg z, if_neg (fun y => z y.2)]
  · rw [if_neg q, if_neg (fun y => q y.1)]
    unfold fX7_isDigit
    rw [if_pos (by decide)]
theorem c_numL (h : TC σ b L p) (a1 a2 a3 v told : Int32) : fX7_number_l23 1 a1 a2 a3 v told σ = if dg b L p then (if told = a1 then some (Sum.inr (Sum.inr σ)) else some (Sum.inl (v * 10 + nI (b p) - 48, told + 1, sI σ 1 2 (nI (p + 1))))) else some (Sum.inr (Sum.inl (v, σ))) := by
  have l2 := ln2.1
  obtain ⟨h1, h2, h3, h4, h5, h6⟩ := h
  unfold fX7_number_l23
  rw [h4, h5]
  by_cases q : p < L
  · obtain ⟨h7, h8⟩ := h6 p q
    have e2 : ixB (nI p) 240 = true := ixT (by omega) (by omega)
    simp only [if_neg (show ¬ nI L ≤ nI p from fun z => absurd ((leT (by omega) (by omega)).mp z) (by omega)), h3, Option.bind_some, l2, e2, if_true, clT (show p < 2147483648 by omega), h8, c_isDig h7, nI_1]
    by_cases z : 48 ≤ b p ∧ b p ≤ 57
    · rw [if_pos z, if_neg z1, if_pos (show dg b L p from ⟨q, z⟩)]
    · rw [if_neg z, if_pos rfl, if_neg (show ¬ dg b L p from fun y => z y.2)]
  · rw [if_pos ((leT (by omega) (by omega)).mpr (by omega)), if_neg (show ¬ dg b L p from fun y => q y.1)]
/-! words of letters -/
theorem m_spot (t : Nat) (x : Int32) (hlt : slenN t < 1000) : fX10_spotOf t x τ = some (six t x) := by
  unfold fX10_spotOf fX10_spotOf_w2
  have drop : ∀ i, i < slenN t → (KSb t).drop i = sat t i :: (KSb t).drop (i + 1) := fun i hi => by
    unfold sat
    rw [List.drop_eq_getElem_cons (show i < (KSb t).length from hi)]
    rw [List.getD_eq_getElem?_getD, List.getElem?_eq_getElem (show i < (KSb t).length from hi)]
    rfl
  have key : ∃ y, wh (fun a : Int32 => fX10_spotOf_l2 t x a τ) BIG 0 = some y ∧ y = six t x := by
    refine wh_inv (fun i a => a = nI i ∧ sixF x ((KSb t).drop i) i = six t x) _ (slenN t) BIG 0 _ (Nat.zero_le _) (by unfold BIG; omega) ⟨rfl, rfl⟩ ?_ ?_
    · rintro i a hi ⟨rfl, e⟩
      rw [drop i hi] at e
      unfold sixF at e
      unfold fX10_spotOf_l2 slen
      rw [if_neg (fun z => absurd ((leT (by omega) (by omega)).mp z) (by omega)), if_pos (ixT hi (by omega)), clT (by omega)]
      by_cases q : sat t i = x
      · rw [if_pos q] at e ⊢
        right
        exact ⟨_, rfl, e⟩
      · rw [if_neg q] at e ⊢
        left
        exact ⟨_, rfl, nI_1 i, e⟩
    · rintro a ⟨rfl, e⟩
      rw [List.drop_eq_nil_of_le (show (KSb t).length ≤ slenN t from Nat.le_refl _)] at e
      unfold fX10_spotOf_l2 slen
      rw [if_pos (Int32.le_refl _)]
      exact ⟨_, rfl, e⟩
  obtain ⟨y, k1, k2⟩ := key
  rw [k1, k2]; rfl
theorem m_among (t : Nat) (x : Int32) (hlt : slenN t < 1000) : fX10_isAmong t x τ = some (if six t x = -1 then 0 else 1) := by
  unfold fX10_isAmong fX10_isAmong_w2
  have drop : ∀ i, i < slenN t → (KSb t).drop i = sat t i :: (KSb t).drop (i + 1) := fun i hi => by
    unfold sat
    rw [List.drop_eq_getElem_cons (show i < (KSb t).length from hi)]
    rw [List.getD_eq_getElem?_getD, List.getElem?_eq_getElem (show i < (KSb t).length from hi)]
    rfl
  have key : ∃ y, wh (fun a : Int32 => fX10_isAmong_l2 t x a τ) BIG 0 = some y ∧ y = (if six t x = -1 then 0 else 1) := by
    refine wh_inv (fun i a => a = nI i ∧ sixF x ((KSb t).drop i) i = six t x) _ (slenN t) BIG 0 _ (Nat.zero_le _) (by unfold BIG; omega) ⟨rfl, rfl⟩ ?_ ?_
    · rintro i a hi ⟨rfl, e⟩
      rw [drop i hi] at e
      unfold sixF at e
      unfold fX10_isAmong_l2 slen
      rw [if_neg (fun z => absurd ((leT (by omega) (by omega)).mp z) (by omega)), if_pos (ixT hi (by omega)), clT (by omega)]
      by_cases q : sat t i = x
      · rw [if_pos q] at e ⊢
        right
        refine ⟨_, rfl, ?_⟩
        rw [← e, if_neg (fun z => (eqN1 (by omega)).mp z)]
      · rw [if_neg q] at e ⊢
        left
        exact ⟨_, rfl, nI_1 i, e⟩
    · rintro a ⟨rfl, e⟩
      rw [List.drop_eq_nil_of_le (show (KSb t).length ≤ slenN t from Nat.le_refl _)] at e
      unfold fX10_isAmong_l2 slen
      rw [if_pos (Int32.le_refl _)]
      refine ⟨_, rfl, ?_⟩
      rw [← e]
      rfl
  obtain ⟨y, k1, k2⟩ := key
  rw [k1, k2]; rfl
theorem six_m1 : six 1100 (-1) = -1 ∧ six 1102 (-1) = -1 ∧ six 1104 (-1) = -1 ∧ six 1106 (-1) = -1 ∧ six 1108 (-1) = -1 ∧ six 1110 (-1) = -1 := by decide +kernel
theorem sl_tab : slenN 1100 = 5 ∧ slenN 1102 = 4 ∧ slenN 1104 = 4 ∧ slenN 1106 = 6 ∧ slenN 1108 = 4 ∧ slenN 1110 = 1 := by decide +kernel
theorem c_nextOf (h : TC σ b L p) (t : Nat) (ht : six t (-1) = -1) : fX7_nextOf 1 t σ = some (six t (sg b L p), sI σ 1 2 (nI (sk b L p))) := by
  unfold fX7_nextOf
  rw [c_next h, bnd2_some]
  unfold sg
  by_cases q : sk b L p < L
  · have hb := (h.2.2.2.2.2 _ q).1
    obtain ⟨-, -, -, -, t5, t6⟩ := by_tab _ hb
    rw [if_pos q, if_pos (nI_pos' (by omega)), t5, if_pos t6]
  · rw [if_neg q, if_neg (by decide), ht]
theorem sixF_rng (x : Int32) : ∀ (l : List Int32) (k : Nat), sixF x l k = -1 ∨ ∃ j, k ≤ j ∧ j < k + l.length ∧ sixF x l k = nI j := by
  intro l
  induction l with
  | nil => intro k; exact Or.inl rfl
  | cons c l ih =>
    intro k
    unfold sixF
    by_cases q : c = x
    · rw [if_pos q]; exact Or.inr ⟨k, Nat.le_refl _, by simp, rfl⟩
    · rw [if_neg q]
      rcases ih (k + 1) with e | ⟨j, h1, h2, e⟩
      · exact Or.inl e
      · exact Or.inr ⟨j, by omega, by simp; omega, e⟩
theorem six_rng (t : Nat) (x : Int32) : six t x = -1 ∨ ∃ j, j < slenN t ∧ six t x = nI j := by
  rcases sixF_rng x (KSb t) 0 with e | ⟨j, h1, h2, e⟩
  · exact Or.inl e
  · exact Or.inr ⟨j, by unfold slenN; omega, e⟩
theorem six_lt (h : TC σ b L p) {t : Nat} (ht : six t (-1) = -1) (hs : ¬ six t (sg b L p) = -1) : sk b L p < L := by
  refine Classical.byContradiction fun q => hs ?_
  unfold sg
  rw [if_neg q, ht]
theorem sg_lt {x : Nat} (hx : x < 256) (h : sg b L p = nI x) : sk b L p < L := by
  refine Classical.byContradiction fun q => ?_
  unfold sg at h
  rw [if_neg q] at h
  exact (neN1 (by omega)).mp h
end TCs
