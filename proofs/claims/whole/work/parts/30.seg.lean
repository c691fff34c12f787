/-! laws: what a stretch of a law's signs is worth -/
def lcl (x : Int64) : Int32 := Int64.toInt32 (maxL (-1000000) (minL 1000000 x))
def jn (c a b : Int32) : Int32 :=
  if c = 38 then lcl (Int32.toInt64 (a &&& b)) else if c = 42 then lcl (Int32.toInt64 a * Int32.toInt64 b) else if c = 43 then lcl (Int32.toInt64 a + Int32.toInt64 b) else if c = 45 then lcl (Int32.toInt64 a - Int32.toInt64 b) else if c = 47 then (if b = 0 then lcl 0 else lcl (Int32.toInt64 (a / b))) else if c = 60 then (if b ≤ a then lcl 0 else lcl 1) else if c = 61 then (if a = b then lcl 1 else lcl 0) else if c = 62 then (if a ≤ b then lcl 0 else lcl 1) else lcl (Int32.toInt64 (a ||| b))
def isOp (c : Int32) : Prop := c = 38 ∨ c = 42 ∨ c = 43 ∨ c = 45 ∨ c = 47 ∨ c = 60 ∨ c = 61 ∨ c = 62 ∨ c = 124
theorem lcmp_le (x y : Int64) : lg_cmp x y ≤ 0 ↔ ¬ y < x := by
  unfold lg_cmp
  by_cases h1 : x > y
  · rw [if_pos h1]
    exact ⟨fun z => absurd z (by decide), fun z => absurd h1 z⟩
  · rw [if_neg h1]
    refine ⟨fun _ => h1, fun _ => ?_⟩
    by_cases h2 : x = y
    · rw [if_pos h2]; decide
    · rw [if_neg h2]; decide
theorem lcmp_ge (x y : Int64) : 0 ≤ lg_cmp x y ↔ ¬ x < y := by
  unfold lg_cmp
  by_cases h1 : x > y
  · rw [if_pos h1]
    exact ⟨fun _ z => Int64.lt_irrefl (Int64.lt_trans z h1), fun _ => by decide⟩
  · rw [if_neg h1]
    by_cases h2 : x = y
    · rw [if_pos h2]
      exact ⟨fun _ z => Int64.lt_irrefl (by rw [h2] at z; exact z), fun _ => by decide⟩
    · rw [if_neg h2]
      exact ⟨fun z => absurd z (by decide), fun z => absurd (Int64.lt_of_le_of_ne (Int64.not_lt.mp h1) h2) z⟩
theorem lcl_if (x : Int64) (σ : Mm) : fX3_joined_b214 x σ = some (lcl x) := by
  unfold fX3_joined_b214 lcl minL
  by_cases h1 : (1000000 : Int64) < x
  · rw [if_neg (fun z => (lcmp_le _ _).mp z h1), if_neg (fun z : x < 1000000 => Int64.lt_irrefl (Int64.lt_trans z h1))]
    exact congrArg some (by decide +kernel)
  · rw [if_pos ((lcmp_le _ _).mpr h1)]
    have e : (if x < 1000000 then x else 1000000) = x := by
      by_cases h2 : x < 1000000
      · rw [if_pos h2]
      · rw [if_neg h2]; exact Int64.le_antisymm (Int64.not_lt.mp h2) (Int64.not_lt.mp h1)
    rw [e]
    unfold maxL
    by_cases h3 : x < -1000000
    · rw [if_neg (fun z => (lcmp_ge _ _).mp z h3), if_pos h3]
      exact congrArg some (by decide +kernel)
    · rw [if_pos ((lcmp_ge _ _).mpr h3), if_neg h3]
theorem c_joined {c : Int32} (hc : isOp c) (a b : Int32) (σ : Mm) : fX3_joined c a b σ = some (jn c a b) := by
  unfold isOp at hc
  unfold fX3_joined jn fX3_joined_b155 fX3_joined_b169 fX3_joined_b183 fX3_joined_b197
  simp only [lcl_if]
  rcases hc with rfl | rfl | rfl | rfl | rfl | rfl | rfl | rfl | rfl
  · rw [if_pos rfl, if_pos rfl]
  · repeat rw [if_neg (by decide)]
    rw [if_pos rfl, if_pos rfl]; rfl
  · repeat rw [if_neg (by decide)]
    rw [if_pos rfl, if_pos rfl]; rfl
  · repeat rw [if_neg (by decide)]
    rw [if_pos rfl, if_pos rfl]; rfl
  · repeat rw [if_neg (by decide)]
    rw [if_pos rfl, if_pos rfl]
    by_cases q : b = 0
    · rw [if_pos q, if_pos q]; rfl
    · rw [if_neg q, if_neg q, if_neg q]; rfl
  · repeat rw [if_neg (by decide)]
    rw [if_pos rfl, if_pos rfl]
    by_cases q : b ≤ a
    · rw [if_pos q, if_pos q]; rfl
    · rw [if_neg q, if_neg q]; rfl
  · repeat rw [if_neg (by decide)]
    rw [if_pos rfl, if_pos rfl]
    by_cases q : a = b
    · rw [if_pos q, if_pos q]; rfl
    · rw [if_neg q, if_neg q]; rfl
  · repeat rw [if_neg (by decide)]
    rw [if_pos rfl, if_pos rfl]
    by_cases q : a ≤ b
    · rw [if_pos q, if_pos q]; rfl
    · rw [if_neg q, if_neg q]; rfl
  · repeat rw [if_neg (by decide)]
/-- not the least int -/
def NM (x : Int32) : Prop := x ≠ -2147483648
theorem lcl_nm (x : Int64) : NM (lcl x) := by
  intro h
  have h1 := congrArg Int32.toInt h
  unfold lcl at h1
  rw [Int64.toInt_toInt32] at h1
  have e0 : ((-2147483648 : Int32)).toInt = -2147483648 := by decide
  have e1 : ((-1000000 : Int64)).toInt = -1000000 := by decide
  have e2 : ((1000000 : Int64)).toInt = 1000000 := by decide
  have hb : -1000000 ≤ (maxL (-1000000) (minL 1000000 x)).toInt ∧ (maxL (-1000000) (minL 1000000 x)).toInt ≤ 1000000 := by
    unfold maxL minL
    by_cases q : x < 1000000
    · rw [if_pos q]
      rw [Int64.lt_iff_toInt_lt, e2] at q
      by_cases q2 : x < -1000000
      · rw [if_pos q2, e1]; omega
      · rw [if_neg q2]
        rw [Int64.lt_iff_toInt_lt, e1] at q2
        omega
    · rw [if_neg q]
      rw [if_neg (by decide), e2]; omega
  rw [e0, Int.bmod_eq_of_le (by omega) (by omega)] at h1
  omega
theorem jn_nm (c a b : Int32) : NM (jn c a b) := by
  unfold jn
  repeat (first | exact lcl_nm _ | split)
theorem div64 {a : Int32} (h : NM a) (b : Int32) : Int32.toInt64 (a / b) = Int32.toInt64 a / Int32.toInt64 b := Int32.toInt64_div_of_ne_left a b (fun z => h (z.trans (by decide)))
/-- one sign: the stack S, so many on it -/
def stO (c v : Int32) (ℓ : Nat → Int32) (s : Nat × (Nat → Int32)) : Option (Nat × (Nat → Int32)) :=
  if 242 ≤ s.1 then none else if c = 48 then some (s.1 + 1, uw s.2 s.1 v) else if c = 97 then some (s.1 + 1, uw s.2 s.1 (ℓ (Int32.toNatClampNeg v))) else if c = 33 then (if s.1 = 0 then none else some (s.1, uw s.2 (s.1 - 1) (1 - s.2 (s.1 - 1)))) else if s.1 ≤ 1 then none else some (s.1 - 1, uw s.2 (s.1 - 2) (jn c (s.2 (s.1 - 2)) (s.2 (s.1 - 1))))
/-- k signs from i on -/
def rnO (cs vs ℓ : Nat → Int32) : Nat → Nat → Nat × (Nat → Int32) → Option (Nat × (Nat → Int32))
  | 0, _, s => some s
  | k + 1, i, s => (stO (cs i) (vs i) ℓ s).bind (rnO cs vs ℓ k (i + 1))
theorem rnO_s (cs vs ℓ : Nat → Int32) (k i : Nat) (s : Nat × (Nat → Int32)) : rnO cs vs ℓ (k + 1) i s = (stO (cs i) (vs i) ℓ s).bind (rnO cs vs ℓ k (i + 1)) := rfl
theorem rnO_add (cs vs ℓ : Nat → Int32) (m : Nat) : ∀ k i s, rnO cs vs ℓ (k + m) i s = (rnO cs vs ℓ k i s).bind (rnO cs vs ℓ m (i + k)) := by
  intro k
  induction k with
  | zero => intro i s; rw [Nat.zero_add]; rfl
  | succ k ih =>
    intro i s
    rw [show k + 1 + m = (k + m) + 1 by omega, rnO_s, rnO_s]
    cases stO (cs i) (vs i) ℓ s with
    | none => rfl
    | some s' => rw [Option.bind_some, Option.bind_some, ih, show i + (k + 1) = i + 1 + k by omega]
theorem rnO_congr {cs vs cs' vs' ℓ : Nat → Int32} : ∀ k i s, (∀ x, i ≤ x → x < i + k → cs' x = cs x ∧ vs' x = vs x) → rnO cs' vs' ℓ k i s = rnO cs vs ℓ k i s := by
  intro k
  induction k with
  | zero => intro i s _; rfl
  | succ k ih =>
    intro i s h
    rw [rnO_s, rnO_s, (h i (Nat.le_refl _) (by omega)).1, (h i (Nat.le_refl _) (by omega)).2]
    cases stO (cs i) (vs i) ℓ s with
    | none => rfl
    | some s' => rw [Option.bind_some, Option.bind_some]; exact ih (i + 1) s' (fun x h1 h2 => h x (by omega) (by omega))
/-- the signs n .. n' put v upon whatever lies there; none of them ends a SUM or a CONDITION -/
def Seg (cs vs ℓ : Nat → Int32) (n n' : Nat) (v : Int32) : Prop := n < n' ∧ (∀ i, n ≤ i → i < n' → ¬ cs i = 59 ∧ ¬ cs i = 63 ∧ (cs i = 48 ∨ cs i = 33 ∨ isOp (cs i) ∨ (cs i = 97 ∧ ∃ k, k < 6 ∧ vs i = nI k))) ∧ ∀ t S, t + (n' - n) ≤ 242 → ∃ S', rnO cs vs ℓ (n' - n) n (t, S) = some (t + 1, S') ∧ S' t = v ∧ ∀ k, k < t → S' k = S k
theorem Seg.congr {cs vs cs' vs' ℓ : Nat → Int32} {n n' : Nat} {v : Int32} (h : Seg cs vs ℓ n n' v) (hc : ∀ x, n ≤ x → x < n' → cs' x = cs x ∧ vs' x = vs x) : Seg cs' vs' ℓ n n' v := by
  obtain ⟨h1, h2, h3⟩ := h
  refine ⟨h1, fun i a b => by rw [(hc i a b).1, (hc i a b).2]; exact h2 i a b, fun t S ht => ?_⟩
  rw [rnO_congr _ _ _ (fun x a b => hc x a (by omega))]
  exact h3 t S ht
theorem Seg.num {cs vs ℓ : Nat → Int32} {n : Nat} (hc : cs n = 48) : Seg cs vs ℓ n (n + 1) (vs n) := by
  refine ⟨by omega, fun i a b => ?_, fun t S ht => ⟨uw S t (vs n), ?_, uw_at, fun k hk => uw_ne (by omega)⟩⟩
  · have : i = n := by omega
    subst this
    rw [hc]
    exact ⟨by decide, by decide, Or.inl rfl⟩
  · rw [show n + 1 - n = 0 + 1 by omega, rnO_s, hc]
    unfold stO
    rw [if_neg (by dsimp only; omega), if_pos rfl]
    rfl
theorem Seg.let' {cs vs ℓ : Nat → Int32} {n k : Nat} (hc : cs n = 97) (hk : k < 6) (hv : vs n = nI k) : Seg cs vs ℓ n (n + 1) (ℓ k) := by
  refine ⟨by omega, fun i a b => ?_, fun t S ht => ⟨uw S t (ℓ k), ?_, uw_at, fun k hk => uw_ne (by omega)⟩⟩
  · have : i = n := by omega
    subst this
    rw [hc]
    exact ⟨by decide, by decide, Or.inr (Or.inr (Or.inr ⟨rfl, k, hk, hv⟩))⟩
  · rw [show n + 1 - n = 0 + 1 by omega, rnO_s, hc, hv]
    unfold stO
    rw [if_neg (by dsimp only; omega), if_neg (by decide), if_pos rfl, clT (by omega)]
    rfl
theorem Seg.neg {cs vs ℓ : Nat → Int32} {n n' : Nat} {v : Int32} (h : Seg cs vs ℓ n n' v) (hc : cs n' = 33) : Seg cs vs ℓ n (n' + 1) (1 - v) := by
  obtain ⟨h1, h2, h3⟩ := h
  refine ⟨by omega, fun i a b => ?_, fun t S ht => ?_⟩
  · by_cases z : i = n'
    · subst z
      rw [hc]
      exact ⟨by decide, by decide, Or.inr (Or.inl rfl)⟩
    · exact h2 i a (by omega)
  · obtain ⟨S', e, e1, e2⟩ := h3 t S (by omega)
    refine ⟨uw S' t (1 - v), ?_, uw_at, fun k hk => by rw [uw_ne (by omega)]; exact e2 k hk⟩
    rw [show n' + 1 - n = (n' - n) + 1 by omega, rnO_add, e, Option.bind_some, show n + (n' - n) = n' by omega, show (1 : Nat) = 0 + 1 from rfl, rnO_s, hc]
    unfold stO
    rw [if_neg (by dsimp only; omega), if_neg (by decide), if_neg (by decide), if_pos rfl, if_neg (by dsimp only; omega)]
    dsimp only
    rw [Nat.add_sub_cancel, e1]
    rfl
theorem Seg.op {cs vs ℓ : Nat → Int32} {n n1 n2 : Nat} {v w : Int32} (h : Seg cs vs ℓ n n1 v) (h' : Seg cs vs ℓ n1 n2 w) (ho : isOp (cs n2)) : Seg cs vs ℓ n (n2 + 1) (jn (cs n2) v w) := by
  obtain ⟨h1, h2, h3⟩ := h
  obtain ⟨h4, h5, h6⟩ := h'
  have on : ¬ cs n2 = 59 ∧ ¬ cs n2 = 63 ∧ ¬ cs n2 = 48 ∧ ¬ cs n2 = 97 ∧ ¬ cs n2 = 33 := by
    unfold isOp at ho
    rcases ho with e | e | e | e | e | e | e | e | e <;> rw [e] <;> decide
  refine ⟨by omega, fun i a b => ?_, fun t S ht => ?_⟩
  · by_cases z : i = n2
    · subst z
      exact ⟨on.1, on.2.1, Or.inr (Or.inr (Or.inl ho))⟩
    · by_cases y : i < n1
      · exact h2 i a y
      · exact h5 i (by omega) (by omega)
  · obtain ⟨S1, e, e1, e2⟩ := h3 t S (by omega)
    obtain ⟨S2, f, f1, f2⟩ := h6 (t + 1) S1 (by omega)
    refine ⟨uw S2 t (jn (cs n2) v w), ?_, uw_at, fun k hk => by rw [uw_ne (by omega), f2 k (by omega)]; exact e2 k hk⟩
    rw [show n2 + 1 - n = (n1 - n) + ((n2 - n1) + 1) by omega, rnO_add, e, Option.bind_some, show n + (n1 - n) = n1 by omega, rnO_add, f, Option.bind_some, show n1 + (n2 - n1) = n2 by omega, show (1 : Nat) = 0 + 1 from rfl, rnO_s]
    unfold stO
    rw [if_neg (by dsimp only; omega), if_neg on.2.2.1, if_neg on.2.2.2.1, if_neg on.2.2.2.2, if_neg (by dsimp only; omega)]
    dsimp only
    rw [show t + 1 + (0 + 1) - 1 = t + 1 by omega, show t + 1 + (0 + 1) - 2 = t by omega, f1, f2 t (by omega), e1]
    rfl
