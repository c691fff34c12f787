/-! numbers and loops of the pure functions -/
theorem k32_0 : (0 : Int32) = nI 0 := rfl
theorem k32_1 : (1 : Int32) = nI 1 := rfl
theorem k32_2 : (2 : Int32) = nI 2 := rfl
theorem k32_3 : (3 : Int32) = nI 3 := rfl
theorem k32_4 : (4 : Int32) = nI 4 := rfl
theorem k32_5 : (5 : Int32) = nI 5 := rfl
theorem k32_6 : (6 : Int32) = nI 6 := rfl
theorem k32_7 : (7 : Int32) = nI 7 := rfl
theorem k32_8 : (8 : Int32) = nI 8 := rfl
theorem k32_9 : (9 : Int32) = nI 9 := rfl
theorem k32_10 : (10 : Int32) = nI 10 := rfl
theorem k32_11 : (11 : Int32) = nI 11 := rfl
theorem k32_12 : (12 : Int32) = nI 12 := rfl
theorem k32_13 : (13 : Int32) = nI 13 := rfl
theorem k32_14 : (14 : Int32) = nI 14 := rfl
theorem k32_15 : (15 : Int32) = nI 15 := rfl
theorem k32_16 : (16 : Int32) = nI 16 := rfl
theorem k32_17 : (17 : Int32) = nI 17 := rfl
theorem k32_18 : (18 : Int32) = nI 18 := rfl
theorem k32_19 : (19 : Int32) = nI 19 := rfl
theorem k32_20 : (20 : Int32) = nI 20 := rfl
theorem k32_21 : (21 : Int32) = nI 21 := rfl
theorem k32_22 : (22 : Int32) = nI 22 := rfl
theorem k32_23 : (23 : Int32) = nI 23 := rfl
theorem k32_24 : (24 : Int32) = nI 24 := rfl
theorem k32_25 : (25 : Int32) = nI 25 := rfl
theorem k32_26 : (26 : Int32) = nI 26 := rfl
theorem k32_27 : (27 : Int32) = nI 27 := rfl
theorem k32_28 : (28 : Int32) = nI 28 := rfl
theorem k32_29 : (29 : Int32) = nI 29 := rfl
theorem k32_30 : (30 : Int32) = nI 30 := rfl
theorem k32_31 : (31 : Int32) = nI 31 := rfl
theorem k32_32 : (32 : Int32) = nI 32 := rfl
theorem k32_33 : (33 : Int32) = nI 33 := rfl
theorem k32_34 : (34 : Int32) = nI 34 := rfl
theorem k32_35 : (35 : Int32) = nI 35 := rfl
theorem k32_36 : (36 : Int32) = nI 36 := rfl
theorem k32_37 : (37 : Int32) = nI 37 := rfl
theorem k32_38 : (38 : Int32) = nI 38 := rfl
theorem k32_39 : (39 : Int32) = nI 39 := rfl
theorem k32_40 : (40 : Int32) = nI 40 := rfl
theorem k32_41 : (41 : Int32) = nI 41 := rfl
theorem k32_42 : (42 : Int32) = nI 42 := rfl
theorem k32_43 : (43 : Int32) = nI 43 := rfl
theorem k32_44 : (44 : Int32) = nI 44 := rfl
theorem k32_45 : (45 : Int32) = nI 45 := rfl
theorem k32_46 : (46 : Int32) = nI 46 := rfl
theorem k32_47 : (47 : Int32) = nI 47 := rfl
theorem k32_48 : (48 : Int32) = nI 48 := rfl
theorem k32_49 : (49 : Int32) = nI 49 := rfl
theorem k32_50 : (50 : Int32) = nI 50 := rfl
theorem k32_51 : (51 : Int32) = nI 51 := rfl
theorem k32_52 : (52 : Int32) = nI 52 := rfl
theorem k32_53 : (53 : Int32) = nI 53 := rfl
theorem k32_54 : (54 : Int32) = nI 54 := rfl
theorem k32_55 : (55 : Int32) = nI 55 := rfl
theorem k32_56 : (56 : Int32) = nI 56 := rfl
theorem k32_57 : (57 : Int32) = nI 57 := rfl
theorem k32_58 : (58 : Int32) = nI 58 := rfl
theorem k32_59 : (59 : Int32) = nI 59 := rfl
theorem k32_60 : (60 : Int32) = nI 60 := rfl
theorem k32_61 : (61 : Int32) = nI 61 := rfl
theorem k32_62 : (62 : Int32) = nI 62 := rfl
theorem k32_63 : (63 : Int32) = nI 63 := rfl
theorem k32_64 : (64 : Int32) = nI 64 := rfl
theorem k32_91 : (91 : Int32) = nI 91 := rfl
theorem k32_93 : (93 : Int32) = nI 93 := rfl
theorem k32_97 : (97 : Int32) = nI 97 := rfl
theorem k32_98 : (98 : Int32) = nI 98 := rfl
theorem k32_99 : (99 : Int32) = nI 99 := rfl
theorem k32_100 : (100 : Int32) = nI 100 := rfl
theorem k32_108 : (108 : Int32) = nI 108 := rfl
theorem k32_109 : (109 : Int32) = nI 109 := rfl
theorem k32_110 : (110 : Int32) = nI 110 := rfl
theorem k32_111 : (111 : Int32) = nI 111 := rfl
theorem k32_112 : (112 : Int32) = nI 112 := rfl
theorem k32_113 : (113 : Int32) = nI 113 := rfl
theorem k32_114 : (114 : Int32) = nI 114 := rfl
theorem k32_115 : (115 : Int32) = nI 115 := rfl
theorem k32_116 : (116 : Int32) = nI 116 := rfl
theorem k32_121 : (121 : Int32) = nI 121 := rfl
theorem k32_124 : (124 : Int32) = nI 124 := rfl
theorem k32_192 : (192 : Int32) = nI 192 := rfl
theorem k32_236 : (236 : Int32) = nI 236 := rfl
theorem k32_240 : (240 : Int32) = nI 240 := rfl
theorem k32_255 : (255 : Int32) = nI 255 := rfl
theorem k32_351 : (351 : Int32) = nI 351 := rfl
theorem k32_960 : (960 : Int32) = nI 960 := rfl
theorem k32_1000 : (1000 : Int32) = nI 1000 := rfl
theorem k32_1755 : (1755 : Int32) = nI 1755 := rfl
theorem k32_8191 : (8191 : Int32) = nI 8191 := rfl
theorem k32_9999 : (9999 : Int32) = nI 9999 := rfl
theorem k32_14040 : (14040 : Int32) = nI 14040 := rfl
theorem k32_1000000 : (1000000 : Int32) = nI 1000000 := rfl
theorem ixT {k n : Nat} (h : k < n) (hn : n ≤ 2147483648) : ixB (nI k) n = true := by
  unfold ixB
  refine decide_eq_true (fun w => ?_)
  rcases w with w | w
  · exact nI_pos (by omega) w
  · rw [nI_clamp (by omega)] at w; omega
theorem clT {k : Nat} (h : k < 2147483648) : Int32.toNatClampNeg (nI k) = k := nI_clamp (by omega)
theorem eqT {a b : Nat} (ha : a < 2147483648) (hb : b < 2147483648) : nI a = nI b ↔ a = b := nI_eq (by omega) (by omega)
theorem leT {a b : Nat} (ha : a < 2147483648) (hb : b < 2147483648) : nI a ≤ nI b ↔ a ≤ b := nI_leI (by omega) (by omega)
theorem ltT {a b : Nat} (ha : a < 2147483648) (hb : b < 2147483648) : nI a < nI b ↔ a < b := nI_ltI (by omega) (by omega)
theorem nI_toI {a : Nat} (h : a < 2147483648) : (nI a).toInt = a := nI_toInt (by omega)
theorem m1_toI : (-1 : Int32).toInt = -1 := by decide
theorem eqN1 {a : Nat} (ha : a < 2147483648) : nI a = -1 ↔ False := by
  refine ⟨fun h => ?_, False.elim⟩
  have := congrArg Int32.toInt h
  rw [nI_toI ha, m1_toI] at this
  omega
theorem neN1 {a : Nat} (ha : a < 2147483648) : -1 = nI a ↔ False := by rw [eq_comm]; exact eqN1 ha
theorem ltN1 {a : Nat} (ha : a < 2147483648) : nI a < -1 ↔ False := by
  rw [Int32.lt_iff_toInt_lt, nI_toI ha, m1_toI]
  constructor
  · intro h; omega
  · exact False.elim
theorem leN1 {a : Nat} (ha : a < 2147483648) : nI a ≤ -1 ↔ False := by
  rw [Int32.le_iff_toInt_le, nI_toI ha, m1_toI]
  constructor
  · intro h; omega
  · exact False.elim
/-- an int is small and not negative, or it isn't -/
theorem i32_cases (x : Int32) (N : Nat) (hN : N ≤ 2147483648) : (∃ k, k < N ∧ x = nI k) ∨ (¬ ∃ k, k < N ∧ x = nI k) := Classical.em _
theorem i32_out {x : Int32} {N : Nat} (hN : N < 2147483648) (h : ¬ ∃ k, k < N ∧ x = nI k) : x < 0 ∨ (¬ x < 0 ∧ nI N ≤ x) := by
  by_cases h0 : x < 0
  · exact Or.inl h0
  · right
    refine ⟨h0, ?_⟩
    obtain ⟨j, hj, rfl⟩ := nI_of h0
    by_cases hjN : j < N
    · exact absurd ⟨j, hjN, rfl⟩ h
    · exact (leT hN (by omega)).mpr (by omega)
/-! loops -/
theorem wh_inv {α β : Type} {f : α → Option (α ⊕ β)} (I : Nat → α → Prop) (Q : β → Prop) :
    ∀ (N K : Nat) (i : Nat) (a : α), i ≤ N → N < K + i → I i a → (∀ i a, i < N → I i a → (∃ a', f a = some (.inl a') ∧ I (i + 1) a') ∨ ∃ b, f a = some (.inr b) ∧ Q b) → (∀ a, I N a → ∃ b, f a = some (.inr b) ∧ Q b) → ∃ b, wh f K a = some b ∧ Q b := by
  intro N K
  induction K with
  | zero => intro i a h1 h2; omega
  | succ K ih =>
    intro i a h1 h2 hI hs hf
    by_cases hi : i = N
    · subst hi
      obtain ⟨b, e, hb⟩ := hf a hI
      exact ⟨b, by unfold wh; rw [e], hb⟩
    · rcases hs i a (by omega) hI with ⟨a', e, hI'⟩ | ⟨b, e, hb⟩
      · obtain ⟨b, e2, hb⟩ := ih (i + 1) a' (by omega) (by omega) hI' hs hf
        exact ⟨b, by unfold wh; rw [e]; exact e2, hb⟩
      · exact ⟨b, by unfold wh; rw [e], hb⟩
/-- a loop whose way is known -/
theorem wh_run {α β : Type} {f : α → Option (α ⊕ β)} (a : Nat → α) {b : β} (N : Nat) {x : α} (hx : x = a 0) (hN : N < BIG) (hs : ∀ i, i < N → f (a i) = some (.inl (a (i + 1)))) (hf : f (a N) = some (.inr b)) : wh f BIG x = some b := by
  obtain ⟨b', e, hb⟩ := wh_inv (f := f) (fun i y => y = a i) (fun y => y = b) N BIG 0 x (Nat.zero_le _) (by omega) hx (fun i y hi hy => Or.inl ⟨a (i + 1), by rw [hy]; exact hs i hi, rfl⟩) (fun y hy => ⟨b, by rw [hy]; exact hf, rfl⟩)
  rw [e, hb]
theorem BIG_lt {n : Nat} (h : n < 1000000) : n < BIG := h
