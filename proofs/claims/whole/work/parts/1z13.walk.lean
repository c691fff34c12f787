def fX10_far_b80 (a0 : Nat) (a1 : Int32) (a2 : Int32) (a3 : Int32) (σ : Mm) : Option ((Int32 × Int32) ⊕ (Int32)) :=
  some (Sum.inl (a1, (a3 + 1)))
set_option maxRecDepth 20000 in
set_option maxHeartbeats 2000000 in
theorem tX10_far_b80 {X : XS} {n : Nat} {σ : Mm} {F : Nat × Option Value × Mm} {a0 : Nat} {a1 : Int32} {a2 : Int32} {a3 : Int32} (ha0 : RT n a0 110) {res : (Int32 × Int32) ⊕ (Int32)} (h : fX10_far_b80 a0 a1 a2 a3 σ = some res) (hc : ∀ (b1 : Int32) (b3 : Int32), res = .inl (b1, b3) → J X mX10_far 2 0 0 F 28 [(0, .ref a0), (1, .int b1), (2, .int a2), (3, .int b3)] [] n σ) (he0 : ∀ (b1 : Int32), res = .inr b1 → J X mX10_far 2 0 0 F 86 [(0, .ref a0), (1, .int b1), (2, .int a2)] [] n σ) : J X mX10_far 2 0 0 F 80 [(0, .ref a0), (1, .int a1), (2, .int a2), (3, .int a3)] [] n σ := by
  unfold fX10_far_b80 at h
  refine J_iinc (z := 3) (y := (a3 + 1)) (lv' := [(3, .int (a3 + 1)), (0, .ref a0), (1, .int a1), (2, .int a2)]) dX10_far_80 rfl rfl (by decide) rfl (q := 83) rfl ?_
  refine J_goto (tgt := 28) dX10_far_83 (by decide) ?_
  have h := Option.some.inj h
  refine J_pick [1, 2, 3, 0] rfl ?_
  exact hc _ _ h.symm

def fX10_far_l28 (a0 : Nat) (a2 : Int32) (a1 : Int32) (a3 : Int32) (σ : Mm) : Option ((Int32 × Int32) ⊕ (Int32)) :=
  if a2 ≤ a3 then some (Sum.inr a1) else (gR σ a0 33).bind fun r4 => if ixB (2 * a2) (ln r4) = true then if (gI σ r4 (Int32.toNatClampNeg (2 * a2))) ≤ 0 then fX10_far_b80 a0 a1 a2 a3 σ else if ixB (2 * a3) (ln r4) = true then if (gI σ r4 (Int32.toNatClampNeg (2 * a3))) ≤ 0 then fX10_far_b80 a0 a1 a2 a3 σ else (gR σ a0 20).bind fun r9 => if ixB (4 * a2) (ln r9) = true then if ixB (4 * a3) (ln r9) = true then (fX10_apart a0 (gI σ r9 (Int32.toNatClampNeg (4 * a2))) (gI σ r9 (Int32.toNatClampNeg (4 * a3))) σ).bind fun vk12 => fX10_far_b80 a0 (maxI a1 vk12) a2 a3 σ else none else none else none else none
set_option maxRecDepth 20000 in
set_option maxHeartbeats 2000000 in
theorem tX10_far_l28 {X : XS} {n : Nat} {σ : Mm} {F : Nat × Option Value × Mm} {a0 : Nat} {a2 : Int32} {a1 : Int32} {a3 : Int32} (ha0 : RT n a0 110) {res : (Int32 × Int32) ⊕ (Int32)} (h : fX10_far_l28 a0 a2 a1 a3 σ = some res) (hc : ∀ (b1 : Int32) (b3 : Int32), res = .inl (b1, b3) → J X mX10_far 2 0 0 F 28 [(0, .ref a0), (1, .int b1), (2, .int a2), (3, .int b3)] [] n σ) (he0 : ∀ (b1 : Int32), res = .inr b1 → J X mX10_far 2 0 0 F 86 [(0, .ref a0), (1, .int b1), (2, .int a2)] [] n σ) : J X mX10_far 2 0 0 F 28 [(0, .ref a0), (1, .int a1), (2, .int a2), (3, .int a3)] [] n σ := by
  unfold fX10_far_l28 at h
  refine J_iload_n (z := 3) dX10_far_28 rfl rfl (q := 29) rfl ?_
  refine J_iload_n (z := 2) dX10_far_29 rfl rfl (q := 30) rfl ?_
  refine J_icmp_ge (tgt := 86) dX10_far_30 (by decide) (q := 33) rfl (fun c2 => ?_) (fun c2 => ?_)
  · rw [if_pos c2] at h
    have h := Option.some.inj h
    refine J_pick [0, 1, 2] rfl ?_
    exact he0 _ h.symm
  · rw [if_neg c2] at h
    refine J_aload_n (z := 0) dX10_far_33 rfl rfl (q := 34) rfl ?_
    obtain ⟨r4, er4, h⟩ := bindS h
    refine J_getR dX10_far_34 lRX10_61 ha0 rfl (by decide) er4 (q := 37) rfl (fun fr4 => ?_)
    refine J_iconst (x := 2) dX10_far_37 (by decide) (q := 38) rfl ?_
    refine J_iload_n (z := 2) dX10_far_38 rfl rfl (q := 39) rfl ?_
    refine J_imul dX10_far_39  (q := 40) rfl ?_
    obtain ⟨g5, h⟩ := iteS h
    refine J_iald dX10_far_40 fr4 (ixB_ok g5) (q := 41) rfl ?_
    refine J_if_le (tgt := 80) dX10_far_41 (by decide) (q := 44) rfl (fun c5 => ?_) (fun c5 => ?_)
    · rw [if_pos c5] at h
      refine J_pick [0, 1, 2, 3] rfl ?_
      exact tX10_far_b80 ha0 h hc he0
    · rw [if_neg c5] at h
      refine J_aload_n (z := 0) dX10_far_44 rfl rfl (q := 45) rfl ?_
      refine J_getR dX10_far_45 lRX10_61 ha0 rfl (by decide) er4 (q := 48) rfl (fun _ => ?_)
      refine J_iconst (x := 2) dX10_far_48 (by decide) (q := 49) rfl ?_
      refine J_iload_n (z := 3) dX10_far_49 rfl rfl (q := 50) rfl ?_
      refine J_imul dX10_far_50  (q := 51) rfl ?_
      obtain ⟨g7, h⟩ := iteS h
      refine J_iald dX10_far_51 fr4 (ixB_ok g7) (q := 52) rfl ?_
      refine J_if_le (tgt := 80) dX10_far_52 (by decide) (q := 55) rfl (fun c7 => ?_) (fun c7 => ?_)
      · rw [if_pos c7] at h
        refine J_pick [0, 1, 2, 3] rfl ?_
        exact tX10_far_b80 ha0 h hc he0
      · rw [if_neg c7] at h
        refine J_iload_n (z := 1) dX10_far_55 rfl rfl (q := 56) rfl ?_
        refine J_aload_n (z := 0) dX10_far_56 rfl rfl (q := 57) rfl ?_
        refine J_aload_n (z := 0) dX10_far_57 rfl rfl (q := 58) rfl ?_
        obtain ⟨r9, er9, h⟩ := bindS h
        refine J_getR dX10_far_58 lRX10_43 ha0 rfl (by decide) er9 (q := 61) rfl (fun fr9 => ?_)
        refine J_iconst (x := 4) dX10_far_61 (by decide) (q := 62) rfl ?_
        refine J_iload_n (z := 2) dX10_far_62 rfl rfl (q := 63) rfl ?_
        refine J_imul dX10_far_63  (q := 64) rfl ?_
        obtain ⟨g10, h⟩ := iteS h
        refine J_iald dX10_far_64 fr9 (ixB_ok g10) (q := 65) rfl ?_
        refine J_aload_n (z := 0) dX10_far_65 rfl rfl (q := 66) rfl ?_
        refine J_getR dX10_far_66 lRX10_43 ha0 rfl (by decide) er9 (q := 69) rfl (fun _ => ?_)
        refine J_iconst (x := 4) dX10_far_69 (by decide) (q := 70) rfl ?_
        refine J_iload_n (z := 3) dX10_far_70 rfl rfl (q := 71) rfl ?_
        refine J_imul dX10_far_71  (q := 72) rfl ?_
        obtain ⟨g11, h⟩ := iteS h
        refine J_iald dX10_far_72 fr9 (ixB_ok g11) (q := 73) rfl ?_
        obtain ⟨vk12, hk12, h⟩ := bindS h
        refine J_cVi (as := [.int (gI σ r9 (Int32.toNatClampNeg (4 * a2))), .int (gI σ r9 (Int32.toNatClampNeg (4 * a3)))]) dX10_far_73 mRX10_316 ha0 (tX10_apart ha0 hk12) rfl (Nat.le_of_ble_eq_true rfl) (Nat.le_of_ble_eq_true rfl) (Nat.le_of_ble_eq_true rfl) (q := 76) rfl ?_
        intro bk12
        refine J_mmax dX10_far_76 pRX10_324 q_static_mmax q_init_math q_code_mmax (Nat.le_of_ble_eq_true rfl) (Nat.le_of_ble_eq_true rfl) (q := 79) rfl ?_
        refine J_istore_n (lv' := [(1, .int (maxI a1 vk12)), (0, .ref a0), (2, .int a2), (3, .int a3)]) dX10_far_79 rfl (by decide) rfl (q := 80) rfl ?_
        refine J_pick [1, 0, 2, 3] rfl ?_
        exact tX10_far_b80 ha0 h hc he0

def fX10_far_w28 (a0 : Nat) (a2 : Int32) (a1 : Int32) (a3 : Int32) (σ : Mm) : Option (Int32) :=
  wh (fun a : Int32 × Int32 => fX10_far_l28 a0 a2 a.1 a.2 σ) BIG (a1, a3)
set_option maxRecDepth 20000 in
set_option maxHeartbeats 2000000 in
theorem tX10_far_w28 {X : XS} {n : Nat} {σ : Mm} {F : Nat × Option Value × Mm} {a0 : Nat} {a2 : Int32} {a1 : Int32} {a3 : Int32} (ha0 : RT n a0 110) {res : Int32} (h : fX10_far_w28 a0 a2 a1 a3 σ = some res) (he0 : ∀ (b1 : Int32), res = b1 → J X mX10_far 2 0 0 F 86 [(0, .ref a0), (1, .int b1), (2, .int a2)] [] n σ) : J X mX10_far 2 0 0 F 28 [(0, .ref a0), (1, .int a1), (2, .int a2), (3, .int a3)] [] n σ := by
  unfold fX10_far_w28 at h
  refine wh_rule (P := fun a : Int32 × Int32 => J X mX10_far 2 0 0 F 28 [(0, .ref a0), (1, .int a.1), (2, .int a2), (3, .int a.2)] [] n σ) (K := fun b => b = res) ?_ _ _ _ h rfl
  intro a
  refine ⟨fun a2 hb hP => ?_, fun b hb hK => ?_⟩
  · exact tX10_far_l28 ha0 hb (fun _ _ e => by cases e; exact hP) (fun _ e => by cases e)
  · subst hK
    exact tX10_far_l28 ha0 hb (fun _ _ e => by cases e) (fun v0 e => he0 v0 (Sum.inr.inj e))

def fX10_far_l18 (a0 : Nat) (a1 : Int32) (a2 : Int32) (σ : Mm) : Option ((Int32 × Int32) ⊕ (Int32 × Mm)) :=
  if (gI σ a0 27) ≤ a2 then some (Sum.inr (a1, σ)) else (fX10_far_w28 a0 a2 a1 0 σ).bind (fun o13 => (fun xo13_1 => some (Sum.inl (xo13_1, (a2 + 1)))) o13)
set_option maxRecDepth 20000 in
set_option maxHeartbeats 2000000 in
theorem tX10_far_l18 {X : XS} {n : Nat} {σ : Mm} {F : Nat × Option Value × Mm} {a0 : Nat} {a1 : Int32} {a2 : Int32} (ha0 : RT n a0 110) {res : (Int32 × Int32) ⊕ (Int32 × Mm)} (h : fX10_far_l18 a0 a1 a2 σ = some res) (hc : ∀ (b1 : Int32) (b2 : Int32), res = .inl (b1, b2) → J X mX10_far 2 0 0 F 18 [(0, .ref a0), (1, .int b1), (2, .int b2)] [] n σ) (hr : ∀ (v : Int32) (s : Mm), res = .inr (v, s) → F = (n, some (.int v), s)) : J X mX10_far 2 0 0 F 18 [(0, .ref a0), (1, .int a1), (2, .int a2)] [] n σ := by
  unfold fX10_far_l18 at h
  refine J_iload_n (z := 2) dX10_far_18 rfl rfl (q := 19) rfl ?_
  refine J_aload_n (z := 0) dX10_far_19 rfl rfl (q := 20) rfl ?_
  refine J_getI dX10_far_20 lRX10_291 ha0 rfl (q := 23) rfl ?_
  refine J_icmp_ge (tgt := 92) dX10_far_23 (by decide) (q := 26) rfl (fun c1 => ?_) (fun c1 => ?_)
  · rw [if_pos c1] at h
    refine J_iload_n (z := 1) dX10_far_92 rfl rfl (q := 93) rfl ?_
    have h := Option.some.inj h
    exact J_ireturn dX10_far_93 rfl rfl (hr _ _ h.symm)
  · rw [if_neg c1] at h
    refine J_iconst (x := 0) dX10_far_26 (by decide) (q := 27) rfl ?_
    refine J_istore_n (lv' := [(3, .int 0), (0, .ref a0), (1, .int a1), (2, .int a2)]) dX10_far_27 rfl (by decide) rfl (q := 28) rfl ?_
    obtain ⟨o13, hlo13, h⟩ := bindS h
    refine J_pick [1, 2, 3, 0] rfl ?_
    refine tX10_far_w28 ha0 hlo13 ?_
    · intro xo13_1 qo13
      rw [qo13] at h
      try dsimp only [Sum.elim_inl, Sum.elim_inr] at h
      refine J_iinc (z := 2) (y := (a2 + 1)) (lv' := [(2, .int (a2 + 1)), (0, .ref a0), (1, .int xo13_1)]) dX10_far_86 rfl rfl (by decide) rfl (q := 89) rfl ?_
      refine J_goto (tgt := 18) dX10_far_89 (by decide) ?_
      have h := Option.some.inj h
      refine J_pick [1, 2, 0] rfl ?_
      exact hc _ _ h.symm

def fX10_far_w18 (a0 : Nat) (a1 : Int32) (a2 : Int32) (σ : Mm) : Option (Int32 × Mm) :=
  wh (fun a : Int32 × Int32 => fX10_far_l18 a0 a.1 a.2 σ) BIG (a1, a2)
set_option maxRecDepth 20000 in
set_option maxHeartbeats 2000000 in
theorem tX10_far_w18 {X : XS} {n : Nat} {σ : Mm} {F : Nat × Option Value × Mm} {a0 : Nat} {a1 : Int32} {a2 : Int32} (ha0 : RT n a0 110) {res : Int32 × Mm} (h : fX10_far_w18 a0 a1 a2 σ = some res) (hr : ∀ (v : Int32) (s : Mm), res = (v, s) → F = (n, some (.int v), s)) : J X mX10_far 2 0 0 F 18 [(0, .ref a0), (1, .int a1), (2, .int a2)] [] n σ := by
  unfold fX10_far_w18 at h
  refine wh_rule (P := fun a : Int32 × Int32 => J X mX10_far 2 0 0 F 18 [(0, .ref a0), (1, .int a.1), (2, .int a.2)] [] n σ) (K := fun b => b = res) ?_ _ _ _ h rfl
  intro a
  refine ⟨fun a2 hb hP => ?_, fun b hb hK => ?_⟩
  · exact tX10_far_l18 ha0 hb (fun _ _ e => by cases e; exact hP) (fun _ _ e => by cases e)
  · subst hK
    exact tX10_far_l18 ha0 hb (fun _ _ e => by cases e) (fun v0 v1 e => hr v0 v1 (Sum.inr.inj e))

def fX10_far (a0 : Nat) (σ : Mm) : Option (Int32 × Mm) :=
  if (gI (sI σ a0 0 0) a0 27) = 0 then some ((-1), (sI σ a0 0 0)) else (fX10_far_w18 a0 0 0 (sI σ a0 0 0)).bind (fun o14 => some o14)
set_option maxRecDepth 20000 in
set_option maxHeartbeats 2000000 in
theorem tX10_far {X : XS} {n : Nat} {σ : Mm} {a0 : Nat} (ha0 : RT n a0 110) {res : Int32 × Mm} (h : fX10_far a0 σ = some res) : MT X yX10_far mX10_far 2 0 0 [.ref a0] n σ (n, some (.int res.1), res.2) := by
  unfold fX10_far at h
  refine MT_of (by decide +kernel) rfl (fun h => by cases h) (Nat.le_of_ble_eq_true rfl) ?_
  show J X mX10_far 2 0 0 (n, some (.int res.1), res.2) 0 [(0, .ref a0)] [] n σ
  refine J_aload_n (z := 0) dX10_far_0 rfl rfl (q := 1) rfl ?_
  refine J_iconst (x := 0) dX10_far_1 (by decide) (q := 2) rfl ?_
  refine J_putI dX10_far_2 lRX10_96 (fun h => by cases h) ha0 rfl (q := 5) rfl ?_
  refine J_aload_n (z := 0) dX10_far_5 rfl rfl (q := 6) rfl ?_
  refine J_getI dX10_far_6 lRX10_291 ha0 rfl (q := 9) rfl ?_
  refine J_if_ne (tgt := 14) dX10_far_9 (by decide) (q := 12) rfl (fun c0 => ?_) (fun c0 => ?_)
  · rw [if_neg c0] at h
    refine J_iconst (x := 0) dX10_far_14 (by decide) (q := 15) rfl ?_
    refine J_istore_n (lv' := [(1, .int 0), (0, .ref a0)]) dX10_far_15 rfl (by decide) rfl (q := 16) rfl ?_
    refine J_iconst (x := 0) dX10_far_16 (by decide) (q := 17) rfl ?_
    refine J_istore_n (lv' := [(2, .int 0), (1, .int 0), (0, .ref a0)]) dX10_far_17 rfl (by decide) rfl (q := 18) rfl ?_
    obtain ⟨o14, hlo14, h⟩ := bindS h
    refine J_pick [2, 1, 0] rfl ?_
    refine tX10_far_w18 ha0 hlo14 ?_
    · intro vo14 so14 qo14
      rw [qo14] at h
      try dsimp only [Sum.elim_inl, Sum.elim_inr] at h
      have h := Option.some.inj h
      subst h
      rfl
  · rw [if_pos c0] at h
    refine J_iconst (x := (-1)) dX10_far_12 (by decide) (q := 13) rfl ?_
    have h := Option.some.inj h
    subst h
    exact J_ireturn dX10_far_13 rfl rfl rfl

def fX10_image (a0 : Nat) (σ : Mm) : Option (Int32 × Mm) :=
  if (gI (sI σ a0 0 0) a0 27) = 0 then some ((-1), (sI σ a0 0 0)) else (gR σ a0 33).bind fun r2 => (gR σ a0 50).bind fun r3 => (fX10_copy r2 r3 (sI σ a0 0 0)).bind fun sk4 => (gR sk4 a0 33).bind fun r5 => if ixB 109 (ln r5) = true then some ((gI (sI sk4 a0 51 1) r5 (Int32.toNatClampNeg 109)), (sI sk4 a0 51 1)) else none
set_option maxRecDepth 20000 in
set_option maxHeartbeats 2000000 in
theorem tX10_image {X : XS} {n : Nat} {σ : Mm} {a0 : Nat} (ha0 : RT n a0 110) {res : Int32 × Mm} (h : fX10_image a0 σ = some res) : MT X yX10_image mX10_image 2 0 0 [.ref a0] n σ (n, some (.int res.1), res.2) := by
  unfold fX10_image at h
  refine MT_of (by decide +kernel) rfl (fun h => by cases h) (Nat.le_of_ble_eq_true rfl) ?_
  show J X mX10_image 2 0 0 (n, some (.int res.1), res.2) 0 [(0, .ref a0)] [] n σ
  refine J_aload_n (z := 0) dX10_image_0 rfl rfl (q := 1) rfl ?_
  refine J_iconst (x := 0) dX10_image_1 (by decide) (q := 2) rfl ?_
  refine J_putI dX10_image_2 lRX10_96 (fun h => by cases h) ha0 rfl (q := 5) rfl ?_
  refine J_aload_n (z := 0) dX10_image_5 rfl rfl (q := 6) rfl ?_
  refine J_getI dX10_image_6 lRX10_291 ha0 rfl (q := 9) rfl ?_
  refine J_if_ne (tgt := 14) dX10_image_9 (by decide) (q := 12) rfl (fun c0 => ?_) (fun c0 => ?_)
  · rw [if_neg c0] at h
    refine J_aload_n (z := 0) dX10_image_14 rfl rfl (q := 15) rfl ?_
    obtain ⟨r2, er2, h⟩ := bindS h
    refine J_getR dX10_image_15 lRX10_61 ha0 rfl (by decide) er2 (q := 18) rfl (fun fr2 => ?_)
    refine J_aload_n (z := 0) dX10_image_18 rfl rfl (q := 19) rfl ?_
    obtain ⟨r3, er3, h⟩ := bindS h
    refine J_getR dX10_image_19 lRX10_93 ha0 rfl (by decide) er3 (q := 22) rfl (fun fr3 => ?_)
    obtain ⟨sk4, hk4, h⟩ := bindS h
    refine J_cSv (as := [.ref r2, .ref r3]) dX10_image_22 mRX10_436 (tX10_copy fr2 fr3 hk4) rfl (Nat.le_of_ble_eq_true rfl) (Nat.le_of_ble_eq_true rfl) (Nat.le_of_ble_eq_true rfl) (q := 25) rfl ?_
    refine J_aload_n (z := 0) dX10_image_25 rfl rfl (q := 26) rfl ?_
    refine J_iconst (x := 1) dX10_image_26 (by decide) (q := 27) rfl ?_
    refine J_putZ dX10_image_27 lRX10_303 (fun h => by cases h) ha0 rfl (by decide) (by decide) (q := 30) rfl ?_
    refine J_aload_n (z := 0) dX10_image_30 rfl rfl (q := 31) rfl ?_
    obtain ⟨r5, er5, h⟩ := bindS h
    refine J_getR dX10_image_31 lRX10_61 ha0 rfl (by decide) er5 (q := 34) rfl (fun fr5 => ?_)
    refine J_bipush (x := 109) dX10_image_34 (by decide) (q := 36) rfl ?_
    obtain ⟨g6, h⟩ := iteS h
    refine J_iald dX10_image_36 fr5 (ixB_ok g6) (q := 37) rfl ?_
    have h := Option.some.inj h
    subst h
    exact J_ireturn dX10_image_37 rfl rfl rfl
  · rw [if_pos c0] at h
    refine J_iconst (x := (-1)) dX10_image_12 (by decide) (q := 13) rfl ?_
    have h := Option.some.inj h
    subst h
    exact J_ireturn dX10_image_13 rfl rfl rfl

def fX10_back (a0 : Nat) (σ : Mm) : Option (Int32 × Mm) :=
  if (gI (sI σ a0 0 0) a0 51) = 0 then some ((-1), (sI σ a0 0 0)) else (gR σ a0 50).bind fun r2 => (gR σ a0 33).bind fun r3 => (fX10_copy r2 r3 (sI σ a0 0 0)).bind fun sk4 => (gR sk4 a0 33).bind fun r5 => if ixB 109 (ln r5) = true then some ((gI (sI sk4 a0 42 0) r5 (Int32.toNatClampNeg 109)), (sI sk4 a0 42 0)) else none
set_option maxRecDepth 20000 in
set_option maxHeartbeats 2000000 in
theorem tX10_back {X : XS} {n : Nat} {σ : Mm} {a0 : Nat} (ha0 : RT n a0 110) {res : Int32 × Mm} (h : fX10_back a0 σ = some res) : MT X yX10_back mX10_back 2 0 0 [.ref a0] n σ (n, some (.int res.1), res.2) := by
  unfold fX10_back at h
  refine MT_of (by decide +kernel) rfl (fun h => by cases h) (Nat.le_of_ble_eq_true rfl) ?_
  show J X mX10_back 2 0 0 (n, some (.int res.1), res.2) 0 [(0, .ref a0)] [] n σ
  refine J_aload_n (z := 0) dX10_back_0 rfl rfl (q := 1) rfl ?_
  refine J_iconst (x := 0) dX10_back_1 (by decide) (q := 2) rfl ?_
  refine J_putI dX10_back_2 lRX10_96 (fun h => by cases h) ha0 rfl (q := 5) rfl ?_
  refine J_aload_n (z := 0) dX10_back_5 rfl rfl (q := 6) rfl ?_
  refine J_getI dX10_back_6 lRX10_303 ha0 rfl (q := 9) rfl ?_
  refine J_if_ne (tgt := 14) dX10_back_9 (by decide) (q := 12) rfl (fun c0 => ?_) (fun c0 => ?_)
  · rw [if_neg c0] at h
    refine J_aload_n (z := 0) dX10_back_14 rfl rfl (q := 15) rfl ?_
    obtain ⟨r2, er2, h⟩ := bindS h
    refine J_getR dX10_back_15 lRX10_93 ha0 rfl (by decide) er2 (q := 18) rfl (fun fr2 => ?_)
    refine J_aload_n (z := 0) dX10_back_18 rfl rfl (q := 19) rfl ?_
    obtain ⟨r3, er3, h⟩ := bindS h
    refine J_getR dX10_back_19 lRX10_61 ha0 rfl (by decide) er3 (q := 22) rfl (fun fr3 => ?_)
    obtain ⟨sk4, hk4, h⟩ := bindS h
    refine J_cSv (as := [.ref r2, .ref r3]) dX10_back_22 mRX10_436 (tX10_copy fr2 fr3 hk4) rfl (Nat.le_of_ble_eq_true rfl) (Nat.le_of_ble_eq_true rfl) (Nat.le_of_ble_eq_true rfl) (q := 25) rfl ?_
    refine J_aload_n (z := 0) dX10_back_25 rfl rfl (q := 26) rfl ?_
    refine J_iconst (x := 0) dX10_back_26 (by decide) (q := 27) rfl ?_
    refine J_putI dX10_back_27 lRX10_300 (fun h => by cases h) ha0 rfl (q := 30) rfl ?_
    refine J_aload_n (z := 0) dX10_back_30 rfl rfl (q := 31) rfl ?_
    obtain ⟨r5, er5, h⟩ := bindS h
    refine J_getR dX10_back_31 lRX10_61 ha0 rfl (by decide) er5 (q := 34) rfl (fun fr5 => ?_)
    refine J_bipush (x := 109) dX10_back_34 (by decide) (q := 36) rfl ?_
    obtain ⟨g6, h⟩ := iteS h
    refine J_iald dX10_back_36 fr5 (ixB_ok g6) (q := 37) rfl ?_
    have h := Option.some.inj h
    subst h
    exact J_ireturn dX10_back_37 rfl rfl rfl
  · rw [if_pos c0] at h
    refine J_iconst (x := (-1)) dX10_back_12 (by decide) (q := 13) rfl ?_
    have h := Option.some.inj h
    subst h
    exact J_ireturn dX10_back_13 rfl rfl rfl

def fX10_count_l133 (a0 : Nat) (a2 : Int32) (a3 : Int32) (σ : Mm) : Option ((Int32 × Int32) ⊕ (Int32 × Mm)) :=
  if (gI σ a0 27) ≤ a3 then some (Sum.inr (a2, σ)) else (gR σ a0 33).bind fun r6 => if ixB (2 * a3) (ln r6) = true then some (Sum.inl ((a2 + (gI σ r6 (Int32.toNatClampNeg (2 * a3)))), (a3 + 1))) else none
set_option maxRecDepth 20000 in
set_option maxHeartbeats 2000000 in
theorem tX10_count_l133 {X : XS} {n : Nat} {σ : Mm} {F : Nat × Option Value × Mm} {a0 : Nat} {a2 : Int32} {a3 : Int32} (ha0 : RT n a0 110) {res : (Int32 × Int32) ⊕ (Int32 × Mm)} (h : fX10_count_l133 a0 a2 a3 σ = some res) (hc : ∀ (b2 : Int32) (b3 : Int32), res = .inl (b2, b3) → J X mX10_count 2 0 0 F 133 [(0, .ref a0), (2, .int b2), (3, .int b3)] [] n σ) (hr : ∀ (v : Int32) (s : Mm), res = .inr (v, s) → F = (n, some (.int v), s)) : J X mX10_count 2 0 0 F 133 [(0, .ref a0), (2, .int a2), (3, .int a3)] [] n σ := by
  unfold fX10_count_l133 at h
  refine J_iload_n (z := 2) dX10_count_133 rfl rfl (q := 134) rfl ?_
  refine J_aload_n (z := 0) dX10_count_134 rfl rfl (q := 135) rfl ?_
  refine J_getI dX10_count_135 lRX10_291 ha0 rfl (q := 138) rfl ?_
  refine J_icmp_ge (tgt := 158) dX10_count_138 (by decide) (q := 141) rfl (fun c4 => ?_) (fun c4 => ?_)
  · rw [if_pos c4] at h
    refine J_iload_n (z := 1) dX10_count_158 rfl rfl (q := 159) rfl ?_
    have h := Option.some.inj h
    exact J_ireturn dX10_count_159 rfl rfl (hr _ _ h.symm)
  · rw [if_neg c4] at h
    refine J_iload_n (z := 1) dX10_count_141 rfl rfl (q := 142) rfl ?_
    refine J_aload_n (z := 0) dX10_count_142 rfl rfl (q := 143) rfl ?_
    obtain ⟨r6, er6, h⟩ := bindS h
    refine J_getR dX10_count_143 lRX10_61 ha0 rfl (by decide) er6 (q := 146) rfl (fun fr6 => ?_)
    refine J_iconst (x := 2) dX10_count_146 (by decide) (q := 147) rfl ?_
    refine J_iload_n (z := 2) dX10_count_147 rfl rfl (q := 148) rfl ?_
    refine J_imul dX10_count_148  (q := 149) rfl ?_
    obtain ⟨g7, h⟩ := iteS h
    refine J_iald dX10_count_149 fr6 (ixB_ok g7) (q := 150) rfl ?_
    refine J_iadd dX10_count_150  (q := 151) rfl ?_
    refine J_istore_n (lv' := [(2, .int (a2 + (gI σ r6 (Int32.toNatClampNeg (2 * a3))))), (0, .ref a0), (3, .int a3)]) dX10_count_151 rfl (by decide) rfl (q := 152) rfl ?_
    refine J_iinc (z := 2) (y := (a3 + 1)) (lv' := [(3, .int (a3 + 1)), (2, .int (a2 + (gI σ r6 (Int32.toNatClampNeg (2 * a3))))), (0, .ref a0)]) dX10_count_152 rfl rfl (by decide) rfl (q := 155) rfl ?_
    refine J_goto (tgt := 133) dX10_count_155 (by decide) ?_
    have h := Option.some.inj h
    refine J_pick [2, 1, 0] rfl ?_
    exact hc _ _ h.symm

def fX10_count_w133 (a0 : Nat) (a2 : Int32) (a3 : Int32) (σ : Mm) : Option (Int32 × Mm) :=
  wh (fun a : Int32 × Int32 => fX10_count_l133 a0 a.1 a.2 σ) BIG (a2, a3)
set_option maxRecDepth 20000 in
set_option maxHeartbeats 2000000 in
theorem tX10_count_w133 {X : XS} {n : Nat} {σ : Mm} {F : Nat × Option Value × Mm} {a0 : Nat} {a2 : Int32} {a3 : Int32} (ha0 : RT n a0 110) {res : Int32 × Mm} (h : fX10_count_w133 a0 a2 a3 σ = some res) (hr : ∀ (v : Int32) (s : Mm), res = (v, s) → F = (n, some (.int v), s)) : J X mX10_count 2 0 0 F 133 [(0, .ref a0), (2, .int a2), (3, .int a3)] [] n σ := by
  unfold fX10_count_w133 at h
  refine wh_rule (P := fun a : Int32 × Int32 => J X mX10_count 2 0 0 F 133 [(0, .ref a0), (2, .int a.1), (3, .int a.2)] [] n σ) (K := fun b => b = res) ?_ _ _ _ h rfl
  intro a
  refine ⟨fun a2 hb hP => ?_, fun b hb hK => ?_⟩
  · exact tX10_count_l133 ha0 hb (fun _ _ e => by cases e; exact hP) (fun _ _ e => by cases e)
  · subst hK
    exact tX10_count_l133 ha0 hb (fun _ _ e => by cases e) (fun v0 v1 e => hr v0 v1 (Sum.inr.inj e))

def fX10_count (a0 : Nat) (a1 : Int32) (σ : Mm) : Option (Int32 × Mm) :=
  if a1 = 0 then some ((gI (sI σ a0 0 0) a0 27), (sI σ a0 0 0)) else if a1 = 1 then some ((gI (sI σ a0 0 0) a0 28), (sI σ a0 0 0)) else if a1 = 2 then some ((gI (sI σ a0 0 0) a0 7), (sI σ a0 0 0)) else if a1 = 3 then some ((gI (sI σ a0 0 0) a0 31), (sI σ a0 0 0)) else if a1 = 4 then some ((gI (sI σ a0 0 0) a0 6), (sI σ a0 0 0)) else if a1 = 5 then some ((gI (sI σ a0 0 0) a0 36), (sI σ a0 0 0)) else if a1 = 6 then (gR σ a0 33).bind fun r1 => if ixB 109 (ln r1) = true then some ((gI (sI σ a0 0 0) r1 (Int32.toNatClampNeg 109)), (sI σ a0 0 0)) else none else if a1 = 7 then some ((gI (sI σ a0 0 0) a0 26), (sI σ a0 0 0)) else if a1 = 8 then some ((gI (sI σ a0 0 0) a0 37), (sI σ a0 0 0)) else if a1 = 9 then (gR σ a0 33).bind fun r3 => (fX10_lostIn a0 r3 (sI σ a0 0 0)).bind fun vk4 => some (vk4, (sI σ a0 0 0)) else if a1 = 10 then (fX10_count_w133 a0 0 0 (sI σ a0 0 0)).bind (fun o8 => some o8) else if a1 = 11 then (gR σ a0 33).bind fun r9 => if ixB 110 (ln r9) = true then some ((gI (sI σ a0 0 0) r9 (Int32.toNatClampNeg 110)), (sI σ a0 0 0)) else none else if a1 = 12 then some ((gI (sI σ a0 0 0) a0 42), (sI σ a0 0 0)) else some ((-1000000), (sI σ a0 0 0))
set_option maxRecDepth 20000 in
set_option maxHeartbeats 2000000 in
theorem tX10_count {X : XS} {n : Nat} {σ : Mm} {a0 : Nat} {a1 : Int32} (ha0 : RT n a0 110) {res : Int32 × Mm} (h : fX10_count a0 a1 σ = some res) : MT X yX10_count mX10_count 2 0 0 [.ref a0, .int a1] n σ (n, some (.int res.1), res.2) := by
  unfold fX10_count at h
  refine MT_of (by decide +kernel) rfl (fun h => by cases h) (Nat.le_of_ble_eq_true rfl) ?_
  show J X mX10_count 2 0 0 (n, some (.int res.1), res.2) 0 [(0, .ref a0), (1, .int a1)] [] n σ
  refine J_aload_n (z := 0) dX10_count_0 rfl rfl (q := 1) rfl ?_
  refine J_iconst (x := 0) dX10_count_1 (by decide) (q := 2) rfl ?_
  refine J_putI dX10_count_2 lRX10_96 (fun h => by cases h) ha0 rfl (q := 5) rfl ?_
  refine J_iload_n (z := 1) dX10_count_5 rfl rfl (q := 6) rfl ?_
  refine J_table dX10_count_6 [(0, 72), (1, 77), (2, 82), (3, 87), (4, 92), (5, 97), (6, 102), (7, 110), (8, 115), (9, 120), (10, 129), (11, 160), (12, 168)] 173 (by decide) (by decide) (by decide) ?_ ?_
  · refine List.forall_mem_cons.mpr ⟨fun hx => ?_, List.forall_mem_cons.mpr ⟨fun hx => ?_, List.forall_mem_cons.mpr ⟨fun hx => ?_, List.forall_mem_cons.mpr ⟨fun hx => ?_, List.forall_mem_cons.mpr ⟨fun hx => ?_, List.forall_mem_cons.mpr ⟨fun hx => ?_, List.forall_mem_cons.mpr ⟨fun hx => ?_, List.forall_mem_cons.mpr ⟨fun hx => ?_, List.forall_mem_cons.mpr ⟨fun hx => ?_, List.forall_mem_cons.mpr ⟨fun hx => ?_, List.forall_mem_cons.mpr ⟨fun hx => ?_, List.forall_mem_cons.mpr ⟨fun hx => ?_, List.forall_mem_cons.mpr ⟨fun hx => ?_, fun _ hh => absurd hh List.not_mem_nil⟩⟩⟩⟩⟩⟩⟩⟩⟩⟩⟩⟩⟩
    · replace hx : a1 = 0 := hx
      rw [if_pos hx] at h
      refine J_aload_n (z := 0) dX10_count_72 rfl rfl (q := 73) rfl ?_
      refine J_getI dX10_count_73 lRX10_291 ha0 rfl (q := 76) rfl ?_
      have h := Option.some.inj h
      subst h
      exact J_ireturn dX10_count_76 rfl rfl rfl
    · replace hx : a1 = 1 := hx
      rw [if_neg (by rw [hx]; decide), if_pos hx] at h
      refine J_aload_n (z := 0) dX10_count_77 rfl rfl (q := 78) rfl ?_
      refine J_getI dX10_count_78 lRX10_294 ha0 rfl (q := 81) rfl ?_
      have h := Option.some.inj h
      subst h
      exact J_ireturn dX10_count_81 rfl rfl rfl
    · replace hx : a1 = 2 := hx
      rw [if_neg (by rw [hx]; decide), if_neg (by rw [hx]; decide), if_pos hx] at h
      refine J_aload_n (z := 0) dX10_count_82 rfl rfl (q := 83) rfl ?_
      refine J_getI dX10_count_83 lRX10_283 ha0 rfl (q := 86) rfl ?_
      have h := Option.some.inj h
      subst h
      exact J_ireturn dX10_count_86 rfl rfl rfl
    · replace hx : a1 = 3 := hx
      rw [if_neg (by rw [hx]; decide), if_neg (by rw [hx]; decide), if_neg (by rw [hx]; decide), if_pos hx] at h
      refine J_aload_n (z := 0) dX10_count_87 rfl rfl (q := 88) rfl ?_
      refine J_getI dX10_count_88 lRX10_286 ha0 rfl (q := 91) rfl ?_
      have h := Option.some.inj h
      subst h
      exact J_ireturn dX10_count_91 rfl rfl rfl
    · replace hx : a1 = 4 := hx
      rw [if_neg (by rw [hx]; decide), if_neg (by rw [hx]; decide), if_neg (by rw [hx]; decide), if_neg (by rw [hx]; decide), if_pos hx] at h
      refine J_aload_n (z := 0) dX10_count_92 rfl rfl (q := 93) rfl ?_
      refine J_getI dX10_count_93 lRX10_109 ha0 rfl (q := 96) rfl ?_
      have h := Option.some.inj h
      subst h
      exact J_ireturn dX10_count_96 rfl rfl rfl
    · replace hx : a1 = 5 := hx
      rw [if_neg (by rw [hx]; decide), if_neg (by rw [hx]; decide), if_neg (by rw [hx]; decide), if_neg (by rw [hx]; decide), if_neg (by rw [hx]; decide), if_pos hx] at h
      refine J_aload_n (z := 0) dX10_count_97 rfl rfl (q := 98) rfl ?_
      refine J_getI dX10_count_98 lRX10_70 ha0 rfl (q := 101) rfl ?_
      have h := Option.some.inj h
      subst h
      exact J_ireturn dX10_count_101 rfl rfl rfl
    · replace hx : a1 = 6 := hx
      rw [if_neg (by rw [hx]; decide), if_neg (by rw [hx]; decide), if_neg (by rw [hx]; decide), if_neg (by rw [hx]; decide), if_neg (by rw [hx]; decide), if_neg (by rw [hx]; decide), if_pos hx] at h
      refine J_aload_n (z := 0) dX10_count_102 rfl rfl (q := 103) rfl ?_
      obtain ⟨r1, er1, h⟩ := bindS h
      refine J_getR dX10_count_103 lRX10_61 ha0 rfl (by decide) er1 (q := 106) rfl (fun fr1 => ?_)
      refine J_bipush (x := 109) dX10_count_106 (by decide) (q := 108) rfl ?_
      obtain ⟨g2, h⟩ := iteS h
      refine J_iald dX10_count_108 fr1 (ixB_ok g2) (q := 109) rfl ?_
      have h := Option.some.inj h
      subst h
      exact J_ireturn dX10_count_109 rfl rfl rfl
    · replace hx : a1 = 7 := hx
      rw [if_neg (by rw [hx]; decide), if_neg (by rw [hx]; decide), if_neg (by rw [hx]; decide), if_neg (by rw [hx]; decide), if_neg (by rw [hx]; decide), if_neg (by rw [hx]; decide), if_neg (by rw [hx]; decide), if_pos hx] at h
      refine J_aload_n (z := 0) dX10_count_110 rfl rfl (q := 111) rfl ?_
      refine J_getI dX10_count_111 lRX10_297 ha0 rfl (q := 114) rfl ?_
      have h := Option.some.inj h
      subst h
      exact J_ireturn dX10_count_114 rfl rfl rfl
    · replace hx : a1 = 8 := hx
      rw [if_neg (by rw [hx]; decide), if_neg (by rw [hx]; decide), if_neg (by rw [hx]; decide), if_neg (by rw [hx]; decide), if_neg (by rw [hx]; decide), if_neg (by rw [hx]; decide), if_neg (by rw [hx]; decide), if_neg (by rw [hx]; decide), if_pos hx] at h
      refine J_aload_n (z := 0) dX10_count_115 rfl rfl (q := 116) rfl ?_
      refine J_getI dX10_count_116 lRX10_363 ha0 rfl (q := 119) rfl ?_
      have h := Option.some.inj h
      subst h
      exact J_ireturn dX10_count_119 rfl rfl rfl
    · replace hx : a1 = 9 := hx
      rw [if_neg (by rw [hx]; decide), if_neg (by rw [hx]; decide), if_neg (by rw [hx]; decide), if_neg (by rw [hx]; decide), if_neg (by rw [hx]; decide), if_neg (by rw [hx]; decide), if_neg (by rw [hx]; decide), if_neg (by rw [hx]; decide), if_neg (by rw [hx]; decide), if_pos hx] at h
      refine J_aload_n (z := 0) dX10_count_120 rfl rfl (q := 121) rfl ?_
      refine J_aload_n (z := 0) dX10_count_121 rfl rfl (q := 122) rfl ?_
      obtain ⟨r3, er3, h⟩ := bindS h
      refine J_getR dX10_count_122 lRX10_61 ha0 rfl (by decide) er3 (q := 125) rfl (fun fr3 => ?_)
      obtain ⟨vk4, hk4, h⟩ := bindS h
      refine J_cVi (as := [.ref r3]) dX10_count_125 mRX10_447 ha0 (tX10_lostIn ha0 fr3 hk4) rfl (Nat.le_of_ble_eq_true rfl) (Nat.le_of_ble_eq_true rfl) (Nat.le_of_ble_eq_true rfl) (q := 128) rfl ?_
      intro bk4
      have h := Option.some.inj h
      subst h
      exact J_ireturn dX10_count_128 rfl rfl rfl
    · replace hx : a1 = 10 := hx
      rw [if_neg (by rw [hx]; decide), if_neg (by rw [hx]; decide), if_neg (by rw [hx]; decide), if_neg (by rw [hx]; decide), if_neg (by rw [hx]; decide), if_neg (by rw [hx]; decide), if_neg (by rw [hx]; decide), if_neg (by rw [hx]; decide), if_neg (by rw [hx]; decide), if_neg (by rw [hx]; decide), if_pos hx] at h
      refine J_iconst (x := 0) dX10_count_129 (by decide) (q := 130) rfl ?_
      refine J_istore_n (lv' := [(2, .int 0), (0, .ref a0), (1, .int a1)]) dX10_count_130 rfl (by decide) rfl (q := 131) rfl ?_
      refine J_iconst (x := 0) dX10_count_131 (by decide) (q := 132) rfl ?_
      refine J_istore_n (lv' := [(3, .int 0), (2, .int 0), (0, .ref a0), (1, .int a1)]) dX10_count_132 rfl (by decide) rfl (q := 133) rfl ?_
      obtain ⟨o8, hlo8, h⟩ := bindS h
      refine J_pick [2, 1, 0] rfl ?_
      refine tX10_count_w133 ha0 hlo8 ?_
      · intro vo8 so8 qo8
        rw [qo8] at h
        try dsimp only [Sum.elim_inl, Sum.elim_inr] at h
        have h := Option.some.inj h
        subst h
        rfl
    · replace hx : a1 = 11 := hx
      rw [if_neg (by rw [hx]; decide), if_neg (by rw [hx]; decide), if_neg (by rw [hx]; decide), if_neg (by rw [hx]; decide), if_neg (by rw [hx]; decide), if_neg (by rw [hx]; decide), if_neg (by rw [hx]; decide), if_neg (by rw [hx]; decide), if_neg (by rw [hx]; decide), if_neg (by rw [hx]; decide), if_neg (by rw [hx]; decide), if_pos hx] at h
      refine J_aload_n (z := 0) dX10_count_160 rfl rfl (q := 161) rfl ?_
      obtain ⟨r9, er9, h⟩ := bindS h
      refine J_getR dX10_count_161 lRX10_61 ha0 rfl (by decide) er9 (q := 164) rfl (fun fr9 => ?_)
      refine J_bipush (x := 110) dX10_count_164 (by decide) (q := 166) rfl ?_
      obtain ⟨g10, h⟩ := iteS h
      refine J_iald dX10_count_166 fr9 (ixB_ok g10) (q := 167) rfl ?_
      have h := Option.some.inj h
      subst h
      exact J_ireturn dX10_count_167 rfl rfl rfl
    · replace hx : a1 = 12 := hx
      rw [if_neg (by rw [hx]; decide), if_neg (by rw [hx]; decide), if_neg (by rw [hx]; decide), if_neg (by rw [hx]; decide), if_neg (by rw [hx]; decide), if_neg (by rw [hx]; decide), if_neg (by rw [hx]; decide), if_neg (by rw [hx]; decide), if_neg (by rw [hx]; decide), if_neg (by rw [hx]; decide), if_neg (by rw [hx]; decide), if_neg (by rw [hx]; decide), if_pos hx] at h
      refine J_aload_n (z := 0) dX10_count_168 rfl rfl (q := 169) rfl ?_
      refine J_getI dX10_count_169 lRX10_300 ha0 rfl (q := 172) rfl ?_
      have h := Option.some.inj h
      subst h
      exact J_ireturn dX10_count_172 rfl rfl rfl
  · intro hx
    rw [if_neg (hx (0, 72) (by decide)), if_neg (hx (1, 77) (by decide)), if_neg (hx (2, 82) (by decide)), if_neg (hx (3, 87) (by decide)), if_neg (hx (4, 92) (by decide)), if_neg (hx (5, 97) (by decide)), if_neg (hx (6, 102) (by decide)), if_neg (hx (7, 110) (by decide)), if_neg (hx (8, 115) (by decide)), if_neg (hx (9, 120) (by decide)), if_neg (hx (10, 129) (by decide)), if_neg (hx (11, 160) (by decide)), if_neg (hx (12, 168) (by decide))] at h
    refine J_ldcw (x := (-1000000)) dX10_count_173 kRX10_432 (q := 176) rfl ?_
    have h := Option.some.inj h
    subst h
    exact J_ireturn dX10_count_176 rfl rfl rfl

