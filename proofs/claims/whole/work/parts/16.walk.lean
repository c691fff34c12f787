def fX9_placeFor_b72 (a0 : Nat) (a1 : Int32) (a2 : Int32) (a3 : Int32) (a4 : Int32) (σ : Mm) : Option ((Int32 × Int32) ⊕ (Int32)) :=
  some (Sum.inl (a3, (a4 + 1)))
set_option maxRecDepth 20000 in
set_option maxHeartbeats 2000000 in
theorem tX9_placeFor_b72 {X : XS} {n : Nat} {σ : Mm} {F : Nat × Option Value × Mm} {a0 : Nat} {a1 : Int32} {a2 : Int32} {a3 : Int32} {a4 : Int32} (ha0 : RT n a0 109) {res : (Int32 × Int32) ⊕ (Int32)} (h : fX9_placeFor_b72 a0 a1 a2 a3 a4 σ = some res) (hc : ∀ (b3 : Int32) (b4 : Int32), res = .inl (b3, b4) → J X mX9_placeFor 4 0 0 F 27 [(0, .ref a0), (1, .int a1), (2, .int a2), (3, .int b3), (4, .int b4)] [] n σ) (he0 : ∀ (b3 : Int32), res = .inr b3 → J X mX9_placeFor 4 0 0 F 78 [(0, .ref a0), (1, .int a1), (2, .int a2), (3, .int b3)] [] n σ) : J X mX9_placeFor 4 0 0 F 72 [(0, .ref a0), (1, .int a1), (2, .int a2), (3, .int a3), (4, .int a4)] [] n σ := by
  unfold fX9_placeFor_b72 at h
  refine J_iinc (z := 4) (y := (a4 + 1)) (lv' := [(4, .int (a4 + 1)), (0, .ref a0), (1, .int a1), (2, .int a2), (3, .int a3)]) dX9_placeFor_72 rfl rfl (by decide) rfl (q := 75) rfl ?_
  refine J_goto (tgt := 27) dX9_placeFor_75 (by decide) ?_
  have h := Option.some.inj h
  refine J_pick [1, 2, 3, 4, 0] rfl ?_
  exact hc _ _ h.symm

def fX9_placeFor_l27 (a0 : Nat) (a1 : Int32) (a2 : Int32) (a3 : Int32) (a4 : Int32) (σ : Mm) : Option ((Int32 × Int32) ⊕ (Int32)) :=
  (gR σ a0 1).bind fun r6 => (fX1_cells r6 σ).bind fun vk7 => if vk7 ≤ a4 then some (Sum.inr a3) else (gR σ a0 4).bind fun r9 => (gR σ a0 7).bind fun r10 => (fX0_stepsToOthers r9 r10 a1 a4 σ).bind fun vk11 => (fX0_stepsToOthers r9 r10 a1 a3 σ).bind fun vk12 => if vk11 ≤ vk12 then fX9_placeFor_b72 a0 a1 a2 a3 a4 σ else fX9_placeFor_b72 a0 a1 a2 a4 a4 σ
set_option maxRecDepth 20000 in
set_option maxHeartbeats 2000000 in
theorem tX9_placeFor_l27 {X : XS} {n : Nat} {σ : Mm} {F : Nat × Option Value × Mm} {a0 : Nat} {a1 : Int32} {a2 : Int32} {a3 : Int32} {a4 : Int32} (ha0 : RT n a0 109) {res : (Int32 × Int32) ⊕ (Int32)} (h : fX9_placeFor_l27 a0 a1 a2 a3 a4 σ = some res) (hc : ∀ (b3 : Int32) (b4 : Int32), res = .inl (b3, b4) → J X mX9_placeFor 4 0 0 F 27 [(0, .ref a0), (1, .int a1), (2, .int a2), (3, .int b3), (4, .int b4)] [] n σ) (he0 : ∀ (b3 : Int32), res = .inr b3 → J X mX9_placeFor 4 0 0 F 78 [(0, .ref a0), (1, .int a1), (2, .int a2), (3, .int b3)] [] n σ) : J X mX9_placeFor 4 0 0 F 27 [(0, .ref a0), (1, .int a1), (2, .int a2), (3, .int a3), (4, .int a4)] [] n σ := by
  unfold fX9_placeFor_l27 at h
  refine J_iload (z := 4) dX9_placeFor_27 rfl (q := 29) rfl ?_
  refine J_aload_n (z := 0) dX9_placeFor_29 rfl rfl (q := 30) rfl ?_
  obtain ⟨r6, er6, h⟩ := bindS h
  refine J_getR dX9_placeFor_30 lRX9_21 ha0 rfl (by decide) er6 (q := 33) rfl (fun fr6 => ?_)
  obtain ⟨vk7, hk7, h⟩ := bindS h
  refine J_cVi (as := []) dX9_placeFor_33 mRX9_360 fr6 (tX1_cells fr6 hk7) rfl (Nat.le_of_ble_eq_true rfl) (Nat.le_of_ble_eq_true rfl) (Nat.le_of_ble_eq_true rfl) (q := 36) rfl ?_
  intro bk7
  refine J_icmp_ge (tgt := 78) dX9_placeFor_36 (by decide) (q := 39) rfl (fun c7 => ?_) (fun c7 => ?_)
  · rw [if_pos c7] at h
    have h := Option.some.inj h
    refine J_pick [0, 1, 2, 3] rfl ?_
    exact he0 _ h.symm
  · rw [if_neg c7] at h
    refine J_aload_n (z := 0) dX9_placeFor_39 rfl rfl (q := 40) rfl ?_
    obtain ⟨r9, er9, h⟩ := bindS h
    refine J_getR dX9_placeFor_40 lRX9_42 ha0 rfl (by decide) er9 (q := 43) rfl (fun fr9 => ?_)
    refine J_aload_n (z := 0) dX9_placeFor_43 rfl rfl (q := 44) rfl ?_
    obtain ⟨r10, er10, h⟩ := bindS h
    refine J_getR dX9_placeFor_44 lRX9_63 ha0 rfl (by decide) er10 (q := 47) rfl (fun fr10 => ?_)
    refine J_iload_n (z := 1) dX9_placeFor_47 rfl rfl (q := 48) rfl ?_
    refine J_iload (z := 4) dX9_placeFor_48 rfl (q := 50) rfl ?_
    obtain ⟨vk11, hk11, h⟩ := bindS h
    refine J_cVi (as := [.ref r10, .int a1, .int a4]) dX9_placeFor_50 mRX9_363 fr9 (tX0_stepsToOthers fr9 fr10 hk11) rfl (Nat.le_of_ble_eq_true rfl) (Nat.le_of_ble_eq_true rfl) (Nat.le_of_ble_eq_true rfl) (q := 53) rfl ?_
    intro bk11
    refine J_aload_n (z := 0) dX9_placeFor_53 rfl rfl (q := 54) rfl ?_
    refine J_getR dX9_placeFor_54 lRX9_42 ha0 rfl (by decide) er9 (q := 57) rfl (fun _ => ?_)
    refine J_aload_n (z := 0) dX9_placeFor_57 rfl rfl (q := 58) rfl ?_
    refine J_getR dX9_placeFor_58 lRX9_63 ha0 rfl (by decide) er10 (q := 61) rfl (fun _ => ?_)
    refine J_iload_n (z := 1) dX9_placeFor_61 rfl rfl (q := 62) rfl ?_
    refine J_iload_n (z := 3) dX9_placeFor_62 rfl rfl (q := 63) rfl ?_
    obtain ⟨vk12, hk12, h⟩ := bindS h
    refine J_cVi (as := [.ref r10, .int a1, .int a3]) dX9_placeFor_63 mRX9_363 fr9 (tX0_stepsToOthers fr9 fr10 hk12) rfl (Nat.le_of_ble_eq_true rfl) (Nat.le_of_ble_eq_true rfl) (Nat.le_of_ble_eq_true rfl) (q := 66) rfl ?_
    intro bk12
    refine J_icmp_le (tgt := 72) dX9_placeFor_66 (by decide) (q := 69) rfl (fun c12 => ?_) (fun c12 => ?_)
    · rw [if_pos c12] at h
      refine J_pick [0, 1, 2, 3, 4] rfl ?_
      exact tX9_placeFor_b72 ha0 h hc he0
    · rw [if_neg c12] at h
      refine J_iload (z := 4) dX9_placeFor_69 rfl (q := 71) rfl ?_
      refine J_istore_n (lv' := [(3, .int a4), (0, .ref a0), (1, .int a1), (2, .int a2), (4, .int a4)]) dX9_placeFor_71 rfl (by decide) rfl (q := 72) rfl ?_
      refine J_pick [1, 2, 3, 0, 4] rfl ?_
      exact tX9_placeFor_b72 ha0 h hc he0

def fX9_placeFor_w27 (a0 : Nat) (a1 : Int32) (a2 : Int32) (a3 : Int32) (a4 : Int32) (σ : Mm) : Option (Int32) :=
  wh (fun a : Int32 × Int32 => fX9_placeFor_l27 a0 a1 a2 a.1 a.2 σ) BIG (a3, a4)
set_option maxRecDepth 20000 in
set_option maxHeartbeats 2000000 in
theorem tX9_placeFor_w27 {X : XS} {n : Nat} {σ : Mm} {F : Nat × Option Value × Mm} {a0 : Nat} {a1 : Int32} {a2 : Int32} {a3 : Int32} {a4 : Int32} (ha0 : RT n a0 109) {res : Int32} (h : fX9_placeFor_w27 a0 a1 a2 a3 a4 σ = some res) (he0 : ∀ (b3 : Int32), res = b3 → J X mX9_placeFor 4 0 0 F 78 [(0, .ref a0), (1, .int a1), (2, .int a2), (3, .int b3)] [] n σ) : J X mX9_placeFor 4 0 0 F 27 [(0, .ref a0), (1, .int a1), (2, .int a2), (3, .int a3), (4, .int a4)] [] n σ := by
  unfold fX9_placeFor_w27 at h
  refine wh_rule (P := fun a : Int32 × Int32 => J X mX9_placeFor 4 0 0 F 27 [(0, .ref a0), (1, .int a1), (2, .int a2), (3, .int a.1), (4, .int a.2)] [] n σ) (K := fun b => b = res) ?_ _ _ _ h rfl
  intro a
  refine ⟨fun a2 hb hP => ?_, fun b hb hK => ?_⟩
  · exact tX9_placeFor_l27 ha0 hb (fun _ _ e => by cases e; exact hP) (fun _ e => by cases e)
  · subst hK
    exact tX9_placeFor_l27 ha0 hb (fun _ _ e => by cases e) (fun v0 e => he0 v0 (Sum.inr.inj e))

def fX9_placeFor (a0 : Nat) (a1 : Int32) (a2 : Int32) (σ : Mm) : Option (Int32) :=
  (gR σ a0 1).bind fun r1 => (fX1_hasPage r1 a1 σ).bind fun vk2 => if vk2 = 0 then some (-1) else if a2 < 0 then some (-1) else if a2 ≤ 1 then (fX9_placeFor_w27 a0 a1 a2 0 1 σ).bind (fun o14 => (fun xo14_3 => if a2 = 0 then some xo14_3 else (gR σ a0 4).bind fun r16 => (gR σ a0 7).bind fun r17 => (fX0_stepsToOthers r16 r17 a1 xo14_3 σ).bind fun vk18 => some vk18) o14) else some (-1)
set_option maxRecDepth 20000 in
set_option maxHeartbeats 2000000 in
theorem tX9_placeFor {X : XS} {n : Nat} {σ : Mm} {a0 : Nat} {a1 : Int32} {a2 : Int32} (ha0 : RT n a0 109) {res : Int32} (h : fX9_placeFor a0 a1 a2 σ = some res) : MT X yX9_placeFor mX9_placeFor 4 0 0 [.ref a0, .int a1, .int a2] n σ (n, some (.int res), σ) := by
  unfold fX9_placeFor at h
  refine MT_of (by decide +kernel) rfl (fun h => by cases h) (Nat.le_of_ble_eq_true rfl) ?_
  show J X mX9_placeFor 4 0 0 (n, some (.int res), σ) 0 [(0, .ref a0), (1, .int a1), (2, .int a2)] [] n σ
  refine J_aload_n (z := 0) dX9_placeFor_0 rfl rfl (q := 1) rfl ?_
  obtain ⟨r1, er1, h⟩ := bindS h
  refine J_getR dX9_placeFor_1 lRX9_21 ha0 rfl (by decide) er1 (q := 4) rfl (fun fr1 => ?_)
  refine J_iload_n (z := 1) dX9_placeFor_4 rfl rfl (q := 5) rfl ?_
  obtain ⟨vk2, hk2, h⟩ := bindS h
  refine J_cVi (as := [.int a1]) dX9_placeFor_5 mRX9_169 fr1 (tX1_hasPage fr1 hk2) rfl (Nat.le_of_ble_eq_true rfl) (Nat.le_of_ble_eq_true rfl) (Nat.le_of_ble_eq_true rfl) (q := 8) rfl ?_
  intro bk2
  refine J_if_eq (tgt := 20) dX9_placeFor_8 (by decide) (q := 11) rfl (fun c2 => ?_) (fun c2 => ?_)
  · rw [if_pos c2] at h
    refine J_iconst (x := (-1)) dX9_placeFor_20 (by decide) (q := 21) rfl ?_
    have h := Option.some.inj h
    subst h
    exact J_ireturn dX9_placeFor_21 rfl rfl rfl
  · rw [if_neg c2] at h
    refine J_iload_n (z := 2) dX9_placeFor_11 rfl rfl (q := 12) rfl ?_
    refine J_if_lt (tgt := 20) dX9_placeFor_12 (by decide) (q := 15) rfl (fun c3 => ?_) (fun c3 => ?_)
    · rw [if_pos c3] at h
      refine J_iconst (x := (-1)) dX9_placeFor_20 (by decide) (q := 21) rfl ?_
      have h := Option.some.inj h
      subst h
      exact J_ireturn dX9_placeFor_21 rfl rfl rfl
    · rw [if_neg c3] at h
      refine J_iload_n (z := 2) dX9_placeFor_15 rfl rfl (q := 16) rfl ?_
      refine J_iconst (x := 1) dX9_placeFor_16 (by decide) (q := 17) rfl ?_
      refine J_icmp_le (tgt := 22) dX9_placeFor_17 (by decide) (q := 20) rfl (fun c4 => ?_) (fun c4 => ?_)
      · rw [if_pos c4] at h
        refine J_iconst (x := 0) dX9_placeFor_22 (by decide) (q := 23) rfl ?_
        refine J_istore_n (lv' := [(3, .int 0), (0, .ref a0), (1, .int a1), (2, .int a2)]) dX9_placeFor_23 rfl (by decide) rfl (q := 24) rfl ?_
        refine J_iconst (x := 1) dX9_placeFor_24 (by decide) (q := 25) rfl ?_
        refine J_istore (lv' := [(4, .int 1), (3, .int 0), (0, .ref a0), (1, .int a1), (2, .int a2)]) dX9_placeFor_25 (by decide) rfl (q := 27) rfl ?_
        obtain ⟨o14, hlo14, h⟩ := bindS h
        refine J_pick [2, 3, 4, 1, 0] rfl ?_
        refine tX9_placeFor_w27 ha0 hlo14 ?_
        · intro xo14_3 qo14
          rw [qo14] at h
          try dsimp only [Sum.elim_inl, Sum.elim_inr] at h
          refine J_iload_n (z := 2) dX9_placeFor_78 rfl rfl (q := 79) rfl ?_
          refine J_if_ne (tgt := 86) dX9_placeFor_79 (by decide) (q := 82) rfl (fun c14 => ?_) (fun c14 => ?_)
          · rw [if_neg c14] at h
            refine J_aload_n (z := 0) dX9_placeFor_86 rfl rfl (q := 87) rfl ?_
            obtain ⟨r16, er16, h⟩ := bindS h
            refine J_getR dX9_placeFor_87 lRX9_42 ha0 rfl (by decide) er16 (q := 90) rfl (fun fr16 => ?_)
            refine J_aload_n (z := 0) dX9_placeFor_90 rfl rfl (q := 91) rfl ?_
            obtain ⟨r17, er17, h⟩ := bindS h
            refine J_getR dX9_placeFor_91 lRX9_63 ha0 rfl (by decide) er17 (q := 94) rfl (fun fr17 => ?_)
            refine J_iload_n (z := 1) dX9_placeFor_94 rfl rfl (q := 95) rfl ?_
            refine J_iload_n (z := 3) dX9_placeFor_95 rfl rfl (q := 96) rfl ?_
            obtain ⟨vk18, hk18, h⟩ := bindS h
            refine J_cVi (as := [.ref r17, .int a1, .int xo14_3]) dX9_placeFor_96 mRX9_363 fr16 (tX0_stepsToOthers fr16 fr17 hk18) rfl (Nat.le_of_ble_eq_true rfl) (Nat.le_of_ble_eq_true rfl) (Nat.le_of_ble_eq_true rfl) (q := 99) rfl ?_
            intro bk18
            have h := Option.some.inj h
            subst h
            exact J_ireturn dX9_placeFor_99 rfl rfl rfl
          · rw [if_pos c14] at h
            refine J_iload_n (z := 3) dX9_placeFor_82 rfl rfl (q := 83) rfl ?_
            refine J_goto (tgt := 99) dX9_placeFor_83 (by decide) ?_
            have h := Option.some.inj h
            subst h
            exact J_ireturn dX9_placeFor_99 rfl rfl rfl
      · rw [if_neg c4] at h
        refine J_iconst (x := (-1)) dX9_placeFor_20 (by decide) (q := 21) rfl ?_
        have h := Option.some.inj h
        subst h
        exact J_ireturn dX9_placeFor_21 rfl rfl rfl

def fX9_needy_b62 (a0 : Nat) (a1 : Int32) (a2 : Int32) (σ : Mm) : Option ((Int32 × Int32) ⊕ (Int32)) :=
  some (Sum.inl (a1, (a2 + 1)))
set_option maxRecDepth 20000 in
set_option maxHeartbeats 2000000 in
theorem tX9_needy_b62 {X : XS} {n : Nat} {σ : Mm} {F : Nat × Option Value × Mm} {a0 : Nat} {a1 : Int32} {a2 : Int32} (ha0 : RT n a0 109) {res : (Int32 × Int32) ⊕ (Int32)} (h : fX9_needy_b62 a0 a1 a2 σ = some res) (hc : ∀ (b1 : Int32) (b2 : Int32), res = .inl (b1, b2) → J X mX9_needy 4 0 0 F 16 [(0, .ref a0), (1, .int b1), (2, .int b2)] [] n σ) (hr : ∀ (v : Int32), res = .inr v → F = (n, some (.int v), σ)) : J X mX9_needy 4 0 0 F 62 [(0, .ref a0), (1, .int a1), (2, .int a2)] [] n σ := by
  unfold fX9_needy_b62 at h
  refine J_iinc (z := 2) (y := (a2 + 1)) (lv' := [(2, .int (a2 + 1)), (0, .ref a0), (1, .int a1)]) dX9_needy_62 rfl rfl (by decide) rfl (q := 65) rfl ?_
  refine J_goto (tgt := 16) dX9_needy_65 (by decide) ?_
  have h := Option.some.inj h
  refine J_pick [1, 2, 0] rfl ?_
  exact hc _ _ h.symm

def fX9_needy_l16 (a0 : Nat) (a1 : Int32) (a2 : Int32) (σ : Mm) : Option ((Int32 × Int32) ⊕ (Int32)) :=
  (gR σ a0 1).bind fun r4 => if (gI σ r4 5) ≤ a2 then some (Sum.inr a1) else (fX1_need r4 a2 σ).bind fun vk6 => (fX1_pagesOf r4 vk6 σ).bind fun vk7 => (gR σ a0 7).bind fun r8 => (fX6_pagesKnownBy r8 a2 σ).bind fun vk9 => if (vk7 &&& (vk9 ^^^ (-1))) = 0 then fX9_needy_b62 a0 a1 a2 σ else fX9_needy_b62 a0 (a1 ||| (shlI 1 a2)) a2 σ
set_option maxRecDepth 20000 in
set_option maxHeartbeats 2000000 in
theorem tX9_needy_l16 {X : XS} {n : Nat} {σ : Mm} {F : Nat × Option Value × Mm} {a0 : Nat} {a1 : Int32} {a2 : Int32} (ha0 : RT n a0 109) {res : (Int32 × Int32) ⊕ (Int32)} (h : fX9_needy_l16 a0 a1 a2 σ = some res) (hc : ∀ (b1 : Int32) (b2 : Int32), res = .inl (b1, b2) → J X mX9_needy 4 0 0 F 16 [(0, .ref a0), (1, .int b1), (2, .int b2)] [] n σ) (hr : ∀ (v : Int32), res = .inr v → F = (n, some (.int v), σ)) : J X mX9_needy 4 0 0 F 16 [(0, .ref a0), (1, .int a1), (2, .int a2)] [] n σ := by
  unfold fX9_needy_l16 at h
  refine J_iload_n (z := 2) dX9_needy_16 rfl rfl (q := 17) rfl ?_
  refine J_aload_n (z := 0) dX9_needy_17 rfl rfl (q := 18) rfl ?_
  obtain ⟨r4, er4, h⟩ := bindS h
  refine J_getR dX9_needy_18 lRX9_21 ha0 rfl (by decide) er4 (q := 21) rfl (fun fr4 => ?_)
  refine J_getI dX9_needy_21 lRX9_276 fr4 rfl (q := 24) rfl ?_
  refine J_icmp_ge (tgt := 68) dX9_needy_24 (by decide) (q := 27) rfl (fun c4 => ?_) (fun c4 => ?_)
  · rw [if_pos c4] at h
    refine J_iload_n (z := 1) dX9_needy_68 rfl rfl (q := 69) rfl ?_
    have h := Option.some.inj h
    exact J_ireturn dX9_needy_69 rfl rfl (hr _ h.symm)
  · rw [if_neg c4] at h
    refine J_aload_n (z := 0) dX9_needy_27 rfl rfl (q := 28) rfl ?_
    refine J_getR dX9_needy_28 lRX9_21 ha0 rfl (by decide) er4 (q := 31) rfl (fun _ => ?_)
    refine J_aload_n (z := 0) dX9_needy_31 rfl rfl (q := 32) rfl ?_
    refine J_getR dX9_needy_32 lRX9_21 ha0 rfl (by decide) er4 (q := 35) rfl (fun _ => ?_)
    refine J_iload_n (z := 2) dX9_needy_35 rfl rfl (q := 36) rfl ?_
    obtain ⟨vk6, hk6, h⟩ := bindS h
    refine J_cVi (as := [.int a2]) dX9_needy_36 mRX9_204 fr4 (tX1_need fr4 hk6) rfl (Nat.le_of_ble_eq_true rfl) (Nat.le_of_ble_eq_true rfl) (Nat.le_of_ble_eq_true rfl) (q := 39) rfl ?_
    intro bk6
    obtain ⟨vk7, hk7, h⟩ := bindS h
    refine J_cVi (as := [.int vk6]) dX9_needy_39 mRX9_366 fr4 (tX1_pagesOf fr4 hk7) rfl (Nat.le_of_ble_eq_true rfl) (Nat.le_of_ble_eq_true rfl) (Nat.le_of_ble_eq_true rfl) (q := 42) rfl ?_
    intro bk7
    refine J_aload_n (z := 0) dX9_needy_42 rfl rfl (q := 43) rfl ?_
    obtain ⟨r8, er8, h⟩ := bindS h
    refine J_getR dX9_needy_43 lRX9_63 ha0 rfl (by decide) er8 (q := 46) rfl (fun fr8 => ?_)
    refine J_iload_n (z := 2) dX9_needy_46 rfl rfl (q := 47) rfl ?_
    obtain ⟨vk9, hk9, h⟩ := bindS h
    refine J_cVi (as := [.int a2]) dX9_needy_47 mRX9_210 fr8 (tX6_pagesKnownBy fr8 hk9) rfl (Nat.le_of_ble_eq_true rfl) (Nat.le_of_ble_eq_true rfl) (Nat.le_of_ble_eq_true rfl) (q := 50) rfl ?_
    intro bk9
    refine J_iconst (x := (-1)) dX9_needy_50 (by decide) (q := 51) rfl ?_
    refine J_ixor dX9_needy_51  (q := 52) rfl ?_
    refine J_iand dX9_needy_52  (q := 53) rfl ?_
    refine J_if_eq (tgt := 62) dX9_needy_53 (by decide) (q := 56) rfl (fun c9 => ?_) (fun c9 => ?_)
    · rw [if_pos c9] at h
      refine J_pick [0, 1, 2] rfl ?_
      exact tX9_needy_b62 ha0 h hc hr
    · rw [if_neg c9] at h
      refine J_iload_n (z := 1) dX9_needy_56 rfl rfl (q := 57) rfl ?_
      refine J_iconst (x := 1) dX9_needy_57 (by decide) (q := 58) rfl ?_
      refine J_iload_n (z := 2) dX9_needy_58 rfl rfl (q := 59) rfl ?_
      refine J_ishl dX9_needy_59  (q := 60) rfl ?_
      refine J_ior dX9_needy_60  (q := 61) rfl ?_
      refine J_istore_n (lv' := [(1, .int (a1 ||| (shlI 1 a2))), (0, .ref a0), (2, .int a2)]) dX9_needy_61 rfl (by decide) rfl (q := 62) rfl ?_
      refine J_pick [1, 0, 2] rfl ?_
      exact tX9_needy_b62 ha0 h hc hr

def fX9_needy_w16 (a0 : Nat) (a1 : Int32) (a2 : Int32) (σ : Mm) : Option (Int32) :=
  wh (fun a : Int32 × Int32 => fX9_needy_l16 a0 a.1 a.2 σ) BIG (a1, a2)
set_option maxRecDepth 20000 in
set_option maxHeartbeats 2000000 in
theorem tX9_needy_w16 {X : XS} {n : Nat} {σ : Mm} {F : Nat × Option Value × Mm} {a0 : Nat} {a1 : Int32} {a2 : Int32} (ha0 : RT n a0 109) {res : Int32} (h : fX9_needy_w16 a0 a1 a2 σ = some res) (hr : ∀ (v : Int32), res = v → F = (n, some (.int v), σ)) : J X mX9_needy 4 0 0 F 16 [(0, .ref a0), (1, .int a1), (2, .int a2)] [] n σ := by
  unfold fX9_needy_w16 at h
  refine wh_rule (P := fun a : Int32 × Int32 => J X mX9_needy 4 0 0 F 16 [(0, .ref a0), (1, .int a.1), (2, .int a.2)] [] n σ) (K := fun b => b = res) ?_ _ _ _ h rfl
  intro a
  refine ⟨fun a2 hb hP => ?_, fun b hb hK => ?_⟩
  · exact tX9_needy_l16 ha0 hb (fun _ _ e => by cases e; exact hP) (fun _ e => by cases e)
  · subst hK
    exact tX9_needy_l16 ha0 hb (fun _ _ e => by cases e) (fun v0 e => hr v0 (Sum.inr.inj e))

def fX9_needy (a0 : Nat) (σ : Mm) : Option (Int32) :=
  (gR σ a0 1).bind fun r1 => (fX1_isOpen r1 σ).bind fun vk2 => if vk2 = 0 then some (-1) else (fX9_needy_w16 a0 0 0 σ).bind (fun o11 => some o11)
set_option maxRecDepth 20000 in
set_option maxHeartbeats 2000000 in
theorem tX9_needy {X : XS} {n : Nat} {σ : Mm} {a0 : Nat} (ha0 : RT n a0 109) {res : Int32} (h : fX9_needy a0 σ = some res) : MT X yX9_needy mX9_needy 4 0 0 [.ref a0] n σ (n, some (.int res), σ) := by
  unfold fX9_needy at h
  refine MT_of (by decide +kernel) rfl (fun h => by cases h) (Nat.le_of_ble_eq_true rfl) ?_
  show J X mX9_needy 4 0 0 (n, some (.int res), σ) 0 [(0, .ref a0)] [] n σ
  refine J_aload_n (z := 0) dX9_needy_0 rfl rfl (q := 1) rfl ?_
  obtain ⟨r1, er1, h⟩ := bindS h
  refine J_getR dX9_needy_1 lRX9_21 ha0 rfl (by decide) er1 (q := 4) rfl (fun fr1 => ?_)
  obtain ⟨vk2, hk2, h⟩ := bindS h
  refine J_cVi (as := []) dX9_needy_4 mRX9_151 fr1 (tX1_isOpen fr1 hk2) rfl (Nat.le_of_ble_eq_true rfl) (Nat.le_of_ble_eq_true rfl) (Nat.le_of_ble_eq_true rfl) (q := 7) rfl ?_
  intro bk2
  refine J_if_ne (tgt := 12) dX9_needy_7 (by decide) (q := 10) rfl (fun c2 => ?_) (fun c2 => ?_)
  · rw [if_neg c2] at h
    refine J_iconst (x := 0) dX9_needy_12 (by decide) (q := 13) rfl ?_
    refine J_istore_n (lv' := [(1, .int 0), (0, .ref a0)]) dX9_needy_13 rfl (by decide) rfl (q := 14) rfl ?_
    refine J_iconst (x := 0) dX9_needy_14 (by decide) (q := 15) rfl ?_
    refine J_istore_n (lv' := [(2, .int 0), (1, .int 0), (0, .ref a0)]) dX9_needy_15 rfl (by decide) rfl (q := 16) rfl ?_
    obtain ⟨o11, hlo11, h⟩ := bindS h
    refine J_pick [2, 1, 0] rfl ?_
    refine tX9_needy_w16 ha0 hlo11 ?_
    · intro vo11 qo11
      rw [qo11] at h
      try dsimp only [Sum.elim_inl, Sum.elim_inr] at h
      have h := Option.some.inj h
      subst h
      rfl
  · rw [if_pos c2] at h
    refine J_iconst (x := (-1)) dX9_needy_10 (by decide) (q := 11) rfl ?_
    have h := Option.some.inj h
    subst h
    exact J_ireturn dX9_needy_11 rfl rfl rfl

def fX9_known (a0 : Nat) (σ : Mm) : Option (Int32) :=
  (gR σ a0 1).bind fun r1 => (fX1_isOpen r1 σ).bind fun vk2 => if vk2 = 0 then some (-1) else (gR σ a0 3).bind fun r4 => (gR σ a0 7).bind fun r5 => (fX8_pagesKnown r4 r5 σ).bind fun vk6 => some vk6
set_option maxRecDepth 20000 in
set_option maxHeartbeats 2000000 in
theorem tX9_known {X : XS} {n : Nat} {σ : Mm} {a0 : Nat} (ha0 : RT n a0 109) {res : Int32} (h : fX9_known a0 σ = some res) : MT X yX9_known mX9_known 5 0 0 [.ref a0] n σ (n, some (.int res), σ) := by
  unfold fX9_known at h
  refine MT_of (by decide +kernel) rfl (fun h => by cases h) (Nat.le_of_ble_eq_true rfl) ?_
  show J X mX9_known 5 0 0 (n, some (.int res), σ) 0 [(0, .ref a0)] [] n σ
  refine J_aload_n (z := 0) dX9_known_0 rfl rfl (q := 1) rfl ?_
  obtain ⟨r1, er1, h⟩ := bindS h
  refine J_getR dX9_known_1 lRX9_21 ha0 rfl (by decide) er1 (q := 4) rfl (fun fr1 => ?_)
  obtain ⟨vk2, hk2, h⟩ := bindS h
  refine J_cVi (as := []) dX9_known_4 mRX9_151 fr1 (tX1_isOpen fr1 hk2) rfl (Nat.le_of_ble_eq_true rfl) (Nat.le_of_ble_eq_true rfl) (Nat.le_of_ble_eq_true rfl) (q := 7) rfl ?_
  intro bk2
  refine J_if_eq (tgt := 24) dX9_known_7 (by decide) (q := 10) rfl (fun c2 => ?_) (fun c2 => ?_)
  · rw [if_pos c2] at h
    refine J_iconst (x := (-1)) dX9_known_24 (by decide) (q := 25) rfl ?_
    have h := Option.some.inj h
    subst h
    exact J_ireturn dX9_known_25 rfl rfl rfl
  · rw [if_neg c2] at h
    refine J_aload_n (z := 0) dX9_known_10 rfl rfl (q := 11) rfl ?_
    obtain ⟨r4, er4, h⟩ := bindS h
    refine J_getR dX9_known_11 lRX9_33 ha0 rfl (by decide) er4 (q := 14) rfl (fun fr4 => ?_)
    refine J_aload_n (z := 0) dX9_known_14 rfl rfl (q := 15) rfl ?_
    obtain ⟨r5, er5, h⟩ := bindS h
    refine J_getR dX9_known_15 lRX9_63 ha0 rfl (by decide) er5 (q := 18) rfl (fun fr5 => ?_)
    obtain ⟨vk6, hk6, h⟩ := bindS h
    refine J_cVi (as := [.ref r5]) dX9_known_18 mRX9_357 fr4 (tX8_pagesKnown fr4 fr5 hk6) rfl (Nat.le_of_ble_eq_true rfl) (Nat.le_of_ble_eq_true rfl) (Nat.le_of_ble_eq_true rfl) (q := 21) rfl ?_
    intro bk6
    refine J_goto (tgt := 25) dX9_known_21 (by decide) ?_
    have h := Option.some.inj h
    subst h
    exact J_ireturn dX9_known_25 rfl rfl rfl

def fX9_sure_b64 (a0 : Nat) (a1 : Int32) (a2 : Int32) (σ : Mm) : Option ((Int32 × Int32) ⊕ (Int32)) :=
  some (Sum.inl (a1, (a2 + 1)))
set_option maxRecDepth 20000 in
set_option maxHeartbeats 2000000 in
theorem tX9_sure_b64 {X : XS} {n : Nat} {σ : Mm} {F : Nat × Option Value × Mm} {a0 : Nat} {a1 : Int32} {a2 : Int32} (ha0 : RT n a0 109) {res : (Int32 × Int32) ⊕ (Int32)} (h : fX9_sure_b64 a0 a1 a2 σ = some res) (hc : ∀ (b1 : Int32) (b2 : Int32), res = .inl (b1, b2) → J X mX9_sure 4 0 0 F 16 [(0, .ref a0), (1, .int b1), (2, .int b2)] [] n σ) (hr : ∀ (v : Int32), res = .inr v → F = (n, some (.int v), σ)) : J X mX9_sure 4 0 0 F 64 [(0, .ref a0), (1, .int a1), (2, .int a2)] [] n σ := by
  unfold fX9_sure_b64 at h
  refine J_iinc (z := 2) (y := (a2 + 1)) (lv' := [(2, .int (a2 + 1)), (0, .ref a0), (1, .int a1)]) dX9_sure_64 rfl rfl (by decide) rfl (q := 67) rfl ?_
  refine J_goto (tgt := 16) dX9_sure_67 (by decide) ?_
  have h := Option.some.inj h
  refine J_pick [1, 2, 0] rfl ?_
  exact hc _ _ h.symm

def fX9_sure_l16 (a0 : Nat) (a1 : Int32) (a2 : Int32) (σ : Mm) : Option ((Int32 × Int32) ⊕ (Int32)) :=
  (gR σ a0 1).bind fun r4 => if (gI σ r4 4) ≤ a2 then some (Sum.inr a1) else (gR σ a0 4).bind fun r6 => (gR σ a0 7).bind fun r7 => (fX0_knowers r6 r7 a2 σ).bind fun vk8 => if vk8 < 2 then fX9_sure_b64 a0 a1 a2 σ else (fX0_isSplit r6 r7 a2 σ).bind fun vk10 => if vk10 = 0 then fX9_sure_b64 a0 (a1 ||| (shlI 1 a2)) a2 σ else fX9_sure_b64 a0 a1 a2 σ
set_option maxRecDepth 20000 in
set_option maxHeartbeats 2000000 in
theorem tX9_sure_l16 {X : XS} {n : Nat} {σ : Mm} {F : Nat × Option Value × Mm} {a0 : Nat} {a1 : Int32} {a2 : Int32} (ha0 : RT n a0 109) {res : (Int32 × Int32) ⊕ (Int32)} (h : fX9_sure_l16 a0 a1 a2 σ = some res) (hc : ∀ (b1 : Int32) (b2 : Int32), res = .inl (b1, b2) → J X mX9_sure 4 0 0 F 16 [(0, .ref a0), (1, .int b1), (2, .int b2)] [] n σ) (hr : ∀ (v : Int32), res = .inr v → F = (n, some (.int v), σ)) : J X mX9_sure 4 0 0 F 16 [(0, .ref a0), (1, .int a1), (2, .int a2)] [] n σ := by
  unfold fX9_sure_l16 at h
  refine J_iload_n (z := 2) dX9_sure_16 rfl rfl (q := 17) rfl ?_
  refine J_aload_n (z := 0) dX9_sure_17 rfl rfl (q := 18) rfl ?_
  obtain ⟨r4, er4, h⟩ := bindS h
  refine J_getR dX9_sure_18 lRX9_21 ha0 rfl (by decide) er4 (q := 21) rfl (fun fr4 => ?_)
  refine J_getI dX9_sure_21 lRX9_148 fr4 rfl (q := 24) rfl ?_
  refine J_icmp_ge (tgt := 70) dX9_sure_24 (by decide) (q := 27) rfl (fun c4 => ?_) (fun c4 => ?_)
  · rw [if_pos c4] at h
    refine J_iload_n (z := 1) dX9_sure_70 rfl rfl (q := 71) rfl ?_
    have h := Option.some.inj h
    exact J_ireturn dX9_sure_71 rfl rfl (hr _ h.symm)
  · rw [if_neg c4] at h
    refine J_aload_n (z := 0) dX9_sure_27 rfl rfl (q := 28) rfl ?_
    obtain ⟨r6, er6, h⟩ := bindS h
    refine J_getR dX9_sure_28 lRX9_42 ha0 rfl (by decide) er6 (q := 31) rfl (fun fr6 => ?_)
    refine J_aload_n (z := 0) dX9_sure_31 rfl rfl (q := 32) rfl ?_
    obtain ⟨r7, er7, h⟩ := bindS h
    refine J_getR dX9_sure_32 lRX9_63 ha0 rfl (by decide) er7 (q := 35) rfl (fun fr7 => ?_)
    refine J_iload_n (z := 2) dX9_sure_35 rfl rfl (q := 36) rfl ?_
    obtain ⟨vk8, hk8, h⟩ := bindS h
    refine J_cVi (as := [.ref r7, .int a2]) dX9_sure_36 mRX9_369 fr6 (tX0_knowers fr6 fr7 hk8) rfl (Nat.le_of_ble_eq_true rfl) (Nat.le_of_ble_eq_true rfl) (Nat.le_of_ble_eq_true rfl) (q := 39) rfl ?_
    intro bk8
    refine J_iconst (x := 2) dX9_sure_39 (by decide) (q := 40) rfl ?_
    refine J_icmp_lt (tgt := 64) dX9_sure_40 (by decide) (q := 43) rfl (fun c8 => ?_) (fun c8 => ?_)
    · rw [if_pos c8] at h
      refine J_pick [0, 1, 2] rfl ?_
      exact tX9_sure_b64 ha0 h hc hr
    · rw [if_neg c8] at h
      refine J_aload_n (z := 0) dX9_sure_43 rfl rfl (q := 44) rfl ?_
      refine J_getR dX9_sure_44 lRX9_42 ha0 rfl (by decide) er6 (q := 47) rfl (fun _ => ?_)
      refine J_aload_n (z := 0) dX9_sure_47 rfl rfl (q := 48) rfl ?_
      refine J_getR dX9_sure_48 lRX9_63 ha0 rfl (by decide) er7 (q := 51) rfl (fun _ => ?_)
      refine J_iload_n (z := 2) dX9_sure_51 rfl rfl (q := 52) rfl ?_
      obtain ⟨vk10, hk10, h⟩ := bindS h
      refine J_cVi (as := [.ref r7, .int a2]) dX9_sure_52 mRX9_372 fr6 (tX0_isSplit fr6 fr7 hk10) rfl (Nat.le_of_ble_eq_true rfl) (Nat.le_of_ble_eq_true rfl) (Nat.le_of_ble_eq_true rfl) (q := 55) rfl ?_
      intro bk10
      refine J_if_ne (tgt := 64) dX9_sure_55 (by decide) (q := 58) rfl (fun c10 => ?_) (fun c10 => ?_)
      · rw [if_neg c10] at h
        refine J_pick [0, 1, 2] rfl ?_
        exact tX9_sure_b64 ha0 h hc hr
      · rw [if_pos c10] at h
        refine J_iload_n (z := 1) dX9_sure_58 rfl rfl (q := 59) rfl ?_
        refine J_iconst (x := 1) dX9_sure_59 (by decide) (q := 60) rfl ?_
        refine J_iload_n (z := 2) dX9_sure_60 rfl rfl (q := 61) rfl ?_
        refine J_ishl dX9_sure_61  (q := 62) rfl ?_
        refine J_ior dX9_sure_62  (q := 63) rfl ?_
        refine J_istore_n (lv' := [(1, .int (a1 ||| (shlI 1 a2))), (0, .ref a0), (2, .int a2)]) dX9_sure_63 rfl (by decide) rfl (q := 64) rfl ?_
        refine J_pick [1, 0, 2] rfl ?_
        exact tX9_sure_b64 ha0 h hc hr

def fX9_sure_w16 (a0 : Nat) (a1 : Int32) (a2 : Int32) (σ : Mm) : Option (Int32) :=
  wh (fun a : Int32 × Int32 => fX9_sure_l16 a0 a.1 a.2 σ) BIG (a1, a2)
set_option maxRecDepth 20000 in
set_option maxHeartbeats 2000000 in
theorem tX9_sure_w16 {X : XS} {n : Nat} {σ : Mm} {F : Nat × Option Value × Mm} {a0 : Nat} {a1 : Int32} {a2 : Int32} (ha0 : RT n a0 109) {res : Int32} (h : fX9_sure_w16 a0 a1 a2 σ = some res) (hr : ∀ (v : Int32), res = v → F = (n, some (.int v), σ)) : J X mX9_sure 4 0 0 F 16 [(0, .ref a0), (1, .int a1), (2, .int a2)] [] n σ := by
  unfold fX9_sure_w16 at h
  refine wh_rule (P := fun a : Int32 × Int32 => J X mX9_sure 4 0 0 F 16 [(0, .ref a0), (1, .int a.1), (2, .int a.2)] [] n σ) (K := fun b => b = res) ?_ _ _ _ h rfl
  intro a
  refine ⟨fun a2 hb hP => ?_, fun b hb hK => ?_⟩
  · exact tX9_sure_l16 ha0 hb (fun _ _ e => by cases e; exact hP) (fun _ e => by cases e)
  · subst hK
    exact tX9_sure_l16 ha0 hb (fun _ _ e => by cases e) (fun v0 e => hr v0 (Sum.inr.inj e))

def fX9_sure (a0 : Nat) (σ : Mm) : Option (Int32) :=
  (gR σ a0 1).bind fun r1 => (fX1_isOpen r1 σ).bind fun vk2 => if vk2 = 0 then some (-1) else (fX9_sure_w16 a0 0 0 σ).bind (fun o12 => some o12)
set_option maxRecDepth 20000 in
set_option maxHeartbeats 2000000 in
theorem tX9_sure {X : XS} {n : Nat} {σ : Mm} {a0 : Nat} (ha0 : RT n a0 109) {res : Int32} (h : fX9_sure a0 σ = some res) : MT X yX9_sure mX9_sure 4 0 0 [.ref a0] n σ (n, some (.int res), σ) := by
  unfold fX9_sure at h
  refine MT_of (by decide +kernel) rfl (fun h => by cases h) (Nat.le_of_ble_eq_true rfl) ?_
  show J X mX9_sure 4 0 0 (n, some (.int res), σ) 0 [(0, .ref a0)] [] n σ
  refine J_aload_n (z := 0) dX9_sure_0 rfl rfl (q := 1) rfl ?_
  obtain ⟨r1, er1, h⟩ := bindS h
  refine J_getR dX9_sure_1 lRX9_21 ha0 rfl (by decide) er1 (q := 4) rfl (fun fr1 => ?_)
  obtain ⟨vk2, hk2, h⟩ := bindS h
  refine J_cVi (as := []) dX9_sure_4 mRX9_151 fr1 (tX1_isOpen fr1 hk2) rfl (Nat.le_of_ble_eq_true rfl) (Nat.le_of_ble_eq_true rfl) (Nat.le_of_ble_eq_true rfl) (q := 7) rfl ?_
  intro bk2
  refine J_if_ne (tgt := 12) dX9_sure_7 (by decide) (q := 10) rfl (fun c2 => ?_) (fun c2 => ?_)
  · rw [if_neg c2] at h
    refine J_iconst (x := 0) dX9_sure_12 (by decide) (q := 13) rfl ?_
    refine J_istore_n (lv' := [(1, .int 0), (0, .ref a0)]) dX9_sure_13 rfl (by decide) rfl (q := 14) rfl ?_
    refine J_iconst (x := 0) dX9_sure_14 (by decide) (q := 15) rfl ?_
    refine J_istore_n (lv' := [(2, .int 0), (1, .int 0), (0, .ref a0)]) dX9_sure_15 rfl (by decide) rfl (q := 16) rfl ?_
    obtain ⟨o12, hlo12, h⟩ := bindS h
    refine J_pick [2, 1, 0] rfl ?_
    refine tX9_sure_w16 ha0 hlo12 ?_
    · intro vo12 qo12
      rw [qo12] at h
      try dsimp only [Sum.elim_inl, Sum.elim_inr] at h
      have h := Option.some.inj h
      subst h
      rfl
  · rw [if_pos c2] at h
    refine J_iconst (x := (-1)) dX9_sure_10 (by decide) (q := 11) rfl ?_
    have h := Option.some.inj h
    subst h
    exact J_ireturn dX9_sure_11 rfl rfl rfl

def fX9_split_b48 (a0 : Nat) (a1 : Int32) (a2 : Int32) (σ : Mm) : Option ((Int32 × Int32) ⊕ (Int32)) :=
  some (Sum.inl (a1, (a2 + 1)))
set_option maxRecDepth 20000 in
set_option maxHeartbeats 2000000 in
theorem tX9_split_b48 {X : XS} {n : Nat} {σ : Mm} {F : Nat × Option Value × Mm} {a0 : Nat} {a1 : Int32} {a2 : Int32} (ha0 : RT n a0 109) {res : (Int32 × Int32) ⊕ (Int32)} (h : fX9_split_b48 a0 a1 a2 σ = some res) (hc : ∀ (b1 : Int32) (b2 : Int32), res = .inl (b1, b2) → J X mX9_split 4 0 0 F 16 [(0, .ref a0), (1, .int b1), (2, .int b2)] [] n σ) (hr : ∀ (v : Int32), res = .inr v → F = (n, some (.int v), σ)) : J X mX9_split 4 0 0 F 48 [(0, .ref a0), (1, .int a1), (2, .int a2)] [] n σ := by
  unfold fX9_split_b48 at h
  refine J_iinc (z := 2) (y := (a2 + 1)) (lv' := [(2, .int (a2 + 1)), (0, .ref a0), (1, .int a1)]) dX9_split_48 rfl rfl (by decide) rfl (q := 51) rfl ?_
  refine J_goto (tgt := 16) dX9_split_51 (by decide) ?_
  have h := Option.some.inj h
  refine J_pick [1, 2, 0] rfl ?_
  exact hc _ _ h.symm

def fX9_split_l16 (a0 : Nat) (a1 : Int32) (a2 : Int32) (σ : Mm) : Option ((Int32 × Int32) ⊕ (Int32)) :=
  (gR σ a0 1).bind fun r4 => if (gI σ r4 4) ≤ a2 then some (Sum.inr a1) else (gR σ a0 4).bind fun r6 => (gR σ a0 7).bind fun r7 => (fX0_isSplit r6 r7 a2 σ).bind fun vk8 => if vk8 = 0 then fX9_split_b48 a0 a1 a2 σ else fX9_split_b48 a0 (a1 ||| (shlI 1 a2)) a2 σ
set_option maxRecDepth 20000 in
set_option maxHeartbeats 2000000 in
theorem tX9_split_l16 {X : XS} {n : Nat} {σ : Mm} {F : Nat × Option Value × Mm} {a0 : Nat} {a1 : Int32} {a2 : Int32} (ha0 : RT n a0 109) {res : (Int32 × Int32) ⊕ (Int32)} (h : fX9_split_l16 a0 a1 a2 σ = some res) (hc : ∀ (b1 : Int32) (b2 : Int32), res = .inl (b1, b2) → J X mX9_split 4 0 0 F 16 [(0, .ref a0), (1, .int b1), (2, .int b2)] [] n σ) (hr : ∀ (v : Int32), res = .inr v → F = (n, some (.int v), σ)) : J X mX9_split 4 0 0 F 16 [(0, .ref a0), (1, .int a1), (2, .int a2)] [] n σ := by
  unfold fX9_split_l16 at h
  refine J_iload_n (z := 2) dX9_split_16 rfl rfl (q := 17) rfl ?_
  refine J_aload_n (z := 0) dX9_split_17 rfl rfl (q := 18) rfl ?_
  obtain ⟨r4, er4, h⟩ := bindS h
  refine J_getR dX9_split_18 lRX9_21 ha0 rfl (by decide) er4 (q := 21) rfl (fun fr4 => ?_)
  refine J_getI dX9_split_21 lRX9_148 fr4 rfl (q := 24) rfl ?_
  refine J_icmp_ge (tgt := 54) dX9_split_24 (by decide) (q := 27) rfl (fun c4 => ?_) (fun c4 => ?_)
  · rw [if_pos c4] at h
    refine J_iload_n (z := 1) dX9_split_54 rfl rfl (q := 55) rfl ?_
    have h := Option.some.inj h
    exact J_ireturn dX9_split_55 rfl rfl (hr _ h.symm)
  · rw [if_neg c4] at h
    refine J_aload_n (z := 0) dX9_split_27 rfl rfl (q := 28) rfl ?_
    obtain ⟨r6, er6, h⟩ := bindS h
    refine J_getR dX9_split_28 lRX9_42 ha0 rfl (by decide) er6 (q := 31) rfl (fun fr6 => ?_)
    refine J_aload_n (z := 0) dX9_split_31 rfl rfl (q := 32) rfl ?_
    obtain ⟨r7, er7, h⟩ := bindS h
    refine J_getR dX9_split_32 lRX9_63 ha0 rfl (by decide) er7 (q := 35) rfl (fun fr7 => ?_)
    refine J_iload_n (z := 2) dX9_split_35 rfl rfl (q := 36) rfl ?_
    obtain ⟨vk8, hk8, h⟩ := bindS h
    refine J_cVi (as := [.ref r7, .int a2]) dX9_split_36 mRX9_372 fr6 (tX0_isSplit fr6 fr7 hk8) rfl (Nat.le_of_ble_eq_true rfl) (Nat.le_of_ble_eq_true rfl) (Nat.le_of_ble_eq_true rfl) (q := 39) rfl ?_
    intro bk8
    refine J_if_eq (tgt := 48) dX9_split_39 (by decide) (q := 42) rfl (fun c8 => ?_) (fun c8 => ?_)
    · rw [if_pos c8] at h
      refine J_pick [0, 1, 2] rfl ?_
      exact tX9_split_b48 ha0 h hc hr
    · rw [if_neg c8] at h
      refine J_iload_n (z := 1) dX9_split_42 rfl rfl (q := 43) rfl ?_
      refine J_iconst (x := 1) dX9_split_43 (by decide) (q := 44) rfl ?_
      refine J_iload_n (z := 2) dX9_split_44 rfl rfl (q := 45) rfl ?_
      refine J_ishl dX9_split_45  (q := 46) rfl ?_
      refine J_ior dX9_split_46  (q := 47) rfl ?_
      refine J_istore_n (lv' := [(1, .int (a1 ||| (shlI 1 a2))), (0, .ref a0), (2, .int a2)]) dX9_split_47 rfl (by decide) rfl (q := 48) rfl ?_
      refine J_pick [1, 0, 2] rfl ?_
      exact tX9_split_b48 ha0 h hc hr

def fX9_split_w16 (a0 : Nat) (a1 : Int32) (a2 : Int32) (σ : Mm) : Option (Int32) :=
  wh (fun a : Int32 × Int32 => fX9_split_l16 a0 a.1 a.2 σ) BIG (a1, a2)
set_option maxRecDepth 20000 in
set_option maxHeartbeats 2000000 in
theorem tX9_split_w16 {X : XS} {n : Nat} {σ : Mm} {F : Nat × Option Value × Mm} {a0 : Nat} {a1 : Int32} {a2 : Int32} (ha0 : RT n a0 109) {res : Int32} (h : fX9_split_w16 a0 a1 a2 σ = some res) (hr : ∀ (v : Int32), res = v → F = (n, some (.int v), σ)) : J X mX9_split 4 0 0 F 16 [(0, .ref a0), (1, .int a1), (2, .int a2)] [] n σ := by
  unfold fX9_split_w16 at h
  refine wh_rule (P := fun a : Int32 × Int32 => J X mX9_split 4 0 0 F 16 [(0, .ref a0), (1, .int a.1), (2, .int a.2)] [] n σ) (K := fun b => b = res) ?_ _ _ _ h rfl
  intro a
  refine ⟨fun a2 hb hP => ?_, fun b hb hK => ?_⟩
  · exact tX9_split_l16 ha0 hb (fun _ _ e => by cases e; exact hP) (fun _ e => by cases e)
  · subst hK
    exact tX9_split_l16 ha0 hb (fun _ _ e => by cases e) (fun v0 e => hr v0 (Sum.inr.inj e))

def fX9_split (a0 : Nat) (σ : Mm) : Option (Int32) :=
  (gR σ a0 1).bind fun r1 => (fX1_isOpen r1 σ).bind fun vk2 => if vk2 = 0 then some (-1) else (fX9_split_w16 a0 0 0 σ).bind (fun o10 => some o10)
set_option maxRecDepth 20000 in
set_option maxHeartbeats 2000000 in
theorem tX9_split {X : XS} {n : Nat} {σ : Mm} {a0 : Nat} (ha0 : RT n a0 109) {res : Int32} (h : fX9_split a0 σ = some res) : MT X yX9_split mX9_split 4 0 0 [.ref a0] n σ (n, some (.int res), σ) := by
  unfold fX9_split at h
  refine MT_of (by decide +kernel) rfl (fun h => by cases h) (Nat.le_of_ble_eq_true rfl) ?_
  show J X mX9_split 4 0 0 (n, some (.int res), σ) 0 [(0, .ref a0)] [] n σ
  refine J_aload_n (z := 0) dX9_split_0 rfl rfl (q := 1) rfl ?_
  obtain ⟨r1, er1, h⟩ := bindS h
  refine J_getR dX9_split_1 lRX9_21 ha0 rfl (by decide) er1 (q := 4) rfl (fun fr1 => ?_)
  obtain ⟨vk2, hk2, h⟩ := bindS h
  refine J_cVi (as := []) dX9_split_4 mRX9_151 fr1 (tX1_isOpen fr1 hk2) rfl (Nat.le_of_ble_eq_true rfl) (Nat.le_of_ble_eq_true rfl) (Nat.le_of_ble_eq_true rfl) (q := 7) rfl ?_
  intro bk2
  refine J_if_ne (tgt := 12) dX9_split_7 (by decide) (q := 10) rfl (fun c2 => ?_) (fun c2 => ?_)
  · rw [if_neg c2] at h
    refine J_iconst (x := 0) dX9_split_12 (by decide) (q := 13) rfl ?_
    refine J_istore_n (lv' := [(1, .int 0), (0, .ref a0)]) dX9_split_13 rfl (by decide) rfl (q := 14) rfl ?_
    refine J_iconst (x := 0) dX9_split_14 (by decide) (q := 15) rfl ?_
    refine J_istore_n (lv' := [(2, .int 0), (1, .int 0), (0, .ref a0)]) dX9_split_15 rfl (by decide) rfl (q := 16) rfl ?_
    obtain ⟨o10, hlo10, h⟩ := bindS h
    refine J_pick [2, 1, 0] rfl ?_
    refine tX9_split_w16 ha0 hlo10 ?_
    · intro vo10 qo10
      rw [qo10] at h
      try dsimp only [Sum.elim_inl, Sum.elim_inr] at h
      have h := Option.some.inj h
      subst h
      rfl
  · rw [if_pos c2] at h
    refine J_iconst (x := (-1)) dX9_split_10 (by decide) (q := 11) rfl ?_
    have h := Option.some.inj h
    subst h
    exact J_ireturn dX9_split_11 rfl rfl rfl

def fX9_likely_b92 (a0 : Nat) (a1 : Int32) (a2 : Int32) (a3 : Int32) (a4 : Int32) (σ : Mm) : Option ((Int32 × Int32) ⊕ (Int32)) :=
  some (Sum.inl (a3, (a4 + 1)))
set_option maxRecDepth 20000 in
set_option maxHeartbeats 2000000 in
theorem tX9_likely_b92 {X : XS} {n : Nat} {σ : Mm} {F : Nat × Option Value × Mm} {a0 : Nat} {a1 : Int32} {a2 : Int32} {a3 : Int32} {a4 : Int32} (ha0 : RT n a0 109) {res : (Int32 × Int32) ⊕ (Int32)} (h : fX9_likely_b92 a0 a1 a2 a3 a4 σ = some res) (hc : ∀ (b3 : Int32) (b4 : Int32), res = .inl (b3, b4) → J X mX9_likely 4 0 0 F 52 [(0, .ref a0), (1, .int a1), (2, .int a2), (3, .int b3), (4, .int b4)] [] n σ) (he0 : ∀ (b3 : Int32), res = .inr b3 → J X mX9_likely 4 0 0 F 98 [(0, .ref a0), (1, .int a1), (2, .int a2), (3, .int b3)] [] n σ) : J X mX9_likely 4 0 0 F 92 [(0, .ref a0), (1, .int a1), (2, .int a2), (3, .int a3), (4, .int a4)] [] n σ := by
  unfold fX9_likely_b92 at h
  refine J_iinc (z := 4) (y := (a4 + 1)) (lv' := [(4, .int (a4 + 1)), (0, .ref a0), (1, .int a1), (2, .int a2), (3, .int a3)]) dX9_likely_92 rfl rfl (by decide) rfl (q := 95) rfl ?_
  refine J_goto (tgt := 52) dX9_likely_95 (by decide) ?_
  have h := Option.some.inj h
  refine J_pick [1, 2, 3, 4, 0] rfl ?_
  exact hc _ _ h.symm

def fX9_likely_l52 (a0 : Nat) (a1 : Int32) (a2 : Int32) (a3 : Int32) (a4 : Int32) (σ : Mm) : Option ((Int32 × Int32) ⊕ (Int32)) :=
  if 10 ≤ a4 then some (Sum.inr a3) else (gR σ a0 4).bind fun r9 => (gR σ a0 7).bind fun r10 => (fX0_apartFrom r9 r10 a1 a4 σ).bind fun vk11 => (fX0_apartFrom r9 r10 a1 a3 σ).bind fun vk12 => if vk12 ≤ vk11 then fX9_likely_b92 a0 a1 a2 a3 a4 σ else fX9_likely_b92 a0 a1 a2 a4 a4 σ
set_option maxRecDepth 20000 in
set_option maxHeartbeats 2000000 in
theorem tX9_likely_l52 {X : XS} {n : Nat} {σ : Mm} {F : Nat × Option Value × Mm} {a0 : Nat} {a1 : Int32} {a2 : Int32} {a3 : Int32} {a4 : Int32} (ha0 : RT n a0 109) {res : (Int32 × Int32) ⊕ (Int32)} (h : fX9_likely_l52 a0 a1 a2 a3 a4 σ = some res) (hc : ∀ (b3 : Int32) (b4 : Int32), res = .inl (b3, b4) → J X mX9_likely 4 0 0 F 52 [(0, .ref a0), (1, .int a1), (2, .int a2), (3, .int b3), (4, .int b4)] [] n σ) (he0 : ∀ (b3 : Int32), res = .inr b3 → J X mX9_likely 4 0 0 F 98 [(0, .ref a0), (1, .int a1), (2, .int a2), (3, .int b3)] [] n σ) : J X mX9_likely 4 0 0 F 52 [(0, .ref a0), (1, .int a1), (2, .int a2), (3, .int a3), (4, .int a4)] [] n σ := by
  unfold fX9_likely_l52 at h
  refine J_iload (z := 4) dX9_likely_52 rfl (q := 54) rfl ?_
  refine J_bipush (x := 10) dX9_likely_54 (by decide) (q := 56) rfl ?_
  refine J_icmp_ge (tgt := 98) dX9_likely_56 (by decide) (q := 59) rfl (fun c7 => ?_) (fun c7 => ?_)
  · rw [if_pos c7] at h
    have h := Option.some.inj h
    refine J_pick [0, 1, 2, 3] rfl ?_
    exact he0 _ h.symm
  · rw [if_neg c7] at h
    refine J_aload_n (z := 0) dX9_likely_59 rfl rfl (q := 60) rfl ?_
    obtain ⟨r9, er9, h⟩ := bindS h
    refine J_getR dX9_likely_60 lRX9_42 ha0 rfl (by decide) er9 (q := 63) rfl (fun fr9 => ?_)
    refine J_aload_n (z := 0) dX9_likely_63 rfl rfl (q := 64) rfl ?_
    obtain ⟨r10, er10, h⟩ := bindS h
    refine J_getR dX9_likely_64 lRX9_63 ha0 rfl (by decide) er10 (q := 67) rfl (fun fr10 => ?_)
    refine J_iload_n (z := 1) dX9_likely_67 rfl rfl (q := 68) rfl ?_
    refine J_iload (z := 4) dX9_likely_68 rfl (q := 70) rfl ?_
    obtain ⟨vk11, hk11, h⟩ := bindS h
    refine J_cVi (as := [.ref r10, .int a1, .int a4]) dX9_likely_70 mRX9_376 fr9 (tX0_apartFrom fr9 fr10 hk11) rfl (Nat.le_of_ble_eq_true rfl) (Nat.le_of_ble_eq_true rfl) (Nat.le_of_ble_eq_true rfl) (q := 73) rfl ?_
    intro bk11
    refine J_aload_n (z := 0) dX9_likely_73 rfl rfl (q := 74) rfl ?_
    refine J_getR dX9_likely_74 lRX9_42 ha0 rfl (by decide) er9 (q := 77) rfl (fun _ => ?_)
    refine J_aload_n (z := 0) dX9_likely_77 rfl rfl (q := 78) rfl ?_
    refine J_getR dX9_likely_78 lRX9_63 ha0 rfl (by decide) er10 (q := 81) rfl (fun _ => ?_)
    refine J_iload_n (z := 1) dX9_likely_81 rfl rfl (q := 82) rfl ?_
    refine J_iload_n (z := 3) dX9_likely_82 rfl rfl (q := 83) rfl ?_
    obtain ⟨vk12, hk12, h⟩ := bindS h
    refine J_cVi (as := [.ref r10, .int a1, .int a3]) dX9_likely_83 mRX9_376 fr9 (tX0_apartFrom fr9 fr10 hk12) rfl (Nat.le_of_ble_eq_true rfl) (Nat.le_of_ble_eq_true rfl) (Nat.le_of_ble_eq_true rfl) (q := 86) rfl ?_
    intro bk12
    refine J_icmp_ge (tgt := 92) dX9_likely_86 (by decide) (q := 89) rfl (fun c12 => ?_) (fun c12 => ?_)
    · rw [if_pos c12] at h
      refine J_pick [0, 1, 2, 3, 4] rfl ?_
      exact tX9_likely_b92 ha0 h hc he0
    · rw [if_neg c12] at h
      refine J_iload (z := 4) dX9_likely_89 rfl (q := 91) rfl ?_
      refine J_istore_n (lv' := [(3, .int a4), (0, .ref a0), (1, .int a1), (2, .int a2), (4, .int a4)]) dX9_likely_91 rfl (by decide) rfl (q := 92) rfl ?_
      refine J_pick [1, 2, 3, 0, 4] rfl ?_
      exact tX9_likely_b92 ha0 h hc he0

def fX9_likely_w52 (a0 : Nat) (a1 : Int32) (a2 : Int32) (a3 : Int32) (a4 : Int32) (σ : Mm) : Option (Int32) :=
  wh (fun a : Int32 × Int32 => fX9_likely_l52 a0 a1 a2 a.1 a.2 σ) BIG (a3, a4)
set_option maxRecDepth 20000 in
set_option maxHeartbeats 2000000 in
theorem tX9_likely_w52 {X : XS} {n : Nat} {σ : Mm} {F : Nat × Option Value × Mm} {a0 : Nat} {a1 : Int32} {a2 : Int32} {a3 : Int32} {a4 : Int32} (ha0 : RT n a0 109) {res : Int32} (h : fX9_likely_w52 a0 a1 a2 a3 a4 σ = some res) (he0 : ∀ (b3 : Int32), res = b3 → J X mX9_likely 4 0 0 F 98 [(0, .ref a0), (1, .int a1), (2, .int a2), (3, .int b3)] [] n σ) : J X mX9_likely 4 0 0 F 52 [(0, .ref a0), (1, .int a1), (2, .int a2), (3, .int a3), (4, .int a4)] [] n σ := by
  unfold fX9_likely_w52 at h
  refine wh_rule (P := fun a : Int32 × Int32 => J X mX9_likely 4 0 0 F 52 [(0, .ref a0), (1, .int a1), (2, .int a2), (3, .int a.1), (4, .int a.2)] [] n σ) (K := fun b => b = res) ?_ _ _ _ h rfl
  intro a
  refine ⟨fun a2 hb hP => ?_, fun b hb hK => ?_⟩
  · exact tX9_likely_l52 ha0 hb (fun _ _ e => by cases e; exact hP) (fun _ e => by cases e)
  · subst hK
    exact tX9_likely_l52 ha0 hb (fun _ _ e => by cases e) (fun v0 e => he0 v0 (Sum.inr.inj e))

def fX9_likely_b47 (a0 : Nat) (a1 : Int32) (a2 : Int32) (σ : Mm) : Option (Int32) :=
  (fX9_likely_w52 a0 a1 a2 0 1 σ).bind (fun o14 => (fun xo14_3 => if a2 = 0 then some xo14_3 else (gR σ a0 4).bind fun r16 => (gR σ a0 7).bind fun r17 => (fX0_apartFrom r16 r17 a1 xo14_3 σ).bind fun vk18 => some vk18) o14)
set_option maxRecDepth 20000 in
set_option maxHeartbeats 2000000 in
theorem tX9_likely_b47 {X : XS} {n : Nat} {σ : Mm} {a0 : Nat} {a1 : Int32} {a2 : Int32} (ha0 : RT n a0 109) {res : Int32} (h : fX9_likely_b47 a0 a1 a2 σ = some res) : J X mX9_likely 4 0 0 (n, some (.int res), σ) 47 [(0, .ref a0), (1, .int a1), (2, .int a2)] [] n σ := by
  unfold fX9_likely_b47 at h
  refine J_iconst (x := 0) dX9_likely_47 (by decide) (q := 48) rfl ?_
  refine J_istore_n (lv' := [(3, .int 0), (0, .ref a0), (1, .int a1), (2, .int a2)]) dX9_likely_48 rfl (by decide) rfl (q := 49) rfl ?_
  refine J_iconst (x := 1) dX9_likely_49 (by decide) (q := 50) rfl ?_
  refine J_istore (lv' := [(4, .int 1), (3, .int 0), (0, .ref a0), (1, .int a1), (2, .int a2)]) dX9_likely_50 (by decide) rfl (q := 52) rfl ?_
  obtain ⟨o14, hlo14, h⟩ := bindS h
  refine J_pick [2, 3, 4, 1, 0] rfl ?_
  refine tX9_likely_w52 ha0 hlo14 ?_
  · intro xo14_3 qo14
    rw [qo14] at h
    try dsimp only [Sum.elim_inl, Sum.elim_inr] at h
    refine J_iload_n (z := 2) dX9_likely_98 rfl rfl (q := 99) rfl ?_
    refine J_if_ne (tgt := 106) dX9_likely_99 (by decide) (q := 102) rfl (fun c14 => ?_) (fun c14 => ?_)
    · rw [if_neg c14] at h
      refine J_aload_n (z := 0) dX9_likely_106 rfl rfl (q := 107) rfl ?_
      obtain ⟨r16, er16, h⟩ := bindS h
      refine J_getR dX9_likely_107 lRX9_42 ha0 rfl (by decide) er16 (q := 110) rfl (fun fr16 => ?_)
      refine J_aload_n (z := 0) dX9_likely_110 rfl rfl (q := 111) rfl ?_
      obtain ⟨r17, er17, h⟩ := bindS h
      refine J_getR dX9_likely_111 lRX9_63 ha0 rfl (by decide) er17 (q := 114) rfl (fun fr17 => ?_)
      refine J_iload_n (z := 1) dX9_likely_114 rfl rfl (q := 115) rfl ?_
      refine J_iload_n (z := 3) dX9_likely_115 rfl rfl (q := 116) rfl ?_
      obtain ⟨vk18, hk18, h⟩ := bindS h
      refine J_cVi (as := [.ref r17, .int a1, .int xo14_3]) dX9_likely_116 mRX9_376 fr16 (tX0_apartFrom fr16 fr17 hk18) rfl (Nat.le_of_ble_eq_true rfl) (Nat.le_of_ble_eq_true rfl) (Nat.le_of_ble_eq_true rfl) (q := 119) rfl ?_
      intro bk18
      have h := Option.some.inj h
      subst h
      exact J_ireturn dX9_likely_119 rfl rfl rfl
    · rw [if_pos c14] at h
      refine J_iload_n (z := 3) dX9_likely_102 rfl rfl (q := 103) rfl ?_
      refine J_goto (tgt := 119) dX9_likely_103 (by decide) ?_
      have h := Option.some.inj h
      subst h
      exact J_ireturn dX9_likely_119 rfl rfl rfl

def fX9_likely (a0 : Nat) (a1 : Int32) (a2 : Int32) (σ : Mm) : Option (Int32) :=
  (gR σ a0 1).bind fun r1 => (fX1_hasPage r1 a1 σ).bind fun vk2 => if vk2 = 0 then some (-1) else if a2 < 0 then some (-1) else if a2 ≤ 1 then (fX9_isThere a0 a1 σ).bind fun vk6 => if vk6 = 0 then (gR σ a0 4).bind fun r19 => (gR σ a0 7).bind fun r20 => (fX0_knowers r19 r20 a1 σ).bind fun vk21 => if vk21 = 0 then some (-1) else fX9_likely_b47 a0 a1 a2 σ else fX9_likely_b47 a0 a1 a2 σ else some (-1)
set_option maxRecDepth 20000 in
set_option maxHeartbeats 2000000 in
theorem tX9_likely {X : XS} {n : Nat} {σ : Mm} {a0 : Nat} {a1 : Int32} {a2 : Int32} (ha0 : RT n a0 109) {res : Int32} (h : fX9_likely a0 a1 a2 σ = some res) : MT X yX9_likely mX9_likely 4 0 0 [.ref a0, .int a1, .int a2] n σ (n, some (.int res), σ) := by
  unfold fX9_likely at h
  refine MT_of (by decide +kernel) rfl (fun h => by cases h) (Nat.le_of_ble_eq_true rfl) ?_
  show J X mX9_likely 4 0 0 (n, some (.int res), σ) 0 [(0, .ref a0), (1, .int a1), (2, .int a2)] [] n σ
  refine J_aload_n (z := 0) dX9_likely_0 rfl rfl (q := 1) rfl ?_
  obtain ⟨r1, er1, h⟩ := bindS h
  refine J_getR dX9_likely_1 lRX9_21 ha0 rfl (by decide) er1 (q := 4) rfl (fun fr1 => ?_)
  refine J_iload_n (z := 1) dX9_likely_4 rfl rfl (q := 5) rfl ?_
  obtain ⟨vk2, hk2, h⟩ := bindS h
  refine J_cVi (as := [.int a1]) dX9_likely_5 mRX9_169 fr1 (tX1_hasPage fr1 hk2) rfl (Nat.le_of_ble_eq_true rfl) (Nat.le_of_ble_eq_true rfl) (Nat.le_of_ble_eq_true rfl) (q := 8) rfl ?_
  intro bk2
  refine J_if_eq (tgt := 20) dX9_likely_8 (by decide) (q := 11) rfl (fun c2 => ?_) (fun c2 => ?_)
  · rw [if_pos c2] at h
    refine J_iconst (x := (-1)) dX9_likely_20 (by decide) (q := 21) rfl ?_
    have h := Option.some.inj h
    subst h
    exact J_ireturn dX9_likely_21 rfl rfl rfl
  · rw [if_neg c2] at h
    refine J_iload_n (z := 2) dX9_likely_11 rfl rfl (q := 12) rfl ?_
    refine J_if_lt (tgt := 20) dX9_likely_12 (by decide) (q := 15) rfl (fun c3 => ?_) (fun c3 => ?_)
    · rw [if_pos c3] at h
      refine J_iconst (x := (-1)) dX9_likely_20 (by decide) (q := 21) rfl ?_
      have h := Option.some.inj h
      subst h
      exact J_ireturn dX9_likely_21 rfl rfl rfl
    · rw [if_neg c3] at h
      refine J_iload_n (z := 2) dX9_likely_15 rfl rfl (q := 16) rfl ?_
      refine J_iconst (x := 1) dX9_likely_16 (by decide) (q := 17) rfl ?_
      refine J_icmp_le (tgt := 22) dX9_likely_17 (by decide) (q := 20) rfl (fun c4 => ?_) (fun c4 => ?_)
      · rw [if_pos c4] at h
        refine J_aload_n (z := 0) dX9_likely_22 rfl rfl (q := 23) rfl ?_
        refine J_iload_n (z := 1) dX9_likely_23 rfl rfl (q := 24) rfl ?_
        obtain ⟨vk6, hk6, h⟩ := bindS h
        refine J_cVi (as := [.int a1]) dX9_likely_24 mRX9_227 ha0 (tX9_isThere ha0 hk6) rfl (Nat.le_of_ble_eq_true rfl) (Nat.le_of_ble_eq_true rfl) (Nat.le_of_ble_eq_true rfl) (q := 27) rfl ?_
        intro bk6
        refine J_if_ne (tgt := 47) dX9_likely_27 (by decide) (q := 30) rfl (fun c6 => ?_) (fun c6 => ?_)
        · rw [if_neg c6] at h
          refine J_pick [0, 1, 2] rfl ?_
          exact tX9_likely_b47 ha0 h
        · rw [if_pos c6] at h
          refine J_aload_n (z := 0) dX9_likely_30 rfl rfl (q := 31) rfl ?_
          obtain ⟨r19, er19, h⟩ := bindS h
          refine J_getR dX9_likely_31 lRX9_42 ha0 rfl (by decide) er19 (q := 34) rfl (fun fr19 => ?_)
          refine J_aload_n (z := 0) dX9_likely_34 rfl rfl (q := 35) rfl ?_
          obtain ⟨r20, er20, h⟩ := bindS h
          refine J_getR dX9_likely_35 lRX9_63 ha0 rfl (by decide) er20 (q := 38) rfl (fun fr20 => ?_)
          refine J_iload_n (z := 1) dX9_likely_38 rfl rfl (q := 39) rfl ?_
          obtain ⟨vk21, hk21, h⟩ := bindS h
          refine J_cVi (as := [.ref r20, .int a1]) dX9_likely_39 mRX9_369 fr19 (tX0_knowers fr19 fr20 hk21) rfl (Nat.le_of_ble_eq_true rfl) (Nat.le_of_ble_eq_true rfl) (Nat.le_of_ble_eq_true rfl) (q := 42) rfl ?_
          intro bk21
          refine J_if_ne (tgt := 47) dX9_likely_42 (by decide) (q := 45) rfl (fun c21 => ?_) (fun c21 => ?_)
          · rw [if_neg c21] at h
            refine J_pick [0, 1, 2] rfl ?_
            exact tX9_likely_b47 ha0 h
          · rw [if_pos c21] at h
            refine J_iconst (x := (-1)) dX9_likely_45 (by decide) (q := 46) rfl ?_
            have h := Option.some.inj h
            subst h
            exact J_ireturn dX9_likely_46 rfl rfl rfl
      · rw [if_neg c4] at h
        refine J_iconst (x := (-1)) dX9_likely_20 (by decide) (q := 21) rfl ?_
        have h := Option.some.inj h
        subst h
        exact J_ireturn dX9_likely_21 rfl rfl rfl

def fX9_breathed_b89 (a0 : Nat) (a1 : Int32) (a2 : Int32) (a3 : Int32) (a4 : Int32) (a5 : Int32) (a6 : Int32) (σ : Mm) : Option ((Int32 × Int32 × Mm) ⊕ ((Int32 × Mm) ⊕ Int32 × Mm)) :=
  some (Sum.inl (a5, (a6 + 1), σ))
set_option maxRecDepth 20000 in
set_option maxHeartbeats 2000000 in
theorem tX9_breathed_b89 {X : XS} {n : Nat} {σ : Mm} {F : Nat × Option Value × Mm} {a0 : Nat} {a1 : Int32} {a2 : Int32} {a3 : Int32} {a4 : Int32} {a5 : Int32} {a6 : Int32} (ha0 : RT n a0 109) {res : (Int32 × Int32 × Mm) ⊕ ((Int32 × Mm) ⊕ Int32 × Mm)} (h : fX9_breathed_b89 a0 a1 a2 a3 a4 a5 a6 σ = some res) (hc : ∀ (b5 : Int32) (b6 : Int32) (s : Mm), res = .inl (b5, b6, s) → J X mX9_breathed 5 0 0 F 43 [(0, .ref a0), (1, .int a1), (2, .int a2), (3, .int a3), (4, .int a4), (5, .int b5), (6, .int b6)] [] n s) (he0 : ∀ (b5 : Int32) (s : Mm), res = .inr (Sum.inr (b5, s)) → J X mX9_breathed 5 0 0 F 95 [(4, .int a4), (5, .int b5)] [] n s) (hr : ∀ (v : Int32) (s : Mm), res = .inr (Sum.inl (v, s)) → F = (n, some (.int v), s)) : J X mX9_breathed 5 0 0 F 89 [(0, .ref a0), (1, .int a1), (2, .int a2), (3, .int a3), (4, .int a4), (5, .int a5), (6, .int a6)] [] n σ := by
  unfold fX9_breathed_b89 at h
  refine J_iinc (z := 6) (y := (a6 + 1)) (lv' := [(6, .int (a6 + 1)), (0, .ref a0), (1, .int a1), (2, .int a2), (3, .int a3), (4, .int a4), (5, .int a5)]) dX9_breathed_89 rfl rfl (by decide) rfl (q := 92) rfl ?_
  refine J_goto (tgt := 43) dX9_breathed_92 (by decide) ?_
  have h := Option.some.inj h
  refine J_pick [1, 2, 3, 4, 5, 6, 0] rfl ?_
  exact hc _ _ _ h.symm

def fX9_breathed_l43 (a0 : Nat) (a1 : Int32) (a2 : Int32) (a3 : Int32) (a4 : Int32) (a5 : Int32) (a6 : Int32) (σ : Mm) : Option ((Int32 × Int32 × Mm) ⊕ ((Int32 × Mm) ⊕ Int32 × Mm)) :=
  (gR σ a0 1).bind fun r9 => if (shlI 1 (gI σ r9 5)) ≤ a6 then some (Sum.inr (Sum.inr (a5, σ))) else (gR σ a0 4).bind fun r11 => (gR σ a0 7).bind fun r12 => bnd2 (fX0_meltOfSet r11 r12 a1 a2 a6 σ) fun vk13 sk13 => if vk13 = a3 then if a5 = a4 then some (Sum.inr (Sum.inl (a6, sk13))) else fX9_breathed_b89 a0 a1 a2 a3 a4 (a5 + 1) a6 sk13 else fX9_breathed_b89 a0 a1 a2 a3 a4 a5 a6 sk13
set_option maxRecDepth 20000 in
set_option maxHeartbeats 2000000 in
theorem tX9_breathed_l43 {X : XS} {n : Nat} {σ : Mm} {F : Nat × Option Value × Mm} {a0 : Nat} {a1 : Int32} {a2 : Int32} {a3 : Int32} {a4 : Int32} {a5 : Int32} {a6 : Int32} (ha0 : RT n a0 109) {res : (Int32 × Int32 × Mm) ⊕ ((Int32 × Mm) ⊕ Int32 × Mm)} (h : fX9_breathed_l43 a0 a1 a2 a3 a4 a5 a6 σ = some res) (hc : ∀ (b5 : Int32) (b6 : Int32) (s : Mm), res = .inl (b5, b6, s) → J X mX9_breathed 5 0 0 F 43 [(0, .ref a0), (1, .int a1), (2, .int a2), (3, .int a3), (4, .int a4), (5, .int b5), (6, .int b6)] [] n s) (he0 : ∀ (b5 : Int32) (s : Mm), res = .inr (Sum.inr (b5, s)) → J X mX9_breathed 5 0 0 F 95 [(4, .int a4), (5, .int b5)] [] n s) (hr : ∀ (v : Int32) (s : Mm), res = .inr (Sum.inl (v, s)) → F = (n, some (.int v), s)) : J X mX9_breathed 5 0 0 F 43 [(0, .ref a0), (1, .int a1), (2, .int a2), (3, .int a3), (4, .int a4), (5, .int a5), (6, .int a6)] [] n σ := by
  unfold fX9_breathed_l43 at h
  refine J_iload (z := 6) dX9_breathed_43 rfl (q := 45) rfl ?_
  refine J_iconst (x := 1) dX9_breathed_45 (by decide) (q := 46) rfl ?_
  refine J_aload_n (z := 0) dX9_breathed_46 rfl rfl (q := 47) rfl ?_
  obtain ⟨r9, er9, h⟩ := bindS h
  refine J_getR dX9_breathed_47 lRX9_21 ha0 rfl (by decide) er9 (q := 50) rfl (fun fr9 => ?_)
  refine J_getI dX9_breathed_50 lRX9_276 fr9 rfl (q := 53) rfl ?_
  refine J_ishl dX9_breathed_53  (q := 54) rfl ?_
  refine J_icmp_ge (tgt := 95) dX9_breathed_54 (by decide) (q := 57) rfl (fun c9 => ?_) (fun c9 => ?_)
  · rw [if_pos c9] at h
    have h := Option.some.inj h
    refine J_pick [4, 5] rfl ?_
    exact he0 _ _ h.symm
  · rw [if_neg c9] at h
    refine J_aload_n (z := 0) dX9_breathed_57 rfl rfl (q := 58) rfl ?_
    obtain ⟨r11, er11, h⟩ := bindS h
    refine J_getR dX9_breathed_58 lRX9_42 ha0 rfl (by decide) er11 (q := 61) rfl (fun fr11 => ?_)
    refine J_aload_n (z := 0) dX9_breathed_61 rfl rfl (q := 62) rfl ?_
    obtain ⟨r12, er12, h⟩ := bindS h
    refine J_getR dX9_breathed_62 lRX9_63 ha0 rfl (by decide) er12 (q := 65) rfl (fun fr12 => ?_)
    refine J_iload_n (z := 1) dX9_breathed_65 rfl rfl (q := 66) rfl ?_
    refine J_iload_n (z := 2) dX9_breathed_66 rfl rfl (q := 67) rfl ?_
    refine J_iload (z := 6) dX9_breathed_67 rfl (q := 69) rfl ?_
    obtain ⟨vk13, sk13, hk13, h⟩ := bnd2S h
    refine J_cVi (as := [.ref r12, .int a1, .int a2, .int a6]) dX9_breathed_69 mRX9_379 fr11 (tX0_meltOfSet fr11 fr12 hk13) rfl (Nat.le_of_ble_eq_true rfl) (Nat.le_of_ble_eq_true rfl) (Nat.le_of_ble_eq_true rfl) (q := 72) rfl ?_
    intro bk13
    refine J_iload_n (z := 3) dX9_breathed_72 rfl rfl (q := 73) rfl ?_
    refine J_icmp_ne (tgt := 89) dX9_breathed_73 (by decide) (q := 76) rfl (fun c13 => ?_) (fun c13 => ?_)
    · rw [if_neg c13] at h
      refine J_pick [0, 1, 2, 3, 4, 5, 6] rfl ?_
      exact tX9_breathed_b89 ha0 h hc he0 hr
    · rw [if_pos c13] at h
      refine J_iload (z := 5) dX9_breathed_76 rfl (q := 78) rfl ?_
      refine J_iload (z := 4) dX9_breathed_78 rfl (q := 80) rfl ?_
      refine J_icmp_ne (tgt := 86) dX9_breathed_80 (by decide) (q := 83) rfl (fun c14 => ?_) (fun c14 => ?_)
      · rw [if_neg c14] at h
        refine J_iinc (z := 5) (y := (a5 + 1)) (lv' := [(5, .int (a5 + 1)), (0, .ref a0), (1, .int a1), (2, .int a2), (3, .int a3), (4, .int a4), (6, .int a6)]) dX9_breathed_86 rfl rfl (by decide) rfl (q := 89) rfl ?_
        refine J_pick [1, 2, 3, 4, 5, 0, 6] rfl ?_
        exact tX9_breathed_b89 ha0 h hc he0 hr
      · rw [if_pos c14] at h
        refine J_iload (z := 6) dX9_breathed_83 rfl (q := 85) rfl ?_
        have h := Option.some.inj h
        exact J_ireturn dX9_breathed_85 rfl rfl (hr _ _ h.symm)

def fX9_breathed_w43 (a0 : Nat) (a1 : Int32) (a2 : Int32) (a3 : Int32) (a4 : Int32) (a5 : Int32) (a6 : Int32) (σ : Mm) : Option ((Int32 × Mm) ⊕ Int32 × Mm) :=
  wh (fun a : Int32 × Int32 × Mm => fX9_breathed_l43 a0 a1 a2 a3 a4 a.1 a.2.1 a.2.2) BIG (a5, a6, σ)
set_option maxRecDepth 20000 in
set_option maxHeartbeats 2000000 in
theorem tX9_breathed_w43 {X : XS} {n : Nat} {σ : Mm} {F : Nat × Option Value × Mm} {a0 : Nat} {a1 : Int32} {a2 : Int32} {a3 : Int32} {a4 : Int32} {a5 : Int32} {a6 : Int32} (ha0 : RT n a0 109) {res : (Int32 × Mm) ⊕ Int32 × Mm} (h : fX9_breathed_w43 a0 a1 a2 a3 a4 a5 a6 σ = some res) (he0 : ∀ (b5 : Int32) (s : Mm), res = (Sum.inr (b5, s)) → J X mX9_breathed 5 0 0 F 95 [(4, .int a4), (5, .int b5)] [] n s) (hr : ∀ (v : Int32) (s : Mm), res = (Sum.inl (v, s)) → F = (n, some (.int v), s)) : J X mX9_breathed 5 0 0 F 43 [(0, .ref a0), (1, .int a1), (2, .int a2), (3, .int a3), (4, .int a4), (5, .int a5), (6, .int a6)] [] n σ := by
  unfold fX9_breathed_w43 at h
  refine wh_rule (P := fun a : Int32 × Int32 × Mm => J X mX9_breathed 5 0 0 F 43 [(0, .ref a0), (1, .int a1), (2, .int a2), (3, .int a3), (4, .int a4), (5, .int a.1), (6, .int a.2.1)] [] n a.2.2) (K := fun b => b = res) ?_ _ _ _ h rfl
  intro a
  refine ⟨fun a2 hb hP => ?_, fun b hb hK => ?_⟩
  · exact tX9_breathed_l43 ha0 hb (fun _ _ _ e => by cases e; exact hP) (fun _ _ e => by cases e) (fun _ _ e => by cases e)
  · subst hK
    exact tX9_breathed_l43 ha0 hb (fun _ _ _ e => by cases e) (fun v0 v1 e => he0 v0 v1 (Sum.inr.inj e)) (fun v0 v1 e => hr v0 v1 (Sum.inr.inj e))

def fX9_breathed (a0 : Nat) (a1 : Int32) (a2 : Int32) (a3 : Int32) (a4 : Int32) (σ : Mm) : Option (Int32 × Mm) :=
  (fX9_isThere a0 a1 σ).bind fun vk1 => if vk1 = 0 then some ((-1), σ) else (gR σ a0 1).bind fun r3 => (fX1_hasCell r3 a2 σ).bind fun vk4 => if vk4 = 0 then some ((-1), σ) else if a3 < 0 then some ((-1), σ) else if 99 < a3 then some ((-1), σ) else if (-1) ≤ a4 then (fX9_breathed_w43 a0 a1 a2 a3 a4 0 0 σ).bind (Sum.elim (fun eo160 => some eo160) (fun eo161 => (fun xo16_5 so16 => if a4 = (-1) then some (xo16_5, so16) else some ((-1), so16)) eo161.1 eo161.2)) else some ((-1), σ)
set_option maxRecDepth 20000 in
set_option maxHeartbeats 2000000 in
theorem tX9_breathed {X : XS} {n : Nat} {σ : Mm} {a0 : Nat} {a1 : Int32} {a2 : Int32} {a3 : Int32} {a4 : Int32} (ha0 : RT n a0 109) {res : Int32 × Mm} (h : fX9_breathed a0 a1 a2 a3 a4 σ = some res) : MT X yX9_breathed mX9_breathed 5 0 0 [.ref a0, .int a1, .int a2, .int a3, .int a4] n σ (n, some (.int res.1), res.2) := by
  unfold fX9_breathed at h
  refine MT_of (by decide +kernel) rfl (fun h => by cases h) (Nat.le_of_ble_eq_true rfl) ?_
  show J X mX9_breathed 5 0 0 (n, some (.int res.1), res.2) 0 [(0, .ref a0), (1, .int a1), (2, .int a2), (3, .int a3), (4, .int a4)] [] n σ
  refine J_aload_n (z := 0) dX9_breathed_0 rfl rfl (q := 1) rfl ?_
  refine J_iload_n (z := 1) dX9_breathed_1 rfl rfl (q := 2) rfl ?_
  obtain ⟨vk1, hk1, h⟩ := bindS h
  refine J_cVi (as := [.int a1]) dX9_breathed_2 mRX9_227 ha0 (tX9_isThere ha0 hk1) rfl (Nat.le_of_ble_eq_true rfl) (Nat.le_of_ble_eq_true rfl) (Nat.le_of_ble_eq_true rfl) (q := 5) rfl ?_
  intro bk1
  refine J_if_eq (tgt := 35) dX9_breathed_5 (by decide) (q := 8) rfl (fun c1 => ?_) (fun c1 => ?_)
  · rw [if_pos c1] at h
    refine J_iconst (x := (-1)) dX9_breathed_35 (by decide) (q := 36) rfl ?_
    have h := Option.some.inj h
    subst h
    exact J_ireturn dX9_breathed_36 rfl rfl rfl
  · rw [if_neg c1] at h
    refine J_aload_n (z := 0) dX9_breathed_8 rfl rfl (q := 9) rfl ?_
    obtain ⟨r3, er3, h⟩ := bindS h
    refine J_getR dX9_breathed_9 lRX9_21 ha0 rfl (by decide) er3 (q := 12) rfl (fun fr3 => ?_)
    refine J_iload_n (z := 2) dX9_breathed_12 rfl rfl (q := 13) rfl ?_
    obtain ⟨vk4, hk4, h⟩ := bindS h
    refine J_cVi (as := [.int a2]) dX9_breathed_13 mRX9_224 fr3 (tX1_hasCell fr3 hk4) rfl (Nat.le_of_ble_eq_true rfl) (Nat.le_of_ble_eq_true rfl) (Nat.le_of_ble_eq_true rfl) (q := 16) rfl ?_
    intro bk4
    refine J_if_eq (tgt := 35) dX9_breathed_16 (by decide) (q := 19) rfl (fun c4 => ?_) (fun c4 => ?_)
    · rw [if_pos c4] at h
      refine J_iconst (x := (-1)) dX9_breathed_35 (by decide) (q := 36) rfl ?_
      have h := Option.some.inj h
      subst h
      exact J_ireturn dX9_breathed_36 rfl rfl rfl
    · rw [if_neg c4] at h
      refine J_iload_n (z := 3) dX9_breathed_19 rfl rfl (q := 20) rfl ?_
      refine J_if_lt (tgt := 35) dX9_breathed_20 (by decide) (q := 23) rfl (fun c5 => ?_) (fun c5 => ?_)
      · rw [if_pos c5] at h
        refine J_iconst (x := (-1)) dX9_breathed_35 (by decide) (q := 36) rfl ?_
        have h := Option.some.inj h
        subst h
        exact J_ireturn dX9_breathed_36 rfl rfl rfl
      · rw [if_neg c5] at h
        refine J_iload_n (z := 3) dX9_breathed_23 rfl rfl (q := 24) rfl ?_
        refine J_bipush (x := 99) dX9_breathed_24 (by decide) (q := 26) rfl ?_
        refine J_icmp_gt (tgt := 35) dX9_breathed_26 (by decide) (q := 29) rfl (fun c6 => ?_) (fun c6 => ?_)
        · rw [if_pos c6] at h
          refine J_iconst (x := (-1)) dX9_breathed_35 (by decide) (q := 36) rfl ?_
          have h := Option.some.inj h
          subst h
          exact J_ireturn dX9_breathed_36 rfl rfl rfl
        · rw [if_neg c6] at h
          refine J_iload (z := 4) dX9_breathed_29 rfl (q := 31) rfl ?_
          refine J_iconst (x := (-1)) dX9_breathed_31 (by decide) (q := 32) rfl ?_
          refine J_icmp_ge (tgt := 37) dX9_breathed_32 (by decide) (q := 35) rfl (fun c7 => ?_) (fun c7 => ?_)
          · rw [if_pos c7] at h
            refine J_iconst (x := 0) dX9_breathed_37 (by decide) (q := 38) rfl ?_
            refine J_istore (lv' := [(5, .int 0), (0, .ref a0), (1, .int a1), (2, .int a2), (3, .int a3), (4, .int a4)]) dX9_breathed_38 (by decide) rfl (q := 40) rfl ?_
            refine J_iconst (x := 0) dX9_breathed_40 (by decide) (q := 41) rfl ?_
            refine J_istore (lv' := [(6, .int 0), (5, .int 0), (0, .ref a0), (1, .int a1), (2, .int a2), (3, .int a3), (4, .int a4)]) dX9_breathed_41 (by decide) rfl (q := 43) rfl ?_
            obtain ⟨o16, hlo16, h⟩ := bindS h
            refine J_pick [2, 3, 4, 5, 6, 1, 0] rfl ?_
            refine tX9_breathed_w43 ha0 hlo16 ?_ ?_
            · intro xo16_5 so16 qo16
              rw [qo16] at h
              try dsimp only [Sum.elim_inl, Sum.elim_inr] at h
              refine J_iload (z := 0) dX9_breathed_95 rfl (q := 97) rfl ?_
              refine J_iconst (x := (-1)) dX9_breathed_97 (by decide) (q := 98) rfl ?_
              refine J_icmp_ne (tgt := 106) dX9_breathed_98 (by decide) (q := 101) rfl (fun c16 => ?_) (fun c16 => ?_)
              · rw [if_neg c16] at h
                refine J_iconst (x := (-1)) dX9_breathed_106 (by decide) (q := 107) rfl ?_
                have h := Option.some.inj h
                subst h
                exact J_ireturn dX9_breathed_107 rfl rfl rfl
              · rw [if_pos c16] at h
                refine J_iload (z := 1) dX9_breathed_101 rfl (q := 103) rfl ?_
                refine J_goto (tgt := 107) dX9_breathed_103 (by decide) ?_
                have h := Option.some.inj h
                subst h
                exact J_ireturn dX9_breathed_107 rfl rfl rfl
            · intro vo16 so16 qo16
              rw [qo16] at h
              try dsimp only [Sum.elim_inl, Sum.elim_inr] at h
              have h := Option.some.inj h
              subst h
              rfl
          · rw [if_neg c7] at h
            refine J_iconst (x := (-1)) dX9_breathed_35 (by decide) (q := 36) rfl ?_
            have h := Option.some.inj h
            subst h
            exact J_ireturn dX9_breathed_36 rfl rfl rfl

def fX9_exam_b26 (a0 : Nat) (a1 : Int32) (a2 : Int32) (a3 : Int32) (z0 : Int32) (σ : Mm) : Option (Int32 × Mm) :=
  if z0 = 0 then some ((-1), σ) else if a3 < 0 then some ((-1), σ) else if a3 ≤ 100 then (gR σ a0 4).bind fun r5 => bnd2 (fX0_passing r5 a1 a2 a3 σ) fun vk6 sk6 => some (vk6, sk6) else some ((-1), σ)
set_option maxRecDepth 20000 in
set_option maxHeartbeats 2000000 in
theorem tX9_exam_b26 {X : XS} {n : Nat} {σ : Mm} {a0 : Nat} {a1 : Int32} {a2 : Int32} {a3 : Int32} {z0 : Int32} (ha0 : RT n a0 109) {res : Int32 × Mm} (h : fX9_exam_b26 a0 a1 a2 a3 z0 σ = some res) : J X mX9_exam 3 0 0 (n, some (.int res.1), res.2) 26 [(0, .ref a0), (1, .int a1), (2, .int a2), (3, .int a3)] [.int z0] n σ := by
  unfold fX9_exam_b26 at h
  refine J_istore (lv' := [(4, .int z0), (0, .ref a0), (1, .int a1), (2, .int a2), (3, .int a3)]) dX9_exam_26 (by decide) rfl (q := 28) rfl ?_
  refine J_iload (z := 0) dX9_exam_28 rfl (q := 30) rfl ?_
  refine J_if_eq (tgt := 43) dX9_exam_30 (by decide) (q := 33) rfl (fun c1 => ?_) (fun c1 => ?_)
  · rw [if_pos c1] at h
    refine J_iconst (x := (-1)) dX9_exam_43 (by decide) (q := 44) rfl ?_
    have h := Option.some.inj h
    subst h
    exact J_ireturn dX9_exam_44 rfl rfl rfl
  · rw [if_neg c1] at h
    refine J_iload_n (z := 4) dX9_exam_33 rfl rfl (q := 34) rfl ?_
    refine J_if_lt (tgt := 43) dX9_exam_34 (by decide) (q := 37) rfl (fun c2 => ?_) (fun c2 => ?_)
    · rw [if_pos c2] at h
      refine J_iconst (x := (-1)) dX9_exam_43 (by decide) (q := 44) rfl ?_
      have h := Option.some.inj h
      subst h
      exact J_ireturn dX9_exam_44 rfl rfl rfl
    · rw [if_neg c2] at h
      refine J_iload_n (z := 4) dX9_exam_37 rfl rfl (q := 38) rfl ?_
      refine J_bipush (x := 100) dX9_exam_38 (by decide) (q := 40) rfl ?_
      refine J_icmp_le (tgt := 45) dX9_exam_40 (by decide) (q := 43) rfl (fun c3 => ?_) (fun c3 => ?_)
      · rw [if_pos c3] at h
        refine J_aload_n (z := 1) dX9_exam_45 rfl rfl (q := 46) rfl ?_
        obtain ⟨r5, er5, h⟩ := bindS h
        refine J_getR dX9_exam_46 lRX9_42 ha0 rfl (by decide) er5 (q := 49) rfl (fun fr5 => ?_)
        refine J_iload_n (z := 2) dX9_exam_49 rfl rfl (q := 50) rfl ?_
        refine J_iload_n (z := 3) dX9_exam_50 rfl rfl (q := 51) rfl ?_
        refine J_iload_n (z := 4) dX9_exam_51 rfl rfl (q := 52) rfl ?_
        obtain ⟨vk6, sk6, hk6, h⟩ := bnd2S h
        refine J_cVi (as := [.int a1, .int a2, .int a3]) dX9_exam_52 mRX9_382 fr5 (tX0_passing fr5 hk6) rfl (Nat.le_of_ble_eq_true rfl) (Nat.le_of_ble_eq_true rfl) (Nat.le_of_ble_eq_true rfl) (q := 55) rfl ?_
        intro bk6
        have h := Option.some.inj h
        subst h
        exact J_ireturn dX9_exam_55 rfl rfl rfl
      · rw [if_neg c3] at h
        refine J_iconst (x := (-1)) dX9_exam_43 (by decide) (q := 44) rfl ?_
        have h := Option.some.inj h
        subst h
        exact J_ireturn dX9_exam_44 rfl rfl rfl

def fX9_exam_b25 (a0 : Nat) (a1 : Int32) (a2 : Int32) (a3 : Int32) (σ : Mm) : Option (Int32 × Mm) :=
  fX9_exam_b26 a0 a1 a2 a3 0 σ
set_option maxRecDepth 20000 in
set_option maxHeartbeats 2000000 in
theorem tX9_exam_b25 {X : XS} {n : Nat} {σ : Mm} {a0 : Nat} {a1 : Int32} {a2 : Int32} {a3 : Int32} (ha0 : RT n a0 109) {res : Int32 × Mm} (h : fX9_exam_b25 a0 a1 a2 a3 σ = some res) : J X mX9_exam 3 0 0 (n, some (.int res.1), res.2) 25 [(0, .ref a0), (1, .int a1), (2, .int a2), (3, .int a3)] [] n σ := by
  unfold fX9_exam_b25 at h
  refine J_iconst (x := 0) dX9_exam_25 (by decide) (q := 26) rfl ?_
  refine J_pick [0, 1, 2, 3] rfl ?_
  exact tX9_exam_b26 ha0 h

def fX9_exam (a0 : Nat) (a1 : Int32) (a2 : Int32) (a3 : Int32) (σ : Mm) : Option (Int32 × Mm) :=
  if a1 < 1 then fX9_exam_b25 a0 a1 a2 a3 σ else if 12 < a1 then fX9_exam_b25 a0 a1 a2 a3 σ else if a2 < 0 then fX9_exam_b25 a0 a1 a2 a3 σ else if 13 < a2 then fX9_exam_b25 a0 a1 a2 a3 σ else fX9_exam_b26 a0 a1 a2 a3 1 σ
set_option maxRecDepth 20000 in
set_option maxHeartbeats 2000000 in
theorem tX9_exam {X : XS} {n : Nat} {σ : Mm} {a0 : Nat} {a1 : Int32} {a2 : Int32} {a3 : Int32} (ha0 : RT n a0 109) {res : Int32 × Mm} (h : fX9_exam a0 a1 a2 a3 σ = some res) : MT X yX9_exam mX9_exam 3 0 0 [.ref a0, .int a1, .int a2, .int a3] n σ (n, some (.int res.1), res.2) := by
  unfold fX9_exam at h
  refine MT_of (by decide +kernel) rfl (fun h => by cases h) (Nat.le_of_ble_eq_true rfl) ?_
  show J X mX9_exam 3 0 0 (n, some (.int res.1), res.2) 0 [(0, .ref a0), (1, .int a1), (2, .int a2), (3, .int a3)] [] n σ
  refine J_iload_n (z := 1) dX9_exam_0 rfl rfl (q := 1) rfl ?_
  refine J_iconst (x := 1) dX9_exam_1 (by decide) (q := 2) rfl ?_
  refine J_icmp_lt (tgt := 25) dX9_exam_2 (by decide) (q := 5) rfl (fun c0 => ?_) (fun c0 => ?_)
  · rw [if_pos c0] at h
    refine J_pick [0, 1, 2, 3] rfl ?_
    exact tX9_exam_b25 ha0 h
  · rw [if_neg c0] at h
    refine J_iload_n (z := 1) dX9_exam_5 rfl rfl (q := 6) rfl ?_
    refine J_bipush (x := 12) dX9_exam_6 (by decide) (q := 8) rfl ?_
    refine J_icmp_gt (tgt := 25) dX9_exam_8 (by decide) (q := 11) rfl (fun c6 => ?_) (fun c6 => ?_)
    · rw [if_pos c6] at h
      refine J_pick [0, 1, 2, 3] rfl ?_
      exact tX9_exam_b25 ha0 h
    · rw [if_neg c6] at h
      refine J_iload_n (z := 2) dX9_exam_11 rfl rfl (q := 12) rfl ?_
      refine J_if_lt (tgt := 25) dX9_exam_12 (by decide) (q := 15) rfl (fun c7 => ?_) (fun c7 => ?_)
      · rw [if_pos c7] at h
        refine J_pick [0, 1, 2, 3] rfl ?_
        exact tX9_exam_b25 ha0 h
      · rw [if_neg c7] at h
        refine J_iload_n (z := 2) dX9_exam_15 rfl rfl (q := 16) rfl ?_
        refine J_bipush (x := 13) dX9_exam_16 (by decide) (q := 18) rfl ?_
        refine J_icmp_gt (tgt := 25) dX9_exam_18 (by decide) (q := 21) rfl (fun c8 => ?_) (fun c8 => ?_)
        · rw [if_pos c8] at h
          refine J_pick [0, 1, 2, 3] rfl ?_
          exact tX9_exam_b25 ha0 h
        · rw [if_neg c8] at h
          refine J_iconst (x := 1) dX9_exam_21 (by decide) (q := 22) rfl ?_
          refine J_goto (tgt := 26) dX9_exam_22 (by decide) ?_
          refine J_pick [0, 1, 2, 3] rfl ?_
          exact tX9_exam_b26 ha0 h

def fX9_learnt_b70 (a0 : Nat) (a1 : Int32) (a2 : Int32) (a3 : Int32) (σ : Mm) : Option ((Int32 × Int32) ⊕ (Int32)) :=
  some (Sum.inl (a2, (a3 + 1)))
set_option maxRecDepth 20000 in
set_option maxHeartbeats 2000000 in
theorem tX9_learnt_b70 {X : XS} {n : Nat} {σ : Mm} {F : Nat × Option Value × Mm} {a0 : Nat} {a1 : Int32} {a2 : Int32} {a3 : Int32} (ha0 : RT n a0 109) {res : (Int32 × Int32) ⊕ (Int32)} (h : fX9_learnt_b70 a0 a1 a2 a3 σ = some res) (hc : ∀ (b2 : Int32) (b3 : Int32), res = .inl (b2, b3) → J X mX9_learnt 3 0 0 F 17 [(0, .ref a0), (1, .int a1), (2, .int b2), (3, .int b3)] [] n σ) (hr : ∀ (v : Int32), res = .inr v → F = (n, some (.int v), σ)) : J X mX9_learnt 3 0 0 F 70 [(0, .ref a0), (1, .int a1), (2, .int a2), (3, .int a3)] [] n σ := by
  unfold fX9_learnt_b70 at h
  refine J_iinc (z := 3) (y := (a3 + 1)) (lv' := [(3, .int (a3 + 1)), (0, .ref a0), (1, .int a1), (2, .int a2)]) dX9_learnt_70 rfl rfl (by decide) rfl (q := 73) rfl ?_
  refine J_goto (tgt := 17) dX9_learnt_73 (by decide) ?_
  have h := Option.some.inj h
  refine J_pick [1, 2, 3, 0] rfl ?_
  exact hc _ _ h.symm

def fX9_learnt_l17 (a0 : Nat) (a1 : Int32) (a2 : Int32) (a3 : Int32) (σ : Mm) : Option ((Int32 × Int32) ⊕ (Int32)) :=
  (gR σ a0 1).bind fun r4 => if (gI σ r4 4) ≤ a3 then some (Sum.inr a2) else (fX1_pageBook r4 a3 σ).bind fun vk6 => (fX1_need r4 a1 σ).bind fun vk7 => if vk6 = vk7 then (gR σ a0 7).bind fun r9 => (fX6_recall r9 a1 a3 σ).bind fun vk10 => (fX1_pageSays r4 a3 σ).bind fun vk11 => if vk10 = vk11 then fX9_learnt_b70 a0 a1 (a2 + 1) a3 σ else fX9_learnt_b70 a0 a1 a2 a3 σ else fX9_learnt_b70 a0 a1 a2 a3 σ
set_option maxRecDepth 20000 in
set_option maxHeartbeats 2000000 in
theorem tX9_learnt_l17 {X : XS} {n : Nat} {σ : Mm} {F : Nat × Option Value × Mm} {a0 : Nat} {a1 : Int32} {a2 : Int32} {a3 : Int32} (ha0 : RT n a0 109) {res : (Int32 × Int32) ⊕ (Int32)} (h : fX9_learnt_l17 a0 a1 a2 a3 σ = some res) (hc : ∀ (b2 : Int32) (b3 : Int32), res = .inl (b2, b3) → J X mX9_learnt 3 0 0 F 17 [(0, .ref a0), (1, .int a1), (2, .int b2), (3, .int b3)] [] n σ) (hr : ∀ (v : Int32), res = .inr v → F = (n, some (.int v), σ)) : J X mX9_learnt 3 0 0 F 17 [(0, .ref a0), (1, .int a1), (2, .int a2), (3, .int a3)] [] n σ := by
  unfold fX9_learnt_l17 at h
  refine J_iload_n (z := 3) dX9_learnt_17 rfl rfl (q := 18) rfl ?_
  refine J_aload_n (z := 0) dX9_learnt_18 rfl rfl (q := 19) rfl ?_
  obtain ⟨r4, er4, h⟩ := bindS h
  refine J_getR dX9_learnt_19 lRX9_21 ha0 rfl (by decide) er4 (q := 22) rfl (fun fr4 => ?_)
  refine J_getI dX9_learnt_22 lRX9_148 fr4 rfl (q := 25) rfl ?_
  refine J_icmp_ge (tgt := 76) dX9_learnt_25 (by decide) (q := 28) rfl (fun c4 => ?_) (fun c4 => ?_)
  · rw [if_pos c4] at h
    refine J_iload_n (z := 2) dX9_learnt_76 rfl rfl (q := 77) rfl ?_
    have h := Option.some.inj h
    exact J_ireturn dX9_learnt_77 rfl rfl (hr _ h.symm)
  · rw [if_neg c4] at h
    refine J_aload_n (z := 0) dX9_learnt_28 rfl rfl (q := 29) rfl ?_
    refine J_getR dX9_learnt_29 lRX9_21 ha0 rfl (by decide) er4 (q := 32) rfl (fun _ => ?_)
    refine J_iload_n (z := 3) dX9_learnt_32 rfl rfl (q := 33) rfl ?_
    obtain ⟨vk6, hk6, h⟩ := bindS h
    refine J_cVi (as := [.int a3]) dX9_learnt_33 mRX9_179 fr4 (tX1_pageBook fr4 hk6) rfl (Nat.le_of_ble_eq_true rfl) (Nat.le_of_ble_eq_true rfl) (Nat.le_of_ble_eq_true rfl) (q := 36) rfl ?_
    intro bk6
    refine J_aload_n (z := 0) dX9_learnt_36 rfl rfl (q := 37) rfl ?_
    refine J_getR dX9_learnt_37 lRX9_21 ha0 rfl (by decide) er4 (q := 40) rfl (fun _ => ?_)
    refine J_iload_n (z := 1) dX9_learnt_40 rfl rfl (q := 41) rfl ?_
    obtain ⟨vk7, hk7, h⟩ := bindS h
    refine J_cVi (as := [.int a1]) dX9_learnt_41 mRX9_204 fr4 (tX1_need fr4 hk7) rfl (Nat.le_of_ble_eq_true rfl) (Nat.le_of_ble_eq_true rfl) (Nat.le_of_ble_eq_true rfl) (q := 44) rfl ?_
    intro bk7
    refine J_icmp_ne (tgt := 70) dX9_learnt_44 (by decide) (q := 47) rfl (fun c7 => ?_) (fun c7 => ?_)
    · rw [if_neg c7] at h
      refine J_pick [0, 1, 2, 3] rfl ?_
      exact tX9_learnt_b70 ha0 h hc hr
    · rw [if_pos c7] at h
      refine J_aload_n (z := 0) dX9_learnt_47 rfl rfl (q := 48) rfl ?_
      obtain ⟨r9, er9, h⟩ := bindS h
      refine J_getR dX9_learnt_48 lRX9_63 ha0 rfl (by decide) er9 (q := 51) rfl (fun fr9 => ?_)
      refine J_iload_n (z := 1) dX9_learnt_51 rfl rfl (q := 52) rfl ?_
      refine J_iload_n (z := 3) dX9_learnt_52 rfl rfl (q := 53) rfl ?_
      obtain ⟨vk10, hk10, h⟩ := bindS h
      refine J_cVi (as := [.int a1, .int a3]) dX9_learnt_53 mRX9_213 fr9 (tX6_recall fr9 hk10) rfl (Nat.le_of_ble_eq_true rfl) (Nat.le_of_ble_eq_true rfl) (Nat.le_of_ble_eq_true rfl) (q := 56) rfl ?_
      intro bk10
      refine J_aload_n (z := 0) dX9_learnt_56 rfl rfl (q := 57) rfl ?_
      refine J_getR dX9_learnt_57 lRX9_21 ha0 rfl (by decide) er4 (q := 60) rfl (fun _ => ?_)
      refine J_iload_n (z := 3) dX9_learnt_60 rfl rfl (q := 61) rfl ?_
      obtain ⟨vk11, hk11, h⟩ := bindS h
      refine J_cVi (as := [.int a3]) dX9_learnt_61 mRX9_386 fr4 (tX1_pageSays fr4 hk11) rfl (Nat.le_of_ble_eq_true rfl) (Nat.le_of_ble_eq_true rfl) (Nat.le_of_ble_eq_true rfl) (q := 64) rfl ?_
      intro bk11
      refine J_icmp_ne (tgt := 70) dX9_learnt_64 (by decide) (q := 67) rfl (fun c11 => ?_) (fun c11 => ?_)
      · rw [if_neg c11] at h
        refine J_pick [0, 1, 2, 3] rfl ?_
        exact tX9_learnt_b70 ha0 h hc hr
      · rw [if_pos c11] at h
        refine J_iinc (z := 2) (y := (a2 + 1)) (lv' := [(2, .int (a2 + 1)), (0, .ref a0), (1, .int a1), (3, .int a3)]) dX9_learnt_67 rfl rfl (by decide) rfl (q := 70) rfl ?_
        refine J_pick [1, 2, 0, 3] rfl ?_
        exact tX9_learnt_b70 ha0 h hc hr

def fX9_learnt_w17 (a0 : Nat) (a1 : Int32) (a2 : Int32) (a3 : Int32) (σ : Mm) : Option (Int32) :=
  wh (fun a : Int32 × Int32 => fX9_learnt_l17 a0 a1 a.1 a.2 σ) BIG (a2, a3)
set_option maxRecDepth 20000 in
set_option maxHeartbeats 2000000 in
theorem tX9_learnt_w17 {X : XS} {n : Nat} {σ : Mm} {F : Nat × Option Value × Mm} {a0 : Nat} {a1 : Int32} {a2 : Int32} {a3 : Int32} (ha0 : RT n a0 109) {res : Int32} (h : fX9_learnt_w17 a0 a1 a2 a3 σ = some res) (hr : ∀ (v : Int32), res = v → F = (n, some (.int v), σ)) : J X mX9_learnt 3 0 0 F 17 [(0, .ref a0), (1, .int a1), (2, .int a2), (3, .int a3)] [] n σ := by
  unfold fX9_learnt_w17 at h
  refine wh_rule (P := fun a : Int32 × Int32 => J X mX9_learnt 3 0 0 F 17 [(0, .ref a0), (1, .int a1), (2, .int a.1), (3, .int a.2)] [] n σ) (K := fun b => b = res) ?_ _ _ _ h rfl
  intro a
  refine ⟨fun a2 hb hP => ?_, fun b hb hK => ?_⟩
  · exact tX9_learnt_l17 ha0 hb (fun _ _ e => by cases e; exact hP) (fun _ e => by cases e)
  · subst hK
    exact tX9_learnt_l17 ha0 hb (fun _ _ e => by cases e) (fun v0 e => hr v0 (Sum.inr.inj e))

def fX9_learnt (a0 : Nat) (a1 : Int32) (σ : Mm) : Option (Int32) :=
  (gR σ a0 1).bind fun r1 => (fX1_hasReader r1 a1 σ).bind fun vk2 => if vk2 = 0 then some (-1) else (fX9_learnt_w17 a0 a1 0 0 σ).bind (fun o13 => some o13)
set_option maxRecDepth 20000 in
set_option maxHeartbeats 2000000 in
theorem tX9_learnt {X : XS} {n : Nat} {σ : Mm} {a0 : Nat} {a1 : Int32} (ha0 : RT n a0 109) {res : Int32} (h : fX9_learnt a0 a1 σ = some res) : MT X yX9_learnt mX9_learnt 3 0 0 [.ref a0, .int a1] n σ (n, some (.int res), σ) := by
  unfold fX9_learnt at h
  refine MT_of (by decide +kernel) rfl (fun h => by cases h) (Nat.le_of_ble_eq_true rfl) ?_
  show J X mX9_learnt 3 0 0 (n, some (.int res), σ) 0 [(0, .ref a0), (1, .int a1)] [] n σ
  refine J_aload_n (z := 0) dX9_learnt_0 rfl rfl (q := 1) rfl ?_
  obtain ⟨r1, er1, h⟩ := bindS h
  refine J_getR dX9_learnt_1 lRX9_21 ha0 rfl (by decide) er1 (q := 4) rfl (fun fr1 => ?_)
  refine J_iload_n (z := 1) dX9_learnt_4 rfl rfl (q := 5) rfl ?_
  obtain ⟨vk2, hk2, h⟩ := bindS h
  refine J_cVi (as := [.int a1]) dX9_learnt_5 mRX9_185 fr1 (tX1_hasReader fr1 hk2) rfl (Nat.le_of_ble_eq_true rfl) (Nat.le_of_ble_eq_true rfl) (Nat.le_of_ble_eq_true rfl) (q := 8) rfl ?_
  intro bk2
  refine J_if_ne (tgt := 13) dX9_learnt_8 (by decide) (q := 11) rfl (fun c2 => ?_) (fun c2 => ?_)
  · rw [if_neg c2] at h
    refine J_iconst (x := 0) dX9_learnt_13 (by decide) (q := 14) rfl ?_
    refine J_istore_n (lv' := [(2, .int 0), (0, .ref a0), (1, .int a1)]) dX9_learnt_14 rfl (by decide) rfl (q := 15) rfl ?_
    refine J_iconst (x := 0) dX9_learnt_15 (by decide) (q := 16) rfl ?_
    refine J_istore_n (lv' := [(3, .int 0), (2, .int 0), (0, .ref a0), (1, .int a1)]) dX9_learnt_16 rfl (by decide) rfl (q := 17) rfl ?_
    obtain ⟨o13, hlo13, h⟩ := bindS h
    refine J_pick [2, 3, 1, 0] rfl ?_
    refine tX9_learnt_w17 ha0 hlo13 ?_
    · intro vo13 qo13
      rw [qo13] at h
      try dsimp only [Sum.elim_inl, Sum.elim_inr] at h
      have h := Option.some.inj h
      subst h
      rfl
  · rw [if_pos c2] at h
    refine J_iconst (x := (-1)) dX9_learnt_11 (by decide) (q := 12) rfl ?_
    have h := Option.some.inj h
    subst h
    exact J_ireturn dX9_learnt_12 rfl rfl rfl

def fX9_quiet_b84 (a0 : Nat) (a1 : Int32) (a2 : Int32) (a3 : Int32) (a4 : Int32) (a5 : Int32) (σ : Mm) : Option ((Int32 × Int32 × Int32 × Mm) ⊕ (Int32 × Int32 × Mm)) :=
  some (Sum.inl (a3, a4, (a5 + 1), σ))
set_option maxRecDepth 20000 in
set_option maxHeartbeats 2000000 in
theorem tX9_quiet_b84 {X : XS} {n : Nat} {σ : Mm} {F : Nat × Option Value × Mm} {a0 : Nat} {a1 : Int32} {a2 : Int32} {a3 : Int32} {a4 : Int32} {a5 : Int32} (ha0 : RT n a0 109) {res : (Int32 × Int32 × Int32 × Mm) ⊕ (Int32 × Int32 × Mm)} (h : fX9_quiet_b84 a0 a1 a2 a3 a4 a5 σ = some res) (hc : ∀ (b3 : Int32) (b4 : Int32) (b5 : Int32) (s : Mm), res = .inl (b3, b4, b5, s) → J X mX9_quiet 5 0 0 F 42 [(0, .ref a0), (1, .int a1), (2, .int a2), (3, .int b3), (4, .int b4), (5, .int b5)] [] n s) (he0 : ∀ (b3 : Int32) (b4 : Int32) (s : Mm), res = .inr (b3, b4, s) → J X mX9_quiet 5 0 0 F 90 [(2, .int a2), (3, .int b3), (4, .int b4)] [] n s) : J X mX9_quiet 5 0 0 F 84 [(0, .ref a0), (1, .int a1), (2, .int a2), (3, .int a3), (4, .int a4), (5, .int a5)] [] n σ := by
  unfold fX9_quiet_b84 at h
  refine J_iinc (z := 5) (y := (a5 + 1)) (lv' := [(5, .int (a5 + 1)), (0, .ref a0), (1, .int a1), (2, .int a2), (3, .int a3), (4, .int a4)]) dX9_quiet_84 rfl rfl (by decide) rfl (q := 87) rfl ?_
  refine J_goto (tgt := 42) dX9_quiet_87 (by decide) ?_
  have h := Option.some.inj h
  refine J_pick [1, 2, 3, 4, 5, 0] rfl ?_
  exact hc _ _ _ _ h.symm

def fX9_quiet_l42 (a0 : Nat) (a1 : Int32) (a2 : Int32) (a3 : Int32) (a4 : Int32) (a5 : Int32) (σ : Mm) : Option ((Int32 × Int32 × Int32 × Mm) ⊕ (Int32 × Int32 × Mm)) :=
  (gR σ a0 1).bind fun r9 => (fX1_cells r9 σ).bind fun vk10 => if vk10 ≤ a5 then some (Sum.inr (a3, a4, σ)) else (gR σ a0 3).bind fun r12 => (gR σ a0 7).bind fun r13 => bnd2 (fX8_lossIn r12 r13 a1 a5 σ) fun vk14 sk14 => if a4 ≤ vk14 then fX9_quiet_b84 a0 a1 a2 a3 a4 a5 sk14 else fX9_quiet_b84 a0 a1 a2 a5 vk14 a5 sk14
set_option maxRecDepth 20000 in
set_option maxHeartbeats 2000000 in
theorem tX9_quiet_l42 {X : XS} {n : Nat} {σ : Mm} {F : Nat × Option Value × Mm} {a0 : Nat} {a1 : Int32} {a2 : Int32} {a3 : Int32} {a4 : Int32} {a5 : Int32} (ha0 : RT n a0 109) {res : (Int32 × Int32 × Int32 × Mm) ⊕ (Int32 × Int32 × Mm)} (h : fX9_quiet_l42 a0 a1 a2 a3 a4 a5 σ = some res) (hc : ∀ (b3 : Int32) (b4 : Int32) (b5 : Int32) (s : Mm), res = .inl (b3, b4, b5, s) → J X mX9_quiet 5 0 0 F 42 [(0, .ref a0), (1, .int a1), (2, .int a2), (3, .int b3), (4, .int b4), (5, .int b5)] [] n s) (he0 : ∀ (b3 : Int32) (b4 : Int32) (s : Mm), res = .inr (b3, b4, s) → J X mX9_quiet 5 0 0 F 90 [(2, .int a2), (3, .int b3), (4, .int b4)] [] n s) : J X mX9_quiet 5 0 0 F 42 [(0, .ref a0), (1, .int a1), (2, .int a2), (3, .int a3), (4, .int a4), (5, .int a5)] [] n σ := by
  unfold fX9_quiet_l42 at h
  refine J_iload (z := 5) dX9_quiet_42 rfl (q := 44) rfl ?_
  refine J_aload_n (z := 0) dX9_quiet_44 rfl rfl (q := 45) rfl ?_
  obtain ⟨r9, er9, h⟩ := bindS h
  refine J_getR dX9_quiet_45 lRX9_21 ha0 rfl (by decide) er9 (q := 48) rfl (fun fr9 => ?_)
  obtain ⟨vk10, hk10, h⟩ := bindS h
  refine J_cVi (as := []) dX9_quiet_48 mRX9_360 fr9 (tX1_cells fr9 hk10) rfl (Nat.le_of_ble_eq_true rfl) (Nat.le_of_ble_eq_true rfl) (Nat.le_of_ble_eq_true rfl) (q := 51) rfl ?_
  intro bk10
  refine J_icmp_ge (tgt := 90) dX9_quiet_51 (by decide) (q := 54) rfl (fun c10 => ?_) (fun c10 => ?_)
  · rw [if_pos c10] at h
    have h := Option.some.inj h
    refine J_pick [2, 3, 4] rfl ?_
    exact he0 _ _ _ h.symm
  · rw [if_neg c10] at h
    refine J_aload_n (z := 0) dX9_quiet_54 rfl rfl (q := 55) rfl ?_
    obtain ⟨r12, er12, h⟩ := bindS h
    refine J_getR dX9_quiet_55 lRX9_33 ha0 rfl (by decide) er12 (q := 58) rfl (fun fr12 => ?_)
    refine J_aload_n (z := 0) dX9_quiet_58 rfl rfl (q := 59) rfl ?_
    obtain ⟨r13, er13, h⟩ := bindS h
    refine J_getR dX9_quiet_59 lRX9_63 ha0 rfl (by decide) er13 (q := 62) rfl (fun fr13 => ?_)
    refine J_iload_n (z := 1) dX9_quiet_62 rfl rfl (q := 63) rfl ?_
    refine J_iload (z := 5) dX9_quiet_63 rfl (q := 65) rfl ?_
    obtain ⟨vk14, sk14, hk14, h⟩ := bnd2S h
    refine J_cVi (as := [.ref r13, .int a1, .int a5]) dX9_quiet_65 mRX9_328 fr12 (tX8_lossIn fr12 fr13 hk14) rfl (Nat.le_of_ble_eq_true rfl) (Nat.le_of_ble_eq_true rfl) (Nat.le_of_ble_eq_true rfl) (q := 68) rfl ?_
    intro bk14
    refine J_istore (lv' := [(6, .int vk14), (0, .ref a0), (1, .int a1), (2, .int a2), (3, .int a3), (4, .int a4), (5, .int a5)]) dX9_quiet_68 (by decide) rfl (q := 70) rfl ?_
    refine J_iload (z := 0) dX9_quiet_70 rfl (q := 72) rfl ?_
    refine J_iload (z := 5) dX9_quiet_72 rfl (q := 74) rfl ?_
    refine J_icmp_ge (tgt := 84) dX9_quiet_74 (by decide) (q := 77) rfl (fun c14 => ?_) (fun c14 => ?_)
    · rw [if_pos c14] at h
      refine J_pick [1, 2, 3, 4, 5, 6] rfl ?_
      exact tX9_quiet_b84 ha0 h hc he0
    · rw [if_neg c14] at h
      refine J_iload (z := 6) dX9_quiet_77 rfl (q := 79) rfl ?_
      refine J_istore_n (lv' := [(3, .int a5), (6, .int vk14), (0, .ref a0), (1, .int a1), (2, .int a2), (4, .int a4), (5, .int a5)]) dX9_quiet_79 rfl (by decide) rfl (q := 80) rfl ?_
      refine J_iload (z := 1) dX9_quiet_80 rfl (q := 82) rfl ?_
      refine J_istore (lv' := [(4, .int vk14), (3, .int a5), (6, .int vk14), (0, .ref a0), (1, .int a1), (2, .int a2), (5, .int a5)]) dX9_quiet_82 (by decide) rfl (q := 84) rfl ?_
      refine J_pick [3, 4, 5, 1, 0, 6] rfl ?_
      exact tX9_quiet_b84 ha0 h hc he0

def fX9_quiet_w42 (a0 : Nat) (a1 : Int32) (a2 : Int32) (a3 : Int32) (a4 : Int32) (a5 : Int32) (σ : Mm) : Option (Int32 × Int32 × Mm) :=
  wh (fun a : Int32 × Int32 × Int32 × Mm => fX9_quiet_l42 a0 a1 a2 a.1 a.2.1 a.2.2.1 a.2.2.2) BIG (a3, a4, a5, σ)
set_option maxRecDepth 20000 in
set_option maxHeartbeats 2000000 in
theorem tX9_quiet_w42 {X : XS} {n : Nat} {σ : Mm} {F : Nat × Option Value × Mm} {a0 : Nat} {a1 : Int32} {a2 : Int32} {a3 : Int32} {a4 : Int32} {a5 : Int32} (ha0 : RT n a0 109) {res : Int32 × Int32 × Mm} (h : fX9_quiet_w42 a0 a1 a2 a3 a4 a5 σ = some res) (he0 : ∀ (b3 : Int32) (b4 : Int32) (s : Mm), res = (b3, b4, s) → J X mX9_quiet 5 0 0 F 90 [(2, .int a2), (3, .int b3), (4, .int b4)] [] n s) : J X mX9_quiet 5 0 0 F 42 [(0, .ref a0), (1, .int a1), (2, .int a2), (3, .int a3), (4, .int a4), (5, .int a5)] [] n σ := by
  unfold fX9_quiet_w42 at h
  refine wh_rule (P := fun a : Int32 × Int32 × Int32 × Mm => J X mX9_quiet 5 0 0 F 42 [(0, .ref a0), (1, .int a1), (2, .int a2), (3, .int a.1), (4, .int a.2.1), (5, .int a.2.2.1)] [] n a.2.2.2) (K := fun b => b = res) ?_ _ _ _ h rfl
  intro a
  refine ⟨fun a2 hb hP => ?_, fun b hb hK => ?_⟩
  · exact tX9_quiet_l42 ha0 hb (fun _ _ _ _ e => by cases e; exact hP) (fun _ _ _ e => by cases e)
  · subst hK
    exact tX9_quiet_l42 ha0 hb (fun _ _ _ _ e => by cases e) (fun v0 v1 v2 e => he0 v0 v1 v2 (Sum.inr.inj e))

def fX9_quiet (a0 : Nat) (a1 : Int32) (a2 : Int32) (σ : Mm) : Option (Int32 × Mm) :=
  (gR σ a0 1).bind fun r1 => (fX1_hasReader r1 a1 σ).bind fun vk2 => if vk2 = 0 then some ((-1), σ) else if a2 < 0 then some ((-1), σ) else if a2 ≤ 1 then (gR σ a0 3).bind fun r6 => (gR σ a0 7).bind fun r7 => bnd2 (fX8_lossIn r6 r7 a1 0 σ) fun vk8 sk8 => (fX9_quiet_w42 a0 a1 a2 0 vk8 1 sk8).bind (fun o16 => (fun xo16_3 xo16_4 so16 => if a2 = 0 then some (xo16_3, so16) else some (xo16_4, so16)) o16.1 o16.2.1 o16.2.2) else some ((-1), σ)
set_option maxRecDepth 20000 in
set_option maxHeartbeats 2000000 in
theorem tX9_quiet {X : XS} {n : Nat} {σ : Mm} {a0 : Nat} {a1 : Int32} {a2 : Int32} (ha0 : RT n a0 109) {res : Int32 × Mm} (h : fX9_quiet a0 a1 a2 σ = some res) : MT X yX9_quiet mX9_quiet 5 0 0 [.ref a0, .int a1, .int a2] n σ (n, some (.int res.1), res.2) := by
  unfold fX9_quiet at h
  refine MT_of (by decide +kernel) rfl (fun h => by cases h) (Nat.le_of_ble_eq_true rfl) ?_
  show J X mX9_quiet 5 0 0 (n, some (.int res.1), res.2) 0 [(0, .ref a0), (1, .int a1), (2, .int a2)] [] n σ
  refine J_aload_n (z := 0) dX9_quiet_0 rfl rfl (q := 1) rfl ?_
  obtain ⟨r1, er1, h⟩ := bindS h
  refine J_getR dX9_quiet_1 lRX9_21 ha0 rfl (by decide) er1 (q := 4) rfl (fun fr1 => ?_)
  refine J_iload_n (z := 1) dX9_quiet_4 rfl rfl (q := 5) rfl ?_
  obtain ⟨vk2, hk2, h⟩ := bindS h
  refine J_cVi (as := [.int a1]) dX9_quiet_5 mRX9_185 fr1 (tX1_hasReader fr1 hk2) rfl (Nat.le_of_ble_eq_true rfl) (Nat.le_of_ble_eq_true rfl) (Nat.le_of_ble_eq_true rfl) (q := 8) rfl ?_
  intro bk2
  refine J_if_eq (tgt := 20) dX9_quiet_8 (by decide) (q := 11) rfl (fun c2 => ?_) (fun c2 => ?_)
  · rw [if_pos c2] at h
    refine J_iconst (x := (-1)) dX9_quiet_20 (by decide) (q := 21) rfl ?_
    have h := Option.some.inj h
    subst h
    exact J_ireturn dX9_quiet_21 rfl rfl rfl
  · rw [if_neg c2] at h
    refine J_iload_n (z := 2) dX9_quiet_11 rfl rfl (q := 12) rfl ?_
    refine J_if_lt (tgt := 20) dX9_quiet_12 (by decide) (q := 15) rfl (fun c3 => ?_) (fun c3 => ?_)
    · rw [if_pos c3] at h
      refine J_iconst (x := (-1)) dX9_quiet_20 (by decide) (q := 21) rfl ?_
      have h := Option.some.inj h
      subst h
      exact J_ireturn dX9_quiet_21 rfl rfl rfl
    · rw [if_neg c3] at h
      refine J_iload_n (z := 2) dX9_quiet_15 rfl rfl (q := 16) rfl ?_
      refine J_iconst (x := 1) dX9_quiet_16 (by decide) (q := 17) rfl ?_
      refine J_icmp_le (tgt := 22) dX9_quiet_17 (by decide) (q := 20) rfl (fun c4 => ?_) (fun c4 => ?_)
      · rw [if_pos c4] at h
        refine J_iconst (x := 0) dX9_quiet_22 (by decide) (q := 23) rfl ?_
        refine J_istore_n (lv' := [(3, .int 0), (0, .ref a0), (1, .int a1), (2, .int a2)]) dX9_quiet_23 rfl (by decide) rfl (q := 24) rfl ?_
        refine J_aload_n (z := 1) dX9_quiet_24 rfl rfl (q := 25) rfl ?_
        obtain ⟨r6, er6, h⟩ := bindS h
        refine J_getR dX9_quiet_25 lRX9_33 ha0 rfl (by decide) er6 (q := 28) rfl (fun fr6 => ?_)
        refine J_aload_n (z := 1) dX9_quiet_28 rfl rfl (q := 29) rfl ?_
        obtain ⟨r7, er7, h⟩ := bindS h
        refine J_getR dX9_quiet_29 lRX9_63 ha0 rfl (by decide) er7 (q := 32) rfl (fun fr7 => ?_)
        refine J_iload_n (z := 2) dX9_quiet_32 rfl rfl (q := 33) rfl ?_
        refine J_iconst (x := 0) dX9_quiet_33 (by decide) (q := 34) rfl ?_
        obtain ⟨vk8, sk8, hk8, h⟩ := bnd2S h
        refine J_cVi (as := [.ref r7, .int a1, .int 0]) dX9_quiet_34 mRX9_328 fr6 (tX8_lossIn fr6 fr7 hk8) rfl (Nat.le_of_ble_eq_true rfl) (Nat.le_of_ble_eq_true rfl) (Nat.le_of_ble_eq_true rfl) (q := 37) rfl ?_
        intro bk8
        refine J_istore (lv' := [(4, .int vk8), (3, .int 0), (0, .ref a0), (1, .int a1), (2, .int a2)]) dX9_quiet_37 (by decide) rfl (q := 39) rfl ?_
        refine J_iconst (x := 1) dX9_quiet_39 (by decide) (q := 40) rfl ?_
        refine J_istore (lv' := [(5, .int 1), (4, .int vk8), (3, .int 0), (0, .ref a0), (1, .int a1), (2, .int a2)]) dX9_quiet_40 (by decide) rfl (q := 42) rfl ?_
        obtain ⟨o16, hlo16, h⟩ := bindS h
        refine J_pick [3, 4, 5, 2, 1, 0] rfl ?_
        refine tX9_quiet_w42 ha0 hlo16 ?_
        · intro xo16_3 xo16_4 so16 qo16
          rw [qo16] at h
          try dsimp only [Sum.elim_inl, Sum.elim_inr] at h
          refine J_iload_n (z := 0) dX9_quiet_90 rfl rfl (q := 91) rfl ?_
          refine J_if_ne (tgt := 98) dX9_quiet_91 (by decide) (q := 94) rfl (fun c16 => ?_) (fun c16 => ?_)
          · rw [if_neg c16] at h
            refine J_iload (z := 2) dX9_quiet_98 rfl (q := 100) rfl ?_
            have h := Option.some.inj h
            subst h
            exact J_ireturn dX9_quiet_100 rfl rfl rfl
          · rw [if_pos c16] at h
            refine J_iload_n (z := 1) dX9_quiet_94 rfl rfl (q := 95) rfl ?_
            refine J_goto (tgt := 100) dX9_quiet_95 (by decide) ?_
            have h := Option.some.inj h
            subst h
            exact J_ireturn dX9_quiet_100 rfl rfl rfl
      · rw [if_neg c4] at h
        refine J_iconst (x := (-1)) dX9_quiet_20 (by decide) (q := 21) rfl ?_
        have h := Option.some.inj h
        subst h
        exact J_ireturn dX9_quiet_21 rfl rfl rfl

def fX9_far_b78 (a0 : Nat) (a1 : Int32) (a2 : Int32) (a3 : Int32) (σ : Mm) : Option ((Int32 × Int32) ⊕ (Int32)) :=
  some (Sum.inl (a1, (a3 + 1)))
set_option maxRecDepth 20000 in
set_option maxHeartbeats 2000000 in
theorem tX9_far_b78 {X : XS} {n : Nat} {σ : Mm} {F : Nat × Option Value × Mm} {a0 : Nat} {a1 : Int32} {a2 : Int32} {a3 : Int32} (ha0 : RT n a0 109) {res : (Int32 × Int32) ⊕ (Int32)} (h : fX9_far_b78 a0 a1 a2 a3 σ = some res) (hc : ∀ (b1 : Int32) (b3 : Int32), res = .inl (b1, b3) → J X mX9_far 3 0 0 F 29 [(0, .ref a0), (1, .int b1), (2, .int a2), (3, .int b3)] [] n σ) (he0 : ∀ (b1 : Int32), res = .inr b1 → J X mX9_far 3 0 0 F 84 [(0, .ref a0), (1, .int b1), (2, .int a2)] [] n σ) : J X mX9_far 3 0 0 F 78 [(0, .ref a0), (1, .int a1), (2, .int a2), (3, .int a3)] [] n σ := by
  unfold fX9_far_b78 at h
  refine J_iinc (z := 3) (y := (a3 + 1)) (lv' := [(3, .int (a3 + 1)), (0, .ref a0), (1, .int a1), (2, .int a2)]) dX9_far_78 rfl rfl (by decide) rfl (q := 81) rfl ?_
  refine J_goto (tgt := 29) dX9_far_81 (by decide) ?_
  have h := Option.some.inj h
  refine J_pick [1, 2, 3, 0] rfl ?_
  exact hc _ _ h.symm

def fX9_far_l29 (a0 : Nat) (a2 : Int32) (a1 : Int32) (a3 : Int32) (σ : Mm) : Option ((Int32 × Int32) ⊕ (Int32)) :=
  if a2 ≤ a3 then some (Sum.inr a1) else (fX9_isThere a0 a2 σ).bind fun vk7 => if vk7 = 0 then fX9_far_b78 a0 a1 a2 a3 σ else (fX9_isThere a0 a3 σ).bind fun vk9 => if vk9 = 0 then fX9_far_b78 a0 a1 a2 a3 σ else (gR σ a0 1).bind fun r11 => (fX1_pageCell r11 a2 σ).bind fun vk12 => (fX1_pageCell r11 a3 σ).bind fun vk13 => (fX1_steps r11 vk12 vk13 σ).bind fun vk14 => fX9_far_b78 a0 (maxI a1 vk14) a2 a3 σ
set_option maxRecDepth 20000 in
set_option maxHeartbeats 2000000 in
theorem tX9_far_l29 {X : XS} {n : Nat} {σ : Mm} {F : Nat × Option Value × Mm} {a0 : Nat} {a2 : Int32} {a1 : Int32} {a3 : Int32} (ha0 : RT n a0 109) {res : (Int32 × Int32) ⊕ (Int32)} (h : fX9_far_l29 a0 a2 a1 a3 σ = some res) (hc : ∀ (b1 : Int32) (b3 : Int32), res = .inl (b1, b3) → J X mX9_far 3 0 0 F 29 [(0, .ref a0), (1, .int b1), (2, .int a2), (3, .int b3)] [] n σ) (he0 : ∀ (b1 : Int32), res = .inr b1 → J X mX9_far 3 0 0 F 84 [(0, .ref a0), (1, .int b1), (2, .int a2)] [] n σ) : J X mX9_far 3 0 0 F 29 [(0, .ref a0), (1, .int a1), (2, .int a2), (3, .int a3)] [] n σ := by
  unfold fX9_far_l29 at h
  refine J_iload_n (z := 3) dX9_far_29 rfl rfl (q := 30) rfl ?_
  refine J_iload_n (z := 2) dX9_far_30 rfl rfl (q := 31) rfl ?_
  refine J_icmp_ge (tgt := 84) dX9_far_31 (by decide) (q := 34) rfl (fun c5 => ?_) (fun c5 => ?_)
  · rw [if_pos c5] at h
    have h := Option.some.inj h
    refine J_pick [0, 1, 2] rfl ?_
    exact he0 _ h.symm
  · rw [if_neg c5] at h
    refine J_aload_n (z := 0) dX9_far_34 rfl rfl (q := 35) rfl ?_
    refine J_iload_n (z := 2) dX9_far_35 rfl rfl (q := 36) rfl ?_
    obtain ⟨vk7, hk7, h⟩ := bindS h
    refine J_cVi (as := [.int a2]) dX9_far_36 mRX9_227 ha0 (tX9_isThere ha0 hk7) rfl (Nat.le_of_ble_eq_true rfl) (Nat.le_of_ble_eq_true rfl) (Nat.le_of_ble_eq_true rfl) (q := 39) rfl ?_
    intro bk7
    refine J_if_eq (tgt := 78) dX9_far_39 (by decide) (q := 42) rfl (fun c7 => ?_) (fun c7 => ?_)
    · rw [if_pos c7] at h
      refine J_pick [0, 1, 2, 3] rfl ?_
      exact tX9_far_b78 ha0 h hc he0
    · rw [if_neg c7] at h
      refine J_aload_n (z := 0) dX9_far_42 rfl rfl (q := 43) rfl ?_
      refine J_iload_n (z := 3) dX9_far_43 rfl rfl (q := 44) rfl ?_
      obtain ⟨vk9, hk9, h⟩ := bindS h
      refine J_cVi (as := [.int a3]) dX9_far_44 mRX9_227 ha0 (tX9_isThere ha0 hk9) rfl (Nat.le_of_ble_eq_true rfl) (Nat.le_of_ble_eq_true rfl) (Nat.le_of_ble_eq_true rfl) (q := 47) rfl ?_
      intro bk9
      refine J_if_eq (tgt := 78) dX9_far_47 (by decide) (q := 50) rfl (fun c9 => ?_) (fun c9 => ?_)
      · rw [if_pos c9] at h
        refine J_pick [0, 1, 2, 3] rfl ?_
        exact tX9_far_b78 ha0 h hc he0
      · rw [if_neg c9] at h
        refine J_iload_n (z := 1) dX9_far_50 rfl rfl (q := 51) rfl ?_
        refine J_aload_n (z := 0) dX9_far_51 rfl rfl (q := 52) rfl ?_
        obtain ⟨r11, er11, h⟩ := bindS h
        refine J_getR dX9_far_52 lRX9_21 ha0 rfl (by decide) er11 (q := 55) rfl (fun fr11 => ?_)
        refine J_aload_n (z := 0) dX9_far_55 rfl rfl (q := 56) rfl ?_
        refine J_getR dX9_far_56 lRX9_21 ha0 rfl (by decide) er11 (q := 59) rfl (fun _ => ?_)
        refine J_iload_n (z := 2) dX9_far_59 rfl rfl (q := 60) rfl ?_
        obtain ⟨vk12, hk12, h⟩ := bindS h
        refine J_cVi (as := [.int a2]) dX9_far_60 mRX9_172 fr11 (tX1_pageCell fr11 hk12) rfl (Nat.le_of_ble_eq_true rfl) (Nat.le_of_ble_eq_true rfl) (Nat.le_of_ble_eq_true rfl) (q := 63) rfl ?_
        intro bk12
        refine J_aload_n (z := 0) dX9_far_63 rfl rfl (q := 64) rfl ?_
        refine J_getR dX9_far_64 lRX9_21 ha0 rfl (by decide) er11 (q := 67) rfl (fun _ => ?_)
        refine J_iload_n (z := 3) dX9_far_67 rfl rfl (q := 68) rfl ?_
        obtain ⟨vk13, hk13, h⟩ := bindS h
        refine J_cVi (as := [.int a3]) dX9_far_68 mRX9_172 fr11 (tX1_pageCell fr11 hk13) rfl (Nat.le_of_ble_eq_true rfl) (Nat.le_of_ble_eq_true rfl) (Nat.le_of_ble_eq_true rfl) (q := 71) rfl ?_
        intro bk13
        obtain ⟨vk14, hk14, h⟩ := bindS h
        refine J_cVi (as := [.int vk12, .int vk13]) dX9_far_71 mRX9_258 fr11 (tX1_steps fr11 hk14) rfl (Nat.le_of_ble_eq_true rfl) (Nat.le_of_ble_eq_true rfl) (Nat.le_of_ble_eq_true rfl) (q := 74) rfl ?_
        intro bk14
        refine J_mmax dX9_far_74 pRX9_389 q_static_mmax q_init_math q_code_mmax (Nat.le_of_ble_eq_true rfl) (Nat.le_of_ble_eq_true rfl) (q := 77) rfl ?_
        refine J_istore_n (lv' := [(1, .int (maxI a1 vk14)), (0, .ref a0), (2, .int a2), (3, .int a3)]) dX9_far_77 rfl (by decide) rfl (q := 78) rfl ?_
        refine J_pick [1, 0, 2, 3] rfl ?_
        exact tX9_far_b78 ha0 h hc he0

def fX9_far_w29 (a0 : Nat) (a2 : Int32) (a1 : Int32) (a3 : Int32) (σ : Mm) : Option (Int32) :=
  wh (fun a : Int32 × Int32 => fX9_far_l29 a0 a2 a.1 a.2 σ) BIG (a1, a3)
set_option maxRecDepth 20000 in
set_option maxHeartbeats 2000000 in
theorem tX9_far_w29 {X : XS} {n : Nat} {σ : Mm} {F : Nat × Option Value × Mm} {a0 : Nat} {a2 : Int32} {a1 : Int32} {a3 : Int32} (ha0 : RT n a0 109) {res : Int32} (h : fX9_far_w29 a0 a2 a1 a3 σ = some res) (he0 : ∀ (b1 : Int32), res = b1 → J X mX9_far 3 0 0 F 84 [(0, .ref a0), (1, .int b1), (2, .int a2)] [] n σ) : J X mX9_far 3 0 0 F 29 [(0, .ref a0), (1, .int a1), (2, .int a2), (3, .int a3)] [] n σ := by
  unfold fX9_far_w29 at h
  refine wh_rule (P := fun a : Int32 × Int32 => J X mX9_far 3 0 0 F 29 [(0, .ref a0), (1, .int a.1), (2, .int a2), (3, .int a.2)] [] n σ) (K := fun b => b = res) ?_ _ _ _ h rfl
  intro a
  refine ⟨fun a2 hb hP => ?_, fun b hb hK => ?_⟩
  · exact tX9_far_l29 ha0 hb (fun _ _ e => by cases e; exact hP) (fun _ e => by cases e)
  · subst hK
    exact tX9_far_l29 ha0 hb (fun _ _ e => by cases e) (fun v0 e => he0 v0 (Sum.inr.inj e))

def fX9_far_l16 (a0 : Nat) (a1 : Int32) (a2 : Int32) (σ : Mm) : Option ((Int32 × Int32) ⊕ (Int32)) :=
  (gR σ a0 1).bind fun r4 => if (gI σ r4 4) ≤ a2 then some (Sum.inr a1) else (fX9_far_w29 a0 a2 a1 0 σ).bind (fun o15 => (fun xo15_1 => some (Sum.inl (xo15_1, (a2 + 1)))) o15)
set_option maxRecDepth 20000 in
set_option maxHeartbeats 2000000 in
theorem tX9_far_l16 {X : XS} {n : Nat} {σ : Mm} {F : Nat × Option Value × Mm} {a0 : Nat} {a1 : Int32} {a2 : Int32} (ha0 : RT n a0 109) {res : (Int32 × Int32) ⊕ (Int32)} (h : fX9_far_l16 a0 a1 a2 σ = some res) (hc : ∀ (b1 : Int32) (b2 : Int32), res = .inl (b1, b2) → J X mX9_far 3 0 0 F 16 [(0, .ref a0), (1, .int b1), (2, .int b2)] [] n σ) (hr : ∀ (v : Int32), res = .inr v → F = (n, some (.int v), σ)) : J X mX9_far 3 0 0 F 16 [(0, .ref a0), (1, .int a1), (2, .int a2)] [] n σ := by
  unfold fX9_far_l16 at h
  refine J_iload_n (z := 2) dX9_far_16 rfl rfl (q := 17) rfl ?_
  refine J_aload_n (z := 0) dX9_far_17 rfl rfl (q := 18) rfl ?_
  obtain ⟨r4, er4, h⟩ := bindS h
  refine J_getR dX9_far_18 lRX9_21 ha0 rfl (by decide) er4 (q := 21) rfl (fun fr4 => ?_)
  refine J_getI dX9_far_21 lRX9_148 fr4 rfl (q := 24) rfl ?_
  refine J_icmp_ge (tgt := 90) dX9_far_24 (by decide) (q := 27) rfl (fun c4 => ?_) (fun c4 => ?_)
  · rw [if_pos c4] at h
    refine J_iload_n (z := 1) dX9_far_90 rfl rfl (q := 91) rfl ?_
    have h := Option.some.inj h
    exact J_ireturn dX9_far_91 rfl rfl (hr _ h.symm)
  · rw [if_neg c4] at h
    refine J_iconst (x := 0) dX9_far_27 (by decide) (q := 28) rfl ?_
    refine J_istore_n (lv' := [(3, .int 0), (0, .ref a0), (1, .int a1), (2, .int a2)]) dX9_far_28 rfl (by decide) rfl (q := 29) rfl ?_
    obtain ⟨o15, hlo15, h⟩ := bindS h
    refine J_pick [1, 2, 3, 0] rfl ?_
    refine tX9_far_w29 ha0 hlo15 ?_
    · intro xo15_1 qo15
      rw [qo15] at h
      try dsimp only [Sum.elim_inl, Sum.elim_inr] at h
      refine J_iinc (z := 2) (y := (a2 + 1)) (lv' := [(2, .int (a2 + 1)), (0, .ref a0), (1, .int xo15_1)]) dX9_far_84 rfl rfl (by decide) rfl (q := 87) rfl ?_
      refine J_goto (tgt := 16) dX9_far_87 (by decide) ?_
      have h := Option.some.inj h
      refine J_pick [1, 2, 0] rfl ?_
      exact hc _ _ h.symm

def fX9_far_w16 (a0 : Nat) (a1 : Int32) (a2 : Int32) (σ : Mm) : Option (Int32) :=
  wh (fun a : Int32 × Int32 => fX9_far_l16 a0 a.1 a.2 σ) BIG (a1, a2)
set_option maxRecDepth 20000 in
set_option maxHeartbeats 2000000 in
theorem tX9_far_w16 {X : XS} {n : Nat} {σ : Mm} {F : Nat × Option Value × Mm} {a0 : Nat} {a1 : Int32} {a2 : Int32} (ha0 : RT n a0 109) {res : Int32} (h : fX9_far_w16 a0 a1 a2 σ = some res) (hr : ∀ (v : Int32), res = v → F = (n, some (.int v), σ)) : J X mX9_far 3 0 0 F 16 [(0, .ref a0), (1, .int a1), (2, .int a2)] [] n σ := by
  unfold fX9_far_w16 at h
  refine wh_rule (P := fun a : Int32 × Int32 => J X mX9_far 3 0 0 F 16 [(0, .ref a0), (1, .int a.1), (2, .int a.2)] [] n σ) (K := fun b => b = res) ?_ _ _ _ h rfl
  intro a
  refine ⟨fun a2 hb hP => ?_, fun b hb hK => ?_⟩
  · exact tX9_far_l16 ha0 hb (fun _ _ e => by cases e; exact hP) (fun _ e => by cases e)
  · subst hK
    exact tX9_far_l16 ha0 hb (fun _ _ e => by cases e) (fun v0 e => hr v0 (Sum.inr.inj e))

def fX9_far (a0 : Nat) (σ : Mm) : Option (Int32) :=
  (gR σ a0 1).bind fun r1 => (fX1_isOpen r1 σ).bind fun vk2 => if vk2 = 0 then some (-1) else (fX9_far_w16 a0 0 0 σ).bind (fun o16 => some o16)
set_option maxRecDepth 20000 in
set_option maxHeartbeats 2000000 in
theorem tX9_far {X : XS} {n : Nat} {σ : Mm} {a0 : Nat} (ha0 : RT n a0 109) {res : Int32} (h : fX9_far a0 σ = some res) : MT X yX9_far mX9_far 3 0 0 [.ref a0] n σ (n, some (.int res), σ) := by
  unfold fX9_far at h
  refine MT_of (by decide +kernel) rfl (fun h => by cases h) (Nat.le_of_ble_eq_true rfl) ?_
  show J X mX9_far 3 0 0 (n, some (.int res), σ) 0 [(0, .ref a0)] [] n σ
  refine J_aload_n (z := 0) dX9_far_0 rfl rfl (q := 1) rfl ?_
  obtain ⟨r1, er1, h⟩ := bindS h
  refine J_getR dX9_far_1 lRX9_21 ha0 rfl (by decide) er1 (q := 4) rfl (fun fr1 => ?_)
  obtain ⟨vk2, hk2, h⟩ := bindS h
  refine J_cVi (as := []) dX9_far_4 mRX9_151 fr1 (tX1_isOpen fr1 hk2) rfl (Nat.le_of_ble_eq_true rfl) (Nat.le_of_ble_eq_true rfl) (Nat.le_of_ble_eq_true rfl) (q := 7) rfl ?_
  intro bk2
  refine J_if_ne (tgt := 12) dX9_far_7 (by decide) (q := 10) rfl (fun c2 => ?_) (fun c2 => ?_)
  · rw [if_neg c2] at h
    refine J_iconst (x := 0) dX9_far_12 (by decide) (q := 13) rfl ?_
    refine J_istore_n (lv' := [(1, .int 0), (0, .ref a0)]) dX9_far_13 rfl (by decide) rfl (q := 14) rfl ?_
    refine J_iconst (x := 0) dX9_far_14 (by decide) (q := 15) rfl ?_
    refine J_istore_n (lv' := [(2, .int 0), (1, .int 0), (0, .ref a0)]) dX9_far_15 rfl (by decide) rfl (q := 16) rfl ?_
    obtain ⟨o16, hlo16, h⟩ := bindS h
    refine J_pick [2, 1, 0] rfl ?_
    refine tX9_far_w16 ha0 hlo16 ?_
    · intro vo16 qo16
      rw [qo16] at h
      try dsimp only [Sum.elim_inl, Sum.elim_inr] at h
      have h := Option.some.inj h
      subst h
      rfl
  · rw [if_pos c2] at h
    refine J_iconst (x := (-1)) dX9_far_10 (by decide) (q := 11) rfl ?_
    have h := Option.some.inj h
    subst h
    exact J_ireturn dX9_far_11 rfl rfl rfl

def fX9_image (a0 : Nat) (σ : Mm) : Option (Int32 × Mm) :=
  (gR σ a0 1).bind fun r1 => (fX1_isOpen r1 σ).bind fun vk2 => if vk2 = 0 then some ((-1), σ) else (gR σ a0 11).bind fun r4 => (gR σ a0 7).bind fun r5 => (fX6_takeFrom r4 r5 σ).bind fun sk6 => (gR sk6 a0 12).bind fun r7 => (gR sk6 a0 10).bind fun r8 => (fX2_takeFrom r7 r8 sk6).bind fun sk9 => (gR sk9 a0 7).bind fun r10 => some ((gI (sI sk9 a0 13 1) r10 6), (sI sk9 a0 13 1))
set_option maxRecDepth 20000 in
set_option maxHeartbeats 2000000 in
theorem tX9_image {X : XS} {n : Nat} {σ : Mm} {a0 : Nat} (ha0 : RT n a0 109) {res : Int32 × Mm} (h : fX9_image a0 σ = some res) : MT X yX9_image mX9_image 2 0 0 [.ref a0] n σ (n, some (.int res.1), res.2) := by
  unfold fX9_image at h
  refine MT_of (by decide +kernel) rfl (fun h => by cases h) (Nat.le_of_ble_eq_true rfl) ?_
  show J X mX9_image 2 0 0 (n, some (.int res.1), res.2) 0 [(0, .ref a0)] [] n σ
  refine J_aload_n (z := 0) dX9_image_0 rfl rfl (q := 1) rfl ?_
  obtain ⟨r1, er1, h⟩ := bindS h
  refine J_getR dX9_image_1 lRX9_21 ha0 rfl (by decide) er1 (q := 4) rfl (fun fr1 => ?_)
  obtain ⟨vk2, hk2, h⟩ := bindS h
  refine J_cVi (as := []) dX9_image_4 mRX9_151 fr1 (tX1_isOpen fr1 hk2) rfl (Nat.le_of_ble_eq_true rfl) (Nat.le_of_ble_eq_true rfl) (Nat.le_of_ble_eq_true rfl) (q := 7) rfl ?_
  intro bk2
  refine J_if_ne (tgt := 12) dX9_image_7 (by decide) (q := 10) rfl (fun c2 => ?_) (fun c2 => ?_)
  · rw [if_neg c2] at h
    refine J_aload_n (z := 0) dX9_image_12 rfl rfl (q := 13) rfl ?_
    obtain ⟨r4, er4, h⟩ := bindS h
    refine J_getR dX9_image_13 lRX9_84 ha0 rfl (by decide) er4 (q := 16) rfl (fun fr4 => ?_)
    refine J_aload_n (z := 0) dX9_image_16 rfl rfl (q := 17) rfl ?_
    obtain ⟨r5, er5, h⟩ := bindS h
    refine J_getR dX9_image_17 lRX9_63 ha0 rfl (by decide) er5 (q := 20) rfl (fun fr5 => ?_)
    obtain ⟨sk6, hk6, h⟩ := bindS h
    refine J_cVv (as := [.ref r5]) dX9_image_20 mRX9_308 fr4 (tX6_takeFrom fr4 fr5 hk6) rfl (Nat.le_of_ble_eq_true rfl) (Nat.le_of_ble_eq_true rfl) (Nat.le_of_ble_eq_true rfl) (q := 23) rfl ?_
    refine J_aload_n (z := 0) dX9_image_23 rfl rfl (q := 24) rfl ?_
    obtain ⟨r7, er7, h⟩ := bindS h
    refine J_getR dX9_image_24 lRX9_87 ha0 rfl (by decide) er7 (q := 27) rfl (fun fr7 => ?_)
    refine J_aload_n (z := 0) dX9_image_27 rfl rfl (q := 28) rfl ?_
    obtain ⟨r8, er8, h⟩ := bindS h
    refine J_getR dX9_image_28 lRX9_80 ha0 rfl (by decide) er8 (q := 31) rfl (fun fr8 => ?_)
    obtain ⟨sk9, hk9, h⟩ := bindS h
    refine J_cVv (as := [.ref r8]) dX9_image_31 mRX9_394 fr7 (tX2_takeFrom fr7 fr8 hk9) rfl (Nat.le_of_ble_eq_true rfl) (Nat.le_of_ble_eq_true rfl) (Nat.le_of_ble_eq_true rfl) (q := 34) rfl ?_
    refine J_aload_n (z := 0) dX9_image_34 rfl rfl (q := 35) rfl ?_
    refine J_iconst (x := 1) dX9_image_35 (by decide) (q := 36) rfl ?_
    refine J_putZ dX9_image_36 lRX9_144 (fun h => by cases h) ha0 rfl (by decide) (by decide) (q := 39) rfl ?_
    refine J_aload_n (z := 0) dX9_image_39 rfl rfl (q := 40) rfl ?_
    obtain ⟨r10, er10, h⟩ := bindS h
    refine J_getR dX9_image_40 lRX9_63 ha0 rfl (by decide) er10 (q := 43) rfl (fun fr10 => ?_)
    refine J_getI dX9_image_43 lRX9_266 fr10 rfl (q := 46) rfl ?_
    have h := Option.some.inj h
    subst h
    exact J_ireturn dX9_image_46 rfl rfl rfl
  · rw [if_pos c2] at h
    refine J_iconst (x := (-1)) dX9_image_10 (by decide) (q := 11) rfl ?_
    have h := Option.some.inj h
    subst h
    exact J_ireturn dX9_image_11 rfl rfl rfl

def fX9_back (a0 : Nat) (σ : Mm) : Option (Int32 × Mm) :=
  if (gI σ a0 13) = 0 then some ((-1), σ) else (gR σ a0 7).bind fun r2 => (gR σ a0 11).bind fun r3 => (fX6_takeFrom r2 r3 σ).bind fun sk4 => (gR sk4 a0 10).bind fun r5 => (gR sk4 a0 12).bind fun r6 => (fX2_takeFrom r5 r6 sk4).bind fun sk7 => (gR sk7 a0 9).bind fun r8 => (fX4_clear r8 sk7).bind fun sk9 => (gR sk9 a0 7).bind fun r10 => some ((gI sk9 r10 6), sk9)
set_option maxRecDepth 20000 in
set_option maxHeartbeats 2000000 in
theorem tX9_back {X : XS} {n : Nat} {σ : Mm} {a0 : Nat} (ha0 : RT n a0 109) {res : Int32 × Mm} (h : fX9_back a0 σ = some res) : MT X yX9_back mX9_back 2 0 0 [.ref a0] n σ (n, some (.int res.1), res.2) := by
  unfold fX9_back at h
  refine MT_of (by decide +kernel) rfl (fun h => by cases h) (Nat.le_of_ble_eq_true rfl) ?_
  show J X mX9_back 2 0 0 (n, some (.int res.1), res.2) 0 [(0, .ref a0)] [] n σ
  refine J_aload_n (z := 0) dX9_back_0 rfl rfl (q := 1) rfl ?_
  refine J_getI dX9_back_1 lRX9_144 ha0 rfl (q := 4) rfl ?_
  refine J_if_ne (tgt := 9) dX9_back_4 (by decide) (q := 7) rfl (fun c0 => ?_) (fun c0 => ?_)
  · rw [if_neg c0] at h
    refine J_aload_n (z := 0) dX9_back_9 rfl rfl (q := 10) rfl ?_
    obtain ⟨r2, er2, h⟩ := bindS h
    refine J_getR dX9_back_10 lRX9_63 ha0 rfl (by decide) er2 (q := 13) rfl (fun fr2 => ?_)
    refine J_aload_n (z := 0) dX9_back_13 rfl rfl (q := 14) rfl ?_
    obtain ⟨r3, er3, h⟩ := bindS h
    refine J_getR dX9_back_14 lRX9_84 ha0 rfl (by decide) er3 (q := 17) rfl (fun fr3 => ?_)
    obtain ⟨sk4, hk4, h⟩ := bindS h
    refine J_cVv (as := [.ref r3]) dX9_back_17 mRX9_308 fr2 (tX6_takeFrom fr2 fr3 hk4) rfl (Nat.le_of_ble_eq_true rfl) (Nat.le_of_ble_eq_true rfl) (Nat.le_of_ble_eq_true rfl) (q := 20) rfl ?_
    refine J_aload_n (z := 0) dX9_back_20 rfl rfl (q := 21) rfl ?_
    obtain ⟨r5, er5, h⟩ := bindS h
    refine J_getR dX9_back_21 lRX9_80 ha0 rfl (by decide) er5 (q := 24) rfl (fun fr5 => ?_)
    refine J_aload_n (z := 0) dX9_back_24 rfl rfl (q := 25) rfl ?_
    obtain ⟨r6, er6, h⟩ := bindS h
    refine J_getR dX9_back_25 lRX9_87 ha0 rfl (by decide) er6 (q := 28) rfl (fun fr6 => ?_)
    obtain ⟨sk7, hk7, h⟩ := bindS h
    refine J_cVv (as := [.ref r6]) dX9_back_28 mRX9_394 fr5 (tX2_takeFrom fr5 fr6 hk7) rfl (Nat.le_of_ble_eq_true rfl) (Nat.le_of_ble_eq_true rfl) (Nat.le_of_ble_eq_true rfl) (q := 31) rfl ?_
    refine J_aload_n (z := 0) dX9_back_31 rfl rfl (q := 32) rfl ?_
    obtain ⟨r8, er8, h⟩ := bindS h
    refine J_getR dX9_back_32 lRX9_73 ha0 rfl (by decide) er8 (q := 35) rfl (fun fr8 => ?_)
    obtain ⟨sk9, hk9, h⟩ := bindS h
    refine J_cVv (as := []) dX9_back_35 mRX9_140 fr8 (tX4_clear fr8 hk9) rfl (Nat.le_of_ble_eq_true rfl) (Nat.le_of_ble_eq_true rfl) (Nat.le_of_ble_eq_true rfl) (q := 38) rfl ?_
    refine J_aload_n (z := 0) dX9_back_38 rfl rfl (q := 39) rfl ?_
    obtain ⟨r10, er10, h⟩ := bindS h
    refine J_getR dX9_back_39 lRX9_63 ha0 rfl (by decide) er10 (q := 42) rfl (fun fr10 => ?_)
    refine J_getI dX9_back_42 lRX9_266 fr10 rfl (q := 45) rfl ?_
    have h := Option.some.inj h
    subst h
    exact J_ireturn dX9_back_45 rfl rfl rfl
  · rw [if_pos c0] at h
    refine J_iconst (x := (-1)) dX9_back_7 (by decide) (q := 8) rfl ?_
    have h := Option.some.inj h
    subst h
    exact J_ireturn dX9_back_8 rfl rfl rfl

def fX9_count (a0 : Nat) (a1 : Int32) (σ : Mm) : Option (Int32) :=
  if a1 = 0 then (gR σ a0 1).bind fun r1 => some (gI σ r1 4) else if a1 = 1 then (gR σ a0 1).bind fun r2 => some (gI σ r2 5) else if a1 = 2 then some (gI σ a0 14) else if a1 = 3 then some (gI σ a0 15) else if a1 = 4 then (gR σ a0 0).bind fun r3 => some (gI σ r3 1) else if a1 = 5 then some (gI σ a0 16) else if a1 = 6 then (gR σ a0 7).bind fun r4 => some (gI σ r4 6) else if a1 = 7 then (gR σ a0 1).bind fun r5 => (fX1_cells r5 σ).bind fun vk6 => some vk6 else if a1 = 8 then some (gI σ a0 17) else if a1 = 9 then (gR σ a0 1).bind fun r7 => (gR σ a0 3).bind fun r8 => (gR σ a0 7).bind fun r9 => (fX8_pagesThere r8 r9 σ).bind fun vk10 => (fJ6_bitCount_0f7a4 vk10 σ).bind fun vk11 => some ((gI σ r7 4) - vk11) else if a1 = 10 then (gR σ a0 3).bind fun r12 => (gR σ a0 7).bind fun r13 => (fX8_depthInAll r12 r13 σ).bind fun vk14 => some vk14 else if a1 = 11 then (gR σ a0 10).bind fun r15 => (fX2_told r15 σ).bind fun vk16 => some vk16 else if a1 = 12 then (gR σ a0 9).bind fun r17 => some (gI σ r17 1) else some (-1000000)
set_option maxRecDepth 20000 in
set_option maxHeartbeats 2000000 in
theorem tX9_count {X : XS} {n : Nat} {σ : Mm} {a0 : Nat} {a1 : Int32} (ha0 : RT n a0 109) {res : Int32} (h : fX9_count a0 a1 σ = some res) : MT X yX9_count mX9_count 2 0 0 [.ref a0, .int a1] n σ (n, some (.int res), σ) := by
  unfold fX9_count at h
  refine MT_of (by decide +kernel) rfl (fun h => by cases h) (Nat.le_of_ble_eq_true rfl) ?_
  show J X mX9_count 2 0 0 (n, some (.int res), σ) 0 [(0, .ref a0), (1, .int a1)] [] n σ
  refine J_iload_n (z := 1) dX9_count_0 rfl rfl (q := 1) rfl ?_
  refine J_table dX9_count_1 [(0, 68), (1, 76), (2, 84), (3, 89), (4, 94), (5, 102), (6, 107), (7, 115), (8, 123), (9, 128), (10, 151), (11, 163), (12, 171)] 179 (by decide) (by decide) (by decide) ?_ ?_
  · refine List.forall_mem_cons.mpr ⟨fun hx => ?_, List.forall_mem_cons.mpr ⟨fun hx => ?_, List.forall_mem_cons.mpr ⟨fun hx => ?_, List.forall_mem_cons.mpr ⟨fun hx => ?_, List.forall_mem_cons.mpr ⟨fun hx => ?_, List.forall_mem_cons.mpr ⟨fun hx => ?_, List.forall_mem_cons.mpr ⟨fun hx => ?_, List.forall_mem_cons.mpr ⟨fun hx => ?_, List.forall_mem_cons.mpr ⟨fun hx => ?_, List.forall_mem_cons.mpr ⟨fun hx => ?_, List.forall_mem_cons.mpr ⟨fun hx => ?_, List.forall_mem_cons.mpr ⟨fun hx => ?_, List.forall_mem_cons.mpr ⟨fun hx => ?_, fun _ hh => absurd hh List.not_mem_nil⟩⟩⟩⟩⟩⟩⟩⟩⟩⟩⟩⟩⟩
    · replace hx : a1 = 0 := hx
      rw [if_pos hx] at h
      refine J_aload_n (z := 0) dX9_count_68 rfl rfl (q := 69) rfl ?_
      obtain ⟨r1, er1, h⟩ := bindS h
      refine J_getR dX9_count_69 lRX9_21 ha0 rfl (by decide) er1 (q := 72) rfl (fun fr1 => ?_)
      refine J_getI dX9_count_72 lRX9_148 fr1 rfl (q := 75) rfl ?_
      have h := Option.some.inj h
      subst h
      exact J_ireturn dX9_count_75 rfl rfl rfl
    · replace hx : a1 = 1 := hx
      rw [if_neg (by rw [hx]; decide), if_pos hx] at h
      refine J_aload_n (z := 0) dX9_count_76 rfl rfl (q := 77) rfl ?_
      obtain ⟨r2, er2, h⟩ := bindS h
      refine J_getR dX9_count_77 lRX9_21 ha0 rfl (by decide) er2 (q := 80) rfl (fun fr2 => ?_)
      refine J_getI dX9_count_80 lRX9_276 fr2 rfl (q := 83) rfl ?_
      have h := Option.some.inj h
      subst h
      exact J_ireturn dX9_count_83 rfl rfl rfl
    · replace hx : a1 = 2 := hx
      rw [if_neg (by rw [hx]; decide), if_neg (by rw [hx]; decide), if_pos hx] at h
      refine J_aload_n (z := 0) dX9_count_84 rfl rfl (q := 85) rfl ?_
      refine J_getI dX9_count_85 lRX9_116 ha0 rfl (q := 88) rfl ?_
      have h := Option.some.inj h
      subst h
      exact J_ireturn dX9_count_88 rfl rfl rfl
    · replace hx : a1 = 3 := hx
      rw [if_neg (by rw [hx]; decide), if_neg (by rw [hx]; decide), if_neg (by rw [hx]; decide), if_pos hx] at h
      refine J_aload_n (z := 0) dX9_count_89 rfl rfl (q := 90) rfl ?_
      refine J_getI dX9_count_90 lRX9_122 ha0 rfl (q := 93) rfl ?_
      have h := Option.some.inj h
      subst h
      exact J_ireturn dX9_count_93 rfl rfl rfl
    · replace hx : a1 = 4 := hx
      rw [if_neg (by rw [hx]; decide), if_neg (by rw [hx]; decide), if_neg (by rw [hx]; decide), if_neg (by rw [hx]; decide), if_pos hx] at h
      refine J_aload_n (z := 0) dX9_count_94 rfl rfl (q := 95) rfl ?_
      obtain ⟨r3, er3, h⟩ := bindS h
      refine J_getR dX9_count_95 lRX9_10 ha0 rfl (by decide) er3 (q := 98) rfl (fun fr3 => ?_)
      refine J_getI dX9_count_98 lRX9_98 fr3 rfl (q := 101) rfl ?_
      have h := Option.some.inj h
      subst h
      exact J_ireturn dX9_count_101 rfl rfl rfl
    · replace hx : a1 = 5 := hx
      rw [if_neg (by rw [hx]; decide), if_neg (by rw [hx]; decide), if_neg (by rw [hx]; decide), if_neg (by rw [hx]; decide), if_neg (by rw [hx]; decide), if_pos hx] at h
      refine J_aload_n (z := 0) dX9_count_102 rfl rfl (q := 103) rfl ?_
      refine J_getI dX9_count_103 lRX9_90 ha0 rfl (q := 106) rfl ?_
      have h := Option.some.inj h
      subst h
      exact J_ireturn dX9_count_106 rfl rfl rfl
    · replace hx : a1 = 6 := hx
      rw [if_neg (by rw [hx]; decide), if_neg (by rw [hx]; decide), if_neg (by rw [hx]; decide), if_neg (by rw [hx]; decide), if_neg (by rw [hx]; decide), if_neg (by rw [hx]; decide), if_pos hx] at h
      refine J_aload_n (z := 0) dX9_count_107 rfl rfl (q := 108) rfl ?_
      obtain ⟨r4, er4, h⟩ := bindS h
      refine J_getR dX9_count_108 lRX9_63 ha0 rfl (by decide) er4 (q := 111) rfl (fun fr4 => ?_)
      refine J_getI dX9_count_111 lRX9_266 fr4 rfl (q := 114) rfl ?_
      have h := Option.some.inj h
      subst h
      exact J_ireturn dX9_count_114 rfl rfl rfl
    · replace hx : a1 = 7 := hx
      rw [if_neg (by rw [hx]; decide), if_neg (by rw [hx]; decide), if_neg (by rw [hx]; decide), if_neg (by rw [hx]; decide), if_neg (by rw [hx]; decide), if_neg (by rw [hx]; decide), if_neg (by rw [hx]; decide), if_pos hx] at h
      refine J_aload_n (z := 0) dX9_count_115 rfl rfl (q := 116) rfl ?_
      obtain ⟨r5, er5, h⟩ := bindS h
      refine J_getR dX9_count_116 lRX9_21 ha0 rfl (by decide) er5 (q := 119) rfl (fun fr5 => ?_)
      obtain ⟨vk6, hk6, h⟩ := bindS h
      refine J_cVi (as := []) dX9_count_119 mRX9_360 fr5 (tX1_cells fr5 hk6) rfl (Nat.le_of_ble_eq_true rfl) (Nat.le_of_ble_eq_true rfl) (Nat.le_of_ble_eq_true rfl) (q := 122) rfl ?_
      intro bk6
      have h := Option.some.inj h
      subst h
      exact J_ireturn dX9_count_122 rfl rfl rfl
    · replace hx : a1 = 8 := hx
      rw [if_neg (by rw [hx]; decide), if_neg (by rw [hx]; decide), if_neg (by rw [hx]; decide), if_neg (by rw [hx]; decide), if_neg (by rw [hx]; decide), if_neg (by rw [hx]; decide), if_neg (by rw [hx]; decide), if_neg (by rw [hx]; decide), if_pos hx] at h
      refine J_aload_n (z := 0) dX9_count_123 rfl rfl (q := 124) rfl ?_
      refine J_getI dX9_count_124 lRX9_221 ha0 rfl (q := 127) rfl ?_
      have h := Option.some.inj h
      subst h
      exact J_ireturn dX9_count_127 rfl rfl rfl
    · replace hx : a1 = 9 := hx
      rw [if_neg (by rw [hx]; decide), if_neg (by rw [hx]; decide), if_neg (by rw [hx]; decide), if_neg (by rw [hx]; decide), if_neg (by rw [hx]; decide), if_neg (by rw [hx]; decide), if_neg (by rw [hx]; decide), if_neg (by rw [hx]; decide), if_neg (by rw [hx]; decide), if_pos hx] at h
      refine J_aload_n (z := 0) dX9_count_128 rfl rfl (q := 129) rfl ?_
      obtain ⟨r7, er7, h⟩ := bindS h
      refine J_getR dX9_count_129 lRX9_21 ha0 rfl (by decide) er7 (q := 132) rfl (fun fr7 => ?_)
      refine J_getI dX9_count_132 lRX9_148 fr7 rfl (q := 135) rfl ?_
      refine J_aload_n (z := 0) dX9_count_135 rfl rfl (q := 136) rfl ?_
      obtain ⟨r8, er8, h⟩ := bindS h
      refine J_getR dX9_count_136 lRX9_33 ha0 rfl (by decide) er8 (q := 139) rfl (fun fr8 => ?_)
      refine J_aload_n (z := 0) dX9_count_139 rfl rfl (q := 140) rfl ?_
      obtain ⟨r9, er9, h⟩ := bindS h
      refine J_getR dX9_count_140 lRX9_63 ha0 rfl (by decide) er9 (q := 143) rfl (fun fr9 => ?_)
      obtain ⟨vk10, hk10, h⟩ := bindS h
      refine J_cVi (as := [.ref r9]) dX9_count_143 mRX9_324 fr8 (tX8_pagesThere fr8 fr9 hk10) rfl (Nat.le_of_ble_eq_true rfl) (Nat.le_of_ble_eq_true rfl) (Nat.le_of_ble_eq_true rfl) (q := 146) rfl ?_
      intro bk10
      obtain ⟨vk11, hk11, h⟩ := bindS h
      refine J_cSi (as := [.int vk10]) dX9_count_146 mRX9_261 (tJ6_bitCount_0f7a4  hk11) rfl (Nat.le_of_ble_eq_true rfl) (Nat.le_of_ble_eq_true rfl) (Nat.le_of_ble_eq_true rfl) (q := 149) rfl ?_
      intro bk11
      refine J_isub dX9_count_149  (q := 150) rfl ?_
      have h := Option.some.inj h
      subst h
      exact J_ireturn dX9_count_150 rfl rfl rfl
    · replace hx : a1 = 10 := hx
      rw [if_neg (by rw [hx]; decide), if_neg (by rw [hx]; decide), if_neg (by rw [hx]; decide), if_neg (by rw [hx]; decide), if_neg (by rw [hx]; decide), if_neg (by rw [hx]; decide), if_neg (by rw [hx]; decide), if_neg (by rw [hx]; decide), if_neg (by rw [hx]; decide), if_neg (by rw [hx]; decide), if_pos hx] at h
      refine J_aload_n (z := 0) dX9_count_151 rfl rfl (q := 152) rfl ?_
      obtain ⟨r12, er12, h⟩ := bindS h
      refine J_getR dX9_count_152 lRX9_33 ha0 rfl (by decide) er12 (q := 155) rfl (fun fr12 => ?_)
      refine J_aload_n (z := 0) dX9_count_155 rfl rfl (q := 156) rfl ?_
      obtain ⟨r13, er13, h⟩ := bindS h
      refine J_getR dX9_count_156 lRX9_63 ha0 rfl (by decide) er13 (q := 159) rfl (fun fr13 => ?_)
      obtain ⟨vk14, hk14, h⟩ := bindS h
      refine J_cVi (as := [.ref r13]) dX9_count_159 mRX9_397 fr12 (tX8_depthInAll fr12 fr13 hk14) rfl (Nat.le_of_ble_eq_true rfl) (Nat.le_of_ble_eq_true rfl) (Nat.le_of_ble_eq_true rfl) (q := 162) rfl ?_
      intro bk14
      have h := Option.some.inj h
      subst h
      exact J_ireturn dX9_count_162 rfl rfl rfl
    · replace hx : a1 = 11 := hx
      rw [if_neg (by rw [hx]; decide), if_neg (by rw [hx]; decide), if_neg (by rw [hx]; decide), if_neg (by rw [hx]; decide), if_neg (by rw [hx]; decide), if_neg (by rw [hx]; decide), if_neg (by rw [hx]; decide), if_neg (by rw [hx]; decide), if_neg (by rw [hx]; decide), if_neg (by rw [hx]; decide), if_neg (by rw [hx]; decide), if_pos hx] at h
      refine J_aload_n (z := 0) dX9_count_163 rfl rfl (q := 164) rfl ?_
      obtain ⟨r15, er15, h⟩ := bindS h
      refine J_getR dX9_count_164 lRX9_80 ha0 rfl (by decide) er15 (q := 167) rfl (fun fr15 => ?_)
      obtain ⟨vk16, hk16, h⟩ := bindS h
      refine J_cVi (as := []) dX9_count_167 mRX9_400 fr15 (tX2_told fr15 hk16) rfl (Nat.le_of_ble_eq_true rfl) (Nat.le_of_ble_eq_true rfl) (Nat.le_of_ble_eq_true rfl) (q := 170) rfl ?_
      intro bk16
      have h := Option.some.inj h
      subst h
      exact J_ireturn dX9_count_170 rfl rfl rfl
    · replace hx : a1 = 12 := hx
      rw [if_neg (by rw [hx]; decide), if_neg (by rw [hx]; decide), if_neg (by rw [hx]; decide), if_neg (by rw [hx]; decide), if_neg (by rw [hx]; decide), if_neg (by rw [hx]; decide), if_neg (by rw [hx]; decide), if_neg (by rw [hx]; decide), if_neg (by rw [hx]; decide), if_neg (by rw [hx]; decide), if_neg (by rw [hx]; decide), if_neg (by rw [hx]; decide), if_pos hx] at h
      refine J_aload_n (z := 0) dX9_count_171 rfl rfl (q := 172) rfl ?_
      obtain ⟨r17, er17, h⟩ := bindS h
      refine J_getR dX9_count_172 lRX9_73 ha0 rfl (by decide) er17 (q := 175) rfl (fun fr17 => ?_)
      refine J_getI dX9_count_175 lRX9_300 fr17 rfl (q := 178) rfl ?_
      have h := Option.some.inj h
      subst h
      exact J_ireturn dX9_count_178 rfl rfl rfl
  · intro hx
    rw [if_neg (hx (0, 68) (by decide)), if_neg (hx (1, 76) (by decide)), if_neg (hx (2, 84) (by decide)), if_neg (hx (3, 89) (by decide)), if_neg (hx (4, 94) (by decide)), if_neg (hx (5, 102) (by decide)), if_neg (hx (6, 107) (by decide)), if_neg (hx (7, 115) (by decide)), if_neg (hx (8, 123) (by decide)), if_neg (hx (9, 128) (by decide)), if_neg (hx (10, 151) (by decide)), if_neg (hx (11, 163) (by decide)), if_neg (hx (12, 171) (by decide))] at h
    refine J_ldcw (x := (-1000000)) dX9_count_179 kRX9_307 (q := 182) rfl ?_
    have h := Option.some.inj h
    subst h
    exact J_ireturn dX9_count_182 rfl rfl rfl

def fX10_thrown (a0 : Nat) (σ : Mm) : Option (Int32) :=
  some (gI σ a0 0)
set_option maxRecDepth 20000 in
set_option maxHeartbeats 2000000 in
theorem tX10_thrown {X : XS} {n : Nat} {σ : Mm} {a0 : Nat} (ha0 : RT n a0 110) {res : Int32} (h : fX10_thrown a0 σ = some res) : MT X yX10_thrown mX10_thrown 1 0 0 [.ref a0] n σ (n, some (.int res), σ) := by
  unfold fX10_thrown at h
  refine MT_of (by decide +kernel) rfl (fun h => by cases h) (Nat.le_of_ble_eq_true rfl) ?_
  show J X mX10_thrown 1 0 0 (n, some (.int res), σ) 0 [(0, .ref a0)] [] n σ
  refine J_aload_n (z := 0) dX10_thrown_0 rfl rfl (q := 1) rfl ?_
  refine J_getI dX10_thrown_1 lRX10_96 ha0 rfl (q := 4) rfl ?_
  have h := Option.some.inj h
  subst h
  exact J_ireturn dX10_thrown_4 rfl rfl rfl

def fX10_isIn (a0 : Int64) (a2 : Int64) (a4 : Int64) (σ : Mm) : Option (Int32) :=
  if (lg_cmp a0 a2) < 0 then some 0 else if 0 < (lg_cmp a0 a4) then some 0 else some 1
set_option maxRecDepth 20000 in
set_option maxHeartbeats 2000000 in
theorem tX10_isIn {X : XS} {n : Nat} {σ : Mm} {a0 : Int64} {a2 : Int64} {a4 : Int64} {res : Int32} (h : fX10_isIn a0 a2 a4 σ = some res) : MT X yX10_isIn mX10_isIn 1 0 0 [.long a0, .long a2, .long a4] n σ (n, some (.int res), σ) := by
  unfold fX10_isIn at h
  refine MT_of (by decide +kernel) rfl (fun h => by cases h) (Nat.le_of_ble_eq_true rfl) ?_
  show J X mX10_isIn 1 0 0 (n, some (.int res), σ) 0 [(0, .long a0), (2, .long a2), (4, .long a4)] [] n σ
  refine J_lload_n (z := 0) dX10_isIn_0 rfl rfl (q := 1) rfl ?_
  refine J_lload_n (z := 1) dX10_isIn_1 rfl rfl (q := 2) rfl ?_
  refine J_lcmp dX10_isIn_2  (q := 3) rfl ?_
  refine J_if_lt (tgt := 17) dX10_isIn_3 (by decide) (q := 6) rfl (fun c0 => ?_) (fun c0 => ?_)
  · rw [if_pos c0] at h
    refine J_iconst (x := 0) dX10_isIn_17 (by decide) (q := 18) rfl ?_
    have h := Option.some.inj h
    subst h
    exact J_ireturn dX10_isIn_18 rfl rfl rfl
  · rw [if_neg c0] at h
    refine J_lload_n (z := 0) dX10_isIn_6 rfl rfl (q := 7) rfl ?_
    refine J_lload (z := 2) dX10_isIn_7 rfl (q := 9) rfl ?_
    refine J_lcmp dX10_isIn_9  (q := 10) rfl ?_
    refine J_if_gt (tgt := 17) dX10_isIn_10 (by decide) (q := 13) rfl (fun c1 => ?_) (fun c1 => ?_)
    · rw [if_pos c1] at h
      refine J_iconst (x := 0) dX10_isIn_17 (by decide) (q := 18) rfl ?_
      have h := Option.some.inj h
      subst h
      exact J_ireturn dX10_isIn_18 rfl rfl rfl
    · rw [if_neg c1] at h
      refine J_iconst (x := 1) dX10_isIn_13 (by decide) (q := 14) rfl ?_
      refine J_goto (tgt := 18) dX10_isIn_14 (by decide) ?_
      have h := Option.some.inj h
      subst h
      exact J_ireturn dX10_isIn_18 rfl rfl rfl

def fX10_has (a0 : Int32) (a1 : Int32) (σ : Mm) : Option (Int32) :=
  if ((shrI a0 a1) &&& 1) = 1 then some 1 else some 0
set_option maxRecDepth 20000 in
set_option maxHeartbeats 2000000 in
theorem tX10_has {X : XS} {n : Nat} {σ : Mm} {a0 : Int32} {a1 : Int32} {res : Int32} (h : fX10_has a0 a1 σ = some res) : MT X yX10_has mX10_has 1 0 0 [.int a0, .int a1] n σ (n, some (.int res), σ) := by
  unfold fX10_has at h
  refine MT_of (by decide +kernel) rfl (fun h => by cases h) (Nat.le_of_ble_eq_true rfl) ?_
  show J X mX10_has 1 0 0 (n, some (.int res), σ) 0 [(0, .int a0), (1, .int a1)] [] n σ
  refine J_iload_n (z := 0) dX10_has_0 rfl rfl (q := 1) rfl ?_
  refine J_iload_n (z := 1) dX10_has_1 rfl rfl (q := 2) rfl ?_
  refine J_ishr dX10_has_2  (q := 3) rfl ?_
  refine J_iconst (x := 1) dX10_has_3 (by decide) (q := 4) rfl ?_
  refine J_iand dX10_has_4  (q := 5) rfl ?_
  refine J_iconst (x := 1) dX10_has_5 (by decide) (q := 6) rfl ?_
  refine J_icmp_ne (tgt := 13) dX10_has_6 (by decide) (q := 9) rfl (fun c0 => ?_) (fun c0 => ?_)
  · rw [if_neg c0] at h
    refine J_iconst (x := 0) dX10_has_13 (by decide) (q := 14) rfl ?_
    have h := Option.some.inj h
    subst h
    exact J_ireturn dX10_has_14 rfl rfl rfl
  · rw [if_pos c0] at h
    refine J_iconst (x := 1) dX10_has_9 (by decide) (q := 10) rfl ?_
    refine J_goto (tgt := 14) dX10_has_10 (by decide) ?_
    have h := Option.some.inj h
    subst h
    exact J_ireturn dX10_has_14 rfl rfl rfl

def fX10_isAmong_l2 (a0 : Nat) (a1 : Int32) (a2 : Int32) (σ : Mm) : Option (Int32 ⊕ (Int32)) :=
  if (slen a0) ≤ a2 then some (Sum.inr 0) else if ixB a2 (slenN a0) = true then if (sat a0 (Int32.toNatClampNeg a2)) = a1 then some (Sum.inr 1) else some (Sum.inl (a2 + 1)) else none
set_option maxRecDepth 20000 in
set_option maxHeartbeats 2000000 in
theorem tX10_isAmong_l2 {X : XS} {n : Nat} {σ : Mm} {F : Nat × Option Value × Mm} {a0 : Nat} {a1 : Int32} {a2 : Int32} (ha0 : RT n a0 207) {res : Int32 ⊕ (Int32)} (h : fX10_isAmong_l2 a0 a1 a2 σ = some res) (hc : ∀ (b2 : Int32), res = .inl b2 → J X mX10_isAmong 7 0 0 F 2 [(0, .ref a0), (1, .int a1), (2, .int b2)] [] n σ) (hr : ∀ (v : Int32), res = .inr v → F = (n, some (.int v), σ)) : J X mX10_isAmong 7 0 0 F 2 [(0, .ref a0), (1, .int a1), (2, .int a2)] [] n σ := by
  unfold fX10_isAmong_l2 at h
  refine J_iload_n (z := 2) dX10_isAmong_2 rfl rfl (q := 3) rfl ?_
  refine J_aload_n (z := 0) dX10_isAmong_3 rfl rfl (q := 4) rfl ?_
  refine J_strlen dX10_isAmong_4 mRX10_99 ha0 (Nat.le_of_ble_eq_true rfl) (Nat.le_of_ble_eq_true rfl) (q := 7) rfl ?_
  refine J_icmp_ge (tgt := 27) dX10_isAmong_7 (by decide) (q := 10) rfl (fun c0 => ?_) (fun c0 => ?_)
  · rw [if_pos c0] at h
    refine J_iconst (x := 0) dX10_isAmong_27 (by decide) (q := 28) rfl ?_
    have h := Option.some.inj h
    exact J_ireturn dX10_isAmong_28 rfl rfl (hr _ h.symm)
  · rw [if_neg c0] at h
    refine J_aload_n (z := 0) dX10_isAmong_10 rfl rfl (q := 11) rfl ?_
    refine J_iload_n (z := 2) dX10_isAmong_11 rfl rfl (q := 12) rfl ?_
    obtain ⟨g2, h⟩ := iteS h
    refine J_strat dX10_isAmong_12 mRX10_105 ha0 g2 (Nat.le_of_ble_eq_true rfl) (Nat.le_of_ble_eq_true rfl) (q := 15) rfl ?_
    refine J_iload_n (z := 1) dX10_isAmong_15 rfl rfl (q := 16) rfl ?_
    refine J_icmp_ne (tgt := 21) dX10_isAmong_16 (by decide) (q := 19) rfl (fun c2 => ?_) (fun c2 => ?_)
    · rw [if_neg c2] at h
      refine J_iinc (z := 2) (y := (a2 + 1)) (lv' := [(2, .int (a2 + 1)), (0, .ref a0), (1, .int a1)]) dX10_isAmong_21 rfl rfl (by decide) rfl (q := 24) rfl ?_
      refine J_goto (tgt := 2) dX10_isAmong_24 (by decide) ?_
      have h := Option.some.inj h
      refine J_pick [1, 2, 0] rfl ?_
      exact hc _ h.symm
    · rw [if_pos c2] at h
      refine J_iconst (x := 1) dX10_isAmong_19 (by decide) (q := 20) rfl ?_
      have h := Option.some.inj h
      exact J_ireturn dX10_isAmong_20 rfl rfl (hr _ h.symm)

def fX10_isAmong_w2 (a0 : Nat) (a1 : Int32) (a2 : Int32) (σ : Mm) : Option (Int32) :=
  wh (fun a : Int32 => fX10_isAmong_l2 a0 a1 a σ) BIG a2
set_option maxRecDepth 20000 in
set_option maxHeartbeats 2000000 in
theorem tX10_isAmong_w2 {X : XS} {n : Nat} {σ : Mm} {F : Nat × Option Value × Mm} {a0 : Nat} {a1 : Int32} {a2 : Int32} (ha0 : RT n a0 207) {res : Int32} (h : fX10_isAmong_w2 a0 a1 a2 σ = some res) (hr : ∀ (v : Int32), res = v → F = (n, some (.int v), σ)) : J X mX10_isAmong 7 0 0 F 2 [(0, .ref a0), (1, .int a1), (2, .int a2)] [] n σ := by
  unfold fX10_isAmong_w2 at h
  refine wh_rule (P := fun a : Int32 => J X mX10_isAmong 7 0 0 F 2 [(0, .ref a0), (1, .int a1), (2, .int a)] [] n σ) (K := fun b => b = res) ?_ _ _ _ h rfl
  intro a
  refine ⟨fun a2 hb hP => ?_, fun b hb hK => ?_⟩
  · exact tX10_isAmong_l2 ha0 hb (fun _ e => by cases e; exact hP) (fun _ e => by cases e)
  · subst hK
    exact tX10_isAmong_l2 ha0 hb (fun _ e => by cases e) (fun v0 e => hr v0 (Sum.inr.inj e))

def fX10_isAmong (a0 : Nat) (a1 : Int32) (σ : Mm) : Option (Int32) :=
  (fX10_isAmong_w2 a0 a1 0 σ).bind (fun o4 => some o4)
set_option maxRecDepth 20000 in
set_option maxHeartbeats 2000000 in
theorem tX10_isAmong {X : XS} {n : Nat} {σ : Mm} {a0 : Nat} {a1 : Int32} (ha0 : RT n a0 207) {res : Int32} (h : fX10_isAmong a0 a1 σ = some res) : MT X yX10_isAmong mX10_isAmong 7 0 0 [.ref a0, .int a1] n σ (n, some (.int res), σ) := by
  unfold fX10_isAmong at h
  refine MT_of (by decide +kernel) rfl (fun h => by cases h) (Nat.le_of_ble_eq_true rfl) ?_
  show J X mX10_isAmong 7 0 0 (n, some (.int res), σ) 0 [(0, .ref a0), (1, .int a1)] [] n σ
  refine J_iconst (x := 0) dX10_isAmong_0 (by decide) (q := 1) rfl ?_
  refine J_istore_n (lv' := [(2, .int 0), (0, .ref a0), (1, .int a1)]) dX10_isAmong_1 rfl (by decide) rfl (q := 2) rfl ?_
  obtain ⟨o4, hlo4, h⟩ := bindS h
  refine J_pick [1, 2, 0] rfl ?_
  refine tX10_isAmong_w2 ha0 hlo4 ?_
  · intro vo4 qo4
    rw [qo4] at h
    try dsimp only [Sum.elim_inl, Sum.elim_inr] at h
    have h := Option.some.inj h
    subst h
    rfl

def fX10_bytesIn_b25 (a0 : Int32) (a2 : Int32) (z0 : Int32) (z1 : Int32) (σ : Mm) : Option ((Int32 × Int32) ⊕ (Int32)) :=
  some (Sum.inl ((z0 + z1), (a2 + (-8))))
set_option maxRecDepth 20000 in
set_option maxHeartbeats 2000000 in
theorem tX10_bytesIn_b25 {X : XS} {n : Nat} {σ : Mm} {F : Nat × Option Value × Mm} {a0 : Int32} {a2 : Int32} {z0 : Int32} {z1 : Int32} {res : (Int32 × Int32) ⊕ (Int32)} (h : fX10_bytesIn_b25 a0 a2 z0 z1 σ = some res) (hc : ∀ (b1 : Int32) (b2 : Int32), res = .inl (b1, b2) → J X mX10_bytesIn 1 0 0 F 5 [(0, .int a0), (1, .int b1), (2, .int b2)] [] n σ) (hr : ∀ (v : Int32), res = .inr v → F = (n, some (.int v), σ)) : J X mX10_bytesIn 1 0 0 F 25 [(0, .int a0), (2, .int a2)] [.int z1, .int z0] n σ := by
  unfold fX10_bytesIn_b25 at h
  refine J_iadd dX10_bytesIn_25  (q := 26) rfl ?_
  refine J_istore_n (lv' := [(1, .int (z0 + z1)), (0, .int a0), (2, .int a2)]) dX10_bytesIn_26 rfl (by decide) rfl (q := 27) rfl ?_
  refine J_iinc (z := 2) (y := (a2 + (-8))) (lv' := [(2, .int (a2 + (-8))), (1, .int (z0 + z1)), (0, .int a0)]) dX10_bytesIn_27 rfl rfl (by decide) rfl (q := 30) rfl ?_
  refine J_goto (tgt := 5) dX10_bytesIn_30 (by decide) ?_
  have h := Option.some.inj h
  refine J_pick [2, 1, 0] rfl ?_
  exact hc _ _ h.symm

def fX10_bytesIn_l5 (a0 : Int32) (a1 : Int32) (a2 : Int32) (σ : Mm) : Option ((Int32 × Int32) ⊕ (Int32)) :=
  if a2 < 0 then some (Sum.inr a1) else if ((shrI a0 a2) &&& 255) = 0 then fX10_bytesIn_b25 a0 a2 a1 0 σ else fX10_bytesIn_b25 a0 a2 a1 1 σ
set_option maxRecDepth 20000 in
set_option maxHeartbeats 2000000 in
theorem tX10_bytesIn_l5 {X : XS} {n : Nat} {σ : Mm} {F : Nat × Option Value × Mm} {a0 : Int32} {a1 : Int32} {a2 : Int32} {res : (Int32 × Int32) ⊕ (Int32)} (h : fX10_bytesIn_l5 a0 a1 a2 σ = some res) (hc : ∀ (b1 : Int32) (b2 : Int32), res = .inl (b1, b2) → J X mX10_bytesIn 1 0 0 F 5 [(0, .int a0), (1, .int b1), (2, .int b2)] [] n σ) (hr : ∀ (v : Int32), res = .inr v → F = (n, some (.int v), σ)) : J X mX10_bytesIn 1 0 0 F 5 [(0, .int a0), (1, .int a1), (2, .int a2)] [] n σ := by
  unfold fX10_bytesIn_l5 at h
  refine J_iload_n (z := 2) dX10_bytesIn_5 rfl rfl (q := 6) rfl ?_
  refine J_if_lt (tgt := 33) dX10_bytesIn_6 (by decide) (q := 9) rfl (fun c0 => ?_) (fun c0 => ?_)
  · rw [if_pos c0] at h
    refine J_iload_n (z := 1) dX10_bytesIn_33 rfl rfl (q := 34) rfl ?_
    have h := Option.some.inj h
    exact J_ireturn dX10_bytesIn_34 rfl rfl (hr _ h.symm)
  · rw [if_neg c0] at h
    refine J_iload_n (z := 1) dX10_bytesIn_9 rfl rfl (q := 10) rfl ?_
    refine J_iload_n (z := 0) dX10_bytesIn_10 rfl rfl (q := 11) rfl ?_
    refine J_iload_n (z := 2) dX10_bytesIn_11 rfl rfl (q := 12) rfl ?_
    refine J_ishr dX10_bytesIn_12  (q := 13) rfl ?_
    refine J_sipush (x := 255) dX10_bytesIn_13 (by decide) (q := 16) rfl ?_
    refine J_iand dX10_bytesIn_16  (q := 17) rfl ?_
    refine J_if_eq (tgt := 24) dX10_bytesIn_17 (by decide) (q := 20) rfl (fun c1 => ?_) (fun c1 => ?_)
    · rw [if_pos c1] at h
      refine J_iconst (x := 0) dX10_bytesIn_24 (by decide) (q := 25) rfl ?_
      refine J_pick [0, 2] rfl ?_
      exact tX10_bytesIn_b25  h hc hr
    · rw [if_neg c1] at h
      refine J_iconst (x := 1) dX10_bytesIn_20 (by decide) (q := 21) rfl ?_
      refine J_goto (tgt := 25) dX10_bytesIn_21 (by decide) ?_
      refine J_pick [0, 2] rfl ?_
      exact tX10_bytesIn_b25  h hc hr

def fX10_bytesIn_w5 (a0 : Int32) (a1 : Int32) (a2 : Int32) (σ : Mm) : Option (Int32) :=
  wh (fun a : Int32 × Int32 => fX10_bytesIn_l5 a0 a.1 a.2 σ) BIG (a1, a2)
set_option maxRecDepth 20000 in
set_option maxHeartbeats 2000000 in
theorem tX10_bytesIn_w5 {X : XS} {n : Nat} {σ : Mm} {F : Nat × Option Value × Mm} {a0 : Int32} {a1 : Int32} {a2 : Int32} {res : Int32} (h : fX10_bytesIn_w5 a0 a1 a2 σ = some res) (hr : ∀ (v : Int32), res = v → F = (n, some (.int v), σ)) : J X mX10_bytesIn 1 0 0 F 5 [(0, .int a0), (1, .int a1), (2, .int a2)] [] n σ := by
  unfold fX10_bytesIn_w5 at h
  refine wh_rule (P := fun a : Int32 × Int32 => J X mX10_bytesIn 1 0 0 F 5 [(0, .int a0), (1, .int a.1), (2, .int a.2)] [] n σ) (K := fun b => b = res) ?_ _ _ _ h rfl
  intro a
  refine ⟨fun a2 hb hP => ?_, fun b hb hK => ?_⟩
  · exact tX10_bytesIn_l5  hb (fun _ _ e => by cases e; exact hP) (fun _ e => by cases e)
  · subst hK
    exact tX10_bytesIn_l5  hb (fun _ _ e => by cases e) (fun v0 e => hr v0 (Sum.inr.inj e))

def fX10_bytesIn (a0 : Int32) (σ : Mm) : Option (Int32) :=
  (fX10_bytesIn_w5 a0 0 24 σ).bind (fun o3 => some o3)
set_option maxRecDepth 20000 in
set_option maxHeartbeats 2000000 in
theorem tX10_bytesIn {X : XS} {n : Nat} {σ : Mm} {a0 : Int32} {res : Int32} (h : fX10_bytesIn a0 σ = some res) : MT X yX10_bytesIn mX10_bytesIn 1 0 0 [.int a0] n σ (n, some (.int res), σ) := by
  unfold fX10_bytesIn at h
  refine MT_of (by decide +kernel) rfl (fun h => by cases h) (Nat.le_of_ble_eq_true rfl) ?_
  show J X mX10_bytesIn 1 0 0 (n, some (.int res), σ) 0 [(0, .int a0)] [] n σ
  refine J_iconst (x := 0) dX10_bytesIn_0 (by decide) (q := 1) rfl ?_
  refine J_istore_n (lv' := [(1, .int 0), (0, .int a0)]) dX10_bytesIn_1 rfl (by decide) rfl (q := 2) rfl ?_
  refine J_bipush (x := 24) dX10_bytesIn_2 (by decide) (q := 4) rfl ?_
  refine J_istore_n (lv' := [(2, .int 24), (1, .int 0), (0, .int a0)]) dX10_bytesIn_4 rfl (by decide) rfl (q := 5) rfl ?_
  obtain ⟨o3, hlo3, h⟩ := bindS h
  refine J_pick [2, 1, 0] rfl ?_
  refine tX10_bytesIn_w5  hlo3 ?_
  · intro vo3 qo3
    rw [qo3] at h
    try dsimp only [Sum.elim_inl, Sum.elim_inr] at h
    have h := Option.some.inj h
    subst h
    rfl

def fX10_put_b43 (a0 : Nat) (a1 : Int32) (a2 : Int32) (σ : Mm) : Option ((Int32 × Mm) ⊕ (Mm)) :=
  some (Sum.inl ((a2 + (-8)), σ))
set_option maxRecDepth 20000 in
set_option maxHeartbeats 2000000 in
theorem tX10_put_b43 {X : XS} {n : Nat} {σ : Mm} {F : Nat × Option Value × Mm} {a0 : Nat} {a1 : Int32} {a2 : Int32} (ha0 : RT n a0 110) {res : (Int32 × Mm) ⊕ (Mm)} (h : fX10_put_b43 a0 a1 a2 σ = some res) (hc : ∀ (b2 : Int32) (s : Mm), res = .inl (b2, s) → J X mX10_put 1 0 0 F 3 [(0, .ref a0), (1, .int a1), (2, .int b2)] [] n s) (hr : ∀ (s : Mm), res = .inr s → F = (n, none, s)) : J X mX10_put 1 0 0 F 43 [(0, .ref a0), (1, .int a1), (2, .int a2)] [] n σ := by
  unfold fX10_put_b43 at h
  refine J_iinc (z := 2) (y := (a2 + (-8))) (lv' := [(2, .int (a2 + (-8))), (0, .ref a0), (1, .int a1)]) dX10_put_43 rfl rfl (by decide) rfl (q := 46) rfl ?_
  refine J_goto (tgt := 3) dX10_put_46 (by decide) ?_
  have h := Option.some.inj h
  refine J_pick [1, 2, 0] rfl ?_
  exact hc _ _ h.symm

def fX10_put_l3 (a0 : Nat) (a1 : Int32) (a2 : Int32) (σ : Mm) : Option ((Int32 × Mm) ⊕ (Mm)) :=
  if a2 < 0 then some (Sum.inr σ) else if ((shrI a1 a2) &&& 255) = 0 then fX10_put_b43 a0 a1 a2 σ else (gR σ a0 1).bind fun r3 => if ixB (gI σ a0 6) (ln r3) = true then fX10_put_b43 a0 a1 a2 (sI (sI σ r3 (Int32.toNatClampNeg (gI σ a0 6)) (byI (byI (shrI a1 a2)))) a0 6 ((gI (sI σ r3 (Int32.toNatClampNeg (gI σ a0 6)) (byI (byI (shrI a1 a2)))) a0 6) + 1)) else none
set_option maxRecDepth 20000 in
set_option maxHeartbeats 2000000 in
theorem tX10_put_l3 {X : XS} {n : Nat} {σ : Mm} {F : Nat × Option Value × Mm} {a0 : Nat} {a1 : Int32} {a2 : Int32} (ha0 : RT n a0 110) {res : (Int32 × Mm) ⊕ (Mm)} (h : fX10_put_l3 a0 a1 a2 σ = some res) (hc : ∀ (b2 : Int32) (s : Mm), res = .inl (b2, s) → J X mX10_put 1 0 0 F 3 [(0, .ref a0), (1, .int a1), (2, .int b2)] [] n s) (hr : ∀ (s : Mm), res = .inr s → F = (n, none, s)) : J X mX10_put 1 0 0 F 3 [(0, .ref a0), (1, .int a1), (2, .int a2)] [] n σ := by
  unfold fX10_put_l3 at h
  refine J_iload_n (z := 2) dX10_put_3 rfl rfl (q := 4) rfl ?_
  refine J_if_lt (tgt := 49) dX10_put_4 (by decide) (q := 7) rfl (fun c0 => ?_) (fun c0 => ?_)
  · rw [if_pos c0] at h
    have h := Option.some.inj h
    exact J_return dX10_put_49 rfl (hr _ h.symm)
  · rw [if_neg c0] at h
    refine J_iload_n (z := 1) dX10_put_7 rfl rfl (q := 8) rfl ?_
    refine J_iload_n (z := 2) dX10_put_8 rfl rfl (q := 9) rfl ?_
    refine J_ishr dX10_put_9  (q := 10) rfl ?_
    refine J_sipush (x := 255) dX10_put_10 (by decide) (q := 13) rfl ?_
    refine J_iand dX10_put_13  (q := 14) rfl ?_
    refine J_if_ne (tgt := 20) dX10_put_14 (by decide) (q := 17) rfl (fun c1 => ?_) (fun c1 => ?_)
    · rw [if_neg c1] at h
      refine J_aload_n (z := 0) dX10_put_20 rfl rfl (q := 21) rfl ?_
      obtain ⟨r3, er3, h⟩ := bindS h
      refine J_getR dX10_put_21 lRX10_9 ha0 rfl (by decide) er3 (q := 24) rfl (fun fr3 => ?_)
      refine J_aload_n (z := 0) dX10_put_24 rfl rfl (q := 25) rfl ?_
      refine J_getI dX10_put_25 lRX10_109 ha0 rfl (q := 28) rfl ?_
      refine J_iload_n (z := 1) dX10_put_28 rfl rfl (q := 29) rfl ?_
      refine J_iload_n (z := 2) dX10_put_29 rfl rfl (q := 30) rfl ?_
      refine J_ishr dX10_put_30  (q := 31) rfl ?_
      refine J_i2b dX10_put_31  (q := 32) rfl ?_
      obtain ⟨g4, h⟩ := iteS h
      refine J_bast dX10_put_32 fr3 (ixB_ok g4) (q := 33) rfl ?_
      refine J_aload_n (z := 0) dX10_put_33 rfl rfl (q := 34) rfl ?_
      refine J_dup dX10_put_34 rfl (q := 35) rfl ?_
      refine J_getI dX10_put_35 lRX10_109 ha0 rfl (q := 38) rfl ?_
      refine J_iconst (x := 1) dX10_put_38 (by decide) (q := 39) rfl ?_
      refine J_iadd dX10_put_39  (q := 40) rfl ?_
      refine J_putI dX10_put_40 lRX10_109 (fun h => by cases h) ha0 rfl (q := 43) rfl ?_
      refine J_pick [0, 1, 2] rfl ?_
      exact tX10_put_b43 ha0 h hc hr
    · rw [if_pos c1] at h
      refine J_goto (tgt := 43) dX10_put_17 (by decide) ?_
      refine J_pick [0, 1, 2] rfl ?_
      exact tX10_put_b43 ha0 h hc hr

def fX10_put_w3 (a0 : Nat) (a1 : Int32) (a2 : Int32) (σ : Mm) : Option (Mm) :=
  wh (fun a : Int32 × Mm => fX10_put_l3 a0 a1 a.1 a.2) BIG (a2, σ)
set_option maxRecDepth 20000 in
set_option maxHeartbeats 2000000 in
theorem tX10_put_w3 {X : XS} {n : Nat} {σ : Mm} {F : Nat × Option Value × Mm} {a0 : Nat} {a1 : Int32} {a2 : Int32} (ha0 : RT n a0 110) {res : Mm} (h : fX10_put_w3 a0 a1 a2 σ = some res) (hr : ∀ (s : Mm), res = s → F = (n, none, s)) : J X mX10_put 1 0 0 F 3 [(0, .ref a0), (1, .int a1), (2, .int a2)] [] n σ := by
  unfold fX10_put_w3 at h
  refine wh_rule (P := fun a : Int32 × Mm => J X mX10_put 1 0 0 F 3 [(0, .ref a0), (1, .int a1), (2, .int a.1)] [] n a.2) (K := fun b => b = res) ?_ _ _ _ h rfl
  intro a
  refine ⟨fun a2 hb hP => ?_, fun b hb hK => ?_⟩
  · exact tX10_put_l3 ha0 hb (fun _ _ e => by cases e; exact hP) (fun _ e => by cases e)
  · subst hK
    exact tX10_put_l3 ha0 hb (fun _ _ e => by cases e) (fun v0 e => hr v0 (Sum.inr.inj e))

def fX10_put (a0 : Nat) (a1 : Int32) (σ : Mm) : Option (Mm) :=
  (fX10_put_w3 a0 a1 24 σ).bind (fun o5 => some o5)
set_option maxRecDepth 20000 in
set_option maxHeartbeats 2000000 in
theorem tX10_put {X : XS} {n : Nat} {σ : Mm} {a0 : Nat} {a1 : Int32} (ha0 : RT n a0 110) {res : Mm} (h : fX10_put a0 a1 σ = some res) : MT X yX10_put mX10_put 1 0 0 [.ref a0, .int a1] n σ (n, none, res) := by
  unfold fX10_put at h
  refine MT_of (by decide +kernel) rfl (fun h => by cases h) (Nat.le_of_ble_eq_true rfl) ?_
  show J X mX10_put 1 0 0 (n, none, res) 0 [(0, .ref a0), (1, .int a1)] [] n σ
  refine J_bipush (x := 24) dX10_put_0 (by decide) (q := 2) rfl ?_
  refine J_istore_n (lv' := [(2, .int 24), (0, .ref a0), (1, .int a1)]) dX10_put_2 rfl (by decide) rfl (q := 3) rfl ?_
  obtain ⟨o5, hlo5, h⟩ := bindS h
  refine J_pick [1, 2, 0] rfl ?_
  refine tX10_put_w3 ha0 hlo5 ?_
  · intro so5 qo5
    rw [qo5] at h
    try dsimp only [Sum.elim_inl, Sum.elim_inr] at h
    have h := Option.some.inj h
    subst h
    rfl

def fX10_feed (a0 : Nat) (a1 : Int32) (a2 : Int32) (a3 : Int32) (a4 : Int32) (a5 : Int32) (σ : Mm) : Option (Int32 × Mm) :=
  (fX10_bytesIn a1 (sI σ a0 0 0)).bind fun vk1 => (fX10_bytesIn a2 (sI σ a0 0 0)).bind fun vk2 => (fX10_bytesIn a3 (sI σ a0 0 0)).bind fun vk3 => (fX10_bytesIn a4 (sI σ a0 0 0)).bind fun vk4 => (fX10_bytesIn a5 (sI σ a0 0 0)).bind fun vk5 => if ((((((gI (sI σ a0 0 0) a0 6) + vk1) + vk2) + vk3) + vk4) + vk5) ≤ 240 then (fX10_put a0 a1 (sI σ a0 0 0)).bind fun sk7 => (fX10_put a0 a2 sk7).bind fun sk8 => (fX10_put a0 a3 sk8).bind fun sk9 => (fX10_put a0 a4 sk9).bind fun sk10 => (fX10_put a0 a5 sk10).bind fun sk11 => some ((gI sk11 a0 6), sk11) else some ((-1), (sI σ a0 0 0))
set_option maxRecDepth 20000 in
set_option maxHeartbeats 2000000 in
theorem tX10_feed {X : XS} {n : Nat} {σ : Mm} {a0 : Nat} {a1 : Int32} {a2 : Int32} {a3 : Int32} {a4 : Int32} {a5 : Int32} (ha0 : RT n a0 110) {res : Int32 × Mm} (h : fX10_feed a0 a1 a2 a3 a4 a5 σ = some res) : MT X yX10_feed mX10_feed 2 0 0 [.ref a0, .int a1, .int a2, .int a3, .int a4, .int a5] n σ (n, some (.int res.1), res.2) := by
  unfold fX10_feed at h
  refine MT_of (by decide +kernel) rfl (fun h => by cases h) (Nat.le_of_ble_eq_true rfl) ?_
  show J X mX10_feed 2 0 0 (n, some (.int res.1), res.2) 0 [(0, .ref a0), (1, .int a1), (2, .int a2), (3, .int a3), (4, .int a4), (5, .int a5)] [] n σ
  refine J_aload_n (z := 0) dX10_feed_0 rfl rfl (q := 1) rfl ?_
  refine J_iconst (x := 0) dX10_feed_1 (by decide) (q := 2) rfl ?_
  refine J_putI dX10_feed_2 lRX10_96 (fun h => by cases h) ha0 rfl (q := 5) rfl ?_
  refine J_aload_n (z := 0) dX10_feed_5 rfl rfl (q := 6) rfl ?_
  refine J_getI dX10_feed_6 lRX10_109 ha0 rfl (q := 9) rfl ?_
  refine J_iload_n (z := 1) dX10_feed_9 rfl rfl (q := 10) rfl ?_
  obtain ⟨vk1, hk1, h⟩ := bindS h
  refine J_cSi (as := [.int a1]) dX10_feed_10 mRX10_111 (tX10_bytesIn  hk1) rfl (Nat.le_of_ble_eq_true rfl) (Nat.le_of_ble_eq_true rfl) (Nat.le_of_ble_eq_true rfl) (q := 13) rfl ?_
  intro bk1
  refine J_iadd dX10_feed_13  (q := 14) rfl ?_
  refine J_iload_n (z := 2) dX10_feed_14 rfl rfl (q := 15) rfl ?_
  obtain ⟨vk2, hk2, h⟩ := bindS h
  refine J_cSi (as := [.int a2]) dX10_feed_15 mRX10_111 (tX10_bytesIn  hk2) rfl (Nat.le_of_ble_eq_true rfl) (Nat.le_of_ble_eq_true rfl) (Nat.le_of_ble_eq_true rfl) (q := 18) rfl ?_
  intro bk2
  refine J_iadd dX10_feed_18  (q := 19) rfl ?_
  refine J_iload_n (z := 3) dX10_feed_19 rfl rfl (q := 20) rfl ?_
  obtain ⟨vk3, hk3, h⟩ := bindS h
  refine J_cSi (as := [.int a3]) dX10_feed_20 mRX10_111 (tX10_bytesIn  hk3) rfl (Nat.le_of_ble_eq_true rfl) (Nat.le_of_ble_eq_true rfl) (Nat.le_of_ble_eq_true rfl) (q := 23) rfl ?_
  intro bk3
  refine J_iadd dX10_feed_23  (q := 24) rfl ?_
  refine J_iload (z := 4) dX10_feed_24 rfl (q := 26) rfl ?_
  obtain ⟨vk4, hk4, h⟩ := bindS h
  refine J_cSi (as := [.int a4]) dX10_feed_26 mRX10_111 (tX10_bytesIn  hk4) rfl (Nat.le_of_ble_eq_true rfl) (Nat.le_of_ble_eq_true rfl) (Nat.le_of_ble_eq_true rfl) (q := 29) rfl ?_
  intro bk4
  refine J_iadd dX10_feed_29  (q := 30) rfl ?_
  refine J_iload (z := 5) dX10_feed_30 rfl (q := 32) rfl ?_
  obtain ⟨vk5, hk5, h⟩ := bindS h
  refine J_cSi (as := [.int a5]) dX10_feed_32 mRX10_111 (tX10_bytesIn  hk5) rfl (Nat.le_of_ble_eq_true rfl) (Nat.le_of_ble_eq_true rfl) (Nat.le_of_ble_eq_true rfl) (q := 35) rfl ?_
  intro bk5
  refine J_iadd dX10_feed_35  (q := 36) rfl ?_
  refine J_sipush (x := 240) dX10_feed_36 (by decide) (q := 39) rfl ?_
  refine J_icmp_le (tgt := 44) dX10_feed_39 (by decide) (q := 42) rfl (fun c5 => ?_) (fun c5 => ?_)
  · rw [if_pos c5] at h
    refine J_aload_n (z := 0) dX10_feed_44 rfl rfl (q := 45) rfl ?_
    refine J_iload_n (z := 1) dX10_feed_45 rfl rfl (q := 46) rfl ?_
    obtain ⟨sk7, hk7, h⟩ := bindS h
    refine J_cVv (as := [.int a1]) dX10_feed_46 mRX10_115 ha0 (tX10_put ha0 hk7) rfl (Nat.le_of_ble_eq_true rfl) (Nat.le_of_ble_eq_true rfl) (Nat.le_of_ble_eq_true rfl) (q := 49) rfl ?_
    refine J_aload_n (z := 0) dX10_feed_49 rfl rfl (q := 50) rfl ?_
    refine J_iload_n (z := 2) dX10_feed_50 rfl rfl (q := 51) rfl ?_
    obtain ⟨sk8, hk8, h⟩ := bindS h
    refine J_cVv (as := [.int a2]) dX10_feed_51 mRX10_115 ha0 (tX10_put ha0 hk8) rfl (Nat.le_of_ble_eq_true rfl) (Nat.le_of_ble_eq_true rfl) (Nat.le_of_ble_eq_true rfl) (q := 54) rfl ?_
    refine J_aload_n (z := 0) dX10_feed_54 rfl rfl (q := 55) rfl ?_
    refine J_iload_n (z := 3) dX10_feed_55 rfl rfl (q := 56) rfl ?_
    obtain ⟨sk9, hk9, h⟩ := bindS h
    refine J_cVv (as := [.int a3]) dX10_feed_56 mRX10_115 ha0 (tX10_put ha0 hk9) rfl (Nat.le_of_ble_eq_true rfl) (Nat.le_of_ble_eq_true rfl) (Nat.le_of_ble_eq_true rfl) (q := 59) rfl ?_
    refine J_aload_n (z := 0) dX10_feed_59 rfl rfl (q := 60) rfl ?_
    refine J_iload (z := 4) dX10_feed_60 rfl (q := 62) rfl ?_
    obtain ⟨sk10, hk10, h⟩ := bindS h
    refine J_cVv (as := [.int a4]) dX10_feed_62 mRX10_115 ha0 (tX10_put ha0 hk10) rfl (Nat.le_of_ble_eq_true rfl) (Nat.le_of_ble_eq_true rfl) (Nat.le_of_ble_eq_true rfl) (q := 65) rfl ?_
    refine J_aload_n (z := 0) dX10_feed_65 rfl rfl (q := 66) rfl ?_
    refine J_iload (z := 5) dX10_feed_66 rfl (q := 68) rfl ?_
    obtain ⟨sk11, hk11, h⟩ := bindS h
    refine J_cVv (as := [.int a5]) dX10_feed_68 mRX10_115 ha0 (tX10_put ha0 hk11) rfl (Nat.le_of_ble_eq_true rfl) (Nat.le_of_ble_eq_true rfl) (Nat.le_of_ble_eq_true rfl) (q := 71) rfl ?_
    refine J_aload_n (z := 0) dX10_feed_71 rfl rfl (q := 72) rfl ?_
    refine J_getI dX10_feed_72 lRX10_109 ha0 rfl (q := 75) rfl ?_
    have h := Option.some.inj h
    subst h
    exact J_ireturn dX10_feed_75 rfl rfl rfl
  · rw [if_neg c5] at h
    refine J_iconst (x := (-1)) dX10_feed_42 (by decide) (q := 43) rfl ?_
    have h := Option.some.inj h
    subst h
    exact J_ireturn dX10_feed_43 rfl rfl rfl

def fX10_end (a0 : Nat) (a1 : Int32) (σ : Mm) : Option (Int32 × Mm) :=
  if a1 < 0 then some (0, (sI σ a0 0 0)) else if a1 ≤ (gI (sI σ a0 0 0) a0 6) then some (1, (sI (sI σ a0 0 0) a0 6 a1)) else some (0, (sI σ a0 0 0))
set_option maxRecDepth 20000 in
set_option maxHeartbeats 2000000 in
theorem tX10_end {X : XS} {n : Nat} {σ : Mm} {a0 : Nat} {a1 : Int32} (ha0 : RT n a0 110) {res : Int32 × Mm} (h : fX10_end a0 a1 σ = some res) : MT X yX10_end mX10_end 1 0 0 [.ref a0, .int a1] n σ (n, some (.int res.1), res.2) := by
  unfold fX10_end at h
  refine MT_of (by decide +kernel) rfl (fun h => by cases h) (Nat.le_of_ble_eq_true rfl) ?_
  show J X mX10_end 1 0 0 (n, some (.int res.1), res.2) 0 [(0, .ref a0), (1, .int a1)] [] n σ
  refine J_aload_n (z := 0) dX10_end_0 rfl rfl (q := 1) rfl ?_
  refine J_iconst (x := 0) dX10_end_1 (by decide) (q := 2) rfl ?_
  refine J_putI dX10_end_2 lRX10_96 (fun h => by cases h) ha0 rfl (q := 5) rfl ?_
  refine J_iload_n (z := 1) dX10_end_5 rfl rfl (q := 6) rfl ?_
  refine J_if_lt (tgt := 17) dX10_end_6 (by decide) (q := 9) rfl (fun c0 => ?_) (fun c0 => ?_)
  · rw [if_pos c0] at h
    refine J_iconst (x := 0) dX10_end_17 (by decide) (q := 18) rfl ?_
    have h := Option.some.inj h
    subst h
    exact J_ireturn dX10_end_18 rfl rfl rfl
  · rw [if_neg c0] at h
    refine J_iload_n (z := 1) dX10_end_9 rfl rfl (q := 10) rfl ?_
    refine J_aload_n (z := 0) dX10_end_10 rfl rfl (q := 11) rfl ?_
    refine J_getI dX10_end_11 lRX10_109 ha0 rfl (q := 14) rfl ?_
    refine J_icmp_le (tgt := 19) dX10_end_14 (by decide) (q := 17) rfl (fun c1 => ?_) (fun c1 => ?_)
    · rw [if_pos c1] at h
      refine J_aload_n (z := 0) dX10_end_19 rfl rfl (q := 20) rfl ?_
      refine J_iload_n (z := 1) dX10_end_20 rfl rfl (q := 21) rfl ?_
      refine J_putI dX10_end_21 lRX10_109 (fun h => by cases h) ha0 rfl (q := 24) rfl ?_
      refine J_iconst (x := 1) dX10_end_24 (by decide) (q := 25) rfl ?_
      have h := Option.some.inj h
      subst h
      exact J_ireturn dX10_end_25 rfl rfl rfl
    · rw [if_neg c1] at h
      refine J_iconst (x := 0) dX10_end_17 (by decide) (q := 18) rfl ?_
      have h := Option.some.inj h
      subst h
      exact J_ireturn dX10_end_18 rfl rfl rfl

def fX10_look_l0 (a0 : Nat) (σ : Mm) : Option (Mm ⊕ (Mm)) :=
  if (gI σ a0 9) ≤ (gI σ a0 10) then some (Sum.inr σ) else (gR σ a0 5).bind fun r2 => if ixB ((gI σ a0 8) + (gI σ a0 10)) (ln r2) = true then if (gI σ r2 (Int32.toNatClampNeg ((gI σ a0 8) + (gI σ a0 10)))) = 32 then some (Sum.inl (sI σ a0 10 ((gI σ a0 10) + 1))) else some (Sum.inr σ) else none
set_option maxRecDepth 20000 in
set_option maxHeartbeats 2000000 in
theorem tX10_look_l0 {X : XS} {n : Nat} {σ : Mm} {F : Nat × Option Value × Mm} {a0 : Nat} (ha0 : RT n a0 110) {res : Mm ⊕ (Mm)} (h : fX10_look_l0 a0 σ = some res) (hc : ∀  (s : Mm), res = .inl s → J X mX10_look 1 0 0 F 0 [(0, .ref a0)] [] n s) (he0 : ∀  (s : Mm), res = .inr s → J X mX10_look 1 0 0 F 43 [(0, .ref a0)] [] n s) : J X mX10_look 1 0 0 F 0 [(0, .ref a0)] [] n σ := by
  unfold fX10_look_l0 at h
  refine J_aload_n (z := 0) dX10_look_0 rfl rfl (q := 1) rfl ?_
  refine J_getI dX10_look_1 lRX10_119 ha0 rfl (q := 4) rfl ?_
  refine J_aload_n (z := 0) dX10_look_4 rfl rfl (q := 5) rfl ?_
  refine J_getI dX10_look_5 lRX10_122 ha0 rfl (q := 8) rfl ?_
  refine J_icmp_ge (tgt := 43) dX10_look_8 (by decide) (q := 11) rfl (fun c0 => ?_) (fun c0 => ?_)
  · rw [if_pos c0] at h
    have h := Option.some.inj h
    refine J_pick [0] rfl ?_
    exact he0 _ h.symm
  · rw [if_neg c0] at h
    refine J_aload_n (z := 0) dX10_look_11 rfl rfl (q := 12) rfl ?_
    obtain ⟨r2, er2, h⟩ := bindS h
    refine J_getR dX10_look_12 lRX10_23 ha0 rfl (by decide) er2 (q := 15) rfl (fun fr2 => ?_)
    refine J_aload_n (z := 0) dX10_look_15 rfl rfl (q := 16) rfl ?_
    refine J_getI dX10_look_16 lRX10_125 ha0 rfl (q := 19) rfl ?_
    refine J_aload_n (z := 0) dX10_look_19 rfl rfl (q := 20) rfl ?_
    refine J_getI dX10_look_20 lRX10_119 ha0 rfl (q := 23) rfl ?_
    refine J_iadd dX10_look_23  (q := 24) rfl ?_
    obtain ⟨g3, h⟩ := iteS h
    refine J_bald dX10_look_24 fr2 (ixB_ok g3) (q := 25) rfl ?_
    refine J_bipush (x := 32) dX10_look_25 (by decide) (q := 27) rfl ?_
    refine J_icmp_ne (tgt := 43) dX10_look_27 (by decide) (q := 30) rfl (fun c3 => ?_) (fun c3 => ?_)
    · rw [if_neg c3] at h
      have h := Option.some.inj h
      refine J_pick [0] rfl ?_
      exact he0 _ h.symm
    · rw [if_pos c3] at h
      refine J_aload_n (z := 0) dX10_look_30 rfl rfl (q := 31) rfl ?_
      refine J_dup dX10_look_31 rfl (q := 32) rfl ?_
      refine J_getI dX10_look_32 lRX10_119 ha0 rfl (q := 35) rfl ?_
      refine J_iconst (x := 1) dX10_look_35 (by decide) (q := 36) rfl ?_
      refine J_iadd dX10_look_36  (q := 37) rfl ?_
      refine J_putI dX10_look_37 lRX10_119 (fun h => by cases h) ha0 rfl (q := 40) rfl ?_
      refine J_goto (tgt := 0) dX10_look_40 (by decide) ?_
      have h := Option.some.inj h
      refine J_pick [0] rfl ?_
      exact hc _ h.symm

def fX10_look_w0 (a0 : Nat) (σ : Mm) : Option (Mm) :=
  wh (fun a : Mm => fX10_look_l0 a0 a) BIG σ
set_option maxRecDepth 20000 in
set_option maxHeartbeats 2000000 in
theorem tX10_look_w0 {X : XS} {n : Nat} {σ : Mm} {F : Nat × Option Value × Mm} {a0 : Nat} (ha0 : RT n a0 110) {res : Mm} (h : fX10_look_w0 a0 σ = some res) (he0 : ∀  (s : Mm), res = s → J X mX10_look 1 0 0 F 43 [(0, .ref a0)] [] n s) : J X mX10_look 1 0 0 F 0 [(0, .ref a0)] [] n σ := by
  unfold fX10_look_w0 at h
  refine wh_rule (P := fun a : Mm => J X mX10_look 1 0 0 F 0 [(0, .ref a0)] [] n a) (K := fun b => b = res) ?_ _ _ _ h rfl
  intro a
  refine ⟨fun a2 hb hP => ?_, fun b hb hK => ?_⟩
  · exact tX10_look_l0 ha0 hb (fun _ e => by cases e; exact hP) (fun _ e => by cases e)
  · subst hK
    exact tX10_look_l0 ha0 hb (fun _ e => by cases e) (fun v0 e => he0 v0 (Sum.inr.inj e))

def fX10_look_b43 (a0 : Nat) (σ : Mm) : Option (Int32 × Mm) :=
  if (gI σ a0 9) ≤ (gI σ a0 10) then some ((-1), σ) else (gR σ a0 5).bind fun r7 => if ixB ((gI σ a0 8) + (gI σ a0 10)) (ln r7) = true then some (((gI σ r7 (Int32.toNatClampNeg ((gI σ a0 8) + (gI σ a0 10)))) &&& 255), σ) else none
set_option maxRecDepth 20000 in
set_option maxHeartbeats 2000000 in
theorem tX10_look_b43 {X : XS} {n : Nat} {σ : Mm} {a0 : Nat} (ha0 : RT n a0 110) {res : Int32 × Mm} (h : fX10_look_b43 a0 σ = some res) : J X mX10_look 1 0 0 (n, some (.int res.1), res.2) 43 [(0, .ref a0)] [] n σ := by
  unfold fX10_look_b43 at h
  refine J_aload_n (z := 0) dX10_look_43 rfl rfl (q := 44) rfl ?_
  refine J_getI dX10_look_44 lRX10_119 ha0 rfl (q := 47) rfl ?_
  refine J_aload_n (z := 0) dX10_look_47 rfl rfl (q := 48) rfl ?_
  refine J_getI dX10_look_48 lRX10_122 ha0 rfl (q := 51) rfl ?_
  refine J_icmp_ge (tgt := 75) dX10_look_51 (by decide) (q := 54) rfl (fun c5 => ?_) (fun c5 => ?_)
  · rw [if_pos c5] at h
    refine J_iconst (x := (-1)) dX10_look_75 (by decide) (q := 76) rfl ?_
    have h := Option.some.inj h
    subst h
    exact J_ireturn dX10_look_76 rfl rfl rfl
  · rw [if_neg c5] at h
    refine J_aload_n (z := 0) dX10_look_54 rfl rfl (q := 55) rfl ?_
    obtain ⟨r7, er7, h⟩ := bindS h
    refine J_getR dX10_look_55 lRX10_23 ha0 rfl (by decide) er7 (q := 58) rfl (fun fr7 => ?_)
    refine J_aload_n (z := 0) dX10_look_58 rfl rfl (q := 59) rfl ?_
    refine J_getI dX10_look_59 lRX10_125 ha0 rfl (q := 62) rfl ?_
    refine J_aload_n (z := 0) dX10_look_62 rfl rfl (q := 63) rfl ?_
    refine J_getI dX10_look_63 lRX10_119 ha0 rfl (q := 66) rfl ?_
    refine J_iadd dX10_look_66  (q := 67) rfl ?_
    obtain ⟨g8, h⟩ := iteS h
    refine J_bald dX10_look_67 fr7 (ixB_ok g8) (q := 68) rfl ?_
    refine J_sipush (x := 255) dX10_look_68 (by decide) (q := 71) rfl ?_
    refine J_iand dX10_look_71  (q := 72) rfl ?_
    refine J_goto (tgt := 76) dX10_look_72 (by decide) ?_
    have h := Option.some.inj h
    subst h
    exact J_ireturn dX10_look_76 rfl rfl rfl

def fX10_look (a0 : Nat) (σ : Mm) : Option (Int32 × Mm) :=
  (fX10_look_w0 a0 σ).bind (fun o5 => (fun so5 => fX10_look_b43 a0 so5) o5)
set_option maxRecDepth 20000 in
set_option maxHeartbeats 2000000 in
theorem tX10_look {X : XS} {n : Nat} {σ : Mm} {a0 : Nat} (ha0 : RT n a0 110) {res : Int32 × Mm} (h : fX10_look a0 σ = some res) : MT X yX10_look mX10_look 1 0 0 [.ref a0] n σ (n, some (.int res.1), res.2) := by
  unfold fX10_look at h
  refine MT_of (by decide +kernel) rfl (fun h => by cases h) (Nat.le_of_ble_eq_true rfl) ?_
  show J X mX10_look 1 0 0 (n, some (.int res.1), res.2) 0 [(0, .ref a0)] [] n σ
  obtain ⟨o5, hlo5, h⟩ := bindS h
  refine J_pick [0] rfl ?_
  refine tX10_look_w0 ha0 hlo5 ?_
  · intro so5 qo5
    rw [qo5] at h
    try dsimp only [Sum.elim_inl, Sum.elim_inr] at h
    refine J_pick [0] rfl ?_
    exact tX10_look_b43 ha0 h

