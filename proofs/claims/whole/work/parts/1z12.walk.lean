def fX10_placeFor_b118 (a0 : Nat) (a1 : Int32) (a2 : Int32) (a3 : Int32) (a4 : Int32) (a5 : Int32) (a6 : Int32) (a7 : Int32) (σ : Mm) : Option ((Int32 × Int32) ⊕ (Int32)) :=
  some (Sum.inl (a6, (a7 + 1)))
set_option maxRecDepth 20000 in
set_option maxHeartbeats 2000000 in
theorem tX10_placeFor_b118 {X : XS} {n : Nat} {σ : Mm} {F : Nat × Option Value × Mm} {a0 : Nat} {a1 : Int32} {a2 : Int32} {a3 : Int32} {a4 : Int32} {a5 : Int32} {a6 : Int32} {a7 : Int32} (ha0 : RT n a0 110) {res : (Int32 × Int32) ⊕ (Int32)} (h : fX10_placeFor_b118 a0 a1 a2 a3 a4 a5 a6 a7 σ = some res) (hc : ∀ (b6 : Int32) (b7 : Int32), res = .inl (b6, b7) → J X mX10_placeFor 2 0 0 F 48 [(0, .ref a0), (1, .int a1), (2, .int a2), (3, .int a3), (4, .int a4), (5, .int a5), (6, .int b6), (7, .int b7)] [] n σ) (he0 : ∀ (b6 : Int32), res = .inr b6 → J X mX10_placeFor 2 0 0 F 124 [(0, .ref a0), (1, .int a1), (2, .int a2), (3, .int a3), (4, .int a4), (5, .int a5), (6, .int b6)] [] n σ) : J X mX10_placeFor 2 0 0 F 118 [(0, .ref a0), (1, .int a1), (2, .int a2), (3, .int a3), (4, .int a4), (5, .int a5), (6, .int a6), (7, .int a7)] [] n σ := by
  unfold fX10_placeFor_b118 at h
  refine J_iinc (z := 7) (y := (a7 + 1)) (lv' := [(7, .int (a7 + 1)), (0, .ref a0), (1, .int a1), (2, .int a2), (3, .int a3), (4, .int a4), (5, .int a5), (6, .int a6)]) dX10_placeFor_118 rfl rfl (by decide) rfl (q := 121) rfl ?_
  refine J_goto (tgt := 48) dX10_placeFor_121 (by decide) ?_
  have h := Option.some.inj h
  refine J_pick [1, 2, 3, 4, 5, 6, 7, 0] rfl ?_
  exact hc _ _ h.symm

def fX10_placeFor_b101 (a0 : Nat) (a1 : Int32) (a2 : Int32) (a3 : Int32) (a4 : Int32) (a5 : Int32) (a7 : Int32) (σ : Mm) : Option ((Int32 × Int32) ⊕ (Int32)) :=
  (gR σ a0 20).bind fun r12 => if ixB (4 * a7) (ln r12) = true then (fX10_apart a0 a5 (gI σ r12 (Int32.toNatClampNeg (4 * a7))) σ).bind fun vk14 => fX10_placeFor_b118 a0 a1 a2 a3 a4 a5 vk14 a7 σ else none
set_option maxRecDepth 20000 in
set_option maxHeartbeats 2000000 in
theorem tX10_placeFor_b101 {X : XS} {n : Nat} {σ : Mm} {F : Nat × Option Value × Mm} {a0 : Nat} {a1 : Int32} {a2 : Int32} {a3 : Int32} {a4 : Int32} {a5 : Int32} {a7 : Int32} (ha0 : RT n a0 110) {res : (Int32 × Int32) ⊕ (Int32)} (h : fX10_placeFor_b101 a0 a1 a2 a3 a4 a5 a7 σ = some res) (hc : ∀ (b6 : Int32) (b7 : Int32), res = .inl (b6, b7) → J X mX10_placeFor 2 0 0 F 48 [(0, .ref a0), (1, .int a1), (2, .int a2), (3, .int a3), (4, .int a4), (5, .int a5), (6, .int b6), (7, .int b7)] [] n σ) (he0 : ∀ (b6 : Int32), res = .inr b6 → J X mX10_placeFor 2 0 0 F 124 [(0, .ref a0), (1, .int a1), (2, .int a2), (3, .int a3), (4, .int a4), (5, .int a5), (6, .int b6)] [] n σ) : J X mX10_placeFor 2 0 0 F 101 [(0, .ref a0), (1, .int a1), (2, .int a2), (3, .int a3), (4, .int a4), (5, .int a5), (7, .int a7)] [] n σ := by
  unfold fX10_placeFor_b101 at h
  refine J_aload_n (z := 0) dX10_placeFor_101 rfl rfl (q := 102) rfl ?_
  refine J_iload (z := 5) dX10_placeFor_102 rfl (q := 104) rfl ?_
  refine J_aload_n (z := 0) dX10_placeFor_104 rfl rfl (q := 105) rfl ?_
  obtain ⟨r12, er12, h⟩ := bindS h
  refine J_getR dX10_placeFor_105 lRX10_43 ha0 rfl (by decide) er12 (q := 108) rfl (fun fr12 => ?_)
  refine J_iconst (x := 4) dX10_placeFor_108 (by decide) (q := 109) rfl ?_
  refine J_iload (z := 6) dX10_placeFor_109 rfl (q := 111) rfl ?_
  refine J_imul dX10_placeFor_111  (q := 112) rfl ?_
  obtain ⟨g13, h⟩ := iteS h
  refine J_iald dX10_placeFor_112 fr12 (ixB_ok g13) (q := 113) rfl ?_
  obtain ⟨vk14, hk14, h⟩ := bindS h
  refine J_cVi (as := [.int a5, .int (gI σ r12 (Int32.toNatClampNeg (4 * a7)))]) dX10_placeFor_113 mRX10_316 ha0 (tX10_apart ha0 hk14) rfl (Nat.le_of_ble_eq_true rfl) (Nat.le_of_ble_eq_true rfl) (Nat.le_of_ble_eq_true rfl) (q := 116) rfl ?_
  intro bk14
  refine J_istore (lv' := [(6, .int vk14), (0, .ref a0), (1, .int a1), (2, .int a2), (3, .int a3), (4, .int a4), (5, .int a5), (7, .int a7)]) dX10_placeFor_116 (by decide) rfl (q := 118) rfl ?_
  refine J_pick [1, 2, 3, 4, 5, 6, 0, 7] rfl ?_
  exact tX10_placeFor_b118 ha0 h hc he0

def fX10_placeFor_l48 (a0 : Nat) (a1 : Int32) (a2 : Int32) (a3 : Int32) (a4 : Int32) (a5 : Int32) (a6 : Int32) (a7 : Int32) (σ : Mm) : Option ((Int32 × Int32) ⊕ (Int32)) :=
  if (gI σ a0 27) ≤ a7 then some (Sum.inr a6) else if a7 = a1 then fX10_placeFor_b118 a0 a1 a2 a3 a4 a5 a6 a7 σ else (gR σ a0 33).bind fun r8 => if ixB (2 * a7) (ln r8) = true then if (gI σ r8 (Int32.toNatClampNeg (2 * a7))) ≤ 0 then fX10_placeFor_b118 a0 a1 a2 a3 a4 a5 a6 a7 σ else if a6 = (-1) then fX10_placeFor_b101 a0 a1 a2 a3 a4 a5 a7 σ else (gR σ a0 20).bind fun r15 => if ixB (4 * a7) (ln r15) = true then (fX10_apart a0 a5 (gI σ r15 (Int32.toNatClampNeg (4 * a7))) σ).bind fun vk17 => if a6 ≤ vk17 then fX10_placeFor_b118 a0 a1 a2 a3 a4 a5 a6 a7 σ else fX10_placeFor_b101 a0 a1 a2 a3 a4 a5 a7 σ else none else none
set_option maxRecDepth 20000 in
set_option maxHeartbeats 2000000 in
theorem tX10_placeFor_l48 {X : XS} {n : Nat} {σ : Mm} {F : Nat × Option Value × Mm} {a0 : Nat} {a1 : Int32} {a2 : Int32} {a3 : Int32} {a4 : Int32} {a5 : Int32} {a6 : Int32} {a7 : Int32} (ha0 : RT n a0 110) {res : (Int32 × Int32) ⊕ (Int32)} (h : fX10_placeFor_l48 a0 a1 a2 a3 a4 a5 a6 a7 σ = some res) (hc : ∀ (b6 : Int32) (b7 : Int32), res = .inl (b6, b7) → J X mX10_placeFor 2 0 0 F 48 [(0, .ref a0), (1, .int a1), (2, .int a2), (3, .int a3), (4, .int a4), (5, .int a5), (6, .int b6), (7, .int b7)] [] n σ) (he0 : ∀ (b6 : Int32), res = .inr b6 → J X mX10_placeFor 2 0 0 F 124 [(0, .ref a0), (1, .int a1), (2, .int a2), (3, .int a3), (4, .int a4), (5, .int a5), (6, .int b6)] [] n σ) : J X mX10_placeFor 2 0 0 F 48 [(0, .ref a0), (1, .int a1), (2, .int a2), (3, .int a3), (4, .int a4), (5, .int a5), (6, .int a6), (7, .int a7)] [] n σ := by
  unfold fX10_placeFor_l48 at h
  refine J_iload (z := 7) dX10_placeFor_48 rfl (q := 50) rfl ?_
  refine J_aload_n (z := 0) dX10_placeFor_50 rfl rfl (q := 51) rfl ?_
  refine J_getI dX10_placeFor_51 lRX10_291 ha0 rfl (q := 54) rfl ?_
  refine J_icmp_ge (tgt := 124) dX10_placeFor_54 (by decide) (q := 57) rfl (fun c5 => ?_) (fun c5 => ?_)
  · rw [if_pos c5] at h
    have h := Option.some.inj h
    refine J_pick [0, 1, 2, 3, 4, 5, 6] rfl ?_
    exact he0 _ h.symm
  · rw [if_neg c5] at h
    refine J_iload (z := 7) dX10_placeFor_57 rfl (q := 59) rfl ?_
    refine J_iload_n (z := 1) dX10_placeFor_59 rfl rfl (q := 60) rfl ?_
    refine J_icmp_eq (tgt := 118) dX10_placeFor_60 (by decide) (q := 63) rfl (fun c6 => ?_) (fun c6 => ?_)
    · rw [if_pos c6] at h
      refine J_pick [0, 1, 2, 3, 4, 5, 6, 7] rfl ?_
      exact tX10_placeFor_b118 ha0 h hc he0
    · rw [if_neg c6] at h
      refine J_aload_n (z := 0) dX10_placeFor_63 rfl rfl (q := 64) rfl ?_
      obtain ⟨r8, er8, h⟩ := bindS h
      refine J_getR dX10_placeFor_64 lRX10_61 ha0 rfl (by decide) er8 (q := 67) rfl (fun fr8 => ?_)
      refine J_iconst (x := 2) dX10_placeFor_67 (by decide) (q := 68) rfl ?_
      refine J_iload (z := 7) dX10_placeFor_68 rfl (q := 70) rfl ?_
      refine J_imul dX10_placeFor_70  (q := 71) rfl ?_
      obtain ⟨g9, h⟩ := iteS h
      refine J_iald dX10_placeFor_71 fr8 (ixB_ok g9) (q := 72) rfl ?_
      refine J_if_le (tgt := 118) dX10_placeFor_72 (by decide) (q := 75) rfl (fun c9 => ?_) (fun c9 => ?_)
      · rw [if_pos c9] at h
        refine J_pick [0, 1, 2, 3, 4, 5, 6, 7] rfl ?_
        exact tX10_placeFor_b118 ha0 h hc he0
      · rw [if_neg c9] at h
        refine J_iload (z := 6) dX10_placeFor_75 rfl (q := 77) rfl ?_
        refine J_iconst (x := (-1)) dX10_placeFor_77 (by decide) (q := 78) rfl ?_
        refine J_icmp_eq (tgt := 101) dX10_placeFor_78 (by decide) (q := 81) rfl (fun c10 => ?_) (fun c10 => ?_)
        · rw [if_pos c10] at h
          refine J_pick [0, 1, 2, 3, 4, 5, 7] rfl ?_
          exact tX10_placeFor_b101 ha0 h hc he0
        · rw [if_neg c10] at h
          refine J_aload_n (z := 0) dX10_placeFor_81 rfl rfl (q := 82) rfl ?_
          refine J_iload (z := 5) dX10_placeFor_82 rfl (q := 84) rfl ?_
          refine J_aload_n (z := 0) dX10_placeFor_84 rfl rfl (q := 85) rfl ?_
          obtain ⟨r15, er15, h⟩ := bindS h
          refine J_getR dX10_placeFor_85 lRX10_43 ha0 rfl (by decide) er15 (q := 88) rfl (fun fr15 => ?_)
          refine J_iconst (x := 4) dX10_placeFor_88 (by decide) (q := 89) rfl ?_
          refine J_iload (z := 7) dX10_placeFor_89 rfl (q := 91) rfl ?_
          refine J_imul dX10_placeFor_91  (q := 92) rfl ?_
          obtain ⟨g16, h⟩ := iteS h
          refine J_iald dX10_placeFor_92 fr15 (ixB_ok g16) (q := 93) rfl ?_
          obtain ⟨vk17, hk17, h⟩ := bindS h
          refine J_cVi (as := [.int a5, .int (gI σ r15 (Int32.toNatClampNeg (4 * a7)))]) dX10_placeFor_93 mRX10_316 ha0 (tX10_apart ha0 hk17) rfl (Nat.le_of_ble_eq_true rfl) (Nat.le_of_ble_eq_true rfl) (Nat.le_of_ble_eq_true rfl) (q := 96) rfl ?_
          intro bk17
          refine J_iload (z := 6) dX10_placeFor_96 rfl (q := 98) rfl ?_
          refine J_icmp_ge (tgt := 118) dX10_placeFor_98 (by decide) (q := 101) rfl (fun c17 => ?_) (fun c17 => ?_)
          · rw [if_pos c17] at h
            refine J_pick [0, 1, 2, 3, 4, 5, 6, 7] rfl ?_
            exact tX10_placeFor_b118 ha0 h hc he0
          · rw [if_neg c17] at h
            refine J_pick [0, 1, 2, 3, 4, 5, 7] rfl ?_
            exact tX10_placeFor_b101 ha0 h hc he0

def fX10_placeFor_w48 (a0 : Nat) (a1 : Int32) (a2 : Int32) (a3 : Int32) (a4 : Int32) (a5 : Int32) (a6 : Int32) (a7 : Int32) (σ : Mm) : Option (Int32) :=
  wh (fun a : Int32 × Int32 => fX10_placeFor_l48 a0 a1 a2 a3 a4 a5 a.1 a.2 σ) BIG (a6, a7)
set_option maxRecDepth 20000 in
set_option maxHeartbeats 2000000 in
theorem tX10_placeFor_w48 {X : XS} {n : Nat} {σ : Mm} {F : Nat × Option Value × Mm} {a0 : Nat} {a1 : Int32} {a2 : Int32} {a3 : Int32} {a4 : Int32} {a5 : Int32} {a6 : Int32} {a7 : Int32} (ha0 : RT n a0 110) {res : Int32} (h : fX10_placeFor_w48 a0 a1 a2 a3 a4 a5 a6 a7 σ = some res) (he0 : ∀ (b6 : Int32), res = b6 → J X mX10_placeFor 2 0 0 F 124 [(0, .ref a0), (1, .int a1), (2, .int a2), (3, .int a3), (4, .int a4), (5, .int a5), (6, .int b6)] [] n σ) : J X mX10_placeFor 2 0 0 F 48 [(0, .ref a0), (1, .int a1), (2, .int a2), (3, .int a3), (4, .int a4), (5, .int a5), (6, .int a6), (7, .int a7)] [] n σ := by
  unfold fX10_placeFor_w48 at h
  refine wh_rule (P := fun a : Int32 × Int32 => J X mX10_placeFor 2 0 0 F 48 [(0, .ref a0), (1, .int a1), (2, .int a2), (3, .int a3), (4, .int a4), (5, .int a5), (6, .int a.1), (7, .int a.2)] [] n σ) (K := fun b => b = res) ?_ _ _ _ h rfl
  intro a
  refine ⟨fun a2 hb hP => ?_, fun b hb hK => ?_⟩
  · exact tX10_placeFor_l48 ha0 hb (fun _ _ e => by cases e; exact hP) (fun _ e => by cases e)
  · subst hK
    exact tX10_placeFor_l48 ha0 hb (fun _ _ e => by cases e) (fun v0 e => he0 v0 (Sum.inr.inj e))

def fX10_placeFor_b146 (a0 : Nat) (a1 : Int32) (a2 : Int32) (a3 : Int32) (a4 : Int32) (a5 : Int32) (σ : Mm) : Option ((Int32 × Int32 × Int32) ⊕ (Int32 × Int32)) :=
  some (Sum.inl (a3, a4, (a5 + 1)))
set_option maxRecDepth 20000 in
set_option maxHeartbeats 2000000 in
theorem tX10_placeFor_b146 {X : XS} {n : Nat} {σ : Mm} {F : Nat × Option Value × Mm} {a0 : Nat} {a1 : Int32} {a2 : Int32} {a3 : Int32} {a4 : Int32} {a5 : Int32} (ha0 : RT n a0 110) {res : (Int32 × Int32 × Int32) ⊕ (Int32 × Int32)} (h : fX10_placeFor_b146 a0 a1 a2 a3 a4 a5 σ = some res) (hc : ∀ (b3 : Int32) (b4 : Int32) (b5 : Int32), res = .inl (b3, b4, b5) → J X mX10_placeFor 2 0 0 F 33 [(0, .ref a0), (1, .int a1), (2, .int a2), (3, .int b3), (4, .int b4), (5, .int b5)] [] n σ) (he0 : ∀ (b3 : Int32) (b4 : Int32), res = .inr (b3, b4) → J X mX10_placeFor 2 0 0 F 152 [(2, .int a2), (3, .int b3), (4, .int b4)] [] n σ) : J X mX10_placeFor 2 0 0 F 146 [(0, .ref a0), (1, .int a1), (2, .int a2), (3, .int a3), (4, .int a4), (5, .int a5)] [] n σ := by
  unfold fX10_placeFor_b146 at h
  refine J_iinc (z := 5) (y := (a5 + 1)) (lv' := [(5, .int (a5 + 1)), (0, .ref a0), (1, .int a1), (2, .int a2), (3, .int a3), (4, .int a4)]) dX10_placeFor_146 rfl rfl (by decide) rfl (q := 149) rfl ?_
  refine J_goto (tgt := 33) dX10_placeFor_149 (by decide) ?_
  have h := Option.some.inj h
  refine J_pick [1, 2, 3, 4, 5, 0] rfl ?_
  exact hc _ _ _ h.symm

def fX10_placeFor_b139 (a0 : Nat) (a1 : Int32) (a2 : Int32) (a5 : Int32) (a6 : Int32) (σ : Mm) : Option ((Int32 × Int32 × Int32) ⊕ (Int32 × Int32)) :=
  fX10_placeFor_b146 a0 a1 a2 a5 a6 a5 σ
set_option maxRecDepth 20000 in
set_option maxHeartbeats 2000000 in
theorem tX10_placeFor_b139 {X : XS} {n : Nat} {σ : Mm} {F : Nat × Option Value × Mm} {a0 : Nat} {a1 : Int32} {a2 : Int32} {a5 : Int32} {a6 : Int32} (ha0 : RT n a0 110) {res : (Int32 × Int32 × Int32) ⊕ (Int32 × Int32)} (h : fX10_placeFor_b139 a0 a1 a2 a5 a6 σ = some res) (hc : ∀ (b3 : Int32) (b4 : Int32) (b5 : Int32), res = .inl (b3, b4, b5) → J X mX10_placeFor 2 0 0 F 33 [(0, .ref a0), (1, .int a1), (2, .int a2), (3, .int b3), (4, .int b4), (5, .int b5)] [] n σ) (he0 : ∀ (b3 : Int32) (b4 : Int32), res = .inr (b3, b4) → J X mX10_placeFor 2 0 0 F 152 [(2, .int a2), (3, .int b3), (4, .int b4)] [] n σ) : J X mX10_placeFor 2 0 0 F 139 [(0, .ref a0), (1, .int a1), (2, .int a2), (5, .int a5), (6, .int a6)] [] n σ := by
  unfold fX10_placeFor_b139 at h
  refine J_iload (z := 3) dX10_placeFor_139 rfl (q := 141) rfl ?_
  refine J_istore_n (lv' := [(3, .int a5), (0, .ref a0), (1, .int a1), (2, .int a2), (5, .int a5), (6, .int a6)]) dX10_placeFor_141 rfl (by decide) rfl (q := 142) rfl ?_
  refine J_iload (z := 5) dX10_placeFor_142 rfl (q := 144) rfl ?_
  refine J_istore (lv' := [(4, .int a6), (3, .int a5), (0, .ref a0), (1, .int a1), (2, .int a2), (5, .int a5), (6, .int a6)]) dX10_placeFor_144 (by decide) rfl (q := 146) rfl ?_
  refine J_pick [2, 3, 4, 1, 0, 5] rfl ?_
  exact tX10_placeFor_b146 ha0 h hc he0

def fX10_placeFor_l33 (a0 : Nat) (a1 : Int32) (a2 : Int32) (a3 : Int32) (a4 : Int32) (a5 : Int32) (σ : Mm) : Option ((Int32 × Int32 × Int32) ⊕ (Int32 × Int32)) :=
  if (gI σ a0 26) ≤ a5 then some (Sum.inr (a3, a4)) else (fX10_placeFor_w48 a0 a1 a2 a3 a4 a5 (-1) 0 σ).bind (fun o19 => (fun xo19_6 => if a3 = (-1) then fX10_placeFor_b139 a0 a1 a2 a5 xo19_6 σ else if a4 < xo19_6 then fX10_placeFor_b139 a0 a1 a2 a5 xo19_6 σ else fX10_placeFor_b146 a0 a1 a2 a3 a4 a5 σ) o19)
set_option maxRecDepth 20000 in
set_option maxHeartbeats 2000000 in
theorem tX10_placeFor_l33 {X : XS} {n : Nat} {σ : Mm} {F : Nat × Option Value × Mm} {a0 : Nat} {a1 : Int32} {a2 : Int32} {a3 : Int32} {a4 : Int32} {a5 : Int32} (ha0 : RT n a0 110) {res : (Int32 × Int32 × Int32) ⊕ (Int32 × Int32)} (h : fX10_placeFor_l33 a0 a1 a2 a3 a4 a5 σ = some res) (hc : ∀ (b3 : Int32) (b4 : Int32) (b5 : Int32), res = .inl (b3, b4, b5) → J X mX10_placeFor 2 0 0 F 33 [(0, .ref a0), (1, .int a1), (2, .int a2), (3, .int b3), (4, .int b4), (5, .int b5)] [] n σ) (he0 : ∀ (b3 : Int32) (b4 : Int32), res = .inr (b3, b4) → J X mX10_placeFor 2 0 0 F 152 [(2, .int a2), (3, .int b3), (4, .int b4)] [] n σ) : J X mX10_placeFor 2 0 0 F 33 [(0, .ref a0), (1, .int a1), (2, .int a2), (3, .int a3), (4, .int a4), (5, .int a5)] [] n σ := by
  unfold fX10_placeFor_l33 at h
  refine J_iload (z := 5) dX10_placeFor_33 rfl (q := 35) rfl ?_
  refine J_aload_n (z := 0) dX10_placeFor_35 rfl rfl (q := 36) rfl ?_
  refine J_getI dX10_placeFor_36 lRX10_297 ha0 rfl (q := 39) rfl ?_
  refine J_icmp_ge (tgt := 152) dX10_placeFor_39 (by decide) (q := 42) rfl (fun c4 => ?_) (fun c4 => ?_)
  · rw [if_pos c4] at h
    have h := Option.some.inj h
    refine J_pick [2, 3, 4] rfl ?_
    exact he0 _ _ h.symm
  · rw [if_neg c4] at h
    refine J_iconst (x := (-1)) dX10_placeFor_42 (by decide) (q := 43) rfl ?_
    refine J_istore (lv' := [(6, .int (-1)), (0, .ref a0), (1, .int a1), (2, .int a2), (3, .int a3), (4, .int a4), (5, .int a5)]) dX10_placeFor_43 (by decide) rfl (q := 45) rfl ?_
    refine J_iconst (x := 0) dX10_placeFor_45 (by decide) (q := 46) rfl ?_
    refine J_istore (lv' := [(7, .int 0), (6, .int (-1)), (0, .ref a0), (1, .int a1), (2, .int a2), (3, .int a3), (4, .int a4), (5, .int a5)]) dX10_placeFor_46 (by decide) rfl (q := 48) rfl ?_
    obtain ⟨o19, hlo19, h⟩ := bindS h
    refine J_pick [2, 3, 4, 5, 6, 7, 1, 0] rfl ?_
    refine tX10_placeFor_w48 ha0 hlo19 ?_
    · intro xo19_6 qo19
      rw [qo19] at h
      try dsimp only [Sum.elim_inl, Sum.elim_inr] at h
      refine J_iload_n (z := 3) dX10_placeFor_124 rfl rfl (q := 125) rfl ?_
      refine J_iconst (x := (-1)) dX10_placeFor_125 (by decide) (q := 126) rfl ?_
      refine J_icmp_eq (tgt := 139) dX10_placeFor_126 (by decide) (q := 129) rfl (fun c19 => ?_) (fun c19 => ?_)
      · rw [if_pos c19] at h
        refine J_pick [0, 1, 2, 5, 6] rfl ?_
        exact tX10_placeFor_b139 ha0 h hc he0
      · rw [if_neg c19] at h
        refine J_iload (z := 6) dX10_placeFor_129 rfl (q := 131) rfl ?_
        refine J_iload (z := 4) dX10_placeFor_131 rfl (q := 133) rfl ?_
        refine J_icmp_gt (tgt := 139) dX10_placeFor_133 (by decide) (q := 136) rfl (fun c20 => ?_) (fun c20 => ?_)
        · rw [if_pos c20] at h
          refine J_pick [0, 1, 2, 5, 6] rfl ?_
          exact tX10_placeFor_b139 ha0 h hc he0
        · rw [if_neg c20] at h
          refine J_goto (tgt := 146) dX10_placeFor_136 (by decide) ?_
          refine J_pick [0, 1, 2, 3, 4, 5] rfl ?_
          exact tX10_placeFor_b146 ha0 h hc he0

def fX10_placeFor_w33 (a0 : Nat) (a1 : Int32) (a2 : Int32) (a3 : Int32) (a4 : Int32) (a5 : Int32) (σ : Mm) : Option (Int32 × Int32) :=
  wh (fun a : Int32 × Int32 × Int32 => fX10_placeFor_l33 a0 a1 a2 a.1 a.2.1 a.2.2 σ) BIG (a3, a4, a5)
set_option maxRecDepth 20000 in
set_option maxHeartbeats 2000000 in
theorem tX10_placeFor_w33 {X : XS} {n : Nat} {σ : Mm} {F : Nat × Option Value × Mm} {a0 : Nat} {a1 : Int32} {a2 : Int32} {a3 : Int32} {a4 : Int32} {a5 : Int32} (ha0 : RT n a0 110) {res : Int32 × Int32} (h : fX10_placeFor_w33 a0 a1 a2 a3 a4 a5 σ = some res) (he0 : ∀ (b3 : Int32) (b4 : Int32), res = (b3, b4) → J X mX10_placeFor 2 0 0 F 152 [(2, .int a2), (3, .int b3), (4, .int b4)] [] n σ) : J X mX10_placeFor 2 0 0 F 33 [(0, .ref a0), (1, .int a1), (2, .int a2), (3, .int a3), (4, .int a4), (5, .int a5)] [] n σ := by
  unfold fX10_placeFor_w33 at h
  refine wh_rule (P := fun a : Int32 × Int32 × Int32 => J X mX10_placeFor 2 0 0 F 33 [(0, .ref a0), (1, .int a1), (2, .int a2), (3, .int a.1), (4, .int a.2.1), (5, .int a.2.2)] [] n σ) (K := fun b => b = res) ?_ _ _ _ h rfl
  intro a
  refine ⟨fun a2 hb hP => ?_, fun b hb hK => ?_⟩
  · exact tX10_placeFor_l33 ha0 hb (fun _ _ _ e => by cases e; exact hP) (fun _ _ e => by cases e)
  · subst hK
    exact tX10_placeFor_l33 ha0 hb (fun _ _ _ e => by cases e) (fun v0 v1 e => he0 v0 v1 (Sum.inr.inj e))

def fX10_placeFor (a0 : Nat) (a1 : Int32) (a2 : Int32) (σ : Mm) : Option (Int32 × Mm) :=
  (fX10_isPage a0 a1 (sI σ a0 0 0)).bind fun vk1 => if vk1 = 0 then some ((-1), (sI σ a0 0 0)) else (fX10_isIn (Int32.toInt64 a2) 0 1 (sI σ a0 0 0)).bind fun vk3 => if vk3 = 0 then some ((-1), (sI σ a0 0 0)) else (fX10_placeFor_w33 a0 a1 a2 (-1) (-1) 0 (sI σ a0 0 0)).bind (fun o22 => (fun xo22_3 xo22_4 => if a2 = 0 then some (xo22_3, (sI σ a0 0 0)) else some (xo22_4, (sI σ a0 0 0))) o22.1 o22.2)
set_option maxRecDepth 20000 in
set_option maxHeartbeats 2000000 in
theorem tX10_placeFor {X : XS} {n : Nat} {σ : Mm} {a0 : Nat} {a1 : Int32} {a2 : Int32} (ha0 : RT n a0 110) {res : Int32 × Mm} (h : fX10_placeFor a0 a1 a2 σ = some res) : MT X yX10_placeFor mX10_placeFor 2 0 0 [.ref a0, .int a1, .int a2] n σ (n, some (.int res.1), res.2) := by
  unfold fX10_placeFor at h
  refine MT_of (by decide +kernel) rfl (fun h => by cases h) (Nat.le_of_ble_eq_true rfl) ?_
  show J X mX10_placeFor 2 0 0 (n, some (.int res.1), res.2) 0 [(0, .ref a0), (1, .int a1), (2, .int a2)] [] n σ
  refine J_aload_n (z := 0) dX10_placeFor_0 rfl rfl (q := 1) rfl ?_
  refine J_iconst (x := 0) dX10_placeFor_1 (by decide) (q := 2) rfl ?_
  refine J_putI dX10_placeFor_2 lRX10_96 (fun h => by cases h) ha0 rfl (q := 5) rfl ?_
  refine J_aload_n (z := 0) dX10_placeFor_5 rfl rfl (q := 6) rfl ?_
  refine J_iload_n (z := 1) dX10_placeFor_6 rfl rfl (q := 7) rfl ?_
  obtain ⟨vk1, hk1, h⟩ := bindS h
  refine J_cVi (as := [.int a1]) dX10_placeFor_7 mRX10_346 ha0 (tX10_isPage ha0 hk1) rfl (Nat.le_of_ble_eq_true rfl) (Nat.le_of_ble_eq_true rfl) (Nat.le_of_ble_eq_true rfl) (q := 10) rfl ?_
  intro bk1
  refine J_if_eq (tgt := 23) dX10_placeFor_10 (by decide) (q := 13) rfl (fun c1 => ?_) (fun c1 => ?_)
  · rw [if_pos c1] at h
    refine J_iconst (x := (-1)) dX10_placeFor_23 (by decide) (q := 24) rfl ?_
    have h := Option.some.inj h
    subst h
    exact J_ireturn dX10_placeFor_24 rfl rfl rfl
  · rw [if_neg c1] at h
    refine J_iload_n (z := 2) dX10_placeFor_13 rfl rfl (q := 14) rfl ?_
    refine J_i2l dX10_placeFor_14  (q := 15) rfl ?_
    refine J_lconst (x := 0) dX10_placeFor_15 (by decide) (q := 16) rfl ?_
    refine J_lconst (x := 1) dX10_placeFor_16 (by decide) (q := 17) rfl ?_
    obtain ⟨vk3, hk3, h⟩ := bindS h
    refine J_cSi (as := [.long (Int32.toInt64 a2), .long 0, .long 1]) dX10_placeFor_17 mRX10_217 (tX10_isIn  hk3) rfl (Nat.le_of_ble_eq_true rfl) (Nat.le_of_ble_eq_true rfl) (Nat.le_of_ble_eq_true rfl) (q := 20) rfl ?_
    intro bk3
    refine J_if_ne (tgt := 25) dX10_placeFor_20 (by decide) (q := 23) rfl (fun c3 => ?_) (fun c3 => ?_)
    · rw [if_neg c3] at h
      refine J_iconst (x := (-1)) dX10_placeFor_25 (by decide) (q := 26) rfl ?_
      refine J_istore_n (lv' := [(3, .int (-1)), (0, .ref a0), (1, .int a1), (2, .int a2)]) dX10_placeFor_26 rfl (by decide) rfl (q := 27) rfl ?_
      refine J_iconst (x := (-1)) dX10_placeFor_27 (by decide) (q := 28) rfl ?_
      refine J_istore (lv' := [(4, .int (-1)), (3, .int (-1)), (0, .ref a0), (1, .int a1), (2, .int a2)]) dX10_placeFor_28 (by decide) rfl (q := 30) rfl ?_
      refine J_iconst (x := 0) dX10_placeFor_30 (by decide) (q := 31) rfl ?_
      refine J_istore (lv' := [(5, .int 0), (4, .int (-1)), (3, .int (-1)), (0, .ref a0), (1, .int a1), (2, .int a2)]) dX10_placeFor_31 (by decide) rfl (q := 33) rfl ?_
      obtain ⟨o22, hlo22, h⟩ := bindS h
      refine J_pick [3, 4, 5, 2, 1, 0] rfl ?_
      refine tX10_placeFor_w33 ha0 hlo22 ?_
      · intro xo22_3 xo22_4 qo22
        rw [qo22] at h
        try dsimp only [Sum.elim_inl, Sum.elim_inr] at h
        refine J_iload_n (z := 0) dX10_placeFor_152 rfl rfl (q := 153) rfl ?_
        refine J_if_ne (tgt := 160) dX10_placeFor_153 (by decide) (q := 156) rfl (fun c22 => ?_) (fun c22 => ?_)
        · rw [if_neg c22] at h
          refine J_iload (z := 2) dX10_placeFor_160 rfl (q := 162) rfl ?_
          have h := Option.some.inj h
          subst h
          exact J_ireturn dX10_placeFor_162 rfl rfl rfl
        · rw [if_pos c22] at h
          refine J_iload_n (z := 1) dX10_placeFor_156 rfl rfl (q := 157) rfl ?_
          refine J_goto (tgt := 162) dX10_placeFor_157 (by decide) ?_
          have h := Option.some.inj h
          subst h
          exact J_ireturn dX10_placeFor_162 rfl rfl rfl
    · rw [if_pos c3] at h
      refine J_iconst (x := (-1)) dX10_placeFor_23 (by decide) (q := 24) rfl ?_
      have h := Option.some.inj h
      subst h
      exact J_ireturn dX10_placeFor_24 rfl rfl rfl

def fX10_needy_b62 (a0 : Nat) (a2 : Int32) (z0 : Int32) (z1 : Int32) (σ : Mm) : Option ((Int32 × Int32) ⊕ (Int32 × Mm)) :=
  some (Sum.inl ((z0 ||| z1), (a2 + 1)))
set_option maxRecDepth 20000 in
set_option maxHeartbeats 2000000 in
theorem tX10_needy_b62 {X : XS} {n : Nat} {σ : Mm} {F : Nat × Option Value × Mm} {a0 : Nat} {a2 : Int32} {z0 : Int32} {z1 : Int32} (ha0 : RT n a0 110) {res : (Int32 × Int32) ⊕ (Int32 × Mm)} (h : fX10_needy_b62 a0 a2 z0 z1 σ = some res) (hc : ∀ (b1 : Int32) (b2 : Int32), res = .inl (b1, b2) → J X mX10_needy 3 0 0 F 18 [(0, .ref a0), (1, .int b1), (2, .int b2)] [] n σ) (hr : ∀ (v : Int32) (s : Mm), res = .inr (v, s) → F = (n, some (.int v), s)) : J X mX10_needy 3 0 0 F 62 [(0, .ref a0), (2, .int a2)] [.int z1, .int z0] n σ := by
  unfold fX10_needy_b62 at h
  refine J_ior dX10_needy_62  (q := 63) rfl ?_
  refine J_istore_n (lv' := [(1, .int (z0 ||| z1)), (0, .ref a0), (2, .int a2)]) dX10_needy_63 rfl (by decide) rfl (q := 64) rfl ?_
  refine J_iinc (z := 2) (y := (a2 + 1)) (lv' := [(2, .int (a2 + 1)), (1, .int (z0 ||| z1)), (0, .ref a0)]) dX10_needy_64 rfl rfl (by decide) rfl (q := 67) rfl ?_
  refine J_goto (tgt := 18) dX10_needy_67 (by decide) ?_
  have h := Option.some.inj h
  refine J_pick [2, 1, 0] rfl ?_
  exact hc _ _ h.symm

def fX10_needy_l18 (a0 : Nat) (a1 : Int32) (a2 : Int32) (σ : Mm) : Option ((Int32 × Int32) ⊕ (Int32 × Mm)) :=
  if (gI σ a0 28) ≤ a2 then some (Sum.inr (a1, σ)) else (gR σ a0 22).bind fun r3 => if ixB ((4 * a2) + 3) (ln r3) = true then (fX10_bookBits a0 (gI σ r3 (Int32.toNatClampNeg ((4 * a2) + 3))) σ).bind fun vk5 => (gR σ a0 33).bind fun r6 => (fX10_knownBits r6 a2 σ).bind fun vk7 => if (vk5 &&& (vk7 ^^^ (-1))) = 0 then fX10_needy_b62 a0 a2 a1 0 σ else fX10_needy_b62 a0 a2 a1 (shlI 1 a2) σ else none
set_option maxRecDepth 20000 in
set_option maxHeartbeats 2000000 in
theorem tX10_needy_l18 {X : XS} {n : Nat} {σ : Mm} {F : Nat × Option Value × Mm} {a0 : Nat} {a1 : Int32} {a2 : Int32} (ha0 : RT n a0 110) {res : (Int32 × Int32) ⊕ (Int32 × Mm)} (h : fX10_needy_l18 a0 a1 a2 σ = some res) (hc : ∀ (b1 : Int32) (b2 : Int32), res = .inl (b1, b2) → J X mX10_needy 3 0 0 F 18 [(0, .ref a0), (1, .int b1), (2, .int b2)] [] n σ) (hr : ∀ (v : Int32) (s : Mm), res = .inr (v, s) → F = (n, some (.int v), s)) : J X mX10_needy 3 0 0 F 18 [(0, .ref a0), (1, .int a1), (2, .int a2)] [] n σ := by
  unfold fX10_needy_l18 at h
  refine J_iload_n (z := 2) dX10_needy_18 rfl rfl (q := 19) rfl ?_
  refine J_aload_n (z := 0) dX10_needy_19 rfl rfl (q := 20) rfl ?_
  refine J_getI dX10_needy_20 lRX10_294 ha0 rfl (q := 23) rfl ?_
  refine J_icmp_ge (tgt := 70) dX10_needy_23 (by decide) (q := 26) rfl (fun c1 => ?_) (fun c1 => ?_)
  · rw [if_pos c1] at h
    refine J_iload_n (z := 1) dX10_needy_70 rfl rfl (q := 71) rfl ?_
    have h := Option.some.inj h
    exact J_ireturn dX10_needy_71 rfl rfl (hr _ _ h.symm)
  · rw [if_neg c1] at h
    refine J_iload_n (z := 1) dX10_needy_26 rfl rfl (q := 27) rfl ?_
    refine J_aload_n (z := 0) dX10_needy_27 rfl rfl (q := 28) rfl ?_
    refine J_aload_n (z := 0) dX10_needy_28 rfl rfl (q := 29) rfl ?_
    obtain ⟨r3, er3, h⟩ := bindS h
    refine J_getR dX10_needy_29 lRX10_49 ha0 rfl (by decide) er3 (q := 32) rfl (fun fr3 => ?_)
    refine J_iconst (x := 4) dX10_needy_32 (by decide) (q := 33) rfl ?_
    refine J_iload_n (z := 2) dX10_needy_33 rfl rfl (q := 34) rfl ?_
    refine J_imul dX10_needy_34  (q := 35) rfl ?_
    refine J_iconst (x := 3) dX10_needy_35 (by decide) (q := 36) rfl ?_
    refine J_iadd dX10_needy_36  (q := 37) rfl ?_
    obtain ⟨g4, h⟩ := iteS h
    refine J_iald dX10_needy_37 fr3 (ixB_ok g4) (q := 38) rfl ?_
    obtain ⟨vk5, hk5, h⟩ := bindS h
    refine J_cVi (as := [.int (gI σ r3 (Int32.toNatClampNeg ((4 * a2) + 3)))]) dX10_needy_38 mRX10_492 ha0 (tX10_bookBits ha0 hk5) rfl (Nat.le_of_ble_eq_true rfl) (Nat.le_of_ble_eq_true rfl) (Nat.le_of_ble_eq_true rfl) (q := 41) rfl ?_
    intro bk5
    refine J_aload_n (z := 0) dX10_needy_41 rfl rfl (q := 42) rfl ?_
    obtain ⟨r6, er6, h⟩ := bindS h
    refine J_getR dX10_needy_42 lRX10_61 ha0 rfl (by decide) er6 (q := 45) rfl (fun fr6 => ?_)
    refine J_iload_n (z := 2) dX10_needy_45 rfl rfl (q := 46) rfl ?_
    obtain ⟨vk7, hk7, h⟩ := bindS h
    refine J_cSi (as := [.ref r6, .int a2]) dX10_needy_46 mRX10_355 (tX10_knownBits fr6 hk7) rfl (Nat.le_of_ble_eq_true rfl) (Nat.le_of_ble_eq_true rfl) (Nat.le_of_ble_eq_true rfl) (q := 49) rfl ?_
    intro bk7
    refine J_iconst (x := (-1)) dX10_needy_49 (by decide) (q := 50) rfl ?_
    refine J_ixor dX10_needy_50  (q := 51) rfl ?_
    refine J_iand dX10_needy_51  (q := 52) rfl ?_
    refine J_if_eq (tgt := 61) dX10_needy_52 (by decide) (q := 55) rfl (fun c7 => ?_) (fun c7 => ?_)
    · rw [if_pos c7] at h
      refine J_iconst (x := 0) dX10_needy_61 (by decide) (q := 62) rfl ?_
      refine J_pick [0, 2] rfl ?_
      exact tX10_needy_b62 ha0 h hc hr
    · rw [if_neg c7] at h
      refine J_iconst (x := 1) dX10_needy_55 (by decide) (q := 56) rfl ?_
      refine J_iload_n (z := 2) dX10_needy_56 rfl rfl (q := 57) rfl ?_
      refine J_ishl dX10_needy_57  (q := 58) rfl ?_
      refine J_goto (tgt := 62) dX10_needy_58 (by decide) ?_
      refine J_pick [0, 2] rfl ?_
      exact tX10_needy_b62 ha0 h hc hr

def fX10_needy_w18 (a0 : Nat) (a1 : Int32) (a2 : Int32) (σ : Mm) : Option (Int32 × Mm) :=
  wh (fun a : Int32 × Int32 => fX10_needy_l18 a0 a.1 a.2 σ) BIG (a1, a2)
set_option maxRecDepth 20000 in
set_option maxHeartbeats 2000000 in
theorem tX10_needy_w18 {X : XS} {n : Nat} {σ : Mm} {F : Nat × Option Value × Mm} {a0 : Nat} {a1 : Int32} {a2 : Int32} (ha0 : RT n a0 110) {res : Int32 × Mm} (h : fX10_needy_w18 a0 a1 a2 σ = some res) (hr : ∀ (v : Int32) (s : Mm), res = (v, s) → F = (n, some (.int v), s)) : J X mX10_needy 3 0 0 F 18 [(0, .ref a0), (1, .int a1), (2, .int a2)] [] n σ := by
  unfold fX10_needy_w18 at h
  refine wh_rule (P := fun a : Int32 × Int32 => J X mX10_needy 3 0 0 F 18 [(0, .ref a0), (1, .int a.1), (2, .int a.2)] [] n σ) (K := fun b => b = res) ?_ _ _ _ h rfl
  intro a
  refine ⟨fun a2 hb hP => ?_, fun b hb hK => ?_⟩
  · exact tX10_needy_l18 ha0 hb (fun _ _ e => by cases e; exact hP) (fun _ _ e => by cases e)
  · subst hK
    exact tX10_needy_l18 ha0 hb (fun _ _ e => by cases e) (fun v0 v1 e => hr v0 v1 (Sum.inr.inj e))

def fX10_needy (a0 : Nat) (σ : Mm) : Option (Int32 × Mm) :=
  if (gI (sI σ a0 0 0) a0 27) = 0 then some ((-1), (sI σ a0 0 0)) else (fX10_needy_w18 a0 0 0 (sI σ a0 0 0)).bind (fun o9 => some o9)
set_option maxRecDepth 20000 in
set_option maxHeartbeats 2000000 in
theorem tX10_needy {X : XS} {n : Nat} {σ : Mm} {a0 : Nat} (ha0 : RT n a0 110) {res : Int32 × Mm} (h : fX10_needy a0 σ = some res) : MT X yX10_needy mX10_needy 3 0 0 [.ref a0] n σ (n, some (.int res.1), res.2) := by
  unfold fX10_needy at h
  refine MT_of (by decide +kernel) rfl (fun h => by cases h) (Nat.le_of_ble_eq_true rfl) ?_
  show J X mX10_needy 3 0 0 (n, some (.int res.1), res.2) 0 [(0, .ref a0)] [] n σ
  refine J_aload_n (z := 0) dX10_needy_0 rfl rfl (q := 1) rfl ?_
  refine J_iconst (x := 0) dX10_needy_1 (by decide) (q := 2) rfl ?_
  refine J_putI dX10_needy_2 lRX10_96 (fun h => by cases h) ha0 rfl (q := 5) rfl ?_
  refine J_aload_n (z := 0) dX10_needy_5 rfl rfl (q := 6) rfl ?_
  refine J_getI dX10_needy_6 lRX10_291 ha0 rfl (q := 9) rfl ?_
  refine J_if_ne (tgt := 14) dX10_needy_9 (by decide) (q := 12) rfl (fun c0 => ?_) (fun c0 => ?_)
  · rw [if_neg c0] at h
    refine J_iconst (x := 0) dX10_needy_14 (by decide) (q := 15) rfl ?_
    refine J_istore_n (lv' := [(1, .int 0), (0, .ref a0)]) dX10_needy_15 rfl (by decide) rfl (q := 16) rfl ?_
    refine J_iconst (x := 0) dX10_needy_16 (by decide) (q := 17) rfl ?_
    refine J_istore_n (lv' := [(2, .int 0), (1, .int 0), (0, .ref a0)]) dX10_needy_17 rfl (by decide) rfl (q := 18) rfl ?_
    obtain ⟨o9, hlo9, h⟩ := bindS h
    refine J_pick [2, 1, 0] rfl ?_
    refine tX10_needy_w18 ha0 hlo9 ?_
    · intro vo9 so9 qo9
      rw [qo9] at h
      try dsimp only [Sum.elim_inl, Sum.elim_inr] at h
      have h := Option.some.inj h
      subst h
      rfl
  · rw [if_pos c0] at h
    refine J_iconst (x := (-1)) dX10_needy_12 (by decide) (q := 13) rfl ?_
    have h := Option.some.inj h
    subst h
    exact J_ireturn dX10_needy_13 rfl rfl rfl

def fX10_known_b42 (a0 : Nat) (a2 : Int32) (z0 : Int32) (z1 : Int32) (σ : Mm) : Option ((Int32 × Int32) ⊕ (Int32 × Mm)) :=
  some (Sum.inl ((z0 ||| z1), (a2 + 1)))
set_option maxRecDepth 20000 in
set_option maxHeartbeats 2000000 in
theorem tX10_known_b42 {X : XS} {n : Nat} {σ : Mm} {F : Nat × Option Value × Mm} {a0 : Nat} {a2 : Int32} {z0 : Int32} {z1 : Int32} (ha0 : RT n a0 110) {res : (Int32 × Int32) ⊕ (Int32 × Mm)} (h : fX10_known_b42 a0 a2 z0 z1 σ = some res) (hc : ∀ (b1 : Int32) (b2 : Int32), res = .inl (b1, b2) → J X mX10_known 3 0 0 F 18 [(0, .ref a0), (1, .int b1), (2, .int b2)] [] n σ) (hr : ∀ (v : Int32) (s : Mm), res = .inr (v, s) → F = (n, some (.int v), s)) : J X mX10_known 3 0 0 F 42 [(0, .ref a0), (2, .int a2)] [.int z1, .int z0] n σ := by
  unfold fX10_known_b42 at h
  refine J_ior dX10_known_42  (q := 43) rfl ?_
  refine J_istore_n (lv' := [(1, .int (z0 ||| z1)), (0, .ref a0), (2, .int a2)]) dX10_known_43 rfl (by decide) rfl (q := 44) rfl ?_
  refine J_iinc (z := 2) (y := (a2 + 1)) (lv' := [(2, .int (a2 + 1)), (1, .int (z0 ||| z1)), (0, .ref a0)]) dX10_known_44 rfl rfl (by decide) rfl (q := 47) rfl ?_
  refine J_goto (tgt := 18) dX10_known_47 (by decide) ?_
  have h := Option.some.inj h
  refine J_pick [2, 1, 0] rfl ?_
  exact hc _ _ h.symm

def fX10_known_l18 (a0 : Nat) (a1 : Int32) (a2 : Int32) (σ : Mm) : Option ((Int32 × Int32) ⊕ (Int32 × Mm)) :=
  if (gI σ a0 27) ≤ a2 then some (Sum.inr (a1, σ)) else (fX10_knowers a0 a2 σ).bind fun vk3 => if vk3 ≤ 0 then fX10_known_b42 a0 a2 a1 0 σ else fX10_known_b42 a0 a2 a1 (shlI 1 a2) σ
set_option maxRecDepth 20000 in
set_option maxHeartbeats 2000000 in
theorem tX10_known_l18 {X : XS} {n : Nat} {σ : Mm} {F : Nat × Option Value × Mm} {a0 : Nat} {a1 : Int32} {a2 : Int32} (ha0 : RT n a0 110) {res : (Int32 × Int32) ⊕ (Int32 × Mm)} (h : fX10_known_l18 a0 a1 a2 σ = some res) (hc : ∀ (b1 : Int32) (b2 : Int32), res = .inl (b1, b2) → J X mX10_known 3 0 0 F 18 [(0, .ref a0), (1, .int b1), (2, .int b2)] [] n σ) (hr : ∀ (v : Int32) (s : Mm), res = .inr (v, s) → F = (n, some (.int v), s)) : J X mX10_known 3 0 0 F 18 [(0, .ref a0), (1, .int a1), (2, .int a2)] [] n σ := by
  unfold fX10_known_l18 at h
  refine J_iload_n (z := 2) dX10_known_18 rfl rfl (q := 19) rfl ?_
  refine J_aload_n (z := 0) dX10_known_19 rfl rfl (q := 20) rfl ?_
  refine J_getI dX10_known_20 lRX10_291 ha0 rfl (q := 23) rfl ?_
  refine J_icmp_ge (tgt := 50) dX10_known_23 (by decide) (q := 26) rfl (fun c1 => ?_) (fun c1 => ?_)
  · rw [if_pos c1] at h
    refine J_iload_n (z := 1) dX10_known_50 rfl rfl (q := 51) rfl ?_
    have h := Option.some.inj h
    exact J_ireturn dX10_known_51 rfl rfl (hr _ _ h.symm)
  · rw [if_neg c1] at h
    refine J_iload_n (z := 1) dX10_known_26 rfl rfl (q := 27) rfl ?_
    refine J_aload_n (z := 0) dX10_known_27 rfl rfl (q := 28) rfl ?_
    refine J_iload_n (z := 2) dX10_known_28 rfl rfl (q := 29) rfl ?_
    obtain ⟨vk3, hk3, h⟩ := bindS h
    refine J_cVi (as := [.int a2]) dX10_known_29 mRX10_495 ha0 (tX10_knowers ha0 hk3) rfl (Nat.le_of_ble_eq_true rfl) (Nat.le_of_ble_eq_true rfl) (Nat.le_of_ble_eq_true rfl) (q := 32) rfl ?_
    intro bk3
    refine J_if_le (tgt := 41) dX10_known_32 (by decide) (q := 35) rfl (fun c3 => ?_) (fun c3 => ?_)
    · rw [if_pos c3] at h
      refine J_iconst (x := 0) dX10_known_41 (by decide) (q := 42) rfl ?_
      refine J_pick [0, 2] rfl ?_
      exact tX10_known_b42 ha0 h hc hr
    · rw [if_neg c3] at h
      refine J_iconst (x := 1) dX10_known_35 (by decide) (q := 36) rfl ?_
      refine J_iload_n (z := 2) dX10_known_36 rfl rfl (q := 37) rfl ?_
      refine J_ishl dX10_known_37  (q := 38) rfl ?_
      refine J_goto (tgt := 42) dX10_known_38 (by decide) ?_
      refine J_pick [0, 2] rfl ?_
      exact tX10_known_b42 ha0 h hc hr

def fX10_known_w18 (a0 : Nat) (a1 : Int32) (a2 : Int32) (σ : Mm) : Option (Int32 × Mm) :=
  wh (fun a : Int32 × Int32 => fX10_known_l18 a0 a.1 a.2 σ) BIG (a1, a2)
set_option maxRecDepth 20000 in
set_option maxHeartbeats 2000000 in
theorem tX10_known_w18 {X : XS} {n : Nat} {σ : Mm} {F : Nat × Option Value × Mm} {a0 : Nat} {a1 : Int32} {a2 : Int32} (ha0 : RT n a0 110) {res : Int32 × Mm} (h : fX10_known_w18 a0 a1 a2 σ = some res) (hr : ∀ (v : Int32) (s : Mm), res = (v, s) → F = (n, some (.int v), s)) : J X mX10_known 3 0 0 F 18 [(0, .ref a0), (1, .int a1), (2, .int a2)] [] n σ := by
  unfold fX10_known_w18 at h
  refine wh_rule (P := fun a : Int32 × Int32 => J X mX10_known 3 0 0 F 18 [(0, .ref a0), (1, .int a.1), (2, .int a.2)] [] n σ) (K := fun b => b = res) ?_ _ _ _ h rfl
  intro a
  refine ⟨fun a2 hb hP => ?_, fun b hb hK => ?_⟩
  · exact tX10_known_l18 ha0 hb (fun _ _ e => by cases e; exact hP) (fun _ _ e => by cases e)
  · subst hK
    exact tX10_known_l18 ha0 hb (fun _ _ e => by cases e) (fun v0 v1 e => hr v0 v1 (Sum.inr.inj e))

def fX10_known (a0 : Nat) (σ : Mm) : Option (Int32 × Mm) :=
  if (gI (sI σ a0 0 0) a0 27) = 0 then some ((-1), (sI σ a0 0 0)) else (fX10_known_w18 a0 0 0 (sI σ a0 0 0)).bind (fun o5 => some o5)
set_option maxRecDepth 20000 in
set_option maxHeartbeats 2000000 in
theorem tX10_known {X : XS} {n : Nat} {σ : Mm} {a0 : Nat} (ha0 : RT n a0 110) {res : Int32 × Mm} (h : fX10_known a0 σ = some res) : MT X yX10_known mX10_known 3 0 0 [.ref a0] n σ (n, some (.int res.1), res.2) := by
  unfold fX10_known at h
  refine MT_of (by decide +kernel) rfl (fun h => by cases h) (Nat.le_of_ble_eq_true rfl) ?_
  show J X mX10_known 3 0 0 (n, some (.int res.1), res.2) 0 [(0, .ref a0)] [] n σ
  refine J_aload_n (z := 0) dX10_known_0 rfl rfl (q := 1) rfl ?_
  refine J_iconst (x := 0) dX10_known_1 (by decide) (q := 2) rfl ?_
  refine J_putI dX10_known_2 lRX10_96 (fun h => by cases h) ha0 rfl (q := 5) rfl ?_
  refine J_aload_n (z := 0) dX10_known_5 rfl rfl (q := 6) rfl ?_
  refine J_getI dX10_known_6 lRX10_291 ha0 rfl (q := 9) rfl ?_
  refine J_if_ne (tgt := 14) dX10_known_9 (by decide) (q := 12) rfl (fun c0 => ?_) (fun c0 => ?_)
  · rw [if_neg c0] at h
    refine J_iconst (x := 0) dX10_known_14 (by decide) (q := 15) rfl ?_
    refine J_istore_n (lv' := [(1, .int 0), (0, .ref a0)]) dX10_known_15 rfl (by decide) rfl (q := 16) rfl ?_
    refine J_iconst (x := 0) dX10_known_16 (by decide) (q := 17) rfl ?_
    refine J_istore_n (lv' := [(2, .int 0), (1, .int 0), (0, .ref a0)]) dX10_known_17 rfl (by decide) rfl (q := 18) rfl ?_
    obtain ⟨o5, hlo5, h⟩ := bindS h
    refine J_pick [2, 1, 0] rfl ?_
    refine tX10_known_w18 ha0 hlo5 ?_
    · intro vo5 so5 qo5
      rw [qo5] at h
      try dsimp only [Sum.elim_inl, Sum.elim_inr] at h
      have h := Option.some.inj h
      subst h
      rfl
  · rw [if_pos c0] at h
    refine J_iconst (x := (-1)) dX10_known_12 (by decide) (q := 13) rfl ?_
    have h := Option.some.inj h
    subst h
    exact J_ireturn dX10_known_13 rfl rfl rfl

def fX10_isSplit_b64 (a0 : Nat) (a1 : Int32) (a2 : Int32) (a3 : Int32) (σ : Mm) : Option (Int32 ⊕ (Int32 ⊕ Unit)) :=
  some (Sum.inl (a3 + 1))
set_option maxRecDepth 20000 in
set_option maxHeartbeats 2000000 in
theorem tX10_isSplit_b64 {X : XS} {n : Nat} {σ : Mm} {F : Nat × Option Value × Mm} {a0 : Nat} {a1 : Int32} {a2 : Int32} {a3 : Int32} (ha0 : RT n a0 110) {res : Int32 ⊕ (Int32 ⊕ Unit)} (h : fX10_isSplit_b64 a0 a1 a2 a3 σ = some res) (hc : ∀ (b3 : Int32), res = .inl b3 → J X mX10_isSplit 2 0 0 F 12 [(0, .ref a0), (1, .int a1), (2, .int a2), (3, .int b3)] [] n σ) (he0 : res = .inr (Sum.inr ()) → J X mX10_isSplit 2 0 0 F 70 [(0, .ref a0), (1, .int a1), (2, .int a2)] [] n σ) (hr : ∀ (v : Int32), res = .inr (Sum.inl v) → F = (n, some (.int v), σ)) : J X mX10_isSplit 2 0 0 F 64 [(0, .ref a0), (1, .int a1), (2, .int a2), (3, .int a3)] [] n σ := by
  unfold fX10_isSplit_b64 at h
  refine J_iinc (z := 3) (y := (a3 + 1)) (lv' := [(3, .int (a3 + 1)), (0, .ref a0), (1, .int a1), (2, .int a2)]) dX10_isSplit_64 rfl rfl (by decide) rfl (q := 67) rfl ?_
  refine J_goto (tgt := 12) dX10_isSplit_67 (by decide) ?_
  have h := Option.some.inj h
  refine J_pick [1, 2, 3, 0] rfl ?_
  exact hc _ h.symm

def fX10_isSplit_l12 (a0 : Nat) (a1 : Int32) (a2 : Int32) (a3 : Int32) (σ : Mm) : Option (Int32 ⊕ (Int32 ⊕ Unit)) :=
  if a2 ≤ a3 then some (Sum.inr (Sum.inr ())) else (gR σ a0 33).bind fun r3 => (fX10_knows r3 a2 a1 σ).bind fun vk4 => if vk4 = 0 then fX10_isSplit_b64 a0 a1 a2 a3 σ else (fX10_knows r3 a3 a1 σ).bind fun vk6 => if vk6 = 0 then fX10_isSplit_b64 a0 a1 a2 a3 σ else (fX10_recalls r3 a2 a1 σ).bind fun vk8 => (fX10_recalls r3 a3 a1 σ).bind fun vk9 => if vk8 = vk9 then fX10_isSplit_b64 a0 a1 a2 a3 σ else some (Sum.inr (Sum.inl 1))
set_option maxRecDepth 20000 in
set_option maxHeartbeats 2000000 in
theorem tX10_isSplit_l12 {X : XS} {n : Nat} {σ : Mm} {F : Nat × Option Value × Mm} {a0 : Nat} {a1 : Int32} {a2 : Int32} {a3 : Int32} (ha0 : RT n a0 110) {res : Int32 ⊕ (Int32 ⊕ Unit)} (h : fX10_isSplit_l12 a0 a1 a2 a3 σ = some res) (hc : ∀ (b3 : Int32), res = .inl b3 → J X mX10_isSplit 2 0 0 F 12 [(0, .ref a0), (1, .int a1), (2, .int a2), (3, .int b3)] [] n σ) (he0 : res = .inr (Sum.inr ()) → J X mX10_isSplit 2 0 0 F 70 [(0, .ref a0), (1, .int a1), (2, .int a2)] [] n σ) (hr : ∀ (v : Int32), res = .inr (Sum.inl v) → F = (n, some (.int v), σ)) : J X mX10_isSplit 2 0 0 F 12 [(0, .ref a0), (1, .int a1), (2, .int a2), (3, .int a3)] [] n σ := by
  unfold fX10_isSplit_l12 at h
  refine J_iload_n (z := 3) dX10_isSplit_12 rfl rfl (q := 13) rfl ?_
  refine J_iload_n (z := 2) dX10_isSplit_13 rfl rfl (q := 14) rfl ?_
  refine J_icmp_ge (tgt := 70) dX10_isSplit_14 (by decide) (q := 17) rfl (fun c1 => ?_) (fun c1 => ?_)
  · rw [if_pos c1] at h
    have h := Option.some.inj h
    refine J_pick [0, 1, 2] rfl ?_
    exact he0  h.symm
  · rw [if_neg c1] at h
    refine J_aload_n (z := 0) dX10_isSplit_17 rfl rfl (q := 18) rfl ?_
    obtain ⟨r3, er3, h⟩ := bindS h
    refine J_getR dX10_isSplit_18 lRX10_61 ha0 rfl (by decide) er3 (q := 21) rfl (fun fr3 => ?_)
    refine J_iload_n (z := 2) dX10_isSplit_21 rfl rfl (q := 22) rfl ?_
    refine J_iload_n (z := 1) dX10_isSplit_22 rfl rfl (q := 23) rfl ?_
    obtain ⟨vk4, hk4, h⟩ := bindS h
    refine J_cSi (as := [.ref r3, .int a2, .int a1]) dX10_isSplit_23 mRX10_351 (tX10_knows fr3 hk4) rfl (Nat.le_of_ble_eq_true rfl) (Nat.le_of_ble_eq_true rfl) (Nat.le_of_ble_eq_true rfl) (q := 26) rfl ?_
    intro bk4
    refine J_if_eq (tgt := 64) dX10_isSplit_26 (by decide) (q := 29) rfl (fun c4 => ?_) (fun c4 => ?_)
    · rw [if_pos c4] at h
      refine J_pick [0, 1, 2, 3] rfl ?_
      exact tX10_isSplit_b64 ha0 h hc he0 hr
    · rw [if_neg c4] at h
      refine J_aload_n (z := 0) dX10_isSplit_29 rfl rfl (q := 30) rfl ?_
      refine J_getR dX10_isSplit_30 lRX10_61 ha0 rfl (by decide) er3 (q := 33) rfl (fun _ => ?_)
      refine J_iload_n (z := 3) dX10_isSplit_33 rfl rfl (q := 34) rfl ?_
      refine J_iload_n (z := 1) dX10_isSplit_34 rfl rfl (q := 35) rfl ?_
      obtain ⟨vk6, hk6, h⟩ := bindS h
      refine J_cSi (as := [.ref r3, .int a3, .int a1]) dX10_isSplit_35 mRX10_351 (tX10_knows fr3 hk6) rfl (Nat.le_of_ble_eq_true rfl) (Nat.le_of_ble_eq_true rfl) (Nat.le_of_ble_eq_true rfl) (q := 38) rfl ?_
      intro bk6
      refine J_if_eq (tgt := 64) dX10_isSplit_38 (by decide) (q := 41) rfl (fun c6 => ?_) (fun c6 => ?_)
      · rw [if_pos c6] at h
        refine J_pick [0, 1, 2, 3] rfl ?_
        exact tX10_isSplit_b64 ha0 h hc he0 hr
      · rw [if_neg c6] at h
        refine J_aload_n (z := 0) dX10_isSplit_41 rfl rfl (q := 42) rfl ?_
        refine J_getR dX10_isSplit_42 lRX10_61 ha0 rfl (by decide) er3 (q := 45) rfl (fun _ => ?_)
        refine J_iload_n (z := 2) dX10_isSplit_45 rfl rfl (q := 46) rfl ?_
        refine J_iload_n (z := 1) dX10_isSplit_46 rfl rfl (q := 47) rfl ?_
        obtain ⟨vk8, hk8, h⟩ := bindS h
        refine J_cSi (as := [.ref r3, .int a2, .int a1]) dX10_isSplit_47 mRX10_358 (tX10_recalls fr3 hk8) rfl (Nat.le_of_ble_eq_true rfl) (Nat.le_of_ble_eq_true rfl) (Nat.le_of_ble_eq_true rfl) (q := 50) rfl ?_
        intro bk8
        refine J_aload_n (z := 0) dX10_isSplit_50 rfl rfl (q := 51) rfl ?_
        refine J_getR dX10_isSplit_51 lRX10_61 ha0 rfl (by decide) er3 (q := 54) rfl (fun _ => ?_)
        refine J_iload_n (z := 3) dX10_isSplit_54 rfl rfl (q := 55) rfl ?_
        refine J_iload_n (z := 1) dX10_isSplit_55 rfl rfl (q := 56) rfl ?_
        obtain ⟨vk9, hk9, h⟩ := bindS h
        refine J_cSi (as := [.ref r3, .int a3, .int a1]) dX10_isSplit_56 mRX10_358 (tX10_recalls fr3 hk9) rfl (Nat.le_of_ble_eq_true rfl) (Nat.le_of_ble_eq_true rfl) (Nat.le_of_ble_eq_true rfl) (q := 59) rfl ?_
        intro bk9
        refine J_icmp_eq (tgt := 64) dX10_isSplit_59 (by decide) (q := 62) rfl (fun c9 => ?_) (fun c9 => ?_)
        · rw [if_pos c9] at h
          refine J_pick [0, 1, 2, 3] rfl ?_
          exact tX10_isSplit_b64 ha0 h hc he0 hr
        · rw [if_neg c9] at h
          refine J_iconst (x := 1) dX10_isSplit_62 (by decide) (q := 63) rfl ?_
          have h := Option.some.inj h
          exact J_ireturn dX10_isSplit_63 rfl rfl (hr _ h.symm)

def fX10_isSplit_w12 (a0 : Nat) (a1 : Int32) (a2 : Int32) (a3 : Int32) (σ : Mm) : Option (Int32 ⊕ Unit) :=
  wh (fun a : Int32 => fX10_isSplit_l12 a0 a1 a2 a σ) BIG a3
set_option maxRecDepth 20000 in
set_option maxHeartbeats 2000000 in
theorem tX10_isSplit_w12 {X : XS} {n : Nat} {σ : Mm} {F : Nat × Option Value × Mm} {a0 : Nat} {a1 : Int32} {a2 : Int32} {a3 : Int32} (ha0 : RT n a0 110) {res : Int32 ⊕ Unit} (h : fX10_isSplit_w12 a0 a1 a2 a3 σ = some res) (he0 : res = (Sum.inr ()) → J X mX10_isSplit 2 0 0 F 70 [(0, .ref a0), (1, .int a1), (2, .int a2)] [] n σ) (hr : ∀ (v : Int32), res = (Sum.inl v) → F = (n, some (.int v), σ)) : J X mX10_isSplit 2 0 0 F 12 [(0, .ref a0), (1, .int a1), (2, .int a2), (3, .int a3)] [] n σ := by
  unfold fX10_isSplit_w12 at h
  refine wh_rule (P := fun a : Int32 => J X mX10_isSplit 2 0 0 F 12 [(0, .ref a0), (1, .int a1), (2, .int a2), (3, .int a)] [] n σ) (K := fun b => b = res) ?_ _ _ _ h rfl
  intro a
  refine ⟨fun a2 hb hP => ?_, fun b hb hK => ?_⟩
  · exact tX10_isSplit_l12 ha0 hb (fun _ e => by cases e; exact hP) (fun e => by cases e) (fun _ e => by cases e)
  · subst hK
    exact tX10_isSplit_l12 ha0 hb (fun _ e => by cases e) (fun e => he0 (Sum.inr.inj e)) (fun v0 e => hr v0 (Sum.inr.inj e))

def fX10_isSplit_l2 (a0 : Nat) (a1 : Int32) (a2 : Int32) (σ : Mm) : Option (Int32 ⊕ (Int32)) :=
  if (gI σ a0 28) ≤ a2 then some (Sum.inr 0) else (fX10_isSplit_w12 a0 a1 a2 0 σ).bind (Sum.elim (fun eo110 => some (Sum.inr eo110)) (fun eo111 => some (Sum.inl (a2 + 1))))
set_option maxRecDepth 20000 in
set_option maxHeartbeats 2000000 in
theorem tX10_isSplit_l2 {X : XS} {n : Nat} {σ : Mm} {F : Nat × Option Value × Mm} {a0 : Nat} {a1 : Int32} {a2 : Int32} (ha0 : RT n a0 110) {res : Int32 ⊕ (Int32)} (h : fX10_isSplit_l2 a0 a1 a2 σ = some res) (hc : ∀ (b2 : Int32), res = .inl b2 → J X mX10_isSplit 2 0 0 F 2 [(0, .ref a0), (1, .int a1), (2, .int b2)] [] n σ) (hr : ∀ (v : Int32), res = .inr v → F = (n, some (.int v), σ)) : J X mX10_isSplit 2 0 0 F 2 [(0, .ref a0), (1, .int a1), (2, .int a2)] [] n σ := by
  unfold fX10_isSplit_l2 at h
  refine J_iload_n (z := 2) dX10_isSplit_2 rfl rfl (q := 3) rfl ?_
  refine J_aload_n (z := 0) dX10_isSplit_3 rfl rfl (q := 4) rfl ?_
  refine J_getI dX10_isSplit_4 lRX10_294 ha0 rfl (q := 7) rfl ?_
  refine J_icmp_ge (tgt := 76) dX10_isSplit_7 (by decide) (q := 10) rfl (fun c0 => ?_) (fun c0 => ?_)
  · rw [if_pos c0] at h
    refine J_iconst (x := 0) dX10_isSplit_76 (by decide) (q := 77) rfl ?_
    have h := Option.some.inj h
    exact J_ireturn dX10_isSplit_77 rfl rfl (hr _ h.symm)
  · rw [if_neg c0] at h
    refine J_iconst (x := 0) dX10_isSplit_10 (by decide) (q := 11) rfl ?_
    refine J_istore_n (lv' := [(3, .int 0), (0, .ref a0), (1, .int a1), (2, .int a2)]) dX10_isSplit_11 rfl (by decide) rfl (q := 12) rfl ?_
    obtain ⟨o11, hlo11, h⟩ := bindS h
    refine J_pick [1, 2, 3, 0] rfl ?_
    refine tX10_isSplit_w12 ha0 hlo11 ?_ ?_
    · intro qo11
      rw [qo11] at h
      try dsimp only [Sum.elim_inl, Sum.elim_inr] at h
      refine J_iinc (z := 2) (y := (a2 + 1)) (lv' := [(2, .int (a2 + 1)), (0, .ref a0), (1, .int a1)]) dX10_isSplit_70 rfl rfl (by decide) rfl (q := 73) rfl ?_
      refine J_goto (tgt := 2) dX10_isSplit_73 (by decide) ?_
      have h := Option.some.inj h
      refine J_pick [1, 2, 0] rfl ?_
      exact hc _ h.symm
    · intro vo11 qo11
      rw [qo11] at h
      try dsimp only [Sum.elim_inl, Sum.elim_inr] at h
      have h := Option.some.inj h
      exact hr _ h.symm

def fX10_isSplit_w2 (a0 : Nat) (a1 : Int32) (a2 : Int32) (σ : Mm) : Option (Int32) :=
  wh (fun a : Int32 => fX10_isSplit_l2 a0 a1 a σ) BIG a2
set_option maxRecDepth 20000 in
set_option maxHeartbeats 2000000 in
theorem tX10_isSplit_w2 {X : XS} {n : Nat} {σ : Mm} {F : Nat × Option Value × Mm} {a0 : Nat} {a1 : Int32} {a2 : Int32} (ha0 : RT n a0 110) {res : Int32} (h : fX10_isSplit_w2 a0 a1 a2 σ = some res) (hr : ∀ (v : Int32), res = v → F = (n, some (.int v), σ)) : J X mX10_isSplit 2 0 0 F 2 [(0, .ref a0), (1, .int a1), (2, .int a2)] [] n σ := by
  unfold fX10_isSplit_w2 at h
  refine wh_rule (P := fun a : Int32 => J X mX10_isSplit 2 0 0 F 2 [(0, .ref a0), (1, .int a1), (2, .int a)] [] n σ) (K := fun b => b = res) ?_ _ _ _ h rfl
  intro a
  refine ⟨fun a2 hb hP => ?_, fun b hb hK => ?_⟩
  · exact tX10_isSplit_l2 ha0 hb (fun _ e => by cases e; exact hP) (fun _ e => by cases e)
  · subst hK
    exact tX10_isSplit_l2 ha0 hb (fun _ e => by cases e) (fun v0 e => hr v0 (Sum.inr.inj e))

def fX10_isSplit (a0 : Nat) (a1 : Int32) (σ : Mm) : Option (Int32) :=
  (fX10_isSplit_w2 a0 a1 0 σ).bind (fun o12 => some o12)
set_option maxRecDepth 20000 in
set_option maxHeartbeats 2000000 in
theorem tX10_isSplit {X : XS} {n : Nat} {σ : Mm} {a0 : Nat} {a1 : Int32} (ha0 : RT n a0 110) {res : Int32} (h : fX10_isSplit a0 a1 σ = some res) : MT X yX10_isSplit mX10_isSplit 2 0 0 [.ref a0, .int a1] n σ (n, some (.int res), σ) := by
  unfold fX10_isSplit at h
  refine MT_of (by decide +kernel) rfl (fun h => by cases h) (Nat.le_of_ble_eq_true rfl) ?_
  show J X mX10_isSplit 2 0 0 (n, some (.int res), σ) 0 [(0, .ref a0), (1, .int a1)] [] n σ
  refine J_iconst (x := 0) dX10_isSplit_0 (by decide) (q := 1) rfl ?_
  refine J_istore_n (lv' := [(2, .int 0), (0, .ref a0), (1, .int a1)]) dX10_isSplit_1 rfl (by decide) rfl (q := 2) rfl ?_
  obtain ⟨o12, hlo12, h⟩ := bindS h
  refine J_pick [1, 2, 0] rfl ?_
  refine tX10_isSplit_w2 ha0 hlo12 ?_
  · intro vo12 qo12
    rw [qo12] at h
    try dsimp only [Sum.elim_inl, Sum.elim_inr] at h
    have h := Option.some.inj h
    subst h
    rfl

def fX10_sure_b51 (a0 : Nat) (a2 : Int32) (z0 : Int32) (z1 : Int32) (σ : Mm) : Option ((Int32 × Int32) ⊕ (Int32 × Mm)) :=
  some (Sum.inl ((z0 ||| z1), (a2 + 1)))
set_option maxRecDepth 20000 in
set_option maxHeartbeats 2000000 in
theorem tX10_sure_b51 {X : XS} {n : Nat} {σ : Mm} {F : Nat × Option Value × Mm} {a0 : Nat} {a2 : Int32} {z0 : Int32} {z1 : Int32} (ha0 : RT n a0 110) {res : (Int32 × Int32) ⊕ (Int32 × Mm)} (h : fX10_sure_b51 a0 a2 z0 z1 σ = some res) (hc : ∀ (b1 : Int32) (b2 : Int32), res = .inl (b1, b2) → J X mX10_sure 3 0 0 F 18 [(0, .ref a0), (1, .int b1), (2, .int b2)] [] n σ) (hr : ∀ (v : Int32) (s : Mm), res = .inr (v, s) → F = (n, some (.int v), s)) : J X mX10_sure 3 0 0 F 51 [(0, .ref a0), (2, .int a2)] [.int z1, .int z0] n σ := by
  unfold fX10_sure_b51 at h
  refine J_ior dX10_sure_51  (q := 52) rfl ?_
  refine J_istore_n (lv' := [(1, .int (z0 ||| z1)), (0, .ref a0), (2, .int a2)]) dX10_sure_52 rfl (by decide) rfl (q := 53) rfl ?_
  refine J_iinc (z := 2) (y := (a2 + 1)) (lv' := [(2, .int (a2 + 1)), (1, .int (z0 ||| z1)), (0, .ref a0)]) dX10_sure_53 rfl rfl (by decide) rfl (q := 56) rfl ?_
  refine J_goto (tgt := 18) dX10_sure_56 (by decide) ?_
  have h := Option.some.inj h
  refine J_pick [2, 1, 0] rfl ?_
  exact hc _ _ h.symm

def fX10_sure_b50 (a0 : Nat) (a2 : Int32) (z0 : Int32) (σ : Mm) : Option ((Int32 × Int32) ⊕ (Int32 × Mm)) :=
  fX10_sure_b51 a0 a2 z0 0 σ
set_option maxRecDepth 20000 in
set_option maxHeartbeats 2000000 in
theorem tX10_sure_b50 {X : XS} {n : Nat} {σ : Mm} {F : Nat × Option Value × Mm} {a0 : Nat} {a2 : Int32} {z0 : Int32} (ha0 : RT n a0 110) {res : (Int32 × Int32) ⊕ (Int32 × Mm)} (h : fX10_sure_b50 a0 a2 z0 σ = some res) (hc : ∀ (b1 : Int32) (b2 : Int32), res = .inl (b1, b2) → J X mX10_sure 3 0 0 F 18 [(0, .ref a0), (1, .int b1), (2, .int b2)] [] n σ) (hr : ∀ (v : Int32) (s : Mm), res = .inr (v, s) → F = (n, some (.int v), s)) : J X mX10_sure 3 0 0 F 50 [(0, .ref a0), (2, .int a2)] [.int z0] n σ := by
  unfold fX10_sure_b50 at h
  refine J_iconst (x := 0) dX10_sure_50 (by decide) (q := 51) rfl ?_
  refine J_pick [0, 1] rfl ?_
  exact tX10_sure_b51 ha0 h hc hr

def fX10_sure_l18 (a0 : Nat) (a1 : Int32) (a2 : Int32) (σ : Mm) : Option ((Int32 × Int32) ⊕ (Int32 × Mm)) :=
  if (gI σ a0 27) ≤ a2 then some (Sum.inr (a1, σ)) else (fX10_knowers a0 a2 σ).bind fun vk3 => if vk3 ≤ 1 then fX10_sure_b50 a0 a2 a1 σ else (fX10_isSplit a0 a2 σ).bind fun vk5 => if vk5 = 0 then fX10_sure_b51 a0 a2 a1 (shlI 1 a2) σ else fX10_sure_b50 a0 a2 a1 σ
set_option maxRecDepth 20000 in
set_option maxHeartbeats 2000000 in
theorem tX10_sure_l18 {X : XS} {n : Nat} {σ : Mm} {F : Nat × Option Value × Mm} {a0 : Nat} {a1 : Int32} {a2 : Int32} (ha0 : RT n a0 110) {res : (Int32 × Int32) ⊕ (Int32 × Mm)} (h : fX10_sure_l18 a0 a1 a2 σ = some res) (hc : ∀ (b1 : Int32) (b2 : Int32), res = .inl (b1, b2) → J X mX10_sure 3 0 0 F 18 [(0, .ref a0), (1, .int b1), (2, .int b2)] [] n σ) (hr : ∀ (v : Int32) (s : Mm), res = .inr (v, s) → F = (n, some (.int v), s)) : J X mX10_sure 3 0 0 F 18 [(0, .ref a0), (1, .int a1), (2, .int a2)] [] n σ := by
  unfold fX10_sure_l18 at h
  refine J_iload_n (z := 2) dX10_sure_18 rfl rfl (q := 19) rfl ?_
  refine J_aload_n (z := 0) dX10_sure_19 rfl rfl (q := 20) rfl ?_
  refine J_getI dX10_sure_20 lRX10_291 ha0 rfl (q := 23) rfl ?_
  refine J_icmp_ge (tgt := 59) dX10_sure_23 (by decide) (q := 26) rfl (fun c1 => ?_) (fun c1 => ?_)
  · rw [if_pos c1] at h
    refine J_iload_n (z := 1) dX10_sure_59 rfl rfl (q := 60) rfl ?_
    have h := Option.some.inj h
    exact J_ireturn dX10_sure_60 rfl rfl (hr _ _ h.symm)
  · rw [if_neg c1] at h
    refine J_iload_n (z := 1) dX10_sure_26 rfl rfl (q := 27) rfl ?_
    refine J_aload_n (z := 0) dX10_sure_27 rfl rfl (q := 28) rfl ?_
    refine J_iload_n (z := 2) dX10_sure_28 rfl rfl (q := 29) rfl ?_
    obtain ⟨vk3, hk3, h⟩ := bindS h
    refine J_cVi (as := [.int a2]) dX10_sure_29 mRX10_495 ha0 (tX10_knowers ha0 hk3) rfl (Nat.le_of_ble_eq_true rfl) (Nat.le_of_ble_eq_true rfl) (Nat.le_of_ble_eq_true rfl) (q := 32) rfl ?_
    intro bk3
    refine J_iconst (x := 1) dX10_sure_32 (by decide) (q := 33) rfl ?_
    refine J_icmp_le (tgt := 50) dX10_sure_33 (by decide) (q := 36) rfl (fun c3 => ?_) (fun c3 => ?_)
    · rw [if_pos c3] at h
      refine J_pick [0, 2] rfl ?_
      exact tX10_sure_b50 ha0 h hc hr
    · rw [if_neg c3] at h
      refine J_aload_n (z := 0) dX10_sure_36 rfl rfl (q := 37) rfl ?_
      refine J_iload_n (z := 2) dX10_sure_37 rfl rfl (q := 38) rfl ?_
      obtain ⟨vk5, hk5, h⟩ := bindS h
      refine J_cVi (as := [.int a2]) dX10_sure_38 mRX10_498 ha0 (tX10_isSplit ha0 hk5) rfl (Nat.le_of_ble_eq_true rfl) (Nat.le_of_ble_eq_true rfl) (Nat.le_of_ble_eq_true rfl) (q := 41) rfl ?_
      intro bk5
      refine J_if_ne (tgt := 50) dX10_sure_41 (by decide) (q := 44) rfl (fun c5 => ?_) (fun c5 => ?_)
      · rw [if_neg c5] at h
        refine J_pick [0, 2] rfl ?_
        exact tX10_sure_b50 ha0 h hc hr
      · rw [if_pos c5] at h
        refine J_iconst (x := 1) dX10_sure_44 (by decide) (q := 45) rfl ?_
        refine J_iload_n (z := 2) dX10_sure_45 rfl rfl (q := 46) rfl ?_
        refine J_ishl dX10_sure_46  (q := 47) rfl ?_
        refine J_goto (tgt := 51) dX10_sure_47 (by decide) ?_
        refine J_pick [0, 2] rfl ?_
        exact tX10_sure_b51 ha0 h hc hr

def fX10_sure_w18 (a0 : Nat) (a1 : Int32) (a2 : Int32) (σ : Mm) : Option (Int32 × Mm) :=
  wh (fun a : Int32 × Int32 => fX10_sure_l18 a0 a.1 a.2 σ) BIG (a1, a2)
set_option maxRecDepth 20000 in
set_option maxHeartbeats 2000000 in
theorem tX10_sure_w18 {X : XS} {n : Nat} {σ : Mm} {F : Nat × Option Value × Mm} {a0 : Nat} {a1 : Int32} {a2 : Int32} (ha0 : RT n a0 110) {res : Int32 × Mm} (h : fX10_sure_w18 a0 a1 a2 σ = some res) (hr : ∀ (v : Int32) (s : Mm), res = (v, s) → F = (n, some (.int v), s)) : J X mX10_sure 3 0 0 F 18 [(0, .ref a0), (1, .int a1), (2, .int a2)] [] n σ := by
  unfold fX10_sure_w18 at h
  refine wh_rule (P := fun a : Int32 × Int32 => J X mX10_sure 3 0 0 F 18 [(0, .ref a0), (1, .int a.1), (2, .int a.2)] [] n σ) (K := fun b => b = res) ?_ _ _ _ h rfl
  intro a
  refine ⟨fun a2 hb hP => ?_, fun b hb hK => ?_⟩
  · exact tX10_sure_l18 ha0 hb (fun _ _ e => by cases e; exact hP) (fun _ _ e => by cases e)
  · subst hK
    exact tX10_sure_l18 ha0 hb (fun _ _ e => by cases e) (fun v0 v1 e => hr v0 v1 (Sum.inr.inj e))

def fX10_sure (a0 : Nat) (σ : Mm) : Option (Int32 × Mm) :=
  if (gI (sI σ a0 0 0) a0 27) = 0 then some ((-1), (sI σ a0 0 0)) else (fX10_sure_w18 a0 0 0 (sI σ a0 0 0)).bind (fun o7 => some o7)
set_option maxRecDepth 20000 in
set_option maxHeartbeats 2000000 in
theorem tX10_sure {X : XS} {n : Nat} {σ : Mm} {a0 : Nat} (ha0 : RT n a0 110) {res : Int32 × Mm} (h : fX10_sure a0 σ = some res) : MT X yX10_sure mX10_sure 3 0 0 [.ref a0] n σ (n, some (.int res.1), res.2) := by
  unfold fX10_sure at h
  refine MT_of (by decide +kernel) rfl (fun h => by cases h) (Nat.le_of_ble_eq_true rfl) ?_
  show J X mX10_sure 3 0 0 (n, some (.int res.1), res.2) 0 [(0, .ref a0)] [] n σ
  refine J_aload_n (z := 0) dX10_sure_0 rfl rfl (q := 1) rfl ?_
  refine J_iconst (x := 0) dX10_sure_1 (by decide) (q := 2) rfl ?_
  refine J_putI dX10_sure_2 lRX10_96 (fun h => by cases h) ha0 rfl (q := 5) rfl ?_
  refine J_aload_n (z := 0) dX10_sure_5 rfl rfl (q := 6) rfl ?_
  refine J_getI dX10_sure_6 lRX10_291 ha0 rfl (q := 9) rfl ?_
  refine J_if_ne (tgt := 14) dX10_sure_9 (by decide) (q := 12) rfl (fun c0 => ?_) (fun c0 => ?_)
  · rw [if_neg c0] at h
    refine J_iconst (x := 0) dX10_sure_14 (by decide) (q := 15) rfl ?_
    refine J_istore_n (lv' := [(1, .int 0), (0, .ref a0)]) dX10_sure_15 rfl (by decide) rfl (q := 16) rfl ?_
    refine J_iconst (x := 0) dX10_sure_16 (by decide) (q := 17) rfl ?_
    refine J_istore_n (lv' := [(2, .int 0), (1, .int 0), (0, .ref a0)]) dX10_sure_17 rfl (by decide) rfl (q := 18) rfl ?_
    obtain ⟨o7, hlo7, h⟩ := bindS h
    refine J_pick [2, 1, 0] rfl ?_
    refine tX10_sure_w18 ha0 hlo7 ?_
    · intro vo7 so7 qo7
      rw [qo7] at h
      try dsimp only [Sum.elim_inl, Sum.elim_inr] at h
      have h := Option.some.inj h
      subst h
      rfl
  · rw [if_pos c0] at h
    refine J_iconst (x := (-1)) dX10_sure_12 (by decide) (q := 13) rfl ?_
    have h := Option.some.inj h
    subst h
    exact J_ireturn dX10_sure_13 rfl rfl rfl

def fX10_split_b42 (a0 : Nat) (a2 : Int32) (z0 : Int32) (z1 : Int32) (σ : Mm) : Option ((Int32 × Int32) ⊕ (Int32 × Mm)) :=
  some (Sum.inl ((z0 ||| z1), (a2 + 1)))
set_option maxRecDepth 20000 in
set_option maxHeartbeats 2000000 in
theorem tX10_split_b42 {X : XS} {n : Nat} {σ : Mm} {F : Nat × Option Value × Mm} {a0 : Nat} {a2 : Int32} {z0 : Int32} {z1 : Int32} (ha0 : RT n a0 110) {res : (Int32 × Int32) ⊕ (Int32 × Mm)} (h : fX10_split_b42 a0 a2 z0 z1 σ = some res) (hc : ∀ (b1 : Int32) (b2 : Int32), res = .inl (b1, b2) → J X mX10_split 3 0 0 F 18 [(0, .ref a0), (1, .int b1), (2, .int b2)] [] n σ) (hr : ∀ (v : Int32) (s : Mm), res = .inr (v, s) → F = (n, some (.int v), s)) : J X mX10_split 3 0 0 F 42 [(0, .ref a0), (2, .int a2)] [.int z1, .int z0] n σ := by
  unfold fX10_split_b42 at h
  refine J_ior dX10_split_42  (q := 43) rfl ?_
  refine J_istore_n (lv' := [(1, .int (z0 ||| z1)), (0, .ref a0), (2, .int a2)]) dX10_split_43 rfl (by decide) rfl (q := 44) rfl ?_
  refine J_iinc (z := 2) (y := (a2 + 1)) (lv' := [(2, .int (a2 + 1)), (1, .int (z0 ||| z1)), (0, .ref a0)]) dX10_split_44 rfl rfl (by decide) rfl (q := 47) rfl ?_
  refine J_goto (tgt := 18) dX10_split_47 (by decide) ?_
  have h := Option.some.inj h
  refine J_pick [2, 1, 0] rfl ?_
  exact hc _ _ h.symm

def fX10_split_l18 (a0 : Nat) (a1 : Int32) (a2 : Int32) (σ : Mm) : Option ((Int32 × Int32) ⊕ (Int32 × Mm)) :=
  if (gI σ a0 27) ≤ a2 then some (Sum.inr (a1, σ)) else (fX10_isSplit a0 a2 σ).bind fun vk3 => if vk3 = 0 then fX10_split_b42 a0 a2 a1 0 σ else fX10_split_b42 a0 a2 a1 (shlI 1 a2) σ
set_option maxRecDepth 20000 in
set_option maxHeartbeats 2000000 in
theorem tX10_split_l18 {X : XS} {n : Nat} {σ : Mm} {F : Nat × Option Value × Mm} {a0 : Nat} {a1 : Int32} {a2 : Int32} (ha0 : RT n a0 110) {res : (Int32 × Int32) ⊕ (Int32 × Mm)} (h : fX10_split_l18 a0 a1 a2 σ = some res) (hc : ∀ (b1 : Int32) (b2 : Int32), res = .inl (b1, b2) → J X mX10_split 3 0 0 F 18 [(0, .ref a0), (1, .int b1), (2, .int b2)] [] n σ) (hr : ∀ (v : Int32) (s : Mm), res = .inr (v, s) → F = (n, some (.int v), s)) : J X mX10_split 3 0 0 F 18 [(0, .ref a0), (1, .int a1), (2, .int a2)] [] n σ := by
  unfold fX10_split_l18 at h
  refine J_iload_n (z := 2) dX10_split_18 rfl rfl (q := 19) rfl ?_
  refine J_aload_n (z := 0) dX10_split_19 rfl rfl (q := 20) rfl ?_
  refine J_getI dX10_split_20 lRX10_291 ha0 rfl (q := 23) rfl ?_
  refine J_icmp_ge (tgt := 50) dX10_split_23 (by decide) (q := 26) rfl (fun c1 => ?_) (fun c1 => ?_)
  · rw [if_pos c1] at h
    refine J_iload_n (z := 1) dX10_split_50 rfl rfl (q := 51) rfl ?_
    have h := Option.some.inj h
    exact J_ireturn dX10_split_51 rfl rfl (hr _ _ h.symm)
  · rw [if_neg c1] at h
    refine J_iload_n (z := 1) dX10_split_26 rfl rfl (q := 27) rfl ?_
    refine J_aload_n (z := 0) dX10_split_27 rfl rfl (q := 28) rfl ?_
    refine J_iload_n (z := 2) dX10_split_28 rfl rfl (q := 29) rfl ?_
    obtain ⟨vk3, hk3, h⟩ := bindS h
    refine J_cVi (as := [.int a2]) dX10_split_29 mRX10_498 ha0 (tX10_isSplit ha0 hk3) rfl (Nat.le_of_ble_eq_true rfl) (Nat.le_of_ble_eq_true rfl) (Nat.le_of_ble_eq_true rfl) (q := 32) rfl ?_
    intro bk3
    refine J_if_eq (tgt := 41) dX10_split_32 (by decide) (q := 35) rfl (fun c3 => ?_) (fun c3 => ?_)
    · rw [if_pos c3] at h
      refine J_iconst (x := 0) dX10_split_41 (by decide) (q := 42) rfl ?_
      refine J_pick [0, 2] rfl ?_
      exact tX10_split_b42 ha0 h hc hr
    · rw [if_neg c3] at h
      refine J_iconst (x := 1) dX10_split_35 (by decide) (q := 36) rfl ?_
      refine J_iload_n (z := 2) dX10_split_36 rfl rfl (q := 37) rfl ?_
      refine J_ishl dX10_split_37  (q := 38) rfl ?_
      refine J_goto (tgt := 42) dX10_split_38 (by decide) ?_
      refine J_pick [0, 2] rfl ?_
      exact tX10_split_b42 ha0 h hc hr

def fX10_split_w18 (a0 : Nat) (a1 : Int32) (a2 : Int32) (σ : Mm) : Option (Int32 × Mm) :=
  wh (fun a : Int32 × Int32 => fX10_split_l18 a0 a.1 a.2 σ) BIG (a1, a2)
set_option maxRecDepth 20000 in
set_option maxHeartbeats 2000000 in
theorem tX10_split_w18 {X : XS} {n : Nat} {σ : Mm} {F : Nat × Option Value × Mm} {a0 : Nat} {a1 : Int32} {a2 : Int32} (ha0 : RT n a0 110) {res : Int32 × Mm} (h : fX10_split_w18 a0 a1 a2 σ = some res) (hr : ∀ (v : Int32) (s : Mm), res = (v, s) → F = (n, some (.int v), s)) : J X mX10_split 3 0 0 F 18 [(0, .ref a0), (1, .int a1), (2, .int a2)] [] n σ := by
  unfold fX10_split_w18 at h
  refine wh_rule (P := fun a : Int32 × Int32 => J X mX10_split 3 0 0 F 18 [(0, .ref a0), (1, .int a.1), (2, .int a.2)] [] n σ) (K := fun b => b = res) ?_ _ _ _ h rfl
  intro a
  refine ⟨fun a2 hb hP => ?_, fun b hb hK => ?_⟩
  · exact tX10_split_l18 ha0 hb (fun _ _ e => by cases e; exact hP) (fun _ _ e => by cases e)
  · subst hK
    exact tX10_split_l18 ha0 hb (fun _ _ e => by cases e) (fun v0 v1 e => hr v0 v1 (Sum.inr.inj e))

def fX10_split (a0 : Nat) (σ : Mm) : Option (Int32 × Mm) :=
  if (gI (sI σ a0 0 0) a0 27) = 0 then some ((-1), (sI σ a0 0 0)) else (fX10_split_w18 a0 0 0 (sI σ a0 0 0)).bind (fun o5 => some o5)
set_option maxRecDepth 20000 in
set_option maxHeartbeats 2000000 in
theorem tX10_split {X : XS} {n : Nat} {σ : Mm} {a0 : Nat} (ha0 : RT n a0 110) {res : Int32 × Mm} (h : fX10_split a0 σ = some res) : MT X yX10_split mX10_split 3 0 0 [.ref a0] n σ (n, some (.int res.1), res.2) := by
  unfold fX10_split at h
  refine MT_of (by decide +kernel) rfl (fun h => by cases h) (Nat.le_of_ble_eq_true rfl) ?_
  show J X mX10_split 3 0 0 (n, some (.int res.1), res.2) 0 [(0, .ref a0)] [] n σ
  refine J_aload_n (z := 0) dX10_split_0 rfl rfl (q := 1) rfl ?_
  refine J_iconst (x := 0) dX10_split_1 (by decide) (q := 2) rfl ?_
  refine J_putI dX10_split_2 lRX10_96 (fun h => by cases h) ha0 rfl (q := 5) rfl ?_
  refine J_aload_n (z := 0) dX10_split_5 rfl rfl (q := 6) rfl ?_
  refine J_getI dX10_split_6 lRX10_291 ha0 rfl (q := 9) rfl ?_
  refine J_if_ne (tgt := 14) dX10_split_9 (by decide) (q := 12) rfl (fun c0 => ?_) (fun c0 => ?_)
  · rw [if_neg c0] at h
    refine J_iconst (x := 0) dX10_split_14 (by decide) (q := 15) rfl ?_
    refine J_istore_n (lv' := [(1, .int 0), (0, .ref a0)]) dX10_split_15 rfl (by decide) rfl (q := 16) rfl ?_
    refine J_iconst (x := 0) dX10_split_16 (by decide) (q := 17) rfl ?_
    refine J_istore_n (lv' := [(2, .int 0), (1, .int 0), (0, .ref a0)]) dX10_split_17 rfl (by decide) rfl (q := 18) rfl ?_
    obtain ⟨o5, hlo5, h⟩ := bindS h
    refine J_pick [2, 1, 0] rfl ?_
    refine tX10_split_w18 ha0 hlo5 ?_
    · intro vo5 so5 qo5
      rw [qo5] at h
      try dsimp only [Sum.elim_inl, Sum.elim_inr] at h
      have h := Option.some.inj h
      subst h
      rfl
  · rw [if_pos c0] at h
    refine J_iconst (x := (-1)) dX10_split_12 (by decide) (q := 13) rfl ?_
    have h := Option.some.inj h
    subst h
    exact J_ireturn dX10_split_13 rfl rfl rfl

def fX10_turns (a0 : Int32) (a1 : Int32) (σ : Mm) : Option (Int32) :=
  some (minI (absI (a0 - a1)) (10 - (absI (a0 - a1))))
set_option maxRecDepth 20000 in
set_option maxHeartbeats 2000000 in
theorem tX10_turns {X : XS} {n : Nat} {σ : Mm} {a0 : Int32} {a1 : Int32} {res : Int32} (h : fX10_turns a0 a1 σ = some res) : MT X yX10_turns mX10_turns 1 0 0 [.int a0, .int a1] n σ (n, some (.int res), σ) := by
  unfold fX10_turns at h
  refine MT_of (by decide +kernel) rfl (fun h => by cases h) (Nat.le_of_ble_eq_true rfl) ?_
  show J X mX10_turns 1 0 0 (n, some (.int res), σ) 0 [(0, .int a0), (1, .int a1)] [] n σ
  refine J_iload_n (z := 0) dX10_turns_0 rfl rfl (q := 1) rfl ?_
  refine J_iload_n (z := 1) dX10_turns_1 rfl rfl (q := 2) rfl ?_
  refine J_isub dX10_turns_2  (q := 3) rfl ?_
  refine J_mabs dX10_turns_3 pRX10_306 q_static_mabs q_init_math q_code_mabs (Nat.le_of_ble_eq_true rfl) (Nat.le_of_ble_eq_true rfl) (q := 6) rfl ?_
  refine J_istore_n (lv' := [(2, .int (absI (a0 - a1))), (0, .int a0), (1, .int a1)]) dX10_turns_6 rfl (by decide) rfl (q := 7) rfl ?_
  refine J_iload_n (z := 0) dX10_turns_7 rfl rfl (q := 8) rfl ?_
  refine J_bipush (x := 10) dX10_turns_8 (by decide) (q := 10) rfl ?_
  refine J_iload_n (z := 0) dX10_turns_10 rfl rfl (q := 11) rfl ?_
  refine J_isub dX10_turns_11  (q := 12) rfl ?_
  refine J_mmin dX10_turns_12 pRX10_322 q_static_mmin q_init_math q_code_mmin (Nat.le_of_ble_eq_true rfl) (Nat.le_of_ble_eq_true rfl) (q := 15) rfl ?_
  have h := Option.some.inj h
  subst h
  exact J_ireturn dX10_turns_15 rfl rfl rfl

def fX10_likely_b137 (a0 : Nat) (a1 : Int32) (a2 : Int32) (a3 : Int32) (a4 : Int32) (a5 : Int32) (a7 : Int32) (z0 : Int32) (z1 : Int32) (σ : Mm) : Option ((Int32 × Int32) ⊕ (Int32)) :=
  some (Sum.inl ((z0 + z1), (a7 + 1)))
set_option maxRecDepth 20000 in
set_option maxHeartbeats 2000000 in
theorem tX10_likely_b137 {X : XS} {n : Nat} {σ : Mm} {F : Nat × Option Value × Mm} {a0 : Nat} {a1 : Int32} {a2 : Int32} {a3 : Int32} {a4 : Int32} {a5 : Int32} {a7 : Int32} {z0 : Int32} {z1 : Int32} (ha0 : RT n a0 110) {res : (Int32 × Int32) ⊕ (Int32)} (h : fX10_likely_b137 a0 a1 a2 a3 a4 a5 a7 z0 z1 σ = some res) (hc : ∀ (b6 : Int32) (b7 : Int32), res = .inl (b6, b7) → J X mX10_likely 3 0 0 F 94 [(0, .ref a0), (1, .int a1), (2, .int a2), (3, .int a3), (4, .int a4), (5, .int a5), (6, .int b6), (7, .int b7)] [] n σ) (he0 : ∀ (b6 : Int32), res = .inr b6 → J X mX10_likely 3 0 0 F 146 [(0, .ref a0), (1, .int a1), (2, .int a2), (3, .int a3), (4, .int a4), (5, .int a5), (6, .int b6)] [] n σ) : J X mX10_likely 3 0 0 F 137 [(0, .ref a0), (1, .int a1), (2, .int a2), (3, .int a3), (4, .int a4), (5, .int a5), (7, .int a7)] [.int z1, .int z0] n σ := by
  unfold fX10_likely_b137 at h
  refine J_iadd dX10_likely_137  (q := 138) rfl ?_
  refine J_istore (lv' := [(6, .int (z0 + z1)), (0, .ref a0), (1, .int a1), (2, .int a2), (3, .int a3), (4, .int a4), (5, .int a5), (7, .int a7)]) dX10_likely_138 (by decide) rfl (q := 140) rfl ?_
  refine J_iinc (z := 7) (y := (a7 + 1)) (lv' := [(7, .int (a7 + 1)), (6, .int (z0 + z1)), (0, .ref a0), (1, .int a1), (2, .int a2), (3, .int a3), (4, .int a4), (5, .int a5)]) dX10_likely_140 rfl rfl (by decide) rfl (q := 143) rfl ?_
  refine J_goto (tgt := 94) dX10_likely_143 (by decide) ?_
  have h := Option.some.inj h
  refine J_pick [2, 3, 4, 5, 6, 7, 1, 0] rfl ?_
  exact hc _ _ h.symm

def fX10_likely_l94 (a0 : Nat) (a1 : Int32) (a2 : Int32) (a3 : Int32) (a4 : Int32) (a5 : Int32) (a6 : Int32) (a7 : Int32) (σ : Mm) : Option ((Int32 × Int32) ⊕ (Int32)) :=
  if (gI σ a0 28) ≤ a7 then some (Sum.inr a6) else (gR σ a0 33).bind fun r12 => (fX10_knows r12 a7 a1 σ).bind fun vk13 => if vk13 = 0 then fX10_likely_b137 a0 a1 a2 a3 a4 a5 a7 a6 0 σ else (fX10_recalls r12 a7 a1 σ).bind fun vk15 => (fX10_turns a5 vk15 σ).bind fun vk16 => fX10_likely_b137 a0 a1 a2 a3 a4 a5 a7 a6 vk16 σ
set_option maxRecDepth 20000 in
set_option maxHeartbeats 2000000 in
theorem tX10_likely_l94 {X : XS} {n : Nat} {σ : Mm} {F : Nat × Option Value × Mm} {a0 : Nat} {a1 : Int32} {a2 : Int32} {a3 : Int32} {a4 : Int32} {a5 : Int32} {a6 : Int32} {a7 : Int32} (ha0 : RT n a0 110) {res : (Int32 × Int32) ⊕ (Int32)} (h : fX10_likely_l94 a0 a1 a2 a3 a4 a5 a6 a7 σ = some res) (hc : ∀ (b6 : Int32) (b7 : Int32), res = .inl (b6, b7) → J X mX10_likely 3 0 0 F 94 [(0, .ref a0), (1, .int a1), (2, .int a2), (3, .int a3), (4, .int a4), (5, .int a5), (6, .int b6), (7, .int b7)] [] n σ) (he0 : ∀ (b6 : Int32), res = .inr b6 → J X mX10_likely 3 0 0 F 146 [(0, .ref a0), (1, .int a1), (2, .int a2), (3, .int a3), (4, .int a4), (5, .int a5), (6, .int b6)] [] n σ) : J X mX10_likely 3 0 0 F 94 [(0, .ref a0), (1, .int a1), (2, .int a2), (3, .int a3), (4, .int a4), (5, .int a5), (6, .int a6), (7, .int a7)] [] n σ := by
  unfold fX10_likely_l94 at h
  refine J_iload (z := 7) dX10_likely_94 rfl (q := 96) rfl ?_
  refine J_aload_n (z := 0) dX10_likely_96 rfl rfl (q := 97) rfl ?_
  refine J_getI dX10_likely_97 lRX10_294 ha0 rfl (q := 100) rfl ?_
  refine J_icmp_ge (tgt := 146) dX10_likely_100 (by decide) (q := 103) rfl (fun c10 => ?_) (fun c10 => ?_)
  · rw [if_pos c10] at h
    have h := Option.some.inj h
    refine J_pick [0, 1, 2, 3, 4, 5, 6] rfl ?_
    exact he0 _ h.symm
  · rw [if_neg c10] at h
    refine J_iload (z := 6) dX10_likely_103 rfl (q := 105) rfl ?_
    refine J_aload_n (z := 0) dX10_likely_105 rfl rfl (q := 106) rfl ?_
    obtain ⟨r12, er12, h⟩ := bindS h
    refine J_getR dX10_likely_106 lRX10_61 ha0 rfl (by decide) er12 (q := 109) rfl (fun fr12 => ?_)
    refine J_iload (z := 7) dX10_likely_109 rfl (q := 111) rfl ?_
    refine J_iload_n (z := 1) dX10_likely_111 rfl rfl (q := 112) rfl ?_
    obtain ⟨vk13, hk13, h⟩ := bindS h
    refine J_cSi (as := [.ref r12, .int a7, .int a1]) dX10_likely_112 mRX10_351 (tX10_knows fr12 hk13) rfl (Nat.le_of_ble_eq_true rfl) (Nat.le_of_ble_eq_true rfl) (Nat.le_of_ble_eq_true rfl) (q := 115) rfl ?_
    intro bk13
    refine J_if_eq (tgt := 136) dX10_likely_115 (by decide) (q := 118) rfl (fun c13 => ?_) (fun c13 => ?_)
    · rw [if_pos c13] at h
      refine J_iconst (x := 0) dX10_likely_136 (by decide) (q := 137) rfl ?_
      refine J_pick [0, 1, 2, 3, 4, 5, 7] rfl ?_
      exact tX10_likely_b137 ha0 h hc he0
    · rw [if_neg c13] at h
      refine J_iload (z := 5) dX10_likely_118 rfl (q := 120) rfl ?_
      refine J_aload_n (z := 0) dX10_likely_120 rfl rfl (q := 121) rfl ?_
      refine J_getR dX10_likely_121 lRX10_61 ha0 rfl (by decide) er12 (q := 124) rfl (fun _ => ?_)
      refine J_iload (z := 7) dX10_likely_124 rfl (q := 126) rfl ?_
      refine J_iload_n (z := 1) dX10_likely_126 rfl rfl (q := 127) rfl ?_
      obtain ⟨vk15, hk15, h⟩ := bindS h
      refine J_cSi (as := [.ref r12, .int a7, .int a1]) dX10_likely_127 mRX10_358 (tX10_recalls fr12 hk15) rfl (Nat.le_of_ble_eq_true rfl) (Nat.le_of_ble_eq_true rfl) (Nat.le_of_ble_eq_true rfl) (q := 130) rfl ?_
      intro bk15
      obtain ⟨vk16, hk16, h⟩ := bindS h
      refine J_cSi (as := [.int a5, .int vk15]) dX10_likely_130 mRX10_501 (tX10_turns  hk16) rfl (Nat.le_of_ble_eq_true rfl) (Nat.le_of_ble_eq_true rfl) (Nat.le_of_ble_eq_true rfl) (q := 133) rfl ?_
      intro bk16
      refine J_goto (tgt := 137) dX10_likely_133 (by decide) ?_
      refine J_pick [0, 1, 2, 3, 4, 5, 7] rfl ?_
      exact tX10_likely_b137 ha0 h hc he0

def fX10_likely_w94 (a0 : Nat) (a1 : Int32) (a2 : Int32) (a3 : Int32) (a4 : Int32) (a5 : Int32) (a6 : Int32) (a7 : Int32) (σ : Mm) : Option (Int32) :=
  wh (fun a : Int32 × Int32 => fX10_likely_l94 a0 a1 a2 a3 a4 a5 a.1 a.2 σ) BIG (a6, a7)
set_option maxRecDepth 20000 in
set_option maxHeartbeats 2000000 in
theorem tX10_likely_w94 {X : XS} {n : Nat} {σ : Mm} {F : Nat × Option Value × Mm} {a0 : Nat} {a1 : Int32} {a2 : Int32} {a3 : Int32} {a4 : Int32} {a5 : Int32} {a6 : Int32} {a7 : Int32} (ha0 : RT n a0 110) {res : Int32} (h : fX10_likely_w94 a0 a1 a2 a3 a4 a5 a6 a7 σ = some res) (he0 : ∀ (b6 : Int32), res = b6 → J X mX10_likely 3 0 0 F 146 [(0, .ref a0), (1, .int a1), (2, .int a2), (3, .int a3), (4, .int a4), (5, .int a5), (6, .int b6)] [] n σ) : J X mX10_likely 3 0 0 F 94 [(0, .ref a0), (1, .int a1), (2, .int a2), (3, .int a3), (4, .int a4), (5, .int a5), (6, .int a6), (7, .int a7)] [] n σ := by
  unfold fX10_likely_w94 at h
  refine wh_rule (P := fun a : Int32 × Int32 => J X mX10_likely 3 0 0 F 94 [(0, .ref a0), (1, .int a1), (2, .int a2), (3, .int a3), (4, .int a4), (5, .int a5), (6, .int a.1), (7, .int a.2)] [] n σ) (K := fun b => b = res) ?_ _ _ _ h rfl
  intro a
  refine ⟨fun a2 hb hP => ?_, fun b hb hK => ?_⟩
  · exact tX10_likely_l94 ha0 hb (fun _ _ e => by cases e; exact hP) (fun _ e => by cases e)
  · subst hK
    exact tX10_likely_l94 ha0 hb (fun _ _ e => by cases e) (fun v0 e => he0 v0 (Sum.inr.inj e))

def fX10_likely_b168 (a0 : Nat) (a1 : Int32) (a2 : Int32) (a3 : Int32) (a4 : Int32) (a5 : Int32) (σ : Mm) : Option ((Int32 × Int32 × Int32) ⊕ (Int32 × Int32)) :=
  some (Sum.inl (a3, a4, (a5 + 1)))
set_option maxRecDepth 20000 in
set_option maxHeartbeats 2000000 in
theorem tX10_likely_b168 {X : XS} {n : Nat} {σ : Mm} {F : Nat × Option Value × Mm} {a0 : Nat} {a1 : Int32} {a2 : Int32} {a3 : Int32} {a4 : Int32} {a5 : Int32} (ha0 : RT n a0 110) {res : (Int32 × Int32 × Int32) ⊕ (Int32 × Int32)} (h : fX10_likely_b168 a0 a1 a2 a3 a4 a5 σ = some res) (hc : ∀ (b3 : Int32) (b4 : Int32) (b5 : Int32), res = .inl (b3, b4, b5) → J X mX10_likely 3 0 0 F 52 [(0, .ref a0), (1, .int a1), (2, .int a2), (3, .int b3), (4, .int b4), (5, .int b5)] [] n σ) (he0 : ∀ (b3 : Int32) (b4 : Int32), res = .inr (b3, b4) → J X mX10_likely 3 0 0 F 174 [(2, .int a2), (3, .int b3), (4, .int b4)] [] n σ) : J X mX10_likely 3 0 0 F 168 [(0, .ref a0), (1, .int a1), (2, .int a2), (3, .int a3), (4, .int a4), (5, .int a5)] [] n σ := by
  unfold fX10_likely_b168 at h
  refine J_iinc (z := 5) (y := (a5 + 1)) (lv' := [(5, .int (a5 + 1)), (0, .ref a0), (1, .int a1), (2, .int a2), (3, .int a3), (4, .int a4)]) dX10_likely_168 rfl rfl (by decide) rfl (q := 171) rfl ?_
  refine J_goto (tgt := 52) dX10_likely_171 (by decide) ?_
  have h := Option.some.inj h
  refine J_pick [1, 2, 3, 4, 5, 0] rfl ?_
  exact hc _ _ _ h.symm

def fX10_likely_b161 (a0 : Nat) (a1 : Int32) (a2 : Int32) (a5 : Int32) (a6 : Int32) (σ : Mm) : Option ((Int32 × Int32 × Int32) ⊕ (Int32 × Int32)) :=
  fX10_likely_b168 a0 a1 a2 a5 a6 a5 σ
set_option maxRecDepth 20000 in
set_option maxHeartbeats 2000000 in
theorem tX10_likely_b161 {X : XS} {n : Nat} {σ : Mm} {F : Nat × Option Value × Mm} {a0 : Nat} {a1 : Int32} {a2 : Int32} {a5 : Int32} {a6 : Int32} (ha0 : RT n a0 110) {res : (Int32 × Int32 × Int32) ⊕ (Int32 × Int32)} (h : fX10_likely_b161 a0 a1 a2 a5 a6 σ = some res) (hc : ∀ (b3 : Int32) (b4 : Int32) (b5 : Int32), res = .inl (b3, b4, b5) → J X mX10_likely 3 0 0 F 52 [(0, .ref a0), (1, .int a1), (2, .int a2), (3, .int b3), (4, .int b4), (5, .int b5)] [] n σ) (he0 : ∀ (b3 : Int32) (b4 : Int32), res = .inr (b3, b4) → J X mX10_likely 3 0 0 F 174 [(2, .int a2), (3, .int b3), (4, .int b4)] [] n σ) : J X mX10_likely 3 0 0 F 161 [(0, .ref a0), (1, .int a1), (2, .int a2), (5, .int a5), (6, .int a6)] [] n σ := by
  unfold fX10_likely_b161 at h
  refine J_iload (z := 3) dX10_likely_161 rfl (q := 163) rfl ?_
  refine J_istore_n (lv' := [(3, .int a5), (0, .ref a0), (1, .int a1), (2, .int a2), (5, .int a5), (6, .int a6)]) dX10_likely_163 rfl (by decide) rfl (q := 164) rfl ?_
  refine J_iload (z := 5) dX10_likely_164 rfl (q := 166) rfl ?_
  refine J_istore (lv' := [(4, .int a6), (3, .int a5), (0, .ref a0), (1, .int a1), (2, .int a2), (5, .int a5), (6, .int a6)]) dX10_likely_166 (by decide) rfl (q := 168) rfl ?_
  refine J_pick [2, 3, 4, 1, 0, 5] rfl ?_
  exact tX10_likely_b168 ha0 h hc he0

def fX10_likely_b89 (a0 : Nat) (a1 : Int32) (a2 : Int32) (a3 : Int32) (a4 : Int32) (a5 : Int32) (z0 : Int32) (σ : Mm) : Option ((Int32 × Int32 × Int32) ⊕ (Int32 × Int32)) :=
  (fX10_likely_w94 a0 a1 a2 a3 a4 a5 z0 0 σ).bind (fun o17 => (fun xo17_6 => if a3 = (-1) then fX10_likely_b161 a0 a1 a2 a5 xo17_6 σ else if xo17_6 < a4 then fX10_likely_b161 a0 a1 a2 a5 xo17_6 σ else fX10_likely_b168 a0 a1 a2 a3 a4 a5 σ) o17)
set_option maxRecDepth 20000 in
set_option maxHeartbeats 2000000 in
theorem tX10_likely_b89 {X : XS} {n : Nat} {σ : Mm} {F : Nat × Option Value × Mm} {a0 : Nat} {a1 : Int32} {a2 : Int32} {a3 : Int32} {a4 : Int32} {a5 : Int32} {z0 : Int32} (ha0 : RT n a0 110) {res : (Int32 × Int32 × Int32) ⊕ (Int32 × Int32)} (h : fX10_likely_b89 a0 a1 a2 a3 a4 a5 z0 σ = some res) (hc : ∀ (b3 : Int32) (b4 : Int32) (b5 : Int32), res = .inl (b3, b4, b5) → J X mX10_likely 3 0 0 F 52 [(0, .ref a0), (1, .int a1), (2, .int a2), (3, .int b3), (4, .int b4), (5, .int b5)] [] n σ) (he0 : ∀ (b3 : Int32) (b4 : Int32), res = .inr (b3, b4) → J X mX10_likely 3 0 0 F 174 [(2, .int a2), (3, .int b3), (4, .int b4)] [] n σ) : J X mX10_likely 3 0 0 F 89 [(0, .ref a0), (1, .int a1), (2, .int a2), (3, .int a3), (4, .int a4), (5, .int a5)] [.int z0] n σ := by
  unfold fX10_likely_b89 at h
  refine J_istore (lv' := [(6, .int z0), (0, .ref a0), (1, .int a1), (2, .int a2), (3, .int a3), (4, .int a4), (5, .int a5)]) dX10_likely_89 (by decide) rfl (q := 91) rfl ?_
  refine J_iconst (x := 0) dX10_likely_91 (by decide) (q := 92) rfl ?_
  refine J_istore (lv' := [(7, .int 0), (6, .int z0), (0, .ref a0), (1, .int a1), (2, .int a2), (3, .int a3), (4, .int a4), (5, .int a5)]) dX10_likely_92 (by decide) rfl (q := 94) rfl ?_
  obtain ⟨o17, hlo17, h⟩ := bindS h
  refine J_pick [2, 3, 4, 5, 6, 7, 1, 0] rfl ?_
  refine tX10_likely_w94 ha0 hlo17 ?_
  · intro xo17_6 qo17
    rw [qo17] at h
    try dsimp only [Sum.elim_inl, Sum.elim_inr] at h
    refine J_iload_n (z := 3) dX10_likely_146 rfl rfl (q := 147) rfl ?_
    refine J_iconst (x := (-1)) dX10_likely_147 (by decide) (q := 148) rfl ?_
    refine J_icmp_eq (tgt := 161) dX10_likely_148 (by decide) (q := 151) rfl (fun c17 => ?_) (fun c17 => ?_)
    · rw [if_pos c17] at h
      refine J_pick [0, 1, 2, 5, 6] rfl ?_
      exact tX10_likely_b161 ha0 h hc he0
    · rw [if_neg c17] at h
      refine J_iload (z := 6) dX10_likely_151 rfl (q := 153) rfl ?_
      refine J_iload (z := 4) dX10_likely_153 rfl (q := 155) rfl ?_
      refine J_icmp_lt (tgt := 161) dX10_likely_155 (by decide) (q := 158) rfl (fun c18 => ?_) (fun c18 => ?_)
      · rw [if_pos c18] at h
        refine J_pick [0, 1, 2, 5, 6] rfl ?_
        exact tX10_likely_b161 ha0 h hc he0
      · rw [if_neg c18] at h
        refine J_goto (tgt := 168) dX10_likely_158 (by decide) ?_
        refine J_pick [0, 1, 2, 3, 4, 5] rfl ?_
        exact tX10_likely_b168 ha0 h hc he0

def fX10_likely_l52 (a0 : Nat) (a1 : Int32) (a2 : Int32) (a3 : Int32) (a4 : Int32) (a5 : Int32) (σ : Mm) : Option ((Int32 × Int32 × Int32) ⊕ (Int32 × Int32)) :=
  if 10 ≤ a5 then some (Sum.inr (a3, a4)) else (gR σ a0 33).bind fun r8 => if ixB (2 * a1) (ln r8) = true then if (gI σ r8 (Int32.toNatClampNeg (2 * a1))) ≤ 0 then fX10_likely_b89 a0 a1 a2 a3 a4 a5 0 σ else if ixB ((2 * a1) + 1) (ln r8) = true then (fX10_turns a5 (gI σ r8 (Int32.toNatClampNeg ((2 * a1) + 1))) σ).bind fun vk21 => fX10_likely_b89 a0 a1 a2 a3 a4 a5 vk21 σ else none else none
set_option maxRecDepth 20000 in
set_option maxHeartbeats 2000000 in
theorem tX10_likely_l52 {X : XS} {n : Nat} {σ : Mm} {F : Nat × Option Value × Mm} {a0 : Nat} {a1 : Int32} {a2 : Int32} {a3 : Int32} {a4 : Int32} {a5 : Int32} (ha0 : RT n a0 110) {res : (Int32 × Int32 × Int32) ⊕ (Int32 × Int32)} (h : fX10_likely_l52 a0 a1 a2 a3 a4 a5 σ = some res) (hc : ∀ (b3 : Int32) (b4 : Int32) (b5 : Int32), res = .inl (b3, b4, b5) → J X mX10_likely 3 0 0 F 52 [(0, .ref a0), (1, .int a1), (2, .int a2), (3, .int b3), (4, .int b4), (5, .int b5)] [] n σ) (he0 : ∀ (b3 : Int32) (b4 : Int32), res = .inr (b3, b4) → J X mX10_likely 3 0 0 F 174 [(2, .int a2), (3, .int b3), (4, .int b4)] [] n σ) : J X mX10_likely 3 0 0 F 52 [(0, .ref a0), (1, .int a1), (2, .int a2), (3, .int a3), (4, .int a4), (5, .int a5)] [] n σ := by
  unfold fX10_likely_l52 at h
  refine J_iload (z := 5) dX10_likely_52 rfl (q := 54) rfl ?_
  refine J_bipush (x := 10) dX10_likely_54 (by decide) (q := 56) rfl ?_
  refine J_icmp_ge (tgt := 174) dX10_likely_56 (by decide) (q := 59) rfl (fun c6 => ?_) (fun c6 => ?_)
  · rw [if_pos c6] at h
    have h := Option.some.inj h
    refine J_pick [2, 3, 4] rfl ?_
    exact he0 _ _ h.symm
  · rw [if_neg c6] at h
    refine J_aload_n (z := 0) dX10_likely_59 rfl rfl (q := 60) rfl ?_
    obtain ⟨r8, er8, h⟩ := bindS h
    refine J_getR dX10_likely_60 lRX10_61 ha0 rfl (by decide) er8 (q := 63) rfl (fun fr8 => ?_)
    refine J_iconst (x := 2) dX10_likely_63 (by decide) (q := 64) rfl ?_
    refine J_iload_n (z := 1) dX10_likely_64 rfl rfl (q := 65) rfl ?_
    refine J_imul dX10_likely_65  (q := 66) rfl ?_
    obtain ⟨g9, h⟩ := iteS h
    refine J_iald dX10_likely_66 fr8 (ixB_ok g9) (q := 67) rfl ?_
    refine J_if_le (tgt := 88) dX10_likely_67 (by decide) (q := 70) rfl (fun c9 => ?_) (fun c9 => ?_)
    · rw [if_pos c9] at h
      refine J_iconst (x := 0) dX10_likely_88 (by decide) (q := 89) rfl ?_
      refine J_pick [0, 1, 2, 3, 4, 5] rfl ?_
      exact tX10_likely_b89 ha0 h hc he0
    · rw [if_neg c9] at h
      refine J_iload (z := 5) dX10_likely_70 rfl (q := 72) rfl ?_
      refine J_aload_n (z := 0) dX10_likely_72 rfl rfl (q := 73) rfl ?_
      refine J_getR dX10_likely_73 lRX10_61 ha0 rfl (by decide) er8 (q := 76) rfl (fun _ => ?_)
      refine J_iconst (x := 2) dX10_likely_76 (by decide) (q := 77) rfl ?_
      refine J_iload_n (z := 1) dX10_likely_77 rfl rfl (q := 78) rfl ?_
      refine J_imul dX10_likely_78  (q := 79) rfl ?_
      refine J_iconst (x := 1) dX10_likely_79 (by decide) (q := 80) rfl ?_
      refine J_iadd dX10_likely_80  (q := 81) rfl ?_
      obtain ⟨g20, h⟩ := iteS h
      refine J_iald dX10_likely_81 fr8 (ixB_ok g20) (q := 82) rfl ?_
      obtain ⟨vk21, hk21, h⟩ := bindS h
      refine J_cSi (as := [.int a5, .int (gI σ r8 (Int32.toNatClampNeg ((2 * a1) + 1)))]) dX10_likely_82 mRX10_501 (tX10_turns  hk21) rfl (Nat.le_of_ble_eq_true rfl) (Nat.le_of_ble_eq_true rfl) (Nat.le_of_ble_eq_true rfl) (q := 85) rfl ?_
      intro bk21
      refine J_goto (tgt := 89) dX10_likely_85 (by decide) ?_
      refine J_pick [0, 1, 2, 3, 4, 5] rfl ?_
      exact tX10_likely_b89 ha0 h hc he0

def fX10_likely_w52 (a0 : Nat) (a1 : Int32) (a2 : Int32) (a3 : Int32) (a4 : Int32) (a5 : Int32) (σ : Mm) : Option (Int32 × Int32) :=
  wh (fun a : Int32 × Int32 × Int32 => fX10_likely_l52 a0 a1 a2 a.1 a.2.1 a.2.2 σ) BIG (a3, a4, a5)
set_option maxRecDepth 20000 in
set_option maxHeartbeats 2000000 in
theorem tX10_likely_w52 {X : XS} {n : Nat} {σ : Mm} {F : Nat × Option Value × Mm} {a0 : Nat} {a1 : Int32} {a2 : Int32} {a3 : Int32} {a4 : Int32} {a5 : Int32} (ha0 : RT n a0 110) {res : Int32 × Int32} (h : fX10_likely_w52 a0 a1 a2 a3 a4 a5 σ = some res) (he0 : ∀ (b3 : Int32) (b4 : Int32), res = (b3, b4) → J X mX10_likely 3 0 0 F 174 [(2, .int a2), (3, .int b3), (4, .int b4)] [] n σ) : J X mX10_likely 3 0 0 F 52 [(0, .ref a0), (1, .int a1), (2, .int a2), (3, .int a3), (4, .int a4), (5, .int a5)] [] n σ := by
  unfold fX10_likely_w52 at h
  refine wh_rule (P := fun a : Int32 × Int32 × Int32 => J X mX10_likely 3 0 0 F 52 [(0, .ref a0), (1, .int a1), (2, .int a2), (3, .int a.1), (4, .int a.2.1), (5, .int a.2.2)] [] n σ) (K := fun b => b = res) ?_ _ _ _ h rfl
  intro a
  refine ⟨fun a2 hb hP => ?_, fun b hb hK => ?_⟩
  · exact tX10_likely_l52 ha0 hb (fun _ _ _ e => by cases e; exact hP) (fun _ _ e => by cases e)
  · subst hK
    exact tX10_likely_l52 ha0 hb (fun _ _ _ e => by cases e) (fun v0 v1 e => he0 v0 v1 (Sum.inr.inj e))

def fX10_likely_b44 (a0 : Nat) (a1 : Int32) (a2 : Int32) (σ : Mm) : Option (Int32 × Mm) :=
  (fX10_likely_w52 a0 a1 a2 (-1) 0 0 σ).bind (fun o22 => (fun xo22_3 xo22_4 => if a2 = 0 then some (xo22_3, σ) else some (xo22_4, σ)) o22.1 o22.2)
set_option maxRecDepth 20000 in
set_option maxHeartbeats 2000000 in
theorem tX10_likely_b44 {X : XS} {n : Nat} {σ : Mm} {a0 : Nat} {a1 : Int32} {a2 : Int32} (ha0 : RT n a0 110) {res : Int32 × Mm} (h : fX10_likely_b44 a0 a1 a2 σ = some res) : J X mX10_likely 3 0 0 (n, some (.int res.1), res.2) 44 [(0, .ref a0), (1, .int a1), (2, .int a2)] [] n σ := by
  unfold fX10_likely_b44 at h
  refine J_iconst (x := (-1)) dX10_likely_44 (by decide) (q := 45) rfl ?_
  refine J_istore_n (lv' := [(3, .int (-1)), (0, .ref a0), (1, .int a1), (2, .int a2)]) dX10_likely_45 rfl (by decide) rfl (q := 46) rfl ?_
  refine J_iconst (x := 0) dX10_likely_46 (by decide) (q := 47) rfl ?_
  refine J_istore (lv' := [(4, .int 0), (3, .int (-1)), (0, .ref a0), (1, .int a1), (2, .int a2)]) dX10_likely_47 (by decide) rfl (q := 49) rfl ?_
  refine J_iconst (x := 0) dX10_likely_49 (by decide) (q := 50) rfl ?_
  refine J_istore (lv' := [(5, .int 0), (4, .int 0), (3, .int (-1)), (0, .ref a0), (1, .int a1), (2, .int a2)]) dX10_likely_50 (by decide) rfl (q := 52) rfl ?_
  obtain ⟨o22, hlo22, h⟩ := bindS h
  refine J_pick [3, 4, 5, 2, 1, 0] rfl ?_
  refine tX10_likely_w52 ha0 hlo22 ?_
  · intro xo22_3 xo22_4 qo22
    rw [qo22] at h
    try dsimp only [Sum.elim_inl, Sum.elim_inr] at h
    refine J_iload_n (z := 0) dX10_likely_174 rfl rfl (q := 175) rfl ?_
    refine J_if_ne (tgt := 182) dX10_likely_175 (by decide) (q := 178) rfl (fun c22 => ?_) (fun c22 => ?_)
    · rw [if_neg c22] at h
      refine J_iload (z := 2) dX10_likely_182 rfl (q := 184) rfl ?_
      have h := Option.some.inj h
      subst h
      exact J_ireturn dX10_likely_184 rfl rfl rfl
    · rw [if_pos c22] at h
      refine J_iload_n (z := 1) dX10_likely_178 rfl rfl (q := 179) rfl ?_
      refine J_goto (tgt := 184) dX10_likely_179 (by decide) ?_
      have h := Option.some.inj h
      subst h
      exact J_ireturn dX10_likely_184 rfl rfl rfl

def fX10_likely (a0 : Nat) (a1 : Int32) (a2 : Int32) (σ : Mm) : Option (Int32 × Mm) :=
  (fX10_isPage a0 a1 (sI σ a0 0 0)).bind fun vk1 => if vk1 = 0 then some ((-1), (sI σ a0 0 0)) else (fX10_isIn (Int32.toInt64 a2) 0 1 (sI σ a0 0 0)).bind fun vk3 => if vk3 = 0 then some ((-1), (sI σ a0 0 0)) else (fX10_knowers a0 a1 (sI σ a0 0 0)).bind fun vk5 => if vk5 = 0 then (gR σ a0 33).bind fun r24 => if ixB (2 * a1) (ln r24) = true then if (gI (sI σ a0 0 0) r24 (Int32.toNatClampNeg (2 * a1))) = 0 then some ((-1), (sI σ a0 0 0)) else fX10_likely_b44 a0 a1 a2 (sI σ a0 0 0) else none else fX10_likely_b44 a0 a1 a2 (sI σ a0 0 0)
set_option maxRecDepth 20000 in
set_option maxHeartbeats 2000000 in
theorem tX10_likely {X : XS} {n : Nat} {σ : Mm} {a0 : Nat} {a1 : Int32} {a2 : Int32} (ha0 : RT n a0 110) {res : Int32 × Mm} (h : fX10_likely a0 a1 a2 σ = some res) : MT X yX10_likely mX10_likely 3 0 0 [.ref a0, .int a1, .int a2] n σ (n, some (.int res.1), res.2) := by
  unfold fX10_likely at h
  refine MT_of (by decide +kernel) rfl (fun h => by cases h) (Nat.le_of_ble_eq_true rfl) ?_
  show J X mX10_likely 3 0 0 (n, some (.int res.1), res.2) 0 [(0, .ref a0), (1, .int a1), (2, .int a2)] [] n σ
  refine J_aload_n (z := 0) dX10_likely_0 rfl rfl (q := 1) rfl ?_
  refine J_iconst (x := 0) dX10_likely_1 (by decide) (q := 2) rfl ?_
  refine J_putI dX10_likely_2 lRX10_96 (fun h => by cases h) ha0 rfl (q := 5) rfl ?_
  refine J_aload_n (z := 0) dX10_likely_5 rfl rfl (q := 6) rfl ?_
  refine J_iload_n (z := 1) dX10_likely_6 rfl rfl (q := 7) rfl ?_
  obtain ⟨vk1, hk1, h⟩ := bindS h
  refine J_cVi (as := [.int a1]) dX10_likely_7 mRX10_346 ha0 (tX10_isPage ha0 hk1) rfl (Nat.le_of_ble_eq_true rfl) (Nat.le_of_ble_eq_true rfl) (Nat.le_of_ble_eq_true rfl) (q := 10) rfl ?_
  intro bk1
  refine J_if_eq (tgt := 42) dX10_likely_10 (by decide) (q := 13) rfl (fun c1 => ?_) (fun c1 => ?_)
  · rw [if_pos c1] at h
    refine J_iconst (x := (-1)) dX10_likely_42 (by decide) (q := 43) rfl ?_
    have h := Option.some.inj h
    subst h
    exact J_ireturn dX10_likely_43 rfl rfl rfl
  · rw [if_neg c1] at h
    refine J_iload_n (z := 2) dX10_likely_13 rfl rfl (q := 14) rfl ?_
    refine J_i2l dX10_likely_14  (q := 15) rfl ?_
    refine J_lconst (x := 0) dX10_likely_15 (by decide) (q := 16) rfl ?_
    refine J_lconst (x := 1) dX10_likely_16 (by decide) (q := 17) rfl ?_
    obtain ⟨vk3, hk3, h⟩ := bindS h
    refine J_cSi (as := [.long (Int32.toInt64 a2), .long 0, .long 1]) dX10_likely_17 mRX10_217 (tX10_isIn  hk3) rfl (Nat.le_of_ble_eq_true rfl) (Nat.le_of_ble_eq_true rfl) (Nat.le_of_ble_eq_true rfl) (q := 20) rfl ?_
    intro bk3
    refine J_if_eq (tgt := 42) dX10_likely_20 (by decide) (q := 23) rfl (fun c3 => ?_) (fun c3 => ?_)
    · rw [if_pos c3] at h
      refine J_iconst (x := (-1)) dX10_likely_42 (by decide) (q := 43) rfl ?_
      have h := Option.some.inj h
      subst h
      exact J_ireturn dX10_likely_43 rfl rfl rfl
    · rw [if_neg c3] at h
      refine J_aload_n (z := 0) dX10_likely_23 rfl rfl (q := 24) rfl ?_
      refine J_iload_n (z := 1) dX10_likely_24 rfl rfl (q := 25) rfl ?_
      obtain ⟨vk5, hk5, h⟩ := bindS h
      refine J_cVi (as := [.int a1]) dX10_likely_25 mRX10_495 ha0 (tX10_knowers ha0 hk5) rfl (Nat.le_of_ble_eq_true rfl) (Nat.le_of_ble_eq_true rfl) (Nat.le_of_ble_eq_true rfl) (q := 28) rfl ?_
      intro bk5
      refine J_if_ne (tgt := 44) dX10_likely_28 (by decide) (q := 31) rfl (fun c5 => ?_) (fun c5 => ?_)
      · rw [if_neg c5] at h
        refine J_pick [0, 1, 2] rfl ?_
        exact tX10_likely_b44 ha0 h
      · rw [if_pos c5] at h
        refine J_aload_n (z := 0) dX10_likely_31 rfl rfl (q := 32) rfl ?_
        obtain ⟨r24, er24, h⟩ := bindS h
        refine J_getR dX10_likely_32 lRX10_61 ha0 rfl (by decide) er24 (q := 35) rfl (fun fr24 => ?_)
        refine J_iconst (x := 2) dX10_likely_35 (by decide) (q := 36) rfl ?_
        refine J_iload_n (z := 1) dX10_likely_36 rfl rfl (q := 37) rfl ?_
        refine J_imul dX10_likely_37  (q := 38) rfl ?_
        obtain ⟨g25, h⟩ := iteS h
        refine J_iald dX10_likely_38 fr24 (ixB_ok g25) (q := 39) rfl ?_
        refine J_if_ne (tgt := 44) dX10_likely_39 (by decide) (q := 42) rfl (fun c25 => ?_) (fun c25 => ?_)
        · rw [if_neg c25] at h
          refine J_pick [0, 1, 2] rfl ?_
          exact tX10_likely_b44 ha0 h
        · rw [if_pos c25] at h
          refine J_iconst (x := (-1)) dX10_likely_42 (by decide) (q := 43) rfl ?_
          have h := Option.some.inj h
          subst h
          exact J_ireturn dX10_likely_43 rfl rfl rfl

def fX10_breathed_b119 (a0 : Nat) (a1 : Int32) (a2 : Int32) (a3 : Int32) (a4 : Int32) (a5 : Int32) (a6 : Int32) (a8 : Int32) (z0 : Int32) (z1 : Int32) (σ : Mm) : Option ((Int32 × Int32 × Mm) ⊕ (Int32 × Mm)) :=
  some (Sum.inl ((z0 + z1), (a8 + 1), σ))
set_option maxRecDepth 20000 in
set_option maxHeartbeats 2000000 in
theorem tX10_breathed_b119 {X : XS} {n : Nat} {σ : Mm} {F : Nat × Option Value × Mm} {a0 : Nat} {a1 : Int32} {a2 : Int32} {a3 : Int32} {a4 : Int32} {a5 : Int32} {a6 : Int32} {a8 : Int32} {z0 : Int32} {z1 : Int32} (ha0 : RT n a0 110) {res : (Int32 × Int32 × Mm) ⊕ (Int32 × Mm)} (h : fX10_breathed_b119 a0 a1 a2 a3 a4 a5 a6 a8 z0 z1 σ = some res) (hc : ∀ (b7 : Int32) (b8 : Int32) (s : Mm), res = .inl (b7, b8, s) → J X mX10_breathed 113 0 0 F 75 [(0, .ref a0), (1, .int a1), (2, .int a2), (3, .int a3), (4, .int a4), (5, .int a5), (6, .int a6), (7, .int b7), (8, .int b8)] [] n s) (he0 : ∀ (b7 : Int32) (s : Mm), res = .inr (b7, s) → J X mX10_breathed 113 0 0 F 128 [(0, .ref a0), (1, .int a1), (2, .int a2), (3, .int a3), (4, .int a4), (5, .int a5), (6, .int a6), (7, .int b7)] [] n s) : J X mX10_breathed 113 0 0 F 119 [(0, .ref a0), (1, .int a1), (2, .int a2), (3, .int a3), (4, .int a4), (5, .int a5), (6, .int a6), (8, .int a8)] [.int z1, .int z0] n σ := by
  unfold fX10_breathed_b119 at h
  refine J_iadd dX10_breathed_119  (q := 120) rfl ?_
  refine J_istore (lv' := [(7, .int (z0 + z1)), (0, .ref a0), (1, .int a1), (2, .int a2), (3, .int a3), (4, .int a4), (5, .int a5), (6, .int a6), (8, .int a8)]) dX10_breathed_120 (by decide) rfl (q := 122) rfl ?_
  refine J_iinc (z := 8) (y := (a8 + 1)) (lv' := [(8, .int (a8 + 1)), (7, .int (z0 + z1)), (0, .ref a0), (1, .int a1), (2, .int a2), (3, .int a3), (4, .int a4), (5, .int a5), (6, .int a6)]) dX10_breathed_122 rfl rfl (by decide) rfl (q := 125) rfl ?_
  refine J_goto (tgt := 75) dX10_breathed_125 (by decide) ?_
  have h := Option.some.inj h
  refine J_pick [2, 3, 4, 5, 6, 7, 8, 1, 0] rfl ?_
  exact hc _ _ _ h.symm

def fX10_breathed_l75 (a0 : Nat) (a1 : Int32) (a2 : Int32) (a3 : Int32) (a4 : Int32) (a5 : Int32) (a6 : Int32) (a7 : Int32) (a8 : Int32) (σ : Mm) : Option ((Int32 × Int32 × Mm) ⊕ (Int32 × Mm)) :=
  if (gI σ a0 28) ≤ a8 then some (Sum.inr (a7, σ)) else (fX10_has a6 a8 σ).bind fun vk13 => if vk13 = 0 then fX10_breathed_b119 a0 a1 a2 a3 a4 a5 a6 a8 a7 0 σ else (gR σ a0 33).bind fun r15 => (fJ6_bitCount_0f7a4 a6 σ).bind fun vk16 => bnd2 (fX10_meltBy a0 r15 a8 a1 a2 (vk16 - 1) σ) fun vk17 sk17 => fX10_breathed_b119 a0 a1 a2 a3 a4 a5 a6 a8 a7 vk17 sk17
set_option maxRecDepth 20000 in
set_option maxHeartbeats 2000000 in
theorem tX10_breathed_l75 {X : XS} {n : Nat} {σ : Mm} {F : Nat × Option Value × Mm} {a0 : Nat} {a1 : Int32} {a2 : Int32} {a3 : Int32} {a4 : Int32} {a5 : Int32} {a6 : Int32} {a7 : Int32} {a8 : Int32} (ha0 : RT n a0 110) {res : (Int32 × Int32 × Mm) ⊕ (Int32 × Mm)} (h : fX10_breathed_l75 a0 a1 a2 a3 a4 a5 a6 a7 a8 σ = some res) (hc : ∀ (b7 : Int32) (b8 : Int32) (s : Mm), res = .inl (b7, b8, s) → J X mX10_breathed 113 0 0 F 75 [(0, .ref a0), (1, .int a1), (2, .int a2), (3, .int a3), (4, .int a4), (5, .int a5), (6, .int a6), (7, .int b7), (8, .int b8)] [] n s) (he0 : ∀ (b7 : Int32) (s : Mm), res = .inr (b7, s) → J X mX10_breathed 113 0 0 F 128 [(0, .ref a0), (1, .int a1), (2, .int a2), (3, .int a3), (4, .int a4), (5, .int a5), (6, .int a6), (7, .int b7)] [] n s) : J X mX10_breathed 113 0 0 F 75 [(0, .ref a0), (1, .int a1), (2, .int a2), (3, .int a3), (4, .int a4), (5, .int a5), (6, .int a6), (7, .int a7), (8, .int a8)] [] n σ := by
  unfold fX10_breathed_l75 at h
  refine J_iload (z := 8) dX10_breathed_75 rfl (q := 77) rfl ?_
  refine J_aload_n (z := 0) dX10_breathed_77 rfl rfl (q := 78) rfl ?_
  refine J_getI dX10_breathed_78 lRX10_294 ha0 rfl (q := 81) rfl ?_
  refine J_icmp_ge (tgt := 128) dX10_breathed_81 (by decide) (q := 84) rfl (fun c11 => ?_) (fun c11 => ?_)
  · rw [if_pos c11] at h
    have h := Option.some.inj h
    refine J_pick [0, 1, 2, 3, 4, 5, 6, 7] rfl ?_
    exact he0 _ _ h.symm
  · rw [if_neg c11] at h
    refine J_iload (z := 7) dX10_breathed_84 rfl (q := 86) rfl ?_
    refine J_iload (z := 6) dX10_breathed_86 rfl (q := 88) rfl ?_
    refine J_iload (z := 8) dX10_breathed_88 rfl (q := 90) rfl ?_
    obtain ⟨vk13, hk13, h⟩ := bindS h
    refine J_cSi (as := [.int a6, .int a8]) dX10_breathed_90 mRX10_229 (tX10_has  hk13) rfl (Nat.le_of_ble_eq_true rfl) (Nat.le_of_ble_eq_true rfl) (Nat.le_of_ble_eq_true rfl) (q := 93) rfl ?_
    intro bk13
    refine J_if_eq (tgt := 118) dX10_breathed_93 (by decide) (q := 96) rfl (fun c13 => ?_) (fun c13 => ?_)
    · rw [if_pos c13] at h
      refine J_iconst (x := 0) dX10_breathed_118 (by decide) (q := 119) rfl ?_
      refine J_pick [0, 1, 2, 3, 4, 5, 6, 8] rfl ?_
      exact tX10_breathed_b119 ha0 h hc he0
    · rw [if_neg c13] at h
      refine J_aload_n (z := 0) dX10_breathed_96 rfl rfl (q := 97) rfl ?_
      refine J_aload_n (z := 0) dX10_breathed_97 rfl rfl (q := 98) rfl ?_
      obtain ⟨r15, er15, h⟩ := bindS h
      refine J_getR dX10_breathed_98 lRX10_61 ha0 rfl (by decide) er15 (q := 101) rfl (fun fr15 => ?_)
      refine J_iload (z := 8) dX10_breathed_101 rfl (q := 103) rfl ?_
      refine J_iload_n (z := 1) dX10_breathed_103 rfl rfl (q := 104) rfl ?_
      refine J_iload_n (z := 2) dX10_breathed_104 rfl rfl (q := 105) rfl ?_
      refine J_iload (z := 6) dX10_breathed_105 rfl (q := 107) rfl ?_
      obtain ⟨vk16, hk16, h⟩ := bindS h
      refine J_cSi (as := [.int a6]) dX10_breathed_107 mRX10_477 (tJ6_bitCount_0f7a4  hk16) rfl (Nat.le_of_ble_eq_true rfl) (Nat.le_of_ble_eq_true rfl) (Nat.le_of_ble_eq_true rfl) (q := 110) rfl ?_
      intro bk16
      refine J_iconst (x := 1) dX10_breathed_110 (by decide) (q := 111) rfl ?_
      refine J_isub dX10_breathed_111  (q := 112) rfl ?_
      obtain ⟨vk17, sk17, hk17, h⟩ := bnd2S h
      refine J_cVi (as := [.ref r15, .int a8, .int a1, .int a2, .int (vk16 - 1)]) dX10_breathed_112 mRX10_340 ha0 (tX10_meltBy ha0 fr15 hk17) rfl (Nat.le_of_ble_eq_true rfl) (Nat.le_of_ble_eq_true rfl) (Nat.le_of_ble_eq_true rfl) (q := 115) rfl ?_
      intro bk17
      refine J_goto (tgt := 119) dX10_breathed_115 (by decide) ?_
      refine J_pick [0, 1, 2, 3, 4, 5, 6, 8] rfl ?_
      exact tX10_breathed_b119 ha0 h hc he0

def fX10_breathed_w75 (a0 : Nat) (a1 : Int32) (a2 : Int32) (a3 : Int32) (a4 : Int32) (a5 : Int32) (a6 : Int32) (a7 : Int32) (a8 : Int32) (σ : Mm) : Option (Int32 × Mm) :=
  wh (fun a : Int32 × Int32 × Mm => fX10_breathed_l75 a0 a1 a2 a3 a4 a5 a6 a.1 a.2.1 a.2.2) BIG (a7, a8, σ)
set_option maxRecDepth 20000 in
set_option maxHeartbeats 2000000 in
theorem tX10_breathed_w75 {X : XS} {n : Nat} {σ : Mm} {F : Nat × Option Value × Mm} {a0 : Nat} {a1 : Int32} {a2 : Int32} {a3 : Int32} {a4 : Int32} {a5 : Int32} {a6 : Int32} {a7 : Int32} {a8 : Int32} (ha0 : RT n a0 110) {res : Int32 × Mm} (h : fX10_breathed_w75 a0 a1 a2 a3 a4 a5 a6 a7 a8 σ = some res) (he0 : ∀ (b7 : Int32) (s : Mm), res = (b7, s) → J X mX10_breathed 113 0 0 F 128 [(0, .ref a0), (1, .int a1), (2, .int a2), (3, .int a3), (4, .int a4), (5, .int a5), (6, .int a6), (7, .int b7)] [] n s) : J X mX10_breathed 113 0 0 F 75 [(0, .ref a0), (1, .int a1), (2, .int a2), (3, .int a3), (4, .int a4), (5, .int a5), (6, .int a6), (7, .int a7), (8, .int a8)] [] n σ := by
  unfold fX10_breathed_w75 at h
  refine wh_rule (P := fun a : Int32 × Int32 × Mm => J X mX10_breathed 113 0 0 F 75 [(0, .ref a0), (1, .int a1), (2, .int a2), (3, .int a3), (4, .int a4), (5, .int a5), (6, .int a6), (7, .int a.1), (8, .int a.2.1)] [] n a.2.2) (K := fun b => b = res) ?_ _ _ _ h rfl
  intro a
  refine ⟨fun a2 hb hP => ?_, fun b hb hK => ?_⟩
  · exact tX10_breathed_l75 ha0 hb (fun _ _ _ e => by cases e; exact hP) (fun _ _ e => by cases e)
  · subst hK
    exact tX10_breathed_l75 ha0 hb (fun _ _ _ e => by cases e) (fun v0 v1 e => he0 v0 v1 (Sum.inr.inj e))

def fX10_breathed_b150 (a0 : Nat) (a1 : Int32) (a2 : Int32) (a3 : Int32) (a4 : Int32) (a5 : Int32) (a6 : Int32) (σ : Mm) : Option ((Int32 × Int32 × Mm) ⊕ ((Int32 × Mm) ⊕ Int32 × Mm)) :=
  some (Sum.inl (a5, (a6 + 1), σ))
set_option maxRecDepth 20000 in
set_option maxHeartbeats 2000000 in
theorem tX10_breathed_b150 {X : XS} {n : Nat} {σ : Mm} {F : Nat × Option Value × Mm} {a0 : Nat} {a1 : Int32} {a2 : Int32} {a3 : Int32} {a4 : Int32} {a5 : Int32} {a6 : Int32} (ha0 : RT n a0 110) {res : (Int32 × Int32 × Mm) ⊕ ((Int32 × Mm) ⊕ Int32 × Mm)} (h : fX10_breathed_b150 a0 a1 a2 a3 a4 a5 a6 σ = some res) (hc : ∀ (b5 : Int32) (b6 : Int32) (s : Mm), res = .inl (b5, b6, s) → J X mX10_breathed 113 0 0 F 58 [(0, .ref a0), (1, .int a1), (2, .int a2), (3, .int a3), (4, .int a4), (5, .int b5), (6, .int b6)] [] n s) (he0 : ∀ (b5 : Int32) (s : Mm), res = .inr (Sum.inr (b5, s)) → J X mX10_breathed 113 0 0 F 156 [(4, .int a4), (5, .int b5)] [] n s) (hr : ∀ (v : Int32) (s : Mm), res = .inr (Sum.inl (v, s)) → F = (n, some (.int v), s)) : J X mX10_breathed 113 0 0 F 150 [(0, .ref a0), (1, .int a1), (2, .int a2), (3, .int a3), (4, .int a4), (5, .int a5), (6, .int a6)] [] n σ := by
  unfold fX10_breathed_b150 at h
  refine J_iinc (z := 6) (y := (a6 + 1)) (lv' := [(6, .int (a6 + 1)), (0, .ref a0), (1, .int a1), (2, .int a2), (3, .int a3), (4, .int a4), (5, .int a5)]) dX10_breathed_150 rfl rfl (by decide) rfl (q := 153) rfl ?_
  refine J_goto (tgt := 58) dX10_breathed_153 (by decide) ?_
  have h := Option.some.inj h
  refine J_pick [1, 2, 3, 4, 5, 6, 0] rfl ?_
  exact hc _ _ _ h.symm

def fX10_breathed_l58 (a0 : Nat) (a1 : Int32) (a2 : Int32) (a3 : Int32) (a4 : Int32) (a5 : Int32) (a6 : Int32) (σ : Mm) : Option ((Int32 × Int32 × Mm) ⊕ ((Int32 × Mm) ⊕ Int32 × Mm)) :=
  if (shlI 1 (gI σ a0 28)) ≤ a6 then some (Sum.inr (Sum.inr (a5, σ))) else (fX10_breathed_w75 a0 a1 a2 a3 a4 a5 a6 0 0 σ).bind (fun o18 => (fun xo18_7 so18 => if xo18_7 = a3 then if a5 = a4 then some (Sum.inr (Sum.inl (a6, so18))) else fX10_breathed_b150 a0 a1 a2 a3 a4 (a5 + 1) a6 so18 else fX10_breathed_b150 a0 a1 a2 a3 a4 a5 a6 so18) o18.1 o18.2)
set_option maxRecDepth 20000 in
set_option maxHeartbeats 2000000 in
theorem tX10_breathed_l58 {X : XS} {n : Nat} {σ : Mm} {F : Nat × Option Value × Mm} {a0 : Nat} {a1 : Int32} {a2 : Int32} {a3 : Int32} {a4 : Int32} {a5 : Int32} {a6 : Int32} (ha0 : RT n a0 110) {res : (Int32 × Int32 × Mm) ⊕ ((Int32 × Mm) ⊕ Int32 × Mm)} (h : fX10_breathed_l58 a0 a1 a2 a3 a4 a5 a6 σ = some res) (hc : ∀ (b5 : Int32) (b6 : Int32) (s : Mm), res = .inl (b5, b6, s) → J X mX10_breathed 113 0 0 F 58 [(0, .ref a0), (1, .int a1), (2, .int a2), (3, .int a3), (4, .int a4), (5, .int b5), (6, .int b6)] [] n s) (he0 : ∀ (b5 : Int32) (s : Mm), res = .inr (Sum.inr (b5, s)) → J X mX10_breathed 113 0 0 F 156 [(4, .int a4), (5, .int b5)] [] n s) (hr : ∀ (v : Int32) (s : Mm), res = .inr (Sum.inl (v, s)) → F = (n, some (.int v), s)) : J X mX10_breathed 113 0 0 F 58 [(0, .ref a0), (1, .int a1), (2, .int a2), (3, .int a3), (4, .int a4), (5, .int a5), (6, .int a6)] [] n σ := by
  unfold fX10_breathed_l58 at h
  refine J_iload (z := 6) dX10_breathed_58 rfl (q := 60) rfl ?_
  refine J_iconst (x := 1) dX10_breathed_60 (by decide) (q := 61) rfl ?_
  refine J_aload_n (z := 0) dX10_breathed_61 rfl rfl (q := 62) rfl ?_
  refine J_getI dX10_breathed_62 lRX10_294 ha0 rfl (q := 65) rfl ?_
  refine J_ishl dX10_breathed_65  (q := 66) rfl ?_
  refine J_icmp_ge (tgt := 156) dX10_breathed_66 (by decide) (q := 69) rfl (fun c10 => ?_) (fun c10 => ?_)
  · rw [if_pos c10] at h
    have h := Option.some.inj h
    refine J_pick [4, 5] rfl ?_
    exact he0 _ _ h.symm
  · rw [if_neg c10] at h
    refine J_iconst (x := 0) dX10_breathed_69 (by decide) (q := 70) rfl ?_
    refine J_istore (lv' := [(7, .int 0), (0, .ref a0), (1, .int a1), (2, .int a2), (3, .int a3), (4, .int a4), (5, .int a5), (6, .int a6)]) dX10_breathed_70 (by decide) rfl (q := 72) rfl ?_
    refine J_iconst (x := 0) dX10_breathed_72 (by decide) (q := 73) rfl ?_
    refine J_istore (lv' := [(8, .int 0), (7, .int 0), (0, .ref a0), (1, .int a1), (2, .int a2), (3, .int a3), (4, .int a4), (5, .int a5), (6, .int a6)]) dX10_breathed_73 (by decide) rfl (q := 75) rfl ?_
    obtain ⟨o18, hlo18, h⟩ := bindS h
    refine J_pick [2, 3, 4, 5, 6, 7, 8, 1, 0] rfl ?_
    refine tX10_breathed_w75 ha0 hlo18 ?_
    · intro xo18_7 so18 qo18
      rw [qo18] at h
      try dsimp only [Sum.elim_inl, Sum.elim_inr] at h
      refine J_iload (z := 7) dX10_breathed_128 rfl (q := 130) rfl ?_
      refine J_iload_n (z := 3) dX10_breathed_130 rfl rfl (q := 131) rfl ?_
      refine J_icmp_eq (tgt := 137) dX10_breathed_131 (by decide) (q := 134) rfl (fun c18 => ?_) (fun c18 => ?_)
      · rw [if_pos c18] at h
        refine J_iload (z := 5) dX10_breathed_137 rfl (q := 139) rfl ?_
        refine J_iload (z := 4) dX10_breathed_139 rfl (q := 141) rfl ?_
        refine J_icmp_ne (tgt := 147) dX10_breathed_141 (by decide) (q := 144) rfl (fun c19 => ?_) (fun c19 => ?_)
        · rw [if_neg c19] at h
          refine J_iinc (z := 5) (y := (a5 + 1)) (lv' := [(5, .int (a5 + 1)), (0, .ref a0), (1, .int a1), (2, .int a2), (3, .int a3), (4, .int a4), (6, .int a6), (7, .int xo18_7)]) dX10_breathed_147 rfl rfl (by decide) rfl (q := 150) rfl ?_
          refine J_pick [1, 2, 3, 4, 5, 0, 6] rfl ?_
          exact tX10_breathed_b150 ha0 h hc he0 hr
        · rw [if_pos c19] at h
          refine J_iload (z := 6) dX10_breathed_144 rfl (q := 146) rfl ?_
          have h := Option.some.inj h
          exact J_ireturn dX10_breathed_146 rfl rfl (hr _ _ h.symm)
      · rw [if_neg c18] at h
        refine J_goto (tgt := 150) dX10_breathed_134 (by decide) ?_
        refine J_pick [0, 1, 2, 3, 4, 5, 6] rfl ?_
        exact tX10_breathed_b150 ha0 h hc he0 hr

def fX10_breathed_w58 (a0 : Nat) (a1 : Int32) (a2 : Int32) (a3 : Int32) (a4 : Int32) (a5 : Int32) (a6 : Int32) (σ : Mm) : Option ((Int32 × Mm) ⊕ Int32 × Mm) :=
  wh (fun a : Int32 × Int32 × Mm => fX10_breathed_l58 a0 a1 a2 a3 a4 a.1 a.2.1 a.2.2) BIG (a5, a6, σ)
set_option maxRecDepth 20000 in
set_option maxHeartbeats 2000000 in
theorem tX10_breathed_w58 {X : XS} {n : Nat} {σ : Mm} {F : Nat × Option Value × Mm} {a0 : Nat} {a1 : Int32} {a2 : Int32} {a3 : Int32} {a4 : Int32} {a5 : Int32} {a6 : Int32} (ha0 : RT n a0 110) {res : (Int32 × Mm) ⊕ Int32 × Mm} (h : fX10_breathed_w58 a0 a1 a2 a3 a4 a5 a6 σ = some res) (he0 : ∀ (b5 : Int32) (s : Mm), res = (Sum.inr (b5, s)) → J X mX10_breathed 113 0 0 F 156 [(4, .int a4), (5, .int b5)] [] n s) (hr : ∀ (v : Int32) (s : Mm), res = (Sum.inl (v, s)) → F = (n, some (.int v), s)) : J X mX10_breathed 113 0 0 F 58 [(0, .ref a0), (1, .int a1), (2, .int a2), (3, .int a3), (4, .int a4), (5, .int a5), (6, .int a6)] [] n σ := by
  unfold fX10_breathed_w58 at h
  refine wh_rule (P := fun a : Int32 × Int32 × Mm => J X mX10_breathed 113 0 0 F 58 [(0, .ref a0), (1, .int a1), (2, .int a2), (3, .int a3), (4, .int a4), (5, .int a.1), (6, .int a.2.1)] [] n a.2.2) (K := fun b => b = res) ?_ _ _ _ h rfl
  intro a
  refine ⟨fun a2 hb hP => ?_, fun b hb hK => ?_⟩
  · exact tX10_breathed_l58 ha0 hb (fun _ _ _ e => by cases e; exact hP) (fun _ _ e => by cases e) (fun _ _ e => by cases e)
  · subst hK
    exact tX10_breathed_l58 ha0 hb (fun _ _ _ e => by cases e) (fun v0 v1 e => he0 v0 v1 (Sum.inr.inj e)) (fun v0 v1 e => hr v0 v1 (Sum.inr.inj e))

def fX10_breathed (a0 : Nat) (a1 : Int32) (a2 : Int32) (a3 : Int32) (a4 : Int32) (σ : Mm) : Option (Int32 × Mm) :=
  (fX10_isPage a0 a1 (sI σ a0 0 0)).bind fun vk1 => if vk1 = 0 then some ((-1), (sI σ a0 0 0)) else (fX10_isCell a0 a2 (sI σ a0 0 0)).bind fun vk3 => if vk3 = 0 then some ((-1), (sI σ a0 0 0)) else (gR σ a0 33).bind fun r5 => if ixB (2 * a1) (ln r5) = true then if (gI (sI σ a0 0 0) r5 (Int32.toNatClampNeg (2 * a1))) = 0 then some ((-1), (sI σ a0 0 0)) else (fX10_isIn (Int32.toInt64 a3) 0 99 (sI σ a0 0 0)).bind fun vk8 => if vk8 = 0 then some ((-1), (sI σ a0 0 0)) else if (-1) ≤ a4 then (fX10_breathed_w58 a0 a1 a2 a3 a4 0 0 (sI σ a0 0 0)).bind (Sum.elim (fun eo210 => some eo210) (fun eo211 => (fun xo21_5 so21 => if a4 = (-1) then some (xo21_5, so21) else some ((-1), so21)) eo211.1 eo211.2)) else some ((-1), (sI σ a0 0 0)) else none
set_option maxRecDepth 20000 in
set_option maxHeartbeats 2000000 in
theorem tX10_breathed {X : XS} {n : Nat} {σ : Mm} {a0 : Nat} {a1 : Int32} {a2 : Int32} {a3 : Int32} {a4 : Int32} (ha0 : RT n a0 110) {res : Int32 × Mm} (h : fX10_breathed a0 a1 a2 a3 a4 σ = some res) : MT X yX10_breathed mX10_breathed 113 0 0 [.ref a0, .int a1, .int a2, .int a3, .int a4] n σ (n, some (.int res.1), res.2) := by
  unfold fX10_breathed at h
  refine MT_of (by decide +kernel) rfl (fun h => by cases h) (Nat.le_of_ble_eq_true rfl) ?_
  show J X mX10_breathed 113 0 0 (n, some (.int res.1), res.2) 0 [(0, .ref a0), (1, .int a1), (2, .int a2), (3, .int a3), (4, .int a4)] [] n σ
  refine J_aload_n (z := 0) dX10_breathed_0 rfl rfl (q := 1) rfl ?_
  refine J_iconst (x := 0) dX10_breathed_1 (by decide) (q := 2) rfl ?_
  refine J_putI dX10_breathed_2 lRX10_96 (fun h => by cases h) ha0 rfl (q := 5) rfl ?_
  refine J_aload_n (z := 0) dX10_breathed_5 rfl rfl (q := 6) rfl ?_
  refine J_iload_n (z := 1) dX10_breathed_6 rfl rfl (q := 7) rfl ?_
  obtain ⟨vk1, hk1, h⟩ := bindS h
  refine J_cVi (as := [.int a1]) dX10_breathed_7 mRX10_346 ha0 (tX10_isPage ha0 hk1) rfl (Nat.le_of_ble_eq_true rfl) (Nat.le_of_ble_eq_true rfl) (Nat.le_of_ble_eq_true rfl) (q := 10) rfl ?_
  intro bk1
  refine J_if_eq (tgt := 50) dX10_breathed_10 (by decide) (q := 13) rfl (fun c1 => ?_) (fun c1 => ?_)
  · rw [if_pos c1] at h
    refine J_iconst (x := (-1)) dX10_breathed_50 (by decide) (q := 51) rfl ?_
    have h := Option.some.inj h
    subst h
    exact J_ireturn dX10_breathed_51 rfl rfl rfl
  · rw [if_neg c1] at h
    refine J_aload_n (z := 0) dX10_breathed_13 rfl rfl (q := 14) rfl ?_
    refine J_iload_n (z := 2) dX10_breathed_14 rfl rfl (q := 15) rfl ?_
    obtain ⟨vk3, hk3, h⟩ := bindS h
    refine J_cVi (as := [.int a2]) dX10_breathed_15 mRX10_366 ha0 (tX10_isCell ha0 hk3) rfl (Nat.le_of_ble_eq_true rfl) (Nat.le_of_ble_eq_true rfl) (Nat.le_of_ble_eq_true rfl) (q := 18) rfl ?_
    intro bk3
    refine J_if_eq (tgt := 50) dX10_breathed_18 (by decide) (q := 21) rfl (fun c3 => ?_) (fun c3 => ?_)
    · rw [if_pos c3] at h
      refine J_iconst (x := (-1)) dX10_breathed_50 (by decide) (q := 51) rfl ?_
      have h := Option.some.inj h
      subst h
      exact J_ireturn dX10_breathed_51 rfl rfl rfl
    · rw [if_neg c3] at h
      refine J_aload_n (z := 0) dX10_breathed_21 rfl rfl (q := 22) rfl ?_
      obtain ⟨r5, er5, h⟩ := bindS h
      refine J_getR dX10_breathed_22 lRX10_61 ha0 rfl (by decide) er5 (q := 25) rfl (fun fr5 => ?_)
      refine J_iconst (x := 2) dX10_breathed_25 (by decide) (q := 26) rfl ?_
      refine J_iload_n (z := 1) dX10_breathed_26 rfl rfl (q := 27) rfl ?_
      refine J_imul dX10_breathed_27  (q := 28) rfl ?_
      obtain ⟨g6, h⟩ := iteS h
      refine J_iald dX10_breathed_28 fr5 (ixB_ok g6) (q := 29) rfl ?_
      refine J_if_eq (tgt := 50) dX10_breathed_29 (by decide) (q := 32) rfl (fun c6 => ?_) (fun c6 => ?_)
      · rw [if_pos c6] at h
        refine J_iconst (x := (-1)) dX10_breathed_50 (by decide) (q := 51) rfl ?_
        have h := Option.some.inj h
        subst h
        exact J_ireturn dX10_breathed_51 rfl rfl rfl
      · rw [if_neg c6] at h
        refine J_iload_n (z := 3) dX10_breathed_32 rfl rfl (q := 33) rfl ?_
        refine J_i2l dX10_breathed_33  (q := 34) rfl ?_
        refine J_lconst (x := 0) dX10_breathed_34 (by decide) (q := 35) rfl ?_
        refine J_ldc2 (x := 99) dX10_breathed_35 kRX10_361 (q := 38) rfl ?_
        obtain ⟨vk8, hk8, h⟩ := bindS h
        refine J_cSi (as := [.long (Int32.toInt64 a3), .long 0, .long 99]) dX10_breathed_38 mRX10_217 (tX10_isIn  hk8) rfl (Nat.le_of_ble_eq_true rfl) (Nat.le_of_ble_eq_true rfl) (Nat.le_of_ble_eq_true rfl) (q := 41) rfl ?_
        intro bk8
        refine J_if_eq (tgt := 50) dX10_breathed_41 (by decide) (q := 44) rfl (fun c8 => ?_) (fun c8 => ?_)
        · rw [if_pos c8] at h
          refine J_iconst (x := (-1)) dX10_breathed_50 (by decide) (q := 51) rfl ?_
          have h := Option.some.inj h
          subst h
          exact J_ireturn dX10_breathed_51 rfl rfl rfl
        · rw [if_neg c8] at h
          refine J_iload (z := 4) dX10_breathed_44 rfl (q := 46) rfl ?_
          refine J_iconst (x := (-1)) dX10_breathed_46 (by decide) (q := 47) rfl ?_
          refine J_icmp_ge (tgt := 52) dX10_breathed_47 (by decide) (q := 50) rfl (fun c9 => ?_) (fun c9 => ?_)
          · rw [if_pos c9] at h
            refine J_iconst (x := 0) dX10_breathed_52 (by decide) (q := 53) rfl ?_
            refine J_istore (lv' := [(5, .int 0), (0, .ref a0), (1, .int a1), (2, .int a2), (3, .int a3), (4, .int a4)]) dX10_breathed_53 (by decide) rfl (q := 55) rfl ?_
            refine J_iconst (x := 0) dX10_breathed_55 (by decide) (q := 56) rfl ?_
            refine J_istore (lv' := [(6, .int 0), (5, .int 0), (0, .ref a0), (1, .int a1), (2, .int a2), (3, .int a3), (4, .int a4)]) dX10_breathed_56 (by decide) rfl (q := 58) rfl ?_
            obtain ⟨o21, hlo21, h⟩ := bindS h
            refine J_pick [2, 3, 4, 5, 6, 1, 0] rfl ?_
            refine tX10_breathed_w58 ha0 hlo21 ?_ ?_
            · intro xo21_5 so21 qo21
              rw [qo21] at h
              try dsimp only [Sum.elim_inl, Sum.elim_inr] at h
              refine J_iload (z := 0) dX10_breathed_156 rfl (q := 158) rfl ?_
              refine J_iconst (x := (-1)) dX10_breathed_158 (by decide) (q := 159) rfl ?_
              refine J_icmp_ne (tgt := 167) dX10_breathed_159 (by decide) (q := 162) rfl (fun c21 => ?_) (fun c21 => ?_)
              · rw [if_neg c21] at h
                refine J_iconst (x := (-1)) dX10_breathed_167 (by decide) (q := 168) rfl ?_
                have h := Option.some.inj h
                subst h
                exact J_ireturn dX10_breathed_168 rfl rfl rfl
              · rw [if_pos c21] at h
                refine J_iload (z := 1) dX10_breathed_162 rfl (q := 164) rfl ?_
                refine J_goto (tgt := 168) dX10_breathed_164 (by decide) ?_
                have h := Option.some.inj h
                subst h
                exact J_ireturn dX10_breathed_168 rfl rfl rfl
            · intro vo21 so21 qo21
              rw [qo21] at h
              try dsimp only [Sum.elim_inl, Sum.elim_inr] at h
              have h := Option.some.inj h
              subst h
              rfl
          · rw [if_neg c9] at h
            refine J_iconst (x := (-1)) dX10_breathed_50 (by decide) (q := 51) rfl ?_
            have h := Option.some.inj h
            subst h
            exact J_ireturn dX10_breathed_51 rfl rfl rfl

def fX10_exam_b71 (a0 : Nat) (a1 : Int32) (a2 : Int32) (a3 : Int32) (a4 : Int32) (z0 : Nat) (z1 : Int32) (z2 : Int64) (σ : Mm) : Option ((Int32 × Mm) ⊕ (Mm)) :=
  if ixB z1 (ln z0) = true then some (Sum.inl ((a4 + 1), (sL σ z0 (Int32.toNatClampNeg z1) z2))) else none
set_option maxRecDepth 20000 in
set_option maxHeartbeats 2000000 in
theorem tX10_exam_b71 {X : XS} {n : Nat} {σ : Mm} {F : Nat × Option Value × Mm} {a0 : Nat} {a1 : Int32} {a2 : Int32} {a3 : Int32} {a4 : Int32} {z0 : Nat} {z1 : Int32} {z2 : Int64} (ha0 : RT n a0 110) (hz0 : RT n z0 201) {res : (Int32 × Mm) ⊕ (Mm)} (h : fX10_exam_b71 a0 a1 a2 a3 a4 z0 z1 z2 σ = some res) (hc : ∀ (b4 : Int32) (s : Mm), res = .inl (b4, s) → J X mX10_exam 2 0 0 F 46 [(0, .ref a0), (1, .int a1), (2, .int a2), (3, .int a3), (4, .int b4)] [] n s) (he0 : ∀  (s : Mm), res = .inr s → J X mX10_exam 2 0 0 F 78 [(0, .ref a0), (1, .int a1), (2, .int a2), (3, .int a3)] [] n s) : J X mX10_exam 2 0 0 F 71 [(0, .ref a0), (1, .int a1), (2, .int a2), (3, .int a3), (4, .int a4)] [.long z2, .int z1, .ref z0] n σ := by
  unfold fX10_exam_b71 at h
  obtain ⟨g10, h⟩ := iteS h
  refine J_last dX10_exam_71 hz0 (ixB_ok g10) (q := 72) rfl ?_
  refine J_iinc (z := 4) (y := (a4 + 1)) (lv' := [(4, .int (a4 + 1)), (0, .ref a0), (1, .int a1), (2, .int a2), (3, .int a3)]) dX10_exam_72 rfl rfl (by decide) rfl (q := 75) rfl ?_
  refine J_goto (tgt := 46) dX10_exam_75 (by decide) ?_
  have h := Option.some.inj h
  refine J_pick [1, 2, 3, 4, 0] rfl ?_
  exact hc _ _ h.symm

def fX10_exam_l46 (a0 : Nat) (a1 : Int32) (a2 : Int32) (a3 : Int32) (a4 : Int32) (σ : Mm) : Option ((Int32 × Mm) ⊕ (Mm)) :=
  if 14 ≤ a4 then some (Sum.inr σ) else (gR σ a0 49).bind fun r8 => if a4 = 0 then fX10_exam_b71 a0 a1 a2 a3 a4 r8 a4 1000000000 σ else fX10_exam_b71 a0 a1 a2 a3 a4 r8 a4 0 σ
set_option maxRecDepth 20000 in
set_option maxHeartbeats 2000000 in
theorem tX10_exam_l46 {X : XS} {n : Nat} {σ : Mm} {F : Nat × Option Value × Mm} {a0 : Nat} {a1 : Int32} {a2 : Int32} {a3 : Int32} {a4 : Int32} (ha0 : RT n a0 110) {res : (Int32 × Mm) ⊕ (Mm)} (h : fX10_exam_l46 a0 a1 a2 a3 a4 σ = some res) (hc : ∀ (b4 : Int32) (s : Mm), res = .inl (b4, s) → J X mX10_exam 2 0 0 F 46 [(0, .ref a0), (1, .int a1), (2, .int a2), (3, .int a3), (4, .int b4)] [] n s) (he0 : ∀  (s : Mm), res = .inr s → J X mX10_exam 2 0 0 F 78 [(0, .ref a0), (1, .int a1), (2, .int a2), (3, .int a3)] [] n s) : J X mX10_exam 2 0 0 F 46 [(0, .ref a0), (1, .int a1), (2, .int a2), (3, .int a3), (4, .int a4)] [] n σ := by
  unfold fX10_exam_l46 at h
  refine J_iload (z := 4) dX10_exam_46 rfl (q := 48) rfl ?_
  refine J_bipush (x := 14) dX10_exam_48 (by decide) (q := 50) rfl ?_
  refine J_icmp_ge (tgt := 78) dX10_exam_50 (by decide) (q := 53) rfl (fun c6 => ?_) (fun c6 => ?_)
  · rw [if_pos c6] at h
    have h := Option.some.inj h
    refine J_pick [0, 1, 2, 3] rfl ?_
    exact he0 _ h.symm
  · rw [if_neg c6] at h
    refine J_aload_n (z := 0) dX10_exam_53 rfl rfl (q := 54) rfl ?_
    obtain ⟨r8, er8, h⟩ := bindS h
    refine J_getR dX10_exam_54 lRX10_90 ha0 rfl (by decide) er8 (q := 57) rfl (fun fr8 => ?_)
    refine J_iload (z := 4) dX10_exam_57 rfl (q := 59) rfl ?_
    refine J_iload (z := 4) dX10_exam_59 rfl (q := 61) rfl ?_
    refine J_if_ne (tgt := 70) dX10_exam_61 (by decide) (q := 64) rfl (fun c8 => ?_) (fun c8 => ?_)
    · rw [if_neg c8] at h
      refine J_lconst (x := 0) dX10_exam_70 (by decide) (q := 71) rfl ?_
      refine J_pick [0, 1, 2, 3, 4] rfl ?_
      exact tX10_exam_b71 ha0 fr8 h hc he0
    · rw [if_pos c8] at h
      refine J_ldc2 (x := 1000000000) dX10_exam_64 kRX10_508 (q := 67) rfl ?_
      refine J_goto (tgt := 71) dX10_exam_67 (by decide) ?_
      refine J_pick [0, 1, 2, 3, 4] rfl ?_
      exact tX10_exam_b71 ha0 fr8 h hc he0

def fX10_exam_w46 (a0 : Nat) (a1 : Int32) (a2 : Int32) (a3 : Int32) (a4 : Int32) (σ : Mm) : Option (Mm) :=
  wh (fun a : Int32 × Mm => fX10_exam_l46 a0 a1 a2 a3 a.1 a.2) BIG (a4, σ)
set_option maxRecDepth 20000 in
set_option maxHeartbeats 2000000 in
theorem tX10_exam_w46 {X : XS} {n : Nat} {σ : Mm} {F : Nat × Option Value × Mm} {a0 : Nat} {a1 : Int32} {a2 : Int32} {a3 : Int32} {a4 : Int32} (ha0 : RT n a0 110) {res : Mm} (h : fX10_exam_w46 a0 a1 a2 a3 a4 σ = some res) (he0 : ∀  (s : Mm), res = s → J X mX10_exam 2 0 0 F 78 [(0, .ref a0), (1, .int a1), (2, .int a2), (3, .int a3)] [] n s) : J X mX10_exam 2 0 0 F 46 [(0, .ref a0), (1, .int a1), (2, .int a2), (3, .int a3), (4, .int a4)] [] n σ := by
  unfold fX10_exam_w46 at h
  refine wh_rule (P := fun a : Int32 × Mm => J X mX10_exam 2 0 0 F 46 [(0, .ref a0), (1, .int a1), (2, .int a2), (3, .int a3), (4, .int a.1)] [] n a.2) (K := fun b => b = res) ?_ _ _ _ h rfl
  intro a
  refine ⟨fun a2 hb hP => ?_, fun b hb hK => ?_⟩
  · exact tX10_exam_l46 ha0 hb (fun _ _ e => by cases e; exact hP) (fun _ e => by cases e)
  · subst hK
    exact tX10_exam_l46 ha0 hb (fun _ _ e => by cases e) (fun v0 e => he0 v0 (Sum.inr.inj e))

def fX10_exam_l91 (a0 : Nat) (a1 : Int32) (a2 : Int32) (a3 : Int32) (a4 : Int32) (a5 : Int32) (σ : Mm) : Option ((Int32 × Mm) ⊕ (Mm)) :=
  if a5 < 0 then some (Sum.inr σ) else (gR σ a0 49).bind fun r14 => if ixB a5 (ln r14) = true then if ixB (a5 + 1) (ln r14) = true then if ixB (a5 + 1) (ln r14) = true then if ixB a5 (ln r14) = true then if ixB a5 (ln r14) = true then some (Sum.inl ((a5 + (-1)), (sL (sL σ r14 (Int32.toNatClampNeg (a5 + 1)) ((gL σ r14 (Int32.toNatClampNeg (a5 + 1))) + (((gL σ r14 (Int32.toNatClampNeg a5)) * (Int32.toInt64 a3)) / 100))) r14 (Int32.toNatClampNeg a5) ((gL (sL σ r14 (Int32.toNatClampNeg (a5 + 1)) ((gL σ r14 (Int32.toNatClampNeg (a5 + 1))) + (((gL σ r14 (Int32.toNatClampNeg a5)) * (Int32.toInt64 a3)) / 100))) r14 (Int32.toNatClampNeg a5)) - (((gL σ r14 (Int32.toNatClampNeg a5)) * (Int32.toInt64 a3)) / 100))))) else none else none else none else none else none
set_option maxRecDepth 20000 in
set_option maxHeartbeats 2000000 in
theorem tX10_exam_l91 {X : XS} {n : Nat} {σ : Mm} {F : Nat × Option Value × Mm} {a0 : Nat} {a1 : Int32} {a2 : Int32} {a3 : Int32} {a4 : Int32} {a5 : Int32} (ha0 : RT n a0 110) {res : (Int32 × Mm) ⊕ (Mm)} (h : fX10_exam_l91 a0 a1 a2 a3 a4 a5 σ = some res) (hc : ∀ (b5 : Int32) (s : Mm), res = .inl (b5, s) → J X mX10_exam 2 0 0 F 91 [(0, .ref a0), (1, .int a1), (2, .int a2), (3, .int a3), (4, .int a4), (5, .int b5)] [] n s) (he0 : ∀  (s : Mm), res = .inr s → J X mX10_exam 2 0 0 F 144 [(0, .ref a0), (1, .int a1), (2, .int a2), (3, .int a3), (4, .int a4)] [] n s) : J X mX10_exam 2 0 0 F 91 [(0, .ref a0), (1, .int a1), (2, .int a2), (3, .int a3), (4, .int a4), (5, .int a5)] [] n σ := by
  unfold fX10_exam_l91 at h
  refine J_iload (z := 5) dX10_exam_91 rfl (q := 93) rfl ?_
  refine J_if_lt (tgt := 144) dX10_exam_93 (by decide) (q := 96) rfl (fun c12 => ?_) (fun c12 => ?_)
  · rw [if_pos c12] at h
    have h := Option.some.inj h
    refine J_pick [0, 1, 2, 3, 4] rfl ?_
    exact he0 _ h.symm
  · rw [if_neg c12] at h
    refine J_aload_n (z := 0) dX10_exam_96 rfl rfl (q := 97) rfl ?_
    obtain ⟨r14, er14, h⟩ := bindS h
    refine J_getR dX10_exam_97 lRX10_90 ha0 rfl (by decide) er14 (q := 100) rfl (fun fr14 => ?_)
    refine J_iload (z := 5) dX10_exam_100 rfl (q := 102) rfl ?_
    obtain ⟨g15, h⟩ := iteS h
    refine J_lald dX10_exam_102 fr14 (ixB_ok g15) (q := 103) rfl ?_
    refine J_iload_n (z := 3) dX10_exam_103 rfl rfl (q := 104) rfl ?_
    refine J_i2l dX10_exam_104  (q := 105) rfl ?_
    refine J_lmul dX10_exam_105  (q := 106) rfl ?_
    refine J_ldc2 (x := 100) dX10_exam_106 kRX10_326 (q := 109) rfl ?_
    refine J_ldiv dX10_exam_109 (by decide) (q := 110) rfl ?_
    refine J_lstore (lv' := [(6, .long (((gL σ r14 (Int32.toNatClampNeg a5)) * (Int32.toInt64 a3)) / 100)), (0, .ref a0), (1, .int a1), (2, .int a2), (3, .int a3), (4, .int a4), (5, .int a5)]) dX10_exam_110 (by decide) rfl (q := 112) rfl ?_
    refine J_aload_n (z := 1) dX10_exam_112 rfl rfl (q := 113) rfl ?_
    refine J_getR dX10_exam_113 lRX10_90 ha0 rfl (by decide) er14 (q := 116) rfl (fun _ => ?_)
    refine J_iload (z := 6) dX10_exam_116 rfl (q := 118) rfl ?_
    refine J_iconst (x := 1) dX10_exam_118 (by decide) (q := 119) rfl ?_
    refine J_iadd dX10_exam_119  (q := 120) rfl ?_
    refine J_dup2 dX10_exam_120 rfl rfl (q := 121) rfl ?_
    obtain ⟨g16, h⟩ := iteS h
    refine J_lald dX10_exam_121 fr14 (ixB_ok g16) (q := 122) rfl ?_
    refine J_lload (z := 0) dX10_exam_122 rfl (q := 124) rfl ?_
    refine J_ladd dX10_exam_124  (q := 125) rfl ?_
    obtain ⟨g17, h⟩ := iteS h
    refine J_last dX10_exam_125 fr14 (ixB_ok g17) (q := 126) rfl ?_
    refine J_aload_n (z := 1) dX10_exam_126 rfl rfl (q := 127) rfl ?_
    refine J_getR dX10_exam_127 lRX10_90 ha0 rfl (by decide) er14 (q := 130) rfl (fun _ => ?_)
    refine J_iload (z := 6) dX10_exam_130 rfl (q := 132) rfl ?_
    refine J_dup2 dX10_exam_132 rfl rfl (q := 133) rfl ?_
    obtain ⟨g18, h⟩ := iteS h
    refine J_lald dX10_exam_133 fr14 (ixB_ok g18) (q := 134) rfl ?_
    refine J_lload (z := 0) dX10_exam_134 rfl (q := 136) rfl ?_
    refine J_lsub dX10_exam_136  (q := 137) rfl ?_
    obtain ⟨g19, h⟩ := iteS h
    refine J_last dX10_exam_137 fr14 (ixB_ok g19) (q := 138) rfl ?_
    refine J_iinc (z := 6) (y := (a5 + (-1))) (lv' := [(5, .int (a5 + (-1))), (6, .long (((gL σ r14 (Int32.toNatClampNeg a5)) * (Int32.toInt64 a3)) / 100)), (0, .ref a0), (1, .int a1), (2, .int a2), (3, .int a3), (4, .int a4)]) dX10_exam_138 rfl rfl (by decide) rfl (q := 141) rfl ?_
    refine J_goto (tgt := 91) dX10_exam_141 (by decide) ?_
    have h := Option.some.inj h
    refine J_pick [2, 3, 4, 5, 6, 0] rfl ?_
    exact hc _ _ h.symm

def fX10_exam_w91 (a0 : Nat) (a1 : Int32) (a2 : Int32) (a3 : Int32) (a4 : Int32) (a5 : Int32) (σ : Mm) : Option (Mm) :=
  wh (fun a : Int32 × Mm => fX10_exam_l91 a0 a1 a2 a3 a4 a.1 a.2) BIG (a5, σ)
set_option maxRecDepth 20000 in
set_option maxHeartbeats 2000000 in
theorem tX10_exam_w91 {X : XS} {n : Nat} {σ : Mm} {F : Nat × Option Value × Mm} {a0 : Nat} {a1 : Int32} {a2 : Int32} {a3 : Int32} {a4 : Int32} {a5 : Int32} (ha0 : RT n a0 110) {res : Mm} (h : fX10_exam_w91 a0 a1 a2 a3 a4 a5 σ = some res) (he0 : ∀  (s : Mm), res = s → J X mX10_exam 2 0 0 F 144 [(0, .ref a0), (1, .int a1), (2, .int a2), (3, .int a3), (4, .int a4)] [] n s) : J X mX10_exam 2 0 0 F 91 [(0, .ref a0), (1, .int a1), (2, .int a2), (3, .int a3), (4, .int a4), (5, .int a5)] [] n σ := by
  unfold fX10_exam_w91 at h
  refine wh_rule (P := fun a : Int32 × Mm => J X mX10_exam 2 0 0 F 91 [(0, .ref a0), (1, .int a1), (2, .int a2), (3, .int a3), (4, .int a4), (5, .int a.1)] [] n a.2) (K := fun b => b = res) ?_ _ _ _ h rfl
  intro a
  refine ⟨fun a2 hb hP => ?_, fun b hb hK => ?_⟩
  · exact tX10_exam_l91 ha0 hb (fun _ _ e => by cases e; exact hP) (fun _ e => by cases e)
  · subst hK
    exact tX10_exam_l91 ha0 hb (fun _ _ e => by cases e) (fun v0 e => he0 v0 (Sum.inr.inj e))

def fX10_exam_l81 (a0 : Nat) (a1 : Int32) (a2 : Int32) (a3 : Int32) (a4 : Int32) (σ : Mm) : Option ((Int32 × Mm) ⊕ (Mm)) :=
  if a1 ≤ a4 then some (Sum.inr σ) else (fX10_exam_w91 a0 a1 a2 a3 a4 a4 σ).bind (fun o20 => (fun so20 => some (Sum.inl ((a4 + 1), so20))) o20)
set_option maxRecDepth 20000 in
set_option maxHeartbeats 2000000 in
theorem tX10_exam_l81 {X : XS} {n : Nat} {σ : Mm} {F : Nat × Option Value × Mm} {a0 : Nat} {a1 : Int32} {a2 : Int32} {a3 : Int32} {a4 : Int32} (ha0 : RT n a0 110) {res : (Int32 × Mm) ⊕ (Mm)} (h : fX10_exam_l81 a0 a1 a2 a3 a4 σ = some res) (hc : ∀ (b4 : Int32) (s : Mm), res = .inl (b4, s) → J X mX10_exam 2 0 0 F 81 [(0, .ref a0), (1, .int a1), (2, .int a2), (3, .int a3), (4, .int b4)] [] n s) (he0 : ∀  (s : Mm), res = .inr s → J X mX10_exam 2 0 0 F 150 [(0, .ref a0), (2, .int a2)] [] n s) : J X mX10_exam 2 0 0 F 81 [(0, .ref a0), (1, .int a1), (2, .int a2), (3, .int a3), (4, .int a4)] [] n σ := by
  unfold fX10_exam_l81 at h
  refine J_iload (z := 4) dX10_exam_81 rfl (q := 83) rfl ?_
  refine J_iload_n (z := 1) dX10_exam_83 rfl rfl (q := 84) rfl ?_
  refine J_icmp_ge (tgt := 150) dX10_exam_84 (by decide) (q := 87) rfl (fun c11 => ?_) (fun c11 => ?_)
  · rw [if_pos c11] at h
    have h := Option.some.inj h
    refine J_pick [0, 2] rfl ?_
    exact he0 _ h.symm
  · rw [if_neg c11] at h
    refine J_iload (z := 4) dX10_exam_87 rfl (q := 89) rfl ?_
    refine J_istore (lv' := [(5, .int a4), (0, .ref a0), (1, .int a1), (2, .int a2), (3, .int a3), (4, .int a4)]) dX10_exam_89 (by decide) rfl (q := 91) rfl ?_
    obtain ⟨o20, hlo20, h⟩ := bindS h
    refine J_pick [1, 2, 3, 4, 5, 0] rfl ?_
    refine tX10_exam_w91 ha0 hlo20 ?_
    · intro so20 qo20
      rw [qo20] at h
      try dsimp only [Sum.elim_inl, Sum.elim_inr] at h
      refine J_iinc (z := 4) (y := (a4 + 1)) (lv' := [(4, .int (a4 + 1)), (0, .ref a0), (1, .int a1), (2, .int a2), (3, .int a3)]) dX10_exam_144 rfl rfl (by decide) rfl (q := 147) rfl ?_
      refine J_goto (tgt := 81) dX10_exam_147 (by decide) ?_
      have h := Option.some.inj h
      refine J_pick [1, 2, 3, 4, 0] rfl ?_
      exact hc _ _ h.symm

def fX10_exam_w81 (a0 : Nat) (a1 : Int32) (a2 : Int32) (a3 : Int32) (a4 : Int32) (σ : Mm) : Option (Mm) :=
  wh (fun a : Int32 × Mm => fX10_exam_l81 a0 a1 a2 a3 a.1 a.2) BIG (a4, σ)
set_option maxRecDepth 20000 in
set_option maxHeartbeats 2000000 in
theorem tX10_exam_w81 {X : XS} {n : Nat} {σ : Mm} {F : Nat × Option Value × Mm} {a0 : Nat} {a1 : Int32} {a2 : Int32} {a3 : Int32} {a4 : Int32} (ha0 : RT n a0 110) {res : Mm} (h : fX10_exam_w81 a0 a1 a2 a3 a4 σ = some res) (he0 : ∀  (s : Mm), res = s → J X mX10_exam 2 0 0 F 150 [(0, .ref a0), (2, .int a2)] [] n s) : J X mX10_exam 2 0 0 F 81 [(0, .ref a0), (1, .int a1), (2, .int a2), (3, .int a3), (4, .int a4)] [] n σ := by
  unfold fX10_exam_w81 at h
  refine wh_rule (P := fun a : Int32 × Mm => J X mX10_exam 2 0 0 F 81 [(0, .ref a0), (1, .int a1), (2, .int a2), (3, .int a3), (4, .int a.1)] [] n a.2) (K := fun b => b = res) ?_ _ _ _ h rfl
  intro a
  refine ⟨fun a2 hb hP => ?_, fun b hb hK => ?_⟩
  · exact tX10_exam_l81 ha0 hb (fun _ _ e => by cases e; exact hP) (fun _ e => by cases e)
  · subst hK
    exact tX10_exam_l81 ha0 hb (fun _ _ e => by cases e) (fun v0 e => he0 v0 (Sum.inr.inj e))

def fX10_exam_l156 (a0 : Nat) (a4 : Int64) (a6 : Int32) (σ : Mm) : Option ((Int64 × Int32) ⊕ (Int64)) :=
  if 14 ≤ a6 then some (Sum.inr a4) else (gR σ a0 49).bind fun r23 => if ixB a6 (ln r23) = true then some (Sum.inl ((a4 + (gL σ r23 (Int32.toNatClampNeg a6))), (a6 + 1))) else none
set_option maxRecDepth 20000 in
set_option maxHeartbeats 2000000 in
theorem tX10_exam_l156 {X : XS} {n : Nat} {σ : Mm} {F : Nat × Option Value × Mm} {a0 : Nat} {a4 : Int64} {a6 : Int32} (ha0 : RT n a0 110) {res : (Int64 × Int32) ⊕ (Int64)} (h : fX10_exam_l156 a0 a4 a6 σ = some res) (hc : ∀ (b4 : Int64) (b6 : Int32), res = .inl (b4, b6) → J X mX10_exam 2 0 0 F 156 [(0, .ref a0), (4, .long b4), (6, .int b6)] [] n σ) (he0 : ∀ (b4 : Int64), res = .inr b4 → J X mX10_exam 2 0 0 F 181 [(4, .long b4)] [] n σ) : J X mX10_exam 2 0 0 F 156 [(0, .ref a0), (4, .long a4), (6, .int a6)] [] n σ := by
  unfold fX10_exam_l156 at h
  refine J_iload (z := 2) dX10_exam_156 rfl (q := 158) rfl ?_
  refine J_bipush (x := 14) dX10_exam_158 (by decide) (q := 160) rfl ?_
  refine J_icmp_ge (tgt := 181) dX10_exam_160 (by decide) (q := 163) rfl (fun c21 => ?_) (fun c21 => ?_)
  · rw [if_pos c21] at h
    have h := Option.some.inj h
    refine J_pick [1] rfl ?_
    exact he0 _ h.symm
  · rw [if_neg c21] at h
    refine J_lload (z := 1) dX10_exam_163 rfl (q := 165) rfl ?_
    refine J_aload_n (z := 0) dX10_exam_165 rfl rfl (q := 166) rfl ?_
    obtain ⟨r23, er23, h⟩ := bindS h
    refine J_getR dX10_exam_166 lRX10_90 ha0 rfl (by decide) er23 (q := 169) rfl (fun fr23 => ?_)
    refine J_iload (z := 2) dX10_exam_169 rfl (q := 171) rfl ?_
    obtain ⟨g24, h⟩ := iteS h
    refine J_lald dX10_exam_171 fr23 (ixB_ok g24) (q := 172) rfl ?_
    refine J_ladd dX10_exam_172  (q := 173) rfl ?_
    refine J_lstore (lv' := [(4, .long (a4 + (gL σ r23 (Int32.toNatClampNeg a6)))), (0, .ref a0), (6, .int a6)]) dX10_exam_173 (by decide) rfl (q := 175) rfl ?_
    refine J_iinc (z := 2) (y := (a6 + 1)) (lv' := [(6, .int (a6 + 1)), (4, .long (a4 + (gL σ r23 (Int32.toNatClampNeg a6)))), (0, .ref a0)]) dX10_exam_175 rfl rfl (by decide) rfl (q := 178) rfl ?_
    refine J_goto (tgt := 156) dX10_exam_178 (by decide) ?_
    have h := Option.some.inj h
    refine J_pick [2, 1, 0] rfl ?_
    exact hc _ _ h.symm

def fX10_exam_w156 (a0 : Nat) (a4 : Int64) (a6 : Int32) (σ : Mm) : Option (Int64) :=
  wh (fun a : Int64 × Int32 => fX10_exam_l156 a0 a.1 a.2 σ) BIG (a4, a6)
set_option maxRecDepth 20000 in
set_option maxHeartbeats 2000000 in
theorem tX10_exam_w156 {X : XS} {n : Nat} {σ : Mm} {F : Nat × Option Value × Mm} {a0 : Nat} {a4 : Int64} {a6 : Int32} (ha0 : RT n a0 110) {res : Int64} (h : fX10_exam_w156 a0 a4 a6 σ = some res) (he0 : ∀ (b4 : Int64), res = b4 → J X mX10_exam 2 0 0 F 181 [(4, .long b4)] [] n σ) : J X mX10_exam 2 0 0 F 156 [(0, .ref a0), (4, .long a4), (6, .int a6)] [] n σ := by
  unfold fX10_exam_w156 at h
  refine wh_rule (P := fun a : Int64 × Int32 => J X mX10_exam 2 0 0 F 156 [(0, .ref a0), (4, .long a.1), (6, .int a.2)] [] n σ) (K := fun b => b = res) ?_ _ _ _ h rfl
  intro a
  refine ⟨fun a2 hb hP => ?_, fun b hb hK => ?_⟩
  · exact tX10_exam_l156 ha0 hb (fun _ _ e => by cases e; exact hP) (fun _ e => by cases e)
  · subst hK
    exact tX10_exam_l156 ha0 hb (fun _ _ e => by cases e) (fun v0 e => he0 v0 (Sum.inr.inj e))

def fX10_exam (a0 : Nat) (a1 : Int32) (a2 : Int32) (a3 : Int32) (σ : Mm) : Option (Int32 × Mm) :=
  (fX10_isIn (Int32.toInt64 a1) 1 12 (sI σ a0 0 0)).bind fun vk1 => if vk1 = 0 then some ((-1), (sI σ a0 0 0)) else (fX10_isIn (Int32.toInt64 a2) 0 13 (sI σ a0 0 0)).bind fun vk3 => if vk3 = 0 then some ((-1), (sI σ a0 0 0)) else (fX10_isIn (Int32.toInt64 a3) 0 100 (sI σ a0 0 0)).bind fun vk5 => if vk5 = 0 then some ((-1), (sI σ a0 0 0)) else (fX10_exam_w46 a0 a1 a2 a3 0 (sI σ a0 0 0)).bind (fun o11 => (fun so11 => (fX10_exam_w81 a0 a1 a2 a3 0 so11).bind (fun o21 => (fun so21 => (fX10_exam_w156 a0 0 a2 so21).bind (fun o25 => (fun xo25_4 => some ((Int64.toInt32 xo25_4), so21)) o25)) o21)) o11)
set_option maxRecDepth 20000 in
set_option maxHeartbeats 2000000 in
theorem tX10_exam {X : XS} {n : Nat} {σ : Mm} {a0 : Nat} {a1 : Int32} {a2 : Int32} {a3 : Int32} (ha0 : RT n a0 110) {res : Int32 × Mm} (h : fX10_exam a0 a1 a2 a3 σ = some res) : MT X yX10_exam mX10_exam 2 0 0 [.ref a0, .int a1, .int a2, .int a3] n σ (n, some (.int res.1), res.2) := by
  unfold fX10_exam at h
  refine MT_of (by decide +kernel) rfl (fun h => by cases h) (Nat.le_of_ble_eq_true rfl) ?_
  show J X mX10_exam 2 0 0 (n, some (.int res.1), res.2) 0 [(0, .ref a0), (1, .int a1), (2, .int a2), (3, .int a3)] [] n σ
  refine J_aload_n (z := 0) dX10_exam_0 rfl rfl (q := 1) rfl ?_
  refine J_iconst (x := 0) dX10_exam_1 (by decide) (q := 2) rfl ?_
  refine J_putI dX10_exam_2 lRX10_96 (fun h => by cases h) ha0 rfl (q := 5) rfl ?_
  refine J_iload_n (z := 1) dX10_exam_5 rfl rfl (q := 6) rfl ?_
  refine J_i2l dX10_exam_6  (q := 7) rfl ?_
  refine J_lconst (x := 1) dX10_exam_7 (by decide) (q := 8) rfl ?_
  refine J_ldc2 (x := 12) dX10_exam_8 kRX10_504 (q := 11) rfl ?_
  obtain ⟨vk1, hk1, h⟩ := bindS h
  refine J_cSi (as := [.long (Int32.toInt64 a1), .long 1, .long 12]) dX10_exam_11 mRX10_217 (tX10_isIn  hk1) rfl (Nat.le_of_ble_eq_true rfl) (Nat.le_of_ble_eq_true rfl) (Nat.le_of_ble_eq_true rfl) (q := 14) rfl ?_
  intro bk1
  refine J_if_eq (tgt := 41) dX10_exam_14 (by decide) (q := 17) rfl (fun c1 => ?_) (fun c1 => ?_)
  · rw [if_pos c1] at h
    refine J_iconst (x := (-1)) dX10_exam_41 (by decide) (q := 42) rfl ?_
    have h := Option.some.inj h
    subst h
    exact J_ireturn dX10_exam_42 rfl rfl rfl
  · rw [if_neg c1] at h
    refine J_iload_n (z := 2) dX10_exam_17 rfl rfl (q := 18) rfl ?_
    refine J_i2l dX10_exam_18  (q := 19) rfl ?_
    refine J_lconst (x := 0) dX10_exam_19 (by decide) (q := 20) rfl ?_
    refine J_ldc2 (x := 13) dX10_exam_20 kRX10_506 (q := 23) rfl ?_
    obtain ⟨vk3, hk3, h⟩ := bindS h
    refine J_cSi (as := [.long (Int32.toInt64 a2), .long 0, .long 13]) dX10_exam_23 mRX10_217 (tX10_isIn  hk3) rfl (Nat.le_of_ble_eq_true rfl) (Nat.le_of_ble_eq_true rfl) (Nat.le_of_ble_eq_true rfl) (q := 26) rfl ?_
    intro bk3
    refine J_if_eq (tgt := 41) dX10_exam_26 (by decide) (q := 29) rfl (fun c3 => ?_) (fun c3 => ?_)
    · rw [if_pos c3] at h
      refine J_iconst (x := (-1)) dX10_exam_41 (by decide) (q := 42) rfl ?_
      have h := Option.some.inj h
      subst h
      exact J_ireturn dX10_exam_42 rfl rfl rfl
    · rw [if_neg c3] at h
      refine J_iload_n (z := 3) dX10_exam_29 rfl rfl (q := 30) rfl ?_
      refine J_i2l dX10_exam_30  (q := 31) rfl ?_
      refine J_lconst (x := 0) dX10_exam_31 (by decide) (q := 32) rfl ?_
      refine J_ldc2 (x := 100) dX10_exam_32 kRX10_326 (q := 35) rfl ?_
      obtain ⟨vk5, hk5, h⟩ := bindS h
      refine J_cSi (as := [.long (Int32.toInt64 a3), .long 0, .long 100]) dX10_exam_35 mRX10_217 (tX10_isIn  hk5) rfl (Nat.le_of_ble_eq_true rfl) (Nat.le_of_ble_eq_true rfl) (Nat.le_of_ble_eq_true rfl) (q := 38) rfl ?_
      intro bk5
      refine J_if_ne (tgt := 43) dX10_exam_38 (by decide) (q := 41) rfl (fun c5 => ?_) (fun c5 => ?_)
      · rw [if_neg c5] at h
        refine J_iconst (x := 0) dX10_exam_43 (by decide) (q := 44) rfl ?_
        refine J_istore (lv' := [(4, .int 0), (0, .ref a0), (1, .int a1), (2, .int a2), (3, .int a3)]) dX10_exam_44 (by decide) rfl (q := 46) rfl ?_
        obtain ⟨o11, hlo11, h⟩ := bindS h
        refine J_pick [1, 2, 3, 4, 0] rfl ?_
        refine tX10_exam_w46 ha0 hlo11 ?_
        · intro so11 qo11
          rw [qo11] at h
          try dsimp only [Sum.elim_inl, Sum.elim_inr] at h
          refine J_iconst (x := 0) dX10_exam_78 (by decide) (q := 79) rfl ?_
          refine J_istore (lv' := [(4, .int 0), (0, .ref a0), (1, .int a1), (2, .int a2), (3, .int a3)]) dX10_exam_79 (by decide) rfl (q := 81) rfl ?_
          obtain ⟨o21, hlo21, h⟩ := bindS h
          refine J_pick [1, 2, 3, 4, 0] rfl ?_
          refine tX10_exam_w81 ha0 hlo21 ?_
          · intro so21 qo21
            rw [qo21] at h
            try dsimp only [Sum.elim_inl, Sum.elim_inr] at h
            refine J_lconst (x := 0) dX10_exam_150 (by decide) (q := 151) rfl ?_
            refine J_lstore (lv' := [(4, .long 0), (0, .ref a0), (2, .int a2)]) dX10_exam_151 (by decide) rfl (q := 153) rfl ?_
            refine J_iload_n (z := 2) dX10_exam_153 rfl rfl (q := 154) rfl ?_
            refine J_istore (lv' := [(6, .int a2), (4, .long 0), (0, .ref a0), (2, .int a2)]) dX10_exam_154 (by decide) rfl (q := 156) rfl ?_
            obtain ⟨o25, hlo25, h⟩ := bindS h
            refine J_pick [2, 1, 0] rfl ?_
            refine tX10_exam_w156 ha0 hlo25 ?_
            · intro xo25_4 qo25
              rw [qo25] at h
              try dsimp only [Sum.elim_inl, Sum.elim_inr] at h
              refine J_lload (z := 0) dX10_exam_181 rfl (q := 183) rfl ?_
              refine J_l2i dX10_exam_183  (q := 184) rfl ?_
              have h := Option.some.inj h
              subst h
              exact J_ireturn dX10_exam_184 rfl rfl rfl
      · rw [if_pos c5] at h
        refine J_iconst (x := (-1)) dX10_exam_41 (by decide) (q := 42) rfl ?_
        have h := Option.some.inj h
        subst h
        exact J_ireturn dX10_exam_42 rfl rfl rfl

def fX10_learnt_b85 (a0 : Nat) (a1 : Int32) (a3 : Int32) (z0 : Int32) (z1 : Int32) (σ : Mm) : Option ((Int32 × Int32) ⊕ (Int32 × Mm)) :=
  some (Sum.inl ((z0 + z1), (a3 + 1)))
set_option maxRecDepth 20000 in
set_option maxHeartbeats 2000000 in
theorem tX10_learnt_b85 {X : XS} {n : Nat} {σ : Mm} {F : Nat × Option Value × Mm} {a0 : Nat} {a1 : Int32} {a3 : Int32} {z0 : Int32} {z1 : Int32} (ha0 : RT n a0 110) {res : (Int32 × Int32) ⊕ (Int32 × Mm)} (h : fX10_learnt_b85 a0 a1 a3 z0 z1 σ = some res) (hc : ∀ (b2 : Int32) (b3 : Int32), res = .inl (b2, b3) → J X mX10_learnt 2 0 0 F 19 [(0, .ref a0), (1, .int a1), (2, .int b2), (3, .int b3)] [] n σ) (hr : ∀ (v : Int32) (s : Mm), res = .inr (v, s) → F = (n, some (.int v), s)) : J X mX10_learnt 2 0 0 F 85 [(0, .ref a0), (1, .int a1), (3, .int a3)] [.int z1, .int z0] n σ := by
  unfold fX10_learnt_b85 at h
  refine J_iadd dX10_learnt_85  (q := 86) rfl ?_
  refine J_istore_n (lv' := [(2, .int (z0 + z1)), (0, .ref a0), (1, .int a1), (3, .int a3)]) dX10_learnt_86 rfl (by decide) rfl (q := 87) rfl ?_
  refine J_iinc (z := 3) (y := (a3 + 1)) (lv' := [(3, .int (a3 + 1)), (2, .int (z0 + z1)), (0, .ref a0), (1, .int a1)]) dX10_learnt_87 rfl rfl (by decide) rfl (q := 90) rfl ?_
  refine J_goto (tgt := 19) dX10_learnt_90 (by decide) ?_
  have h := Option.some.inj h
  refine J_pick [2, 3, 1, 0] rfl ?_
  exact hc _ _ h.symm

def fX10_learnt_b84 (a0 : Nat) (a1 : Int32) (a3 : Int32) (z0 : Int32) (σ : Mm) : Option ((Int32 × Int32) ⊕ (Int32 × Mm)) :=
  fX10_learnt_b85 a0 a1 a3 z0 0 σ
set_option maxRecDepth 20000 in
set_option maxHeartbeats 2000000 in
theorem tX10_learnt_b84 {X : XS} {n : Nat} {σ : Mm} {F : Nat × Option Value × Mm} {a0 : Nat} {a1 : Int32} {a3 : Int32} {z0 : Int32} (ha0 : RT n a0 110) {res : (Int32 × Int32) ⊕ (Int32 × Mm)} (h : fX10_learnt_b84 a0 a1 a3 z0 σ = some res) (hc : ∀ (b2 : Int32) (b3 : Int32), res = .inl (b2, b3) → J X mX10_learnt 2 0 0 F 19 [(0, .ref a0), (1, .int a1), (2, .int b2), (3, .int b3)] [] n σ) (hr : ∀ (v : Int32) (s : Mm), res = .inr (v, s) → F = (n, some (.int v), s)) : J X mX10_learnt 2 0 0 F 84 [(0, .ref a0), (1, .int a1), (3, .int a3)] [.int z0] n σ := by
  unfold fX10_learnt_b84 at h
  refine J_iconst (x := 0) dX10_learnt_84 (by decide) (q := 85) rfl ?_
  refine J_pick [0, 1, 2] rfl ?_
  exact tX10_learnt_b85 ha0 h hc hr

def fX10_learnt_l19 (a0 : Nat) (a1 : Int32) (a2 : Int32) (a3 : Int32) (σ : Mm) : Option ((Int32 × Int32) ⊕ (Int32 × Mm)) :=
  if (gI σ a0 27) ≤ a3 then some (Sum.inr (a2, σ)) else (gR σ a0 22).bind fun r4 => if ixB ((4 * a1) + 3) (ln r4) = true then (fX10_isOf a0 a3 (gI σ r4 (Int32.toNatClampNeg ((4 * a1) + 3))) σ).bind fun vk6 => if vk6 = 0 then fX10_learnt_b84 a0 a1 a3 a2 σ else (gR σ a0 33).bind fun r8 => (fX10_knows r8 a1 a3 σ).bind fun vk9 => if vk9 = 0 then fX10_learnt_b84 a0 a1 a3 a2 σ else (fX10_recalls r8 a1 a3 σ).bind fun vk11 => (gR σ a0 20).bind fun r12 => if ixB ((4 * a3) + 3) (ln r12) = true then if vk11 = (gI σ r12 (Int32.toNatClampNeg ((4 * a3) + 3))) then fX10_learnt_b85 a0 a1 a3 a2 1 σ else fX10_learnt_b84 a0 a1 a3 a2 σ else none else none
set_option maxRecDepth 20000 in
set_option maxHeartbeats 2000000 in
theorem tX10_learnt_l19 {X : XS} {n : Nat} {σ : Mm} {F : Nat × Option Value × Mm} {a0 : Nat} {a1 : Int32} {a2 : Int32} {a3 : Int32} (ha0 : RT n a0 110) {res : (Int32 × Int32) ⊕ (Int32 × Mm)} (h : fX10_learnt_l19 a0 a1 a2 a3 σ = some res) (hc : ∀ (b2 : Int32) (b3 : Int32), res = .inl (b2, b3) → J X mX10_learnt 2 0 0 F 19 [(0, .ref a0), (1, .int a1), (2, .int b2), (3, .int b3)] [] n σ) (hr : ∀ (v : Int32) (s : Mm), res = .inr (v, s) → F = (n, some (.int v), s)) : J X mX10_learnt 2 0 0 F 19 [(0, .ref a0), (1, .int a1), (2, .int a2), (3, .int a3)] [] n σ := by
  unfold fX10_learnt_l19 at h
  refine J_iload_n (z := 3) dX10_learnt_19 rfl rfl (q := 20) rfl ?_
  refine J_aload_n (z := 0) dX10_learnt_20 rfl rfl (q := 21) rfl ?_
  refine J_getI dX10_learnt_21 lRX10_291 ha0 rfl (q := 24) rfl ?_
  refine J_icmp_ge (tgt := 93) dX10_learnt_24 (by decide) (q := 27) rfl (fun c2 => ?_) (fun c2 => ?_)
  · rw [if_pos c2] at h
    refine J_iload_n (z := 2) dX10_learnt_93 rfl rfl (q := 94) rfl ?_
    have h := Option.some.inj h
    exact J_ireturn dX10_learnt_94 rfl rfl (hr _ _ h.symm)
  · rw [if_neg c2] at h
    refine J_iload_n (z := 2) dX10_learnt_27 rfl rfl (q := 28) rfl ?_
    refine J_aload_n (z := 0) dX10_learnt_28 rfl rfl (q := 29) rfl ?_
    refine J_iload_n (z := 3) dX10_learnt_29 rfl rfl (q := 30) rfl ?_
    refine J_aload_n (z := 0) dX10_learnt_30 rfl rfl (q := 31) rfl ?_
    obtain ⟨r4, er4, h⟩ := bindS h
    refine J_getR dX10_learnt_31 lRX10_49 ha0 rfl (by decide) er4 (q := 34) rfl (fun fr4 => ?_)
    refine J_iconst (x := 4) dX10_learnt_34 (by decide) (q := 35) rfl ?_
    refine J_iload_n (z := 1) dX10_learnt_35 rfl rfl (q := 36) rfl ?_
    refine J_imul dX10_learnt_36  (q := 37) rfl ?_
    refine J_iconst (x := 3) dX10_learnt_37 (by decide) (q := 38) rfl ?_
    refine J_iadd dX10_learnt_38  (q := 39) rfl ?_
    obtain ⟨g5, h⟩ := iteS h
    refine J_iald dX10_learnt_39 fr4 (ixB_ok g5) (q := 40) rfl ?_
    obtain ⟨vk6, hk6, h⟩ := bindS h
    refine J_cVi (as := [.int a3, .int (gI σ r4 (Int32.toNatClampNeg ((4 * a1) + 3)))]) dX10_learnt_40 mRX10_474 ha0 (tX10_isOf ha0 hk6) rfl (Nat.le_of_ble_eq_true rfl) (Nat.le_of_ble_eq_true rfl) (Nat.le_of_ble_eq_true rfl) (q := 43) rfl ?_
    intro bk6
    refine J_if_eq (tgt := 84) dX10_learnt_43 (by decide) (q := 46) rfl (fun c6 => ?_) (fun c6 => ?_)
    · rw [if_pos c6] at h
      refine J_pick [0, 1, 3] rfl ?_
      exact tX10_learnt_b84 ha0 h hc hr
    · rw [if_neg c6] at h
      refine J_aload_n (z := 0) dX10_learnt_46 rfl rfl (q := 47) rfl ?_
      obtain ⟨r8, er8, h⟩ := bindS h
      refine J_getR dX10_learnt_47 lRX10_61 ha0 rfl (by decide) er8 (q := 50) rfl (fun fr8 => ?_)
      refine J_iload_n (z := 1) dX10_learnt_50 rfl rfl (q := 51) rfl ?_
      refine J_iload_n (z := 3) dX10_learnt_51 rfl rfl (q := 52) rfl ?_
      obtain ⟨vk9, hk9, h⟩ := bindS h
      refine J_cSi (as := [.ref r8, .int a1, .int a3]) dX10_learnt_52 mRX10_351 (tX10_knows fr8 hk9) rfl (Nat.le_of_ble_eq_true rfl) (Nat.le_of_ble_eq_true rfl) (Nat.le_of_ble_eq_true rfl) (q := 55) rfl ?_
      intro bk9
      refine J_if_eq (tgt := 84) dX10_learnt_55 (by decide) (q := 58) rfl (fun c9 => ?_) (fun c9 => ?_)
      · rw [if_pos c9] at h
        refine J_pick [0, 1, 3] rfl ?_
        exact tX10_learnt_b84 ha0 h hc hr
      · rw [if_neg c9] at h
        refine J_aload_n (z := 0) dX10_learnt_58 rfl rfl (q := 59) rfl ?_
        refine J_getR dX10_learnt_59 lRX10_61 ha0 rfl (by decide) er8 (q := 62) rfl (fun _ => ?_)
        refine J_iload_n (z := 1) dX10_learnt_62 rfl rfl (q := 63) rfl ?_
        refine J_iload_n (z := 3) dX10_learnt_63 rfl rfl (q := 64) rfl ?_
        obtain ⟨vk11, hk11, h⟩ := bindS h
        refine J_cSi (as := [.ref r8, .int a1, .int a3]) dX10_learnt_64 mRX10_358 (tX10_recalls fr8 hk11) rfl (Nat.le_of_ble_eq_true rfl) (Nat.le_of_ble_eq_true rfl) (Nat.le_of_ble_eq_true rfl) (q := 67) rfl ?_
        intro bk11
        refine J_aload_n (z := 0) dX10_learnt_67 rfl rfl (q := 68) rfl ?_
        obtain ⟨r12, er12, h⟩ := bindS h
        refine J_getR dX10_learnt_68 lRX10_43 ha0 rfl (by decide) er12 (q := 71) rfl (fun fr12 => ?_)
        refine J_iconst (x := 4) dX10_learnt_71 (by decide) (q := 72) rfl ?_
        refine J_iload_n (z := 3) dX10_learnt_72 rfl rfl (q := 73) rfl ?_
        refine J_imul dX10_learnt_73  (q := 74) rfl ?_
        refine J_iconst (x := 3) dX10_learnt_74 (by decide) (q := 75) rfl ?_
        refine J_iadd dX10_learnt_75  (q := 76) rfl ?_
        obtain ⟨g13, h⟩ := iteS h
        refine J_iald dX10_learnt_76 fr12 (ixB_ok g13) (q := 77) rfl ?_
        refine J_icmp_ne (tgt := 84) dX10_learnt_77 (by decide) (q := 80) rfl (fun c13 => ?_) (fun c13 => ?_)
        · rw [if_neg c13] at h
          refine J_pick [0, 1, 3] rfl ?_
          exact tX10_learnt_b84 ha0 h hc hr
        · rw [if_pos c13] at h
          refine J_iconst (x := 1) dX10_learnt_80 (by decide) (q := 81) rfl ?_
          refine J_goto (tgt := 85) dX10_learnt_81 (by decide) ?_
          refine J_pick [0, 1, 3] rfl ?_
          exact tX10_learnt_b85 ha0 h hc hr

def fX10_learnt_w19 (a0 : Nat) (a1 : Int32) (a2 : Int32) (a3 : Int32) (σ : Mm) : Option (Int32 × Mm) :=
  wh (fun a : Int32 × Int32 => fX10_learnt_l19 a0 a1 a.1 a.2 σ) BIG (a2, a3)
set_option maxRecDepth 20000 in
set_option maxHeartbeats 2000000 in
theorem tX10_learnt_w19 {X : XS} {n : Nat} {σ : Mm} {F : Nat × Option Value × Mm} {a0 : Nat} {a1 : Int32} {a2 : Int32} {a3 : Int32} (ha0 : RT n a0 110) {res : Int32 × Mm} (h : fX10_learnt_w19 a0 a1 a2 a3 σ = some res) (hr : ∀ (v : Int32) (s : Mm), res = (v, s) → F = (n, some (.int v), s)) : J X mX10_learnt 2 0 0 F 19 [(0, .ref a0), (1, .int a1), (2, .int a2), (3, .int a3)] [] n σ := by
  unfold fX10_learnt_w19 at h
  refine wh_rule (P := fun a : Int32 × Int32 => J X mX10_learnt 2 0 0 F 19 [(0, .ref a0), (1, .int a1), (2, .int a.1), (3, .int a.2)] [] n σ) (K := fun b => b = res) ?_ _ _ _ h rfl
  intro a
  refine ⟨fun a2 hb hP => ?_, fun b hb hK => ?_⟩
  · exact tX10_learnt_l19 ha0 hb (fun _ _ e => by cases e; exact hP) (fun _ _ e => by cases e)
  · subst hK
    exact tX10_learnt_l19 ha0 hb (fun _ _ e => by cases e) (fun v0 v1 e => hr v0 v1 (Sum.inr.inj e))

def fX10_learnt (a0 : Nat) (a1 : Int32) (σ : Mm) : Option (Int32 × Mm) :=
  (fX10_isReader a0 a1 (sI σ a0 0 0)).bind fun vk1 => if vk1 = 0 then some ((-1), (sI σ a0 0 0)) else (fX10_learnt_w19 a0 a1 0 0 (sI σ a0 0 0)).bind (fun o15 => some o15)
set_option maxRecDepth 20000 in
set_option maxHeartbeats 2000000 in
theorem tX10_learnt {X : XS} {n : Nat} {σ : Mm} {a0 : Nat} {a1 : Int32} (ha0 : RT n a0 110) {res : Int32 × Mm} (h : fX10_learnt a0 a1 σ = some res) : MT X yX10_learnt mX10_learnt 2 0 0 [.ref a0, .int a1] n σ (n, some (.int res.1), res.2) := by
  unfold fX10_learnt at h
  refine MT_of (by decide +kernel) rfl (fun h => by cases h) (Nat.le_of_ble_eq_true rfl) ?_
  show J X mX10_learnt 2 0 0 (n, some (.int res.1), res.2) 0 [(0, .ref a0), (1, .int a1)] [] n σ
  refine J_aload_n (z := 0) dX10_learnt_0 rfl rfl (q := 1) rfl ?_
  refine J_iconst (x := 0) dX10_learnt_1 (by decide) (q := 2) rfl ?_
  refine J_putI dX10_learnt_2 lRX10_96 (fun h => by cases h) ha0 rfl (q := 5) rfl ?_
  refine J_aload_n (z := 0) dX10_learnt_5 rfl rfl (q := 6) rfl ?_
  refine J_iload_n (z := 1) dX10_learnt_6 rfl rfl (q := 7) rfl ?_
  obtain ⟨vk1, hk1, h⟩ := bindS h
  refine J_cVi (as := [.int a1]) dX10_learnt_7 mRX10_309 ha0 (tX10_isReader ha0 hk1) rfl (Nat.le_of_ble_eq_true rfl) (Nat.le_of_ble_eq_true rfl) (Nat.le_of_ble_eq_true rfl) (q := 10) rfl ?_
  intro bk1
  refine J_if_ne (tgt := 15) dX10_learnt_10 (by decide) (q := 13) rfl (fun c1 => ?_) (fun c1 => ?_)
  · rw [if_neg c1] at h
    refine J_iconst (x := 0) dX10_learnt_15 (by decide) (q := 16) rfl ?_
    refine J_istore_n (lv' := [(2, .int 0), (0, .ref a0), (1, .int a1)]) dX10_learnt_16 rfl (by decide) rfl (q := 17) rfl ?_
    refine J_iconst (x := 0) dX10_learnt_17 (by decide) (q := 18) rfl ?_
    refine J_istore_n (lv' := [(3, .int 0), (2, .int 0), (0, .ref a0), (1, .int a1)]) dX10_learnt_18 rfl (by decide) rfl (q := 19) rfl ?_
    obtain ⟨o15, hlo15, h⟩ := bindS h
    refine J_pick [2, 3, 1, 0] rfl ?_
    refine tX10_learnt_w19 ha0 hlo15 ?_
    · intro vo15 so15 qo15
      rw [qo15] at h
      try dsimp only [Sum.elim_inl, Sum.elim_inr] at h
      have h := Option.some.inj h
      subst h
      rfl
  · rw [if_pos c1] at h
    refine J_iconst (x := (-1)) dX10_learnt_13 (by decide) (q := 14) rfl ?_
    have h := Option.some.inj h
    subst h
    exact J_ireturn dX10_learnt_14 rfl rfl rfl

def fX10_quiet_b77 (a0 : Nat) (a1 : Int32) (a2 : Int32) (a3 : Int32) (a4 : Int32) (a5 : Int32) (σ : Mm) : Option ((Int32 × Int32 × Int32 × Mm) ⊕ (Int32 × Int32 × Mm)) :=
  some (Sum.inl (a3, a4, (a5 + 1), σ))
set_option maxRecDepth 20000 in
set_option maxHeartbeats 2000000 in
theorem tX10_quiet_b77 {X : XS} {n : Nat} {σ : Mm} {F : Nat × Option Value × Mm} {a0 : Nat} {a1 : Int32} {a2 : Int32} {a3 : Int32} {a4 : Int32} {a5 : Int32} (ha0 : RT n a0 110) {res : (Int32 × Int32 × Int32 × Mm) ⊕ (Int32 × Int32 × Mm)} (h : fX10_quiet_b77 a0 a1 a2 a3 a4 a5 σ = some res) (hc : ∀ (b3 : Int32) (b4 : Int32) (b5 : Int32) (s : Mm), res = .inl (b3, b4, b5, s) → J X mX10_quiet 114 0 0 F 33 [(0, .ref a0), (1, .int a1), (2, .int a2), (3, .int b3), (4, .int b4), (5, .int b5)] [] n s) (he0 : ∀ (b3 : Int32) (b4 : Int32) (s : Mm), res = .inr (b3, b4, s) → J X mX10_quiet 114 0 0 F 83 [(2, .int a2), (3, .int b3), (4, .int b4)] [] n s) : J X mX10_quiet 114 0 0 F 77 [(0, .ref a0), (1, .int a1), (2, .int a2), (3, .int a3), (4, .int a4), (5, .int a5)] [] n σ := by
  unfold fX10_quiet_b77 at h
  refine J_iinc (z := 5) (y := (a5 + 1)) (lv' := [(5, .int (a5 + 1)), (0, .ref a0), (1, .int a1), (2, .int a2), (3, .int a3), (4, .int a4)]) dX10_quiet_77 rfl rfl (by decide) rfl (q := 80) rfl ?_
  refine J_goto (tgt := 33) dX10_quiet_80 (by decide) ?_
  have h := Option.some.inj h
  refine J_pick [1, 2, 3, 4, 5, 0] rfl ?_
  exact hc _ _ _ _ h.symm

def fX10_quiet_b70 (a0 : Nat) (a1 : Int32) (a2 : Int32) (a5 : Int32) (a6 : Int32) (σ : Mm) : Option ((Int32 × Int32 × Int32 × Mm) ⊕ (Int32 × Int32 × Mm)) :=
  fX10_quiet_b77 a0 a1 a2 a5 a6 a5 σ
set_option maxRecDepth 20000 in
set_option maxHeartbeats 2000000 in
theorem tX10_quiet_b70 {X : XS} {n : Nat} {σ : Mm} {F : Nat × Option Value × Mm} {a0 : Nat} {a1 : Int32} {a2 : Int32} {a5 : Int32} {a6 : Int32} (ha0 : RT n a0 110) {res : (Int32 × Int32 × Int32 × Mm) ⊕ (Int32 × Int32 × Mm)} (h : fX10_quiet_b70 a0 a1 a2 a5 a6 σ = some res) (hc : ∀ (b3 : Int32) (b4 : Int32) (b5 : Int32) (s : Mm), res = .inl (b3, b4, b5, s) → J X mX10_quiet 114 0 0 F 33 [(0, .ref a0), (1, .int a1), (2, .int a2), (3, .int b3), (4, .int b4), (5, .int b5)] [] n s) (he0 : ∀ (b3 : Int32) (b4 : Int32) (s : Mm), res = .inr (b3, b4, s) → J X mX10_quiet 114 0 0 F 83 [(2, .int a2), (3, .int b3), (4, .int b4)] [] n s) : J X mX10_quiet 114 0 0 F 70 [(0, .ref a0), (1, .int a1), (2, .int a2), (5, .int a5), (6, .int a6)] [] n σ := by
  unfold fX10_quiet_b70 at h
  refine J_iload (z := 3) dX10_quiet_70 rfl (q := 72) rfl ?_
  refine J_istore_n (lv' := [(3, .int a5), (0, .ref a0), (1, .int a1), (2, .int a2), (5, .int a5), (6, .int a6)]) dX10_quiet_72 rfl (by decide) rfl (q := 73) rfl ?_
  refine J_iload (z := 5) dX10_quiet_73 rfl (q := 75) rfl ?_
  refine J_istore (lv' := [(4, .int a6), (3, .int a5), (0, .ref a0), (1, .int a1), (2, .int a2), (5, .int a5), (6, .int a6)]) dX10_quiet_75 (by decide) rfl (q := 77) rfl ?_
  refine J_pick [2, 3, 4, 1, 0, 5] rfl ?_
  exact tX10_quiet_b77 ha0 h hc he0

def fX10_quiet_l33 (a0 : Nat) (a1 : Int32) (a2 : Int32) (a3 : Int32) (a4 : Int32) (a5 : Int32) (σ : Mm) : Option ((Int32 × Int32 × Int32 × Mm) ⊕ (Int32 × Int32 × Mm)) :=
  if (gI σ a0 26) ≤ a5 then some (Sum.inr (a3, a4, σ)) else (gR σ a0 33).bind fun r6 => bnd2 (fX10_lossAt a0 r6 a1 a5 σ) fun vk7 sk7 => if a3 = (-1) then fX10_quiet_b70 a0 a1 a2 a5 vk7 sk7 else if vk7 < a4 then fX10_quiet_b70 a0 a1 a2 a5 vk7 sk7 else fX10_quiet_b77 a0 a1 a2 a3 a4 a5 sk7
set_option maxRecDepth 20000 in
set_option maxHeartbeats 2000000 in
theorem tX10_quiet_l33 {X : XS} {n : Nat} {σ : Mm} {F : Nat × Option Value × Mm} {a0 : Nat} {a1 : Int32} {a2 : Int32} {a3 : Int32} {a4 : Int32} {a5 : Int32} (ha0 : RT n a0 110) {res : (Int32 × Int32 × Int32 × Mm) ⊕ (Int32 × Int32 × Mm)} (h : fX10_quiet_l33 a0 a1 a2 a3 a4 a5 σ = some res) (hc : ∀ (b3 : Int32) (b4 : Int32) (b5 : Int32) (s : Mm), res = .inl (b3, b4, b5, s) → J X mX10_quiet 114 0 0 F 33 [(0, .ref a0), (1, .int a1), (2, .int a2), (3, .int b3), (4, .int b4), (5, .int b5)] [] n s) (he0 : ∀ (b3 : Int32) (b4 : Int32) (s : Mm), res = .inr (b3, b4, s) → J X mX10_quiet 114 0 0 F 83 [(2, .int a2), (3, .int b3), (4, .int b4)] [] n s) : J X mX10_quiet 114 0 0 F 33 [(0, .ref a0), (1, .int a1), (2, .int a2), (3, .int a3), (4, .int a4), (5, .int a5)] [] n σ := by
  unfold fX10_quiet_l33 at h
  refine J_iload (z := 5) dX10_quiet_33 rfl (q := 35) rfl ?_
  refine J_aload_n (z := 0) dX10_quiet_35 rfl rfl (q := 36) rfl ?_
  refine J_getI dX10_quiet_36 lRX10_297 ha0 rfl (q := 39) rfl ?_
  refine J_icmp_ge (tgt := 83) dX10_quiet_39 (by decide) (q := 42) rfl (fun c4 => ?_) (fun c4 => ?_)
  · rw [if_pos c4] at h
    have h := Option.some.inj h
    refine J_pick [2, 3, 4] rfl ?_
    exact he0 _ _ _ h.symm
  · rw [if_neg c4] at h
    refine J_aload_n (z := 0) dX10_quiet_42 rfl rfl (q := 43) rfl ?_
    refine J_aload_n (z := 0) dX10_quiet_43 rfl rfl (q := 44) rfl ?_
    obtain ⟨r6, er6, h⟩ := bindS h
    refine J_getR dX10_quiet_44 lRX10_61 ha0 rfl (by decide) er6 (q := 47) rfl (fun fr6 => ?_)
    refine J_iload_n (z := 1) dX10_quiet_47 rfl rfl (q := 48) rfl ?_
    refine J_iload (z := 5) dX10_quiet_48 rfl (q := 50) rfl ?_
    obtain ⟨vk7, sk7, hk7, h⟩ := bnd2S h
    refine J_cVi (as := [.ref r6, .int a1, .int a5]) dX10_quiet_50 mRX10_451 ha0 (tX10_lossAt ha0 fr6 hk7) rfl (Nat.le_of_ble_eq_true rfl) (Nat.le_of_ble_eq_true rfl) (Nat.le_of_ble_eq_true rfl) (q := 53) rfl ?_
    intro bk7
    refine J_istore (lv' := [(6, .int vk7), (0, .ref a0), (1, .int a1), (2, .int a2), (3, .int a3), (4, .int a4), (5, .int a5)]) dX10_quiet_53 (by decide) rfl (q := 55) rfl ?_
    refine J_iload_n (z := 4) dX10_quiet_55 rfl rfl (q := 56) rfl ?_
    refine J_iconst (x := (-1)) dX10_quiet_56 (by decide) (q := 57) rfl ?_
    refine J_icmp_eq (tgt := 70) dX10_quiet_57 (by decide) (q := 60) rfl (fun c7 => ?_) (fun c7 => ?_)
    · rw [if_pos c7] at h
      refine J_pick [1, 2, 3, 6, 0] rfl ?_
      exact tX10_quiet_b70 ha0 h hc he0
    · rw [if_neg c7] at h
      refine J_iload (z := 0) dX10_quiet_60 rfl (q := 62) rfl ?_
      refine J_iload (z := 5) dX10_quiet_62 rfl (q := 64) rfl ?_
      refine J_icmp_lt (tgt := 70) dX10_quiet_64 (by decide) (q := 67) rfl (fun c8 => ?_) (fun c8 => ?_)
      · rw [if_pos c8] at h
        refine J_pick [1, 2, 3, 6, 0] rfl ?_
        exact tX10_quiet_b70 ha0 h hc he0
      · rw [if_neg c8] at h
        refine J_goto (tgt := 77) dX10_quiet_67 (by decide) ?_
        refine J_pick [1, 2, 3, 4, 5, 6] rfl ?_
        exact tX10_quiet_b77 ha0 h hc he0

def fX10_quiet_w33 (a0 : Nat) (a1 : Int32) (a2 : Int32) (a3 : Int32) (a4 : Int32) (a5 : Int32) (σ : Mm) : Option (Int32 × Int32 × Mm) :=
  wh (fun a : Int32 × Int32 × Int32 × Mm => fX10_quiet_l33 a0 a1 a2 a.1 a.2.1 a.2.2.1 a.2.2.2) BIG (a3, a4, a5, σ)
set_option maxRecDepth 20000 in
set_option maxHeartbeats 2000000 in
theorem tX10_quiet_w33 {X : XS} {n : Nat} {σ : Mm} {F : Nat × Option Value × Mm} {a0 : Nat} {a1 : Int32} {a2 : Int32} {a3 : Int32} {a4 : Int32} {a5 : Int32} (ha0 : RT n a0 110) {res : Int32 × Int32 × Mm} (h : fX10_quiet_w33 a0 a1 a2 a3 a4 a5 σ = some res) (he0 : ∀ (b3 : Int32) (b4 : Int32) (s : Mm), res = (b3, b4, s) → J X mX10_quiet 114 0 0 F 83 [(2, .int a2), (3, .int b3), (4, .int b4)] [] n s) : J X mX10_quiet 114 0 0 F 33 [(0, .ref a0), (1, .int a1), (2, .int a2), (3, .int a3), (4, .int a4), (5, .int a5)] [] n σ := by
  unfold fX10_quiet_w33 at h
  refine wh_rule (P := fun a : Int32 × Int32 × Int32 × Mm => J X mX10_quiet 114 0 0 F 33 [(0, .ref a0), (1, .int a1), (2, .int a2), (3, .int a.1), (4, .int a.2.1), (5, .int a.2.2.1)] [] n a.2.2.2) (K := fun b => b = res) ?_ _ _ _ h rfl
  intro a
  refine ⟨fun a2 hb hP => ?_, fun b hb hK => ?_⟩
  · exact tX10_quiet_l33 ha0 hb (fun _ _ _ _ e => by cases e; exact hP) (fun _ _ _ e => by cases e)
  · subst hK
    exact tX10_quiet_l33 ha0 hb (fun _ _ _ _ e => by cases e) (fun v0 v1 v2 e => he0 v0 v1 v2 (Sum.inr.inj e))

def fX10_quiet (a0 : Nat) (a1 : Int32) (a2 : Int32) (σ : Mm) : Option (Int32 × Mm) :=
  (fX10_isReader a0 a1 (sI σ a0 0 0)).bind fun vk1 => if vk1 = 0 then some ((-1), (sI σ a0 0 0)) else (fX10_isIn (Int32.toInt64 a2) 0 1 (sI σ a0 0 0)).bind fun vk3 => if vk3 = 0 then some ((-1), (sI σ a0 0 0)) else (fX10_quiet_w33 a0 a1 a2 (-1) 0 0 (sI σ a0 0 0)).bind (fun o10 => (fun xo10_3 xo10_4 so10 => if a2 = 0 then some (xo10_3, so10) else some (xo10_4, so10)) o10.1 o10.2.1 o10.2.2)
set_option maxRecDepth 20000 in
set_option maxHeartbeats 2000000 in
theorem tX10_quiet {X : XS} {n : Nat} {σ : Mm} {a0 : Nat} {a1 : Int32} {a2 : Int32} (ha0 : RT n a0 110) {res : Int32 × Mm} (h : fX10_quiet a0 a1 a2 σ = some res) : MT X yX10_quiet mX10_quiet 114 0 0 [.ref a0, .int a1, .int a2] n σ (n, some (.int res.1), res.2) := by
  unfold fX10_quiet at h
  refine MT_of (by decide +kernel) rfl (fun h => by cases h) (Nat.le_of_ble_eq_true rfl) ?_
  show J X mX10_quiet 114 0 0 (n, some (.int res.1), res.2) 0 [(0, .ref a0), (1, .int a1), (2, .int a2)] [] n σ
  refine J_aload_n (z := 0) dX10_quiet_0 rfl rfl (q := 1) rfl ?_
  refine J_iconst (x := 0) dX10_quiet_1 (by decide) (q := 2) rfl ?_
  refine J_putI dX10_quiet_2 lRX10_96 (fun h => by cases h) ha0 rfl (q := 5) rfl ?_
  refine J_aload_n (z := 0) dX10_quiet_5 rfl rfl (q := 6) rfl ?_
  refine J_iload_n (z := 1) dX10_quiet_6 rfl rfl (q := 7) rfl ?_
  obtain ⟨vk1, hk1, h⟩ := bindS h
  refine J_cVi (as := [.int a1]) dX10_quiet_7 mRX10_309 ha0 (tX10_isReader ha0 hk1) rfl (Nat.le_of_ble_eq_true rfl) (Nat.le_of_ble_eq_true rfl) (Nat.le_of_ble_eq_true rfl) (q := 10) rfl ?_
  intro bk1
  refine J_if_eq (tgt := 23) dX10_quiet_10 (by decide) (q := 13) rfl (fun c1 => ?_) (fun c1 => ?_)
  · rw [if_pos c1] at h
    refine J_iconst (x := (-1)) dX10_quiet_23 (by decide) (q := 24) rfl ?_
    have h := Option.some.inj h
    subst h
    exact J_ireturn dX10_quiet_24 rfl rfl rfl
  · rw [if_neg c1] at h
    refine J_iload_n (z := 2) dX10_quiet_13 rfl rfl (q := 14) rfl ?_
    refine J_i2l dX10_quiet_14  (q := 15) rfl ?_
    refine J_lconst (x := 0) dX10_quiet_15 (by decide) (q := 16) rfl ?_
    refine J_lconst (x := 1) dX10_quiet_16 (by decide) (q := 17) rfl ?_
    obtain ⟨vk3, hk3, h⟩ := bindS h
    refine J_cSi (as := [.long (Int32.toInt64 a2), .long 0, .long 1]) dX10_quiet_17 mRX10_217 (tX10_isIn  hk3) rfl (Nat.le_of_ble_eq_true rfl) (Nat.le_of_ble_eq_true rfl) (Nat.le_of_ble_eq_true rfl) (q := 20) rfl ?_
    intro bk3
    refine J_if_ne (tgt := 25) dX10_quiet_20 (by decide) (q := 23) rfl (fun c3 => ?_) (fun c3 => ?_)
    · rw [if_neg c3] at h
      refine J_iconst (x := (-1)) dX10_quiet_25 (by decide) (q := 26) rfl ?_
      refine J_istore_n (lv' := [(3, .int (-1)), (0, .ref a0), (1, .int a1), (2, .int a2)]) dX10_quiet_26 rfl (by decide) rfl (q := 27) rfl ?_
      refine J_iconst (x := 0) dX10_quiet_27 (by decide) (q := 28) rfl ?_
      refine J_istore (lv' := [(4, .int 0), (3, .int (-1)), (0, .ref a0), (1, .int a1), (2, .int a2)]) dX10_quiet_28 (by decide) rfl (q := 30) rfl ?_
      refine J_iconst (x := 0) dX10_quiet_30 (by decide) (q := 31) rfl ?_
      refine J_istore (lv' := [(5, .int 0), (4, .int 0), (3, .int (-1)), (0, .ref a0), (1, .int a1), (2, .int a2)]) dX10_quiet_31 (by decide) rfl (q := 33) rfl ?_
      obtain ⟨o10, hlo10, h⟩ := bindS h
      refine J_pick [3, 4, 5, 2, 1, 0] rfl ?_
      refine tX10_quiet_w33 ha0 hlo10 ?_
      · intro xo10_3 xo10_4 so10 qo10
        rw [qo10] at h
        try dsimp only [Sum.elim_inl, Sum.elim_inr] at h
        refine J_iload_n (z := 0) dX10_quiet_83 rfl rfl (q := 84) rfl ?_
        refine J_if_ne (tgt := 91) dX10_quiet_84 (by decide) (q := 87) rfl (fun c10 => ?_) (fun c10 => ?_)
        · rw [if_neg c10] at h
          refine J_iload (z := 2) dX10_quiet_91 rfl (q := 93) rfl ?_
          have h := Option.some.inj h
          subst h
          exact J_ireturn dX10_quiet_93 rfl rfl rfl
        · rw [if_pos c10] at h
          refine J_iload_n (z := 1) dX10_quiet_87 rfl rfl (q := 88) rfl ?_
          refine J_goto (tgt := 93) dX10_quiet_88 (by decide) ?_
          have h := Option.some.inj h
          subst h
          exact J_ireturn dX10_quiet_93 rfl rfl rfl
    · rw [if_pos c3] at h
      refine J_iconst (x := (-1)) dX10_quiet_23 (by decide) (q := 24) rfl ?_
      have h := Option.some.inj h
      subst h
      exact J_ireturn dX10_quiet_24 rfl rfl rfl

