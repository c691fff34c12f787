def fX7_nextOf (a0 : Nat) (a1 : Nat) (σ : Mm) : Option (Int32 × Mm) :=
  bnd2 (fX7_next a0 σ) fun vk1 sk1 => if 0 ≤ vk1 then if chB (chI vk1) = true then some ((six a1 (chI vk1)), sk1) else none else some ((-1), sk1)
set_option maxRecDepth 20000 in
set_option maxHeartbeats 2000000 in
theorem tX7_nextOf {X : XS} {n : Nat} {σ : Mm} {a0 : Nat} {a1 : Nat} (ha0 : RT n a0 107) (ha1 : RT n a1 207) {res : Int32 × Mm} (h : fX7_nextOf a0 a1 σ = some res) : MT X yX7_nextOf mX7_nextOf 8 0 0 [.ref a0, .ref a1] n σ (n, some (.int res.1), res.2) := by
  unfold fX7_nextOf at h
  refine MT_of (by decide +kernel) rfl (fun h => by cases h) (Nat.le_of_ble_eq_true rfl) ?_
  show J X mX7_nextOf 8 0 0 (n, some (.int res.1), res.2) 0 [(0, .ref a0), (1, .ref a1)] [] n σ
  refine J_aload_n (z := 0) dX7_nextOf_0 rfl rfl (q := 1) rfl ?_
  obtain ⟨vk1, sk1, hk1, h⟩ := bnd2S h
  refine J_cVi (as := []) dX7_nextOf_1 mRX7_25 ha0 (tX7_next ha0 hk1) rfl (Nat.le_of_ble_eq_true rfl) (Nat.le_of_ble_eq_true rfl) (Nat.le_of_ble_eq_true rfl) (q := 4) rfl ?_
  intro bk1
  refine J_istore_n (lv' := [(2, .int vk1), (0, .ref a0), (1, .ref a1)]) dX7_nextOf_4 rfl (by decide) rfl (q := 5) rfl ?_
  refine J_iload_n (z := 0) dX7_nextOf_5 rfl rfl (q := 6) rfl ?_
  refine J_if_ge (tgt := 13) dX7_nextOf_6 (by decide) (q := 9) rfl (fun c1 => ?_) (fun c1 => ?_)
  · rw [if_pos c1] at h
    refine J_aload_n (z := 2) dX7_nextOf_13 rfl rfl (q := 14) rfl ?_
    refine J_iload_n (z := 0) dX7_nextOf_14 rfl rfl (q := 15) rfl ?_
    refine J_i2c dX7_nextOf_15  (q := 16) rfl ?_
    obtain ⟨g3, h⟩ := iteS h
    refine J_strix dX7_nextOf_16 mRX7_37 ha1 g3 (Nat.le_of_ble_eq_true rfl) (Nat.le_of_ble_eq_true rfl) (q := 19) rfl ?_
    have h := Option.some.inj h
    subst h
    exact J_ireturn dX7_nextOf_19 rfl rfl rfl
  · rw [if_neg c1] at h
    refine J_iconst (x := (-1)) dX7_nextOf_9 (by decide) (q := 10) rfl ?_
    refine J_goto (tgt := 19) dX7_nextOf_10 (by decide) ?_
    have h := Option.some.inj h
    subst h
    exact J_ireturn dX7_nextOf_19 rfl rfl rfl

def fX7_isDigit (a0 : Int32) (σ : Mm) : Option (Int32) :=
  if a0 < 48 then some 0 else if 57 < a0 then some 0 else some 1
set_option maxRecDepth 20000 in
set_option maxHeartbeats 2000000 in
theorem tX7_isDigit {X : XS} {n : Nat} {σ : Mm} {a0 : Int32} {res : Int32} (h : fX7_isDigit a0 σ = some res) : MT X yX7_isDigit mX7_isDigit 1 0 0 [.int a0] n σ (n, some (.int res), σ) := by
  unfold fX7_isDigit at h
  refine MT_of (by decide +kernel) rfl (fun h => by cases h) (Nat.le_of_ble_eq_true rfl) ?_
  show J X mX7_isDigit 1 0 0 (n, some (.int res), σ) 0 [(0, .int a0)] [] n σ
  refine J_iload_n (z := 0) dX7_isDigit_0 rfl rfl (q := 1) rfl ?_
  refine J_bipush (x := 48) dX7_isDigit_1 (by decide) (q := 3) rfl ?_
  refine J_icmp_lt (tgt := 16) dX7_isDigit_3 (by decide) (q := 6) rfl (fun c0 => ?_) (fun c0 => ?_)
  · rw [if_pos c0] at h
    refine J_iconst (x := 0) dX7_isDigit_16 (by decide) (q := 17) rfl ?_
    have h := Option.some.inj h
    subst h
    exact J_ireturn dX7_isDigit_17 rfl rfl rfl
  · rw [if_neg c0] at h
    refine J_iload_n (z := 0) dX7_isDigit_6 rfl rfl (q := 7) rfl ?_
    refine J_bipush (x := 57) dX7_isDigit_7 (by decide) (q := 9) rfl ?_
    refine J_icmp_gt (tgt := 16) dX7_isDigit_9 (by decide) (q := 12) rfl (fun c1 => ?_) (fun c1 => ?_)
    · rw [if_pos c1] at h
      refine J_iconst (x := 0) dX7_isDigit_16 (by decide) (q := 17) rfl ?_
      have h := Option.some.inj h
      subst h
      exact J_ireturn dX7_isDigit_17 rfl rfl rfl
    · rw [if_neg c1] at h
      refine J_iconst (x := 1) dX7_isDigit_12 (by decide) (q := 13) rfl ?_
      refine J_goto (tgt := 17) dX7_isDigit_13 (by decide) ?_
      have h := Option.some.inj h
      subst h
      exact J_ireturn dX7_isDigit_17 rfl rfl rfl

def fX7_wrongHere (a0 : Nat) (σ : Mm) : Option (Int32 × Mm) :=
  some (0, (sI σ a0 3 (gI σ a0 2)))
set_option maxRecDepth 20000 in
set_option maxHeartbeats 2000000 in
theorem tX7_wrongHere {X : XS} {n : Nat} {σ : Mm} {a0 : Nat} (ha0 : RT n a0 107) {res : Int32 × Mm} (h : fX7_wrongHere a0 σ = some res) : MT X yX7_wrongHere mX7_wrongHere 1 0 0 [.ref a0] n σ (n, some (.int res.1), res.2) := by
  unfold fX7_wrongHere at h
  refine MT_of (by decide +kernel) rfl (fun h => by cases h) (Nat.le_of_ble_eq_true rfl) ?_
  show J X mX7_wrongHere 1 0 0 (n, some (.int res.1), res.2) 0 [(0, .ref a0)] [] n σ
  refine J_aload_n (z := 0) dX7_wrongHere_0 rfl rfl (q := 1) rfl ?_
  refine J_aload_n (z := 0) dX7_wrongHere_1 rfl rfl (q := 2) rfl ?_
  refine J_getI dX7_wrongHere_2 lRX7_22 ha0 rfl (q := 5) rfl ?_
  refine J_putI dX7_wrongHere_5 lRX7_15 (fun h => by cases h) ha0 rfl (q := 8) rfl ?_
  refine J_iconst (x := 0) dX7_wrongHere_8 (by decide) (q := 9) rfl ?_
  have h := Option.some.inj h
  subst h
  exact J_ireturn dX7_wrongHere_9 rfl rfl rfl

def fX7_number_l23 (a0 : Nat) (a1 : Int32) (a2 : Int32) (a3 : Int32) (a4 : Int32) (a5 : Int32) (σ : Mm) : Option ((Int32 × Int32 × Mm) ⊕ ((Int32 × Mm) ⊕ Mm)) :=
  if (gI σ a0 1) ≤ (gI σ a0 2) then some (Sum.inr (Sum.inl (a4, σ))) else (gR σ a0 0).bind fun r5 => if ixB (gI σ a0 2) (ln r5) = true then (fX7_isDigit (gI σ r5 (Int32.toNatClampNeg (gI σ a0 2))) σ).bind fun vk7 => if vk7 = 0 then some (Sum.inr (Sum.inl (a4, σ))) else if a5 = a1 then some (Sum.inr (Sum.inr σ)) else if ixB (gI σ a0 2) (ln r5) = true then some (Sum.inl ((((a4 * 10) + (gI σ r5 (Int32.toNatClampNeg (gI σ a0 2)))) - 48), (a5 + 1), (sI σ a0 2 ((gI σ a0 2) + 1)))) else none else none
set_option maxRecDepth 20000 in
set_option maxHeartbeats 2000000 in
theorem tX7_number_l23 {X : XS} {n : Nat} {σ : Mm} {F : Nat × Option Value × Mm} {a0 : Nat} {a1 : Int32} {a2 : Int32} {a3 : Int32} {a4 : Int32} {a5 : Int32} (ha0 : RT n a0 107) {res : (Int32 × Int32 × Mm) ⊕ ((Int32 × Mm) ⊕ Mm)} (h : fX7_number_l23 a0 a1 a2 a3 a4 a5 σ = some res) (hc : ∀ (b4 : Int32) (b5 : Int32) (s : Mm), res = .inl (b4, b5, s) → J X mX7_number 2 0 0 F 23 [(0, .ref a0), (1, .int a1), (2, .int a2), (3, .int a3), (4, .int b4), (5, .int b5)] [] n s) (he0 : ∀ (b4 : Int32) (s : Mm), res = .inr (Sum.inl (b4, s)) → J X mX7_number 2 0 0 F 98 [(0, .ref a0), (2, .int a2), (3, .int a3), (4, .int b4)] [] n s) (he1 : ∀  (s : Mm), res = .inr (Sum.inr s) → J X mX7_number 2 0 0 F 55 [(0, .ref a0)] [] n s) : J X mX7_number 2 0 0 F 23 [(0, .ref a0), (1, .int a1), (2, .int a2), (3, .int a3), (4, .int a4), (5, .int a5)] [] n σ := by
  unfold fX7_number_l23 at h
  refine J_aload_n (z := 0) dX7_number_23 rfl rfl (q := 24) rfl ?_
  refine J_getI dX7_number_24 lRX7_22 ha0 rfl (q := 27) rfl ?_
  refine J_aload_n (z := 0) dX7_number_27 rfl rfl (q := 28) rfl ?_
  refine J_getI dX7_number_28 lRX7_19 ha0 rfl (q := 31) rfl ?_
  refine J_icmp_ge (tgt := 98) dX7_number_31 (by decide) (q := 34) rfl (fun c3 => ?_) (fun c3 => ?_)
  · rw [if_pos c3] at h
    have h := Option.some.inj h
    refine J_pick [0, 2, 3, 4] rfl ?_
    exact he0 _ _ h.symm
  · rw [if_neg c3] at h
    refine J_aload_n (z := 0) dX7_number_34 rfl rfl (q := 35) rfl ?_
    obtain ⟨r5, er5, h⟩ := bindS h
    refine J_getR dX7_number_35 lRX7_9 ha0 rfl (by decide) er5 (q := 38) rfl (fun fr5 => ?_)
    refine J_aload_n (z := 0) dX7_number_38 rfl rfl (q := 39) rfl ?_
    refine J_getI dX7_number_39 lRX7_22 ha0 rfl (q := 42) rfl ?_
    obtain ⟨g6, h⟩ := iteS h
    refine J_iald dX7_number_42 fr5 (ixB_ok g6) (q := 43) rfl ?_
    obtain ⟨vk7, hk7, h⟩ := bindS h
    refine J_cSi (as := [.int (gI σ r5 (Int32.toNatClampNeg (gI σ a0 2)))]) dX7_number_43 mRX7_33 (tX7_isDigit  hk7) rfl (Nat.le_of_ble_eq_true rfl) (Nat.le_of_ble_eq_true rfl) (Nat.le_of_ble_eq_true rfl) (q := 46) rfl ?_
    intro bk7
    refine J_if_eq (tgt := 98) dX7_number_46 (by decide) (q := 49) rfl (fun c7 => ?_) (fun c7 => ?_)
    · rw [if_pos c7] at h
      have h := Option.some.inj h
      refine J_pick [0, 2, 3, 4] rfl ?_
      exact he0 _ _ h.symm
    · rw [if_neg c7] at h
      refine J_iload (z := 5) dX7_number_49 rfl (q := 51) rfl ?_
      refine J_iload_n (z := 1) dX7_number_51 rfl rfl (q := 52) rfl ?_
      refine J_icmp_ne (tgt := 62) dX7_number_52 (by decide) (q := 55) rfl (fun c8 => ?_) (fun c8 => ?_)
      · rw [if_neg c8] at h
        refine J_iload (z := 4) dX7_number_62 rfl (q := 64) rfl ?_
        refine J_bipush (x := 10) dX7_number_64 (by decide) (q := 66) rfl ?_
        refine J_imul dX7_number_66  (q := 67) rfl ?_
        refine J_aload_n (z := 0) dX7_number_67 rfl rfl (q := 68) rfl ?_
        refine J_getR dX7_number_68 lRX7_9 ha0 rfl (by decide) er5 (q := 71) rfl (fun _ => ?_)
        refine J_aload_n (z := 0) dX7_number_71 rfl rfl (q := 72) rfl ?_
        refine J_getI dX7_number_72 lRX7_22 ha0 rfl (q := 75) rfl ?_
        obtain ⟨g10, h⟩ := iteS h
        refine J_iald dX7_number_75 fr5 (ixB_ok g10) (q := 76) rfl ?_
        refine J_iadd dX7_number_76  (q := 77) rfl ?_
        refine J_bipush (x := 48) dX7_number_77 (by decide) (q := 79) rfl ?_
        refine J_isub dX7_number_79  (q := 80) rfl ?_
        refine J_istore (lv' := [(4, .int (((a4 * 10) + (gI σ r5 (Int32.toNatClampNeg (gI σ a0 2)))) - 48)), (0, .ref a0), (1, .int a1), (2, .int a2), (3, .int a3), (5, .int a5)]) dX7_number_80 (by decide) rfl (q := 82) rfl ?_
        refine J_iinc (z := 5) (y := (a5 + 1)) (lv' := [(5, .int (a5 + 1)), (4, .int (((a4 * 10) + (gI σ r5 (Int32.toNatClampNeg (gI σ a0 2)))) - 48)), (0, .ref a0), (1, .int a1), (2, .int a2), (3, .int a3)]) dX7_number_82 rfl rfl (by decide) rfl (q := 85) rfl ?_
        refine J_aload_n (z := 2) dX7_number_85 rfl rfl (q := 86) rfl ?_
        refine J_dup dX7_number_86 rfl (q := 87) rfl ?_
        refine J_getI dX7_number_87 lRX7_22 ha0 rfl (q := 90) rfl ?_
        refine J_iconst (x := 1) dX7_number_90 (by decide) (q := 91) rfl ?_
        refine J_iadd dX7_number_91  (q := 92) rfl ?_
        refine J_putI dX7_number_92 lRX7_22 (fun h => by cases h) ha0 rfl (q := 95) rfl ?_
        refine J_goto (tgt := 23) dX7_number_95 (by decide) ?_
        have h := Option.some.inj h
        refine J_pick [2, 3, 4, 5, 1, 0] rfl ?_
        exact hc _ _ _ h.symm
      · rw [if_pos c8] at h
        have h := Option.some.inj h
        refine J_pick [0] rfl ?_
        exact he1 _ h.symm

def fX7_number_w23 (a0 : Nat) (a1 : Int32) (a2 : Int32) (a3 : Int32) (a4 : Int32) (a5 : Int32) (σ : Mm) : Option ((Int32 × Mm) ⊕ Mm) :=
  wh (fun a : Int32 × Int32 × Mm => fX7_number_l23 a0 a1 a2 a3 a.1 a.2.1 a.2.2) BIG (a4, a5, σ)
set_option maxRecDepth 20000 in
set_option maxHeartbeats 2000000 in
theorem tX7_number_w23 {X : XS} {n : Nat} {σ : Mm} {F : Nat × Option Value × Mm} {a0 : Nat} {a1 : Int32} {a2 : Int32} {a3 : Int32} {a4 : Int32} {a5 : Int32} (ha0 : RT n a0 107) {res : (Int32 × Mm) ⊕ Mm} (h : fX7_number_w23 a0 a1 a2 a3 a4 a5 σ = some res) (he0 : ∀ (b4 : Int32) (s : Mm), res = (Sum.inl (b4, s)) → J X mX7_number 2 0 0 F 98 [(0, .ref a0), (2, .int a2), (3, .int a3), (4, .int b4)] [] n s) (he1 : ∀  (s : Mm), res = (Sum.inr s) → J X mX7_number 2 0 0 F 55 [(0, .ref a0)] [] n s) : J X mX7_number 2 0 0 F 23 [(0, .ref a0), (1, .int a1), (2, .int a2), (3, .int a3), (4, .int a4), (5, .int a5)] [] n σ := by
  unfold fX7_number_w23 at h
  refine wh_rule (P := fun a : Int32 × Int32 × Mm => J X mX7_number 2 0 0 F 23 [(0, .ref a0), (1, .int a1), (2, .int a2), (3, .int a3), (4, .int a.1), (5, .int a.2.1)] [] n a.2.2) (K := fun b => b = res) ?_ _ _ _ h rfl
  intro a
  refine ⟨fun a2 hb hP => ?_, fun b hb hK => ?_⟩
  · exact tX7_number_l23 ha0 hb (fun _ _ _ e => by cases e; exact hP) (fun _ _ e => by cases e) (fun _ e => by cases e)
  · subst hK
    exact tX7_number_l23 ha0 hb (fun _ _ _ e => by cases e) (fun v0 v1 e => he0 v0 v1 (Sum.inr.inj e)) (fun v0 e => he1 v0 (Sum.inr.inj e))

def fX7_number_b110 (a0 : Nat) (σ : Mm) : Option (Int32 × Mm) :=
  some ((-1), (sI σ a0 3 ((gI σ a0 2) - 1)))
set_option maxRecDepth 20000 in
set_option maxHeartbeats 2000000 in
theorem tX7_number_b110 {X : XS} {n : Nat} {σ : Mm} {a0 : Nat} (ha0 : RT n a0 107) {res : Int32 × Mm} (h : fX7_number_b110 a0 σ = some res) : J X mX7_number 2 0 0 (n, some (.int res.1), res.2) 110 [(0, .ref a0)] [] n σ := by
  unfold fX7_number_b110 at h
  refine J_aload_n (z := 0) dX7_number_110 rfl rfl (q := 111) rfl ?_
  refine J_aload_n (z := 0) dX7_number_111 rfl rfl (q := 112) rfl ?_
  refine J_getI dX7_number_112 lRX7_22 ha0 rfl (q := 115) rfl ?_
  refine J_iconst (x := 1) dX7_number_115 (by decide) (q := 116) rfl ?_
  refine J_isub dX7_number_116  (q := 117) rfl ?_
  refine J_putI dX7_number_117 lRX7_15 (fun h => by cases h) ha0 rfl (q := 120) rfl ?_
  refine J_iconst (x := (-1)) dX7_number_120 (by decide) (q := 121) rfl ?_
  have h := Option.some.inj h
  subst h
  exact J_ireturn dX7_number_121 rfl rfl rfl

def fX7_number_b98 (a0 : Nat) (a2 : Int32) (a3 : Int32) (a4 : Int32) (σ : Mm) : Option (Int32 × Mm) :=
  if a4 < a2 then fX7_number_b110 a0 σ else if a4 ≤ a3 then some (a4, σ) else fX7_number_b110 a0 σ
set_option maxRecDepth 20000 in
set_option maxHeartbeats 2000000 in
theorem tX7_number_b98 {X : XS} {n : Nat} {σ : Mm} {a0 : Nat} {a2 : Int32} {a3 : Int32} {a4 : Int32} (ha0 : RT n a0 107) {res : Int32 × Mm} (h : fX7_number_b98 a0 a2 a3 a4 σ = some res) : J X mX7_number 2 0 0 (n, some (.int res.1), res.2) 98 [(0, .ref a0), (2, .int a2), (3, .int a3), (4, .int a4)] [] n σ := by
  unfold fX7_number_b98 at h
  refine J_iload (z := 3) dX7_number_98 rfl (q := 100) rfl ?_
  refine J_iload_n (z := 1) dX7_number_100 rfl rfl (q := 101) rfl ?_
  refine J_icmp_lt (tgt := 110) dX7_number_101 (by decide) (q := 104) rfl (fun c11 => ?_) (fun c11 => ?_)
  · rw [if_pos c11] at h
    refine J_pick [0] rfl ?_
    exact tX7_number_b110 ha0 h
  · rw [if_neg c11] at h
    refine J_iload (z := 3) dX7_number_104 rfl (q := 106) rfl ?_
    refine J_iload_n (z := 2) dX7_number_106 rfl rfl (q := 107) rfl ?_
    refine J_icmp_le (tgt := 122) dX7_number_107 (by decide) (q := 110) rfl (fun c12 => ?_) (fun c12 => ?_)
    · rw [if_pos c12] at h
      refine J_iload (z := 3) dX7_number_122 rfl (q := 124) rfl ?_
      have h := Option.some.inj h
      subst h
      exact J_ireturn dX7_number_124 rfl rfl rfl
    · rw [if_neg c12] at h
      refine J_pick [0] rfl ?_
      exact tX7_number_b110 ha0 h

def fX7_number (a0 : Nat) (a1 : Int32) (a2 : Int32) (a3 : Int32) (σ : Mm) : Option (Int32 × Mm) :=
  bnd2 (fX7_next a0 σ) fun vk1 sk1 => (fX7_isDigit vk1 sk1).bind fun vk2 => if vk2 = 0 then bnd2 (fX7_wrongHere a0 sk1) fun vk15 sk15 => some ((-1), sk15) else (fX7_number_w23 a0 a1 a2 a3 0 0 sk1).bind (Sum.elim (fun eo110 => (fun xo11_4 so11 => fX7_number_b98 a0 a2 a3 xo11_4 so11) eo110.1 eo110.2) (fun eo111 => (fun so11 => bnd2 (fX7_wrongHere a0 so11) fun vk14 sk14 => some ((-1), sk14)) eo111))
set_option maxRecDepth 20000 in
set_option maxHeartbeats 2000000 in
theorem tX7_number {X : XS} {n : Nat} {σ : Mm} {a0 : Nat} {a1 : Int32} {a2 : Int32} {a3 : Int32} (ha0 : RT n a0 107) {res : Int32 × Mm} (h : fX7_number a0 a1 a2 a3 σ = some res) : MT X yX7_number mX7_number 2 0 0 [.ref a0, .int a1, .int a2, .int a3] n σ (n, some (.int res.1), res.2) := by
  unfold fX7_number at h
  refine MT_of (by decide +kernel) rfl (fun h => by cases h) (Nat.le_of_ble_eq_true rfl) ?_
  show J X mX7_number 2 0 0 (n, some (.int res.1), res.2) 0 [(0, .ref a0), (1, .int a1), (2, .int a2), (3, .int a3)] [] n σ
  refine J_aload_n (z := 0) dX7_number_0 rfl rfl (q := 1) rfl ?_
  obtain ⟨vk1, sk1, hk1, h⟩ := bnd2S h
  refine J_cVi (as := []) dX7_number_1 mRX7_25 ha0 (tX7_next ha0 hk1) rfl (Nat.le_of_ble_eq_true rfl) (Nat.le_of_ble_eq_true rfl) (Nat.le_of_ble_eq_true rfl) (q := 4) rfl ?_
  intro bk1
  obtain ⟨vk2, hk2, h⟩ := bindS h
  refine J_cSi (as := [.int vk1]) dX7_number_4 mRX7_33 (tX7_isDigit  hk2) rfl (Nat.le_of_ble_eq_true rfl) (Nat.le_of_ble_eq_true rfl) (Nat.le_of_ble_eq_true rfl) (q := 7) rfl ?_
  intro bk2
  refine J_if_ne (tgt := 17) dX7_number_7 (by decide) (q := 10) rfl (fun c2 => ?_) (fun c2 => ?_)
  · rw [if_neg c2] at h
    refine J_iconst (x := 0) dX7_number_17 (by decide) (q := 18) rfl ?_
    refine J_istore (lv' := [(4, .int 0), (0, .ref a0), (1, .int a1), (2, .int a2), (3, .int a3)]) dX7_number_18 (by decide) rfl (q := 20) rfl ?_
    refine J_iconst (x := 0) dX7_number_20 (by decide) (q := 21) rfl ?_
    refine J_istore (lv' := [(5, .int 0), (4, .int 0), (0, .ref a0), (1, .int a1), (2, .int a2), (3, .int a3)]) dX7_number_21 (by decide) rfl (q := 23) rfl ?_
    obtain ⟨o11, hlo11, h⟩ := bindS h
    refine J_pick [2, 3, 4, 5, 1, 0] rfl ?_
    refine tX7_number_w23 ha0 hlo11 ?_ ?_
    · intro xo11_4 so11 qo11
      rw [qo11] at h
      try dsimp only [Sum.elim_inl, Sum.elim_inr] at h
      refine J_pick [0, 1, 2, 3] rfl ?_
      exact tX7_number_b98 ha0 h
    · intro so11 qo11
      rw [qo11] at h
      try dsimp only [Sum.elim_inl, Sum.elim_inr] at h
      refine J_aload_n (z := 0) dX7_number_55 rfl rfl (q := 56) rfl ?_
      obtain ⟨vk14, sk14, hk14, h⟩ := bnd2S h
      refine J_cVi (as := []) dX7_number_56 mRX7_29 ha0 (tX7_wrongHere ha0 hk14) rfl (Nat.le_of_ble_eq_true rfl) (Nat.le_of_ble_eq_true rfl) (Nat.le_of_ble_eq_true rfl) (q := 59) rfl ?_
      intro bk14
      refine J_pop dX7_number_59 rfl (q := 60) rfl ?_
      refine J_iconst (x := (-1)) dX7_number_60 (by decide) (q := 61) rfl ?_
      have h := Option.some.inj h
      subst h
      exact J_ireturn dX7_number_61 rfl rfl rfl
  · rw [if_pos c2] at h
    refine J_aload_n (z := 0) dX7_number_10 rfl rfl (q := 11) rfl ?_
    obtain ⟨vk15, sk15, hk15, h⟩ := bnd2S h
    refine J_cVi (as := []) dX7_number_11 mRX7_29 ha0 (tX7_wrongHere ha0 hk15) rfl (Nat.le_of_ble_eq_true rfl) (Nat.le_of_ble_eq_true rfl) (Nat.le_of_ble_eq_true rfl) (q := 14) rfl ?_
    intro bk15
    refine J_pop dX7_number_14 rfl (q := 15) rfl ?_
    refine J_iconst (x := (-1)) dX7_number_15 (by decide) (q := 16) rfl ?_
    have h := Option.some.inj h
    subst h
    exact J_ireturn dX7_number_16 rfl rfl rfl

def fX1_items_l94 (a0 : Nat) (a2 : Nat) (a3 : Int32) (a4 : Nat) (a5 : Nat) (a6 : Nat) (a7 : Int32) (a8 : Int32) (σ : Mm) : Option ((Int32 × Int32 × Mm) ⊕ ((Int32 × Mm) ⊕ Mm)) :=
  if (slen a4) < a8 then some (Sum.inr (Sum.inl (1, σ))) else (gR σ a0 0).bind fun r9 => bnd2 (fX7_nextOf r9 a4 σ) fun vk10 sk10 => if vk10 < 0 then some (Sum.inr (Sum.inl (1, sk10))) else if vk10 < (nI (ln a5)) then if ((shrI a7 vk10) &&& 1) = 1 then some (Sum.inr (Sum.inr sk10)) else (gR sk10 a0 0).bind fun r14 => if ixB vk10 (ln a5) = true then if ixB vk10 (ln a6) = true then bnd2 (fX7_number r14 2 (KI (a5 - 1000) (Int32.toNatClampNeg vk10)) (KI (a6 - 1000) (Int32.toNatClampNeg vk10)) (sI sk10 r14 2 ((gI sk10 r14 2) + 1))) fun vk17 sk17 => if vk17 < 0 then some (Sum.inr (Sum.inl (0, sk17))) else if (a3 + vk10) < (nI (ln a2)) then if ixB (a3 + vk10) (ln a2) = true then some (Sum.inl ((a7 ||| (shlI 1 vk10)), (a8 + 1), (sI sk17 a2 (Int32.toNatClampNeg (a3 + vk10)) vk17))) else none else some (Sum.inr (Sum.inl (0, sk17))) else none else none else some (Sum.inr (Sum.inl (1, sk10)))
set_option maxRecDepth 20000 in
set_option maxHeartbeats 2000000 in
theorem tX1_items_l94 {X : XS} {n : Nat} {σ : Mm} {F : Nat × Option Value × Mm} {a0 : Nat} {a2 : Nat} {a3 : Int32} {a4 : Nat} {a5 : Nat} {a6 : Nat} {a7 : Int32} {a8 : Int32} (ha0 : RT n a0 101) (ha2 : RT n a2 200) (ha4 : RT n a4 207) (ha5 : RT n a5 206) (ha6 : RT n a6 206) {res : (Int32 × Int32 × Mm) ⊕ ((Int32 × Mm) ⊕ Mm)} (h : fX1_items_l94 a0 a2 a3 a4 a5 a6 a7 a8 σ = some res) (hc : ∀ (b7 : Int32) (b8 : Int32) (s : Mm), res = .inl (b7, b8, s) → J X mX1_items 9 0 0 F 94 [(0, .ref a0), (2, .ref a2), (3, .int a3), (4, .ref a4), (5, .ref a5), (6, .ref a6), (7, .int b7), (8, .int b8)] [] n s) (he0 : ∀  (s : Mm), res = .inr (Sum.inr s) → J X mX1_items 9 0 0 F 141 [(0, .ref a0)] [] n s) (hr : ∀ (v : Int32) (s : Mm), res = .inr (Sum.inl (v, s)) → F = (n, some (.int v), s)) : J X mX1_items 9 0 0 F 94 [(0, .ref a0), (2, .ref a2), (3, .int a3), (4, .ref a4), (5, .ref a5), (6, .ref a6), (7, .int a7), (8, .int a8)] [] n σ := by
  unfold fX1_items_l94 at h
  refine J_iload (z := 7) dX1_items_94 rfl (q := 96) rfl ?_
  refine J_aload (z := 3) dX1_items_96 rfl (q := 98) rfl ?_
  refine J_strlen dX1_items_98 mRX1_139 ha4 (Nat.le_of_ble_eq_true rfl) (Nat.le_of_ble_eq_true rfl) (q := 101) rfl ?_
  refine J_icmp_gt (tgt := 221) dX1_items_101 (by decide) (q := 104) rfl (fun c7 => ?_) (fun c7 => ?_)
  · rw [if_pos c7] at h
    refine J_iconst (x := 1) dX1_items_221 (by decide) (q := 222) rfl ?_
    have h := Option.some.inj h
    exact J_ireturn dX1_items_222 rfl rfl (hr _ _ h.symm)
  · rw [if_neg c7] at h
    refine J_aload_n (z := 0) dX1_items_104 rfl rfl (q := 105) rfl ?_
    obtain ⟨r9, er9, h⟩ := bindS h
    refine J_getR dX1_items_105 lRX1_21 ha0 rfl (by decide) er9 (q := 108) rfl (fun fr9 => ?_)
    refine J_aload (z := 3) dX1_items_108 rfl (q := 110) rfl ?_
    obtain ⟨vk10, sk10, hk10, h⟩ := bnd2S h
    refine J_cVi (as := [.ref a4]) dX1_items_110 mRX1_144 fr9 (tX7_nextOf fr9 ha4 hk10) rfl (Nat.le_of_ble_eq_true rfl) (Nat.le_of_ble_eq_true rfl) (Nat.le_of_ble_eq_true rfl) (q := 113) rfl ?_
    intro bk10
    refine J_istore (lv' := [(9, .int vk10), (0, .ref a0), (2, .ref a2), (3, .int a3), (4, .ref a4), (5, .ref a5), (6, .ref a6), (7, .int a7), (8, .int a8)]) dX1_items_113 (by decide) rfl (q := 115) rfl ?_
    refine J_iload (z := 0) dX1_items_115 rfl (q := 117) rfl ?_
    refine J_if_lt (tgt := 128) dX1_items_117 (by decide) (q := 120) rfl (fun c10 => ?_) (fun c10 => ?_)
    · rw [if_pos c10] at h
      refine J_iconst (x := 1) dX1_items_128 (by decide) (q := 129) rfl ?_
      have h := Option.some.inj h
      exact J_ireturn dX1_items_129 rfl rfl (hr _ _ h.symm)
    · rw [if_neg c10] at h
      refine J_iload (z := 0) dX1_items_120 rfl (q := 122) rfl ?_
      refine J_aload (z := 5) dX1_items_122 rfl (q := 124) rfl ?_
      refine J_alenK dX1_items_124 ha5  rfl (q := 125) rfl ?_
      refine J_icmp_lt (tgt := 130) dX1_items_125 (by decide) (q := 128) rfl (fun c11 => ?_) (fun c11 => ?_)
      · rw [if_pos c11] at h
        refine J_iload (z := 7) dX1_items_130 rfl (q := 132) rfl ?_
        refine J_iload (z := 0) dX1_items_132 rfl (q := 134) rfl ?_
        refine J_ishr dX1_items_134  (q := 135) rfl ?_
        refine J_iconst (x := 1) dX1_items_135 (by decide) (q := 136) rfl ?_
        refine J_iand dX1_items_136  (q := 137) rfl ?_
        refine J_iconst (x := 1) dX1_items_137 (by decide) (q := 138) rfl ?_
        refine J_icmp_ne (tgt := 149) dX1_items_138 (by decide) (q := 141) rfl (fun c12 => ?_) (fun c12 => ?_)
        · rw [if_neg c12] at h
          refine J_iload (z := 7) dX1_items_149 rfl (q := 151) rfl ?_
          refine J_iconst (x := 1) dX1_items_151 (by decide) (q := 152) rfl ?_
          refine J_iload (z := 0) dX1_items_152 rfl (q := 154) rfl ?_
          refine J_ishl dX1_items_154  (q := 155) rfl ?_
          refine J_ior dX1_items_155  (q := 156) rfl ?_
          refine J_istore (lv' := [(7, .int (a7 ||| (shlI 1 vk10))), (9, .int vk10), (0, .ref a0), (2, .ref a2), (3, .int a3), (4, .ref a4), (5, .ref a5), (6, .ref a6), (8, .int a8)]) dX1_items_156 (by decide) rfl (q := 158) rfl ?_
          refine J_aload_n (z := 2) dX1_items_158 rfl rfl (q := 159) rfl ?_
          obtain ⟨r14, er14, h⟩ := bindS h
          refine J_getR dX1_items_159 lRX1_21 ha0 rfl (by decide) er14 (q := 162) rfl (fun fr14 => ?_)
          refine J_dup dX1_items_162 rfl (q := 163) rfl ?_
          refine J_getI dX1_items_163 lRX1_136 fr14 rfl (q := 166) rfl ?_
          refine J_iconst (x := 1) dX1_items_166 (by decide) (q := 167) rfl ?_
          refine J_iadd dX1_items_167  (q := 168) rfl ?_
          refine J_putI dX1_items_168 lRX1_136 (fun h => by cases h) fr14 rfl (q := 171) rfl ?_
          refine J_aload_n (z := 2) dX1_items_171 rfl rfl (q := 172) rfl ?_
          refine J_getR dX1_items_172 lRX1_21 ha0 rfl (by decide) er14 (q := 175) rfl (fun _ => ?_)
          refine J_iconst (x := 2) dX1_items_175 (by decide) (q := 176) rfl ?_
          refine J_aload (z := 6) dX1_items_176 rfl (q := 178) rfl ?_
          refine J_iload (z := 1) dX1_items_178 rfl (q := 180) rfl ?_
          obtain ⟨g15, h⟩ := iteS h
          refine J_ialdK dX1_items_180 ha5 g15 (q := 181) rfl ?_
          refine J_aload (z := 7) dX1_items_181 rfl (q := 183) rfl ?_
          refine J_iload (z := 1) dX1_items_183 rfl (q := 185) rfl ?_
          obtain ⟨g16, h⟩ := iteS h
          refine J_ialdK dX1_items_185 ha6 g16 (q := 186) rfl ?_
          obtain ⟨vk17, sk17, hk17, h⟩ := bnd2S h
          refine J_cVi (as := [.int 2, .int (KI (a5 - 1000) (Int32.toNatClampNeg vk10)), .int (KI (a6 - 1000) (Int32.toNatClampNeg vk10))]) dX1_items_186 mRX1_148 fr14 (tX7_number fr14 hk17) rfl (Nat.le_of_ble_eq_true rfl) (Nat.le_of_ble_eq_true rfl) (Nat.le_of_ble_eq_true rfl) (q := 189) rfl ?_
          intro bk17
          refine J_istore (lv' := [(10, .int vk17), (7, .int (a7 ||| (shlI 1 vk10))), (9, .int vk10), (0, .ref a0), (2, .ref a2), (3, .int a3), (4, .ref a4), (5, .ref a5), (6, .ref a6), (8, .int a8)]) dX1_items_189 (by decide) rfl (q := 191) rfl ?_
          refine J_iload (z := 0) dX1_items_191 rfl (q := 193) rfl ?_
          refine J_if_lt (tgt := 205) dX1_items_193 (by decide) (q := 196) rfl (fun c17 => ?_) (fun c17 => ?_)
          · rw [if_pos c17] at h
            refine J_iconst (x := 0) dX1_items_205 (by decide) (q := 206) rfl ?_
            have h := Option.some.inj h
            exact J_ireturn dX1_items_206 rfl rfl (hr _ _ h.symm)
          · rw [if_neg c17] at h
            refine J_iload_n (z := 5) dX1_items_196 rfl rfl (q := 197) rfl ?_
            refine J_iload (z := 2) dX1_items_197 rfl (q := 199) rfl ?_
            refine J_iadd dX1_items_199  (q := 200) rfl ?_
            refine J_aload_n (z := 4) dX1_items_200 rfl rfl (q := 201) rfl ?_
            refine J_alen (t := 0) dX1_items_201 ha2 (by decide) rfl (q := 202) rfl ?_
            refine J_icmp_lt (tgt := 207) dX1_items_202 (by decide) (q := 205) rfl (fun c18 => ?_) (fun c18 => ?_)
            · rw [if_pos c18] at h
              refine J_aload_n (z := 4) dX1_items_207 rfl rfl (q := 208) rfl ?_
              refine J_iload_n (z := 5) dX1_items_208 rfl rfl (q := 209) rfl ?_
              refine J_iload (z := 2) dX1_items_209 rfl (q := 211) rfl ?_
              refine J_iadd dX1_items_211  (q := 212) rfl ?_
              refine J_iload (z := 0) dX1_items_212 rfl (q := 214) rfl ?_
              obtain ⟨g20, h⟩ := iteS h
              refine J_iast dX1_items_214 ha2 (ixB_ok g20) (q := 215) rfl ?_
              refine J_iinc (z := 9) (y := (a8 + 1)) (lv' := [(8, .int (a8 + 1)), (10, .int vk17), (7, .int (a7 ||| (shlI 1 vk10))), (9, .int vk10), (0, .ref a0), (2, .ref a2), (3, .int a3), (4, .ref a4), (5, .ref a5), (6, .ref a6)]) dX1_items_215 rfl rfl (by decide) rfl (q := 218) rfl ?_
              refine J_goto (tgt := 94) dX1_items_218 (by decide) ?_
              have h := Option.some.inj h
              refine J_pick [4, 5, 6, 7, 8, 9, 2, 0] rfl ?_
              exact hc _ _ _ h.symm
            · rw [if_neg c18] at h
              refine J_iconst (x := 0) dX1_items_205 (by decide) (q := 206) rfl ?_
              have h := Option.some.inj h
              exact J_ireturn dX1_items_206 rfl rfl (hr _ _ h.symm)
        · rw [if_pos c12] at h
          have h := Option.some.inj h
          refine J_pick [1] rfl ?_
          exact he0 _ h.symm
      · rw [if_neg c11] at h
        refine J_iconst (x := 1) dX1_items_128 (by decide) (q := 129) rfl ?_
        have h := Option.some.inj h
        exact J_ireturn dX1_items_129 rfl rfl (hr _ _ h.symm)

def fX1_items_w94 (a0 : Nat) (a2 : Nat) (a3 : Int32) (a4 : Nat) (a5 : Nat) (a6 : Nat) (a7 : Int32) (a8 : Int32) (σ : Mm) : Option ((Int32 × Mm) ⊕ Mm) :=
  wh (fun a : Int32 × Int32 × Mm => fX1_items_l94 a0 a2 a3 a4 a5 a6 a.1 a.2.1 a.2.2) BIG (a7, a8, σ)
set_option maxRecDepth 20000 in
set_option maxHeartbeats 2000000 in
theorem tX1_items_w94 {X : XS} {n : Nat} {σ : Mm} {F : Nat × Option Value × Mm} {a0 : Nat} {a2 : Nat} {a3 : Int32} {a4 : Nat} {a5 : Nat} {a6 : Nat} {a7 : Int32} {a8 : Int32} (ha0 : RT n a0 101) (ha2 : RT n a2 200) (ha4 : RT n a4 207) (ha5 : RT n a5 206) (ha6 : RT n a6 206) {res : (Int32 × Mm) ⊕ Mm} (h : fX1_items_w94 a0 a2 a3 a4 a5 a6 a7 a8 σ = some res) (he0 : ∀  (s : Mm), res = (Sum.inr s) → J X mX1_items 9 0 0 F 141 [(0, .ref a0)] [] n s) (hr : ∀ (v : Int32) (s : Mm), res = (Sum.inl (v, s)) → F = (n, some (.int v), s)) : J X mX1_items 9 0 0 F 94 [(0, .ref a0), (2, .ref a2), (3, .int a3), (4, .ref a4), (5, .ref a5), (6, .ref a6), (7, .int a7), (8, .int a8)] [] n σ := by
  unfold fX1_items_w94 at h
  refine wh_rule (P := fun a : Int32 × Int32 × Mm => J X mX1_items 9 0 0 F 94 [(0, .ref a0), (2, .ref a2), (3, .int a3), (4, .ref a4), (5, .ref a5), (6, .ref a6), (7, .int a.1), (8, .int a.2.1)] [] n a.2.2) (K := fun b => b = res) ?_ _ _ _ h rfl
  intro a
  refine ⟨fun a2 hb hP => ?_, fun b hb hK => ?_⟩
  · exact tX1_items_l94 ha0 ha2 ha4 ha5 ha6 hb (fun _ _ _ e => by cases e; exact hP) (fun _ e => by cases e) (fun _ _ e => by cases e)
  · subst hK
    exact tX1_items_l94 ha0 ha2 ha4 ha5 ha6 hb (fun _ _ _ e => by cases e) (fun v0 e => he0 v0 (Sum.inr.inj e)) (fun v0 v1 e => hr v0 v1 (Sum.inr.inj e))

def fX1_items_b73 (a0 : Nat) (a2 : Nat) (a3 : Int32) (a4 : Nat) (a5 : Nat) (z0 : Nat) (σ : Mm) : Option (Int32 × Mm) :=
  (gR σ a0 0).bind fun r7 => (fX1_items_w94 a0 a2 a3 a4 a5 z0 0 0 (sI σ r7 2 ((gI σ r7 2) + 1))).bind (Sum.elim (fun eo210 => some eo210) (fun eo211 => (fun so21 => (gR so21 a0 0).bind fun r22 => bnd2 (fX7_wrongHere r22 so21) fun vk23 sk23 => some (vk23, sk23)) eo211))
set_option maxRecDepth 20000 in
set_option maxHeartbeats 2000000 in
theorem tX1_items_b73 {X : XS} {n : Nat} {σ : Mm} {a0 : Nat} {a2 : Nat} {a3 : Int32} {a4 : Nat} {a5 : Nat} {z0 : Nat} (ha0 : RT n a0 101) (ha2 : RT n a2 200) (ha4 : RT n a4 207) (ha5 : RT n a5 206) (hz0 : RT n z0 206) {res : Int32 × Mm} (h : fX1_items_b73 a0 a2 a3 a4 a5 z0 σ = some res) : J X mX1_items 9 0 0 (n, some (.int res.1), res.2) 73 [(0, .ref a0), (2, .ref a2), (3, .int a3), (4, .ref a4), (5, .ref a5)] [.ref z0] n σ := by
  unfold fX1_items_b73 at h
  refine J_astore (lv' := [(6, .ref z0), (0, .ref a0), (2, .ref a2), (3, .int a3), (4, .ref a4), (5, .ref a5)]) dX1_items_73 (by decide) rfl (q := 75) rfl ?_
  refine J_iconst (x := 0) dX1_items_75 (by decide) (q := 76) rfl ?_
  refine J_istore (lv' := [(7, .int 0), (6, .ref z0), (0, .ref a0), (2, .ref a2), (3, .int a3), (4, .ref a4), (5, .ref a5)]) dX1_items_76 (by decide) rfl (q := 78) rfl ?_
  refine J_aload_n (z := 2) dX1_items_78 rfl rfl (q := 79) rfl ?_
  obtain ⟨r7, er7, h⟩ := bindS h
  refine J_getR dX1_items_79 lRX1_21 ha0 rfl (by decide) er7 (q := 82) rfl (fun fr7 => ?_)
  refine J_dup dX1_items_82 rfl (q := 83) rfl ?_
  refine J_getI dX1_items_83 lRX1_136 fr7 rfl (q := 86) rfl ?_
  refine J_iconst (x := 1) dX1_items_86 (by decide) (q := 87) rfl ?_
  refine J_iadd dX1_items_87  (q := 88) rfl ?_
  refine J_putI dX1_items_88 lRX1_136 (fun h => by cases h) fr7 rfl (q := 91) rfl ?_
  refine J_iconst (x := 0) dX1_items_91 (by decide) (q := 92) rfl ?_
  refine J_istore (lv' := [(8, .int 0), (7, .int 0), (6, .ref z0), (0, .ref a0), (2, .ref a2), (3, .int a3), (4, .ref a4), (5, .ref a5)]) dX1_items_92 (by decide) rfl (q := 94) rfl ?_
  obtain ⟨o21, hlo21, h⟩ := bindS h
  refine J_pick [3, 4, 5, 6, 7, 2, 1, 0] rfl ?_
  refine tX1_items_w94 ha0 ha2 ha4 ha5 hz0 hlo21 ?_ ?_
  · intro so21 qo21
    rw [qo21] at h
    try dsimp only [Sum.elim_inl, Sum.elim_inr] at h
    refine J_aload_n (z := 0) dX1_items_141 rfl rfl (q := 142) rfl ?_
    obtain ⟨r22, er22, h⟩ := bindS h
    refine J_getR dX1_items_142 lRX1_21 ha0 rfl (by decide) er22 (q := 145) rfl (fun fr22 => ?_)
    obtain ⟨vk23, sk23, hk23, h⟩ := bnd2S h
    refine J_cVi (as := []) dX1_items_145 mRX1_90 fr22 (tX7_wrongHere fr22 hk23) rfl (Nat.le_of_ble_eq_true rfl) (Nat.le_of_ble_eq_true rfl) (Nat.le_of_ble_eq_true rfl) (q := 148) rfl ?_
    intro bk23
    have h := Option.some.inj h
    subst h
    exact J_ireturn dX1_items_148 rfl bk23 rfl
  · intro vo21 so21 qo21
    rw [qo21] at h
    try dsimp only [Sum.elim_inl, Sum.elim_inr] at h
    have h := Option.some.inj h
    subst h
    rfl

def fX1_items_b47 (a0 : Nat) (a1 : Int32) (a2 : Nat) (a3 : Int32) (a4 : Nat) (z0 : Nat) (σ : Mm) : Option (Int32 × Mm) :=
  if a1 = 0 then fX1_items_b73 a0 a2 a3 a4 z0 (1000 + 1) σ else if a1 = 1 then fX1_items_b73 a0 a2 a3 a4 z0 (1000 + 4) σ else fX1_items_b73 a0 a2 a3 a4 z0 (1000 + 7) σ
set_option maxRecDepth 20000 in
set_option maxHeartbeats 2000000 in
theorem tX1_items_b47 {X : XS} {n : Nat} {σ : Mm} {a0 : Nat} {a1 : Int32} {a2 : Nat} {a3 : Int32} {a4 : Nat} {z0 : Nat} (ha0 : RT n a0 101) (ha2 : RT n a2 200) (ha4 : RT n a4 207) (hz0 : RT n z0 206) {res : Int32 × Mm} (h : fX1_items_b47 a0 a1 a2 a3 a4 z0 σ = some res) : J X mX1_items 9 0 0 (n, some (.int res.1), res.2) 47 [(0, .ref a0), (1, .int a1), (2, .ref a2), (3, .int a3), (4, .ref a4)] [.ref z0] n σ := by
  unfold fX1_items_b47 at h
  refine J_astore (lv' := [(5, .ref z0), (0, .ref a0), (1, .int a1), (2, .ref a2), (3, .int a3), (4, .ref a4)]) dX1_items_47 (by decide) rfl (q := 49) rfl ?_
  refine J_iload_n (z := 2) dX1_items_49 rfl rfl (q := 50) rfl ?_
  refine J_if_ne (tgt := 59) dX1_items_50 (by decide) (q := 53) rfl (fun c4 => ?_) (fun c4 => ?_)
  · rw [if_neg c4] at h
    refine J_iload_n (z := 2) dX1_items_59 rfl rfl (q := 60) rfl ?_
    refine J_iconst (x := 1) dX1_items_60 (by decide) (q := 61) rfl ?_
    refine J_icmp_ne (tgt := 70) dX1_items_61 (by decide) (q := 64) rfl (fun c5 => ?_) (fun c5 => ?_)
    · rw [if_neg c5] at h
      refine J_gets (j := 7) dX1_items_70 (by decide) sRX1_133 (q := 73) rfl ?_
      refine J_pick [1, 3, 4, 5, 0] rfl ?_
      exact tX1_items_b73 ha0 ha2 ha4 hz0 (rtK_7 _) h
    · rw [if_pos c5] at h
      refine J_gets (j := 4) dX1_items_64 (by decide) sRX1_130 (q := 67) rfl ?_
      refine J_goto (tgt := 73) dX1_items_67 (by decide) ?_
      refine J_pick [1, 3, 4, 5, 0] rfl ?_
      exact tX1_items_b73 ha0 ha2 ha4 hz0 (rtK_4 _) h
  · rw [if_pos c4] at h
    refine J_gets (j := 1) dX1_items_53 (by decide) sRX1_127 (q := 56) rfl ?_
    refine J_goto (tgt := 73) dX1_items_56 (by decide) ?_
    refine J_pick [1, 3, 4, 5, 0] rfl ?_
    exact tX1_items_b73 ha0 ha2 ha4 hz0 (rtK_1 _) h

def fX1_items_b21 (a0 : Nat) (a1 : Int32) (a2 : Nat) (a3 : Int32) (z0 : Nat) (σ : Mm) : Option (Int32 × Mm) :=
  if a1 = 0 then fX1_items_b47 a0 a1 a2 a3 z0 (1000 + 0) σ else if a1 = 1 then fX1_items_b47 a0 a1 a2 a3 z0 (1000 + 3) σ else fX1_items_b47 a0 a1 a2 a3 z0 (1000 + 6) σ
set_option maxRecDepth 20000 in
set_option maxHeartbeats 2000000 in
theorem tX1_items_b21 {X : XS} {n : Nat} {σ : Mm} {a0 : Nat} {a1 : Int32} {a2 : Nat} {a3 : Int32} {z0 : Nat} (ha0 : RT n a0 101) (ha2 : RT n a2 200) (hz0 : RT n z0 207) {res : Int32 × Mm} (h : fX1_items_b21 a0 a1 a2 a3 z0 σ = some res) : J X mX1_items 9 0 0 (n, some (.int res.1), res.2) 21 [(0, .ref a0), (1, .int a1), (2, .ref a2), (3, .int a3)] [.ref z0] n σ := by
  unfold fX1_items_b21 at h
  refine J_astore (lv' := [(4, .ref z0), (0, .ref a0), (1, .int a1), (2, .ref a2), (3, .int a3)]) dX1_items_21 (by decide) rfl (q := 23) rfl ?_
  refine J_iload_n (z := 2) dX1_items_23 rfl rfl (q := 24) rfl ?_
  refine J_if_ne (tgt := 33) dX1_items_24 (by decide) (q := 27) rfl (fun c2 => ?_) (fun c2 => ?_)
  · rw [if_neg c2] at h
    refine J_iload_n (z := 2) dX1_items_33 rfl rfl (q := 34) rfl ?_
    refine J_iconst (x := 1) dX1_items_34 (by decide) (q := 35) rfl ?_
    refine J_icmp_ne (tgt := 44) dX1_items_35 (by decide) (q := 38) rfl (fun c3 => ?_) (fun c3 => ?_)
    · rw [if_neg c3] at h
      refine J_gets (j := 6) dX1_items_44 (by decide) sRX1_124 (q := 47) rfl ?_
      refine J_pick [1, 2, 3, 4, 0] rfl ?_
      exact tX1_items_b47 ha0 ha2 hz0 (rtK_6 _) h
    · rw [if_pos c3] at h
      refine J_gets (j := 3) dX1_items_38 (by decide) sRX1_121 (q := 41) rfl ?_
      refine J_goto (tgt := 47) dX1_items_41 (by decide) ?_
      refine J_pick [1, 2, 3, 4, 0] rfl ?_
      exact tX1_items_b47 ha0 ha2 hz0 (rtK_3 _) h
  · rw [if_pos c2] at h
    refine J_gets (j := 0) dX1_items_27 (by decide) sRX1_118 (q := 30) rfl ?_
    refine J_goto (tgt := 47) dX1_items_30 (by decide) ?_
    refine J_pick [1, 2, 3, 4, 0] rfl ?_
    exact tX1_items_b47 ha0 ha2 hz0 (rtK_0 _) h

def fX1_items (a0 : Nat) (a1 : Int32) (a2 : Nat) (a3 : Int32) (σ : Mm) : Option (Int32 × Mm) :=
  if a1 = 0 then fX1_items_b21 a0 a1 a2 a3 (1100 + 2 * 0) σ else if a1 = 1 then fX1_items_b21 a0 a1 a2 a3 (1100 + 2 * 1) σ else fX1_items_b21 a0 a1 a2 a3 (1100 + 2 * 2) σ
set_option maxRecDepth 20000 in
set_option maxHeartbeats 2000000 in
theorem tX1_items {X : XS} {n : Nat} {σ : Mm} {a0 : Nat} {a1 : Int32} {a2 : Nat} {a3 : Int32} (ha0 : RT n a0 101) (ha2 : RT n a2 200) {res : Int32 × Mm} (h : fX1_items a0 a1 a2 a3 σ = some res) : MT X yX1_items mX1_items 9 0 0 [.ref a0, .int a1, .ref a2, .int a3] n σ (n, some (.int res.1), res.2) := by
  unfold fX1_items at h
  refine MT_of (by decide +kernel) rfl (fun h => by cases h) (Nat.le_of_ble_eq_true rfl) ?_
  show J X mX1_items 9 0 0 (n, some (.int res.1), res.2) 0 [(0, .ref a0), (1, .int a1), (2, .ref a2), (3, .int a3)] [] n σ
  refine J_iload_n (z := 1) dX1_items_0 rfl rfl (q := 1) rfl ?_
  refine J_if_ne (tgt := 9) dX1_items_1 (by decide) (q := 4) rfl (fun c0 => ?_) (fun c0 => ?_)
  · rw [if_neg c0] at h
    refine J_iload_n (z := 1) dX1_items_9 rfl rfl (q := 10) rfl ?_
    refine J_iconst (x := 1) dX1_items_10 (by decide) (q := 11) rfl ?_
    refine J_icmp_ne (tgt := 19) dX1_items_11 (by decide) (q := 14) rfl (fun c1 => ?_) (fun c1 => ?_)
    · rw [if_neg c1] at h
      refine J_ldcS (tx := "cbvn") (j := 2) dX1_items_19 (by decide +kernel) (q := 21) rfl ?_
      refine J_pick [0, 1, 2, 3] rfl ?_
      exact tX1_items_b21 ha0 ha2 (rtS_2 _) h
    · rw [if_pos c1] at h
      refine J_ldcS (tx := "cdbt") (j := 1) dX1_items_14 (by decide +kernel) (q := 16) rfl ?_
      refine J_goto (tgt := 21) dX1_items_16 (by decide) ?_
      refine J_pick [0, 1, 2, 3] rfl ?_
      exact tX1_items_b21 ha0 ha2 (rtS_1 _) h
  · rw [if_pos c0] at h
    refine J_ldcS (tx := "whcfa") (j := 0) dX1_items_4 (by decide +kernel) (q := 6) rfl ?_
    refine J_goto (tgt := 21) dX1_items_6 (by decide) ?_
    refine J_pick [0, 1, 2, 3] rfl ?_
    exact tX1_items_b21 ha0 ha2 (rtS_0 _) h

def fX1_pageClause (a0 : Nat) (σ : Mm) : Option (Int32 × Mm) :=
  (gR σ a0 2).bind fun r1 => if cpB 0 ((gI σ a0 4) * 4) 4 (ln (1000 + 5)) (ln r1) = true then bnd2 (fX1_items a0 1 r1 ((gI σ a0 4) * 4) (sI (sA σ r1 (va_cpy (KI ((1000 + 5) - 1000)) (gI σ r1) (Int32.toNatClampNeg 0) (Int32.toNatClampNeg ((gI σ a0 4) * 4)) (Int32.toNatClampNeg 4))) a0 4 ((gI (sA σ r1 (va_cpy (KI ((1000 + 5) - 1000)) (gI σ r1) (Int32.toNatClampNeg 0) (Int32.toNatClampNeg ((gI σ a0 4) * 4)) (Int32.toNatClampNeg 4))) a0 4) + 1))) fun vk3 sk3 => some (vk3, sk3) else none
set_option maxRecDepth 20000 in
set_option maxHeartbeats 2000000 in
theorem tX1_pageClause {X : XS} {n : Nat} {σ : Mm} {a0 : Nat} (ha0 : RT n a0 101) {res : Int32 × Mm} (h : fX1_pageClause a0 σ = some res) : MT X yX1_pageClause mX1_pageClause 10 0 0 [.ref a0] n σ (n, some (.int res.1), res.2) := by
  unfold fX1_pageClause at h
  refine MT_of (by decide +kernel) rfl (fun h => by cases h) (Nat.le_of_ble_eq_true rfl) ?_
  show J X mX1_pageClause 10 0 0 (n, some (.int res.1), res.2) 0 [(0, .ref a0)] [] n σ
  refine J_aload_n (z := 0) dX1_pageClause_0 rfl rfl (q := 1) rfl ?_
  refine J_getI dX1_pageClause_1 lRX1_31 ha0 rfl (q := 4) rfl ?_
  refine J_iconst (x := 4) dX1_pageClause_4 (by decide) (q := 5) rfl ?_
  refine J_imul dX1_pageClause_5  (q := 6) rfl ?_
  refine J_istore_n (lv' := [(1, .int ((gI σ a0 4) * 4)), (0, .ref a0)]) dX1_pageClause_6 rfl (by decide) rfl (q := 7) rfl ?_
  refine J_gets (j := 5) dX1_pageClause_7 (by decide) sRX1_106 (q := 10) rfl ?_
  refine J_iconst (x := 0) dX1_pageClause_10 (by decide) (q := 11) rfl ?_
  refine J_aload_n (z := 1) dX1_pageClause_11 rfl rfl (q := 12) rfl ?_
  obtain ⟨r1, er1, h⟩ := bindS h
  refine J_getR dX1_pageClause_12 lRX1_15 ha0 rfl (by decide) er1 (q := 15) rfl (fun fr1 => ?_)
  refine J_iload_n (z := 0) dX1_pageClause_15 rfl rfl (q := 16) rfl ?_
  refine J_iconst (x := 4) dX1_pageClause_16 (by decide) (q := 17) rfl ?_
  obtain ⟨g2, h⟩ := iteS h
  refine J_copyK dX1_pageClause_17 cpRX1_25 (rtK_5 _) fr1 g2 (Nat.le_of_ble_eq_true rfl) (Nat.le_of_ble_eq_true rfl) (q := 20) rfl ?_
  refine J_aload_n (z := 1) dX1_pageClause_20 rfl rfl (q := 21) rfl ?_
  refine J_dup dX1_pageClause_21 rfl (q := 22) rfl ?_
  refine J_getI dX1_pageClause_22 lRX1_31 ha0 rfl (q := 25) rfl ?_
  refine J_iconst (x := 1) dX1_pageClause_25 (by decide) (q := 26) rfl ?_
  refine J_iadd dX1_pageClause_26  (q := 27) rfl ?_
  refine J_putI dX1_pageClause_27 lRX1_31 (fun h => by cases h) ha0 rfl (q := 30) rfl ?_
  refine J_aload_n (z := 1) dX1_pageClause_30 rfl rfl (q := 31) rfl ?_
  refine J_iconst (x := 1) dX1_pageClause_31 (by decide) (q := 32) rfl ?_
  refine J_aload_n (z := 1) dX1_pageClause_32 rfl rfl (q := 33) rfl ?_
  refine J_getR dX1_pageClause_33 lRX1_15 ha0 rfl (by decide) er1 (q := 36) rfl (fun _ => ?_)
  refine J_iload_n (z := 0) dX1_pageClause_36 rfl rfl (q := 37) rfl ?_
  obtain ⟨vk3, sk3, hk3, h⟩ := bnd2S h
  refine J_cVi (as := [.int 1, .ref r1, .int ((gI σ a0 4) * 4)]) dX1_pageClause_37 mRX1_102 ha0 (tX1_items ha0 fr1 hk3) rfl (Nat.le_of_ble_eq_true rfl) (Nat.le_of_ble_eq_true rfl) (Nat.le_of_ble_eq_true rfl) (q := 40) rfl ?_
  intro bk3
  have h := Option.some.inj h
  subst h
  exact J_ireturn dX1_pageClause_40 rfl bk3 rfl

def fX1_readerClause (a0 : Nat) (σ : Mm) : Option (Int32 × Mm) :=
  (gR σ a0 3).bind fun r1 => if cpB 0 ((gI σ a0 5) * 4) 4 (ln (1000 + 8)) (ln r1) = true then bnd2 (fX1_items a0 2 r1 ((gI σ a0 5) * 4) (sI (sA σ r1 (va_cpy (KI ((1000 + 8) - 1000)) (gI σ r1) (Int32.toNatClampNeg 0) (Int32.toNatClampNeg ((gI σ a0 5) * 4)) (Int32.toNatClampNeg 4))) a0 5 ((gI (sA σ r1 (va_cpy (KI ((1000 + 8) - 1000)) (gI σ r1) (Int32.toNatClampNeg 0) (Int32.toNatClampNeg ((gI σ a0 5) * 4)) (Int32.toNatClampNeg 4))) a0 5) + 1))) fun vk3 sk3 => some (vk3, sk3) else none
set_option maxRecDepth 20000 in
set_option maxHeartbeats 2000000 in
theorem tX1_readerClause {X : XS} {n : Nat} {σ : Mm} {a0 : Nat} (ha0 : RT n a0 101) {res : Int32 × Mm} (h : fX1_readerClause a0 σ = some res) : MT X yX1_readerClause mX1_readerClause 10 0 0 [.ref a0] n σ (n, some (.int res.1), res.2) := by
  unfold fX1_readerClause at h
  refine MT_of (by decide +kernel) rfl (fun h => by cases h) (Nat.le_of_ble_eq_true rfl) ?_
  show J X mX1_readerClause 10 0 0 (n, some (.int res.1), res.2) 0 [(0, .ref a0)] [] n σ
  refine J_aload_n (z := 0) dX1_readerClause_0 rfl rfl (q := 1) rfl ?_
  refine J_getI dX1_readerClause_1 lRX1_35 ha0 rfl (q := 4) rfl ?_
  refine J_iconst (x := 4) dX1_readerClause_4 (by decide) (q := 5) rfl ?_
  refine J_imul dX1_readerClause_5  (q := 6) rfl ?_
  refine J_istore_n (lv' := [(1, .int ((gI σ a0 5) * 4)), (0, .ref a0)]) dX1_readerClause_6 rfl (by decide) rfl (q := 7) rfl ?_
  refine J_gets (j := 8) dX1_readerClause_7 (by decide) sRX1_109 (q := 10) rfl ?_
  refine J_iconst (x := 0) dX1_readerClause_10 (by decide) (q := 11) rfl ?_
  refine J_aload_n (z := 1) dX1_readerClause_11 rfl rfl (q := 12) rfl ?_
  obtain ⟨r1, er1, h⟩ := bindS h
  refine J_getR dX1_readerClause_12 lRX1_18 ha0 rfl (by decide) er1 (q := 15) rfl (fun fr1 => ?_)
  refine J_iload_n (z := 0) dX1_readerClause_15 rfl rfl (q := 16) rfl ?_
  refine J_iconst (x := 4) dX1_readerClause_16 (by decide) (q := 17) rfl ?_
  obtain ⟨g2, h⟩ := iteS h
  refine J_copyK dX1_readerClause_17 cpRX1_25 (rtK_8 _) fr1 g2 (Nat.le_of_ble_eq_true rfl) (Nat.le_of_ble_eq_true rfl) (q := 20) rfl ?_
  refine J_aload_n (z := 1) dX1_readerClause_20 rfl rfl (q := 21) rfl ?_
  refine J_dup dX1_readerClause_21 rfl (q := 22) rfl ?_
  refine J_getI dX1_readerClause_22 lRX1_35 ha0 rfl (q := 25) rfl ?_
  refine J_iconst (x := 1) dX1_readerClause_25 (by decide) (q := 26) rfl ?_
  refine J_iadd dX1_readerClause_26  (q := 27) rfl ?_
  refine J_putI dX1_readerClause_27 lRX1_35 (fun h => by cases h) ha0 rfl (q := 30) rfl ?_
  refine J_aload_n (z := 1) dX1_readerClause_30 rfl rfl (q := 31) rfl ?_
  refine J_iconst (x := 2) dX1_readerClause_31 (by decide) (q := 32) rfl ?_
  refine J_aload_n (z := 1) dX1_readerClause_32 rfl rfl (q := 33) rfl ?_
  refine J_getR dX1_readerClause_33 lRX1_18 ha0 rfl (by decide) er1 (q := 36) rfl (fun _ => ?_)
  refine J_iload_n (z := 0) dX1_readerClause_36 rfl rfl (q := 37) rfl ?_
  obtain ⟨vk3, sk3, hk3, h⟩ := bnd2S h
  refine J_cVi (as := [.int 2, .ref r1, .int ((gI σ a0 5) * 4)]) dX1_readerClause_37 mRX1_102 ha0 (tX1_items ha0 fr1 hk3) rfl (Nat.le_of_ble_eq_true rfl) (Nat.le_of_ble_eq_true rfl) (Nat.le_of_ble_eq_true rfl) (q := 40) rfl ?_
  intro bk3
  have h := Option.some.inj h
  subst h
  exact J_ireturn dX1_readerClause_40 rfl bk3 rfl

def fX1_ruleClause (a0 : Nat) (σ : Mm) : Option (Int32 × Mm) :=
  (gR σ a0 1).bind fun r1 => bnd2 (fX1_items a0 0 r1 0 (sI σ a0 6 1)) fun vk2 sk2 => some (vk2, sk2)
set_option maxRecDepth 20000 in
set_option maxHeartbeats 2000000 in
theorem tX1_ruleClause {X : XS} {n : Nat} {σ : Mm} {a0 : Nat} (ha0 : RT n a0 101) {res : Int32 × Mm} (h : fX1_ruleClause a0 σ = some res) : MT X yX1_ruleClause mX1_ruleClause 10 0 0 [.ref a0] n σ (n, some (.int res.1), res.2) := by
  unfold fX1_ruleClause at h
  refine MT_of (by decide +kernel) rfl (fun h => by cases h) (Nat.le_of_ble_eq_true rfl) ?_
  show J X mX1_ruleClause 10 0 0 (n, some (.int res.1), res.2) 0 [(0, .ref a0)] [] n σ
  refine J_aload_n (z := 0) dX1_ruleClause_0 rfl rfl (q := 1) rfl ?_
  refine J_iconst (x := 1) dX1_ruleClause_1 (by decide) (q := 2) rfl ?_
  refine J_putZ dX1_ruleClause_2 lRX1_61 (fun h => by cases h) ha0 rfl (by decide) (by decide) (q := 5) rfl ?_
  refine J_aload_n (z := 0) dX1_ruleClause_5 rfl rfl (q := 6) rfl ?_
  refine J_iconst (x := 0) dX1_ruleClause_6 (by decide) (q := 7) rfl ?_
  refine J_aload_n (z := 0) dX1_ruleClause_7 rfl rfl (q := 8) rfl ?_
  obtain ⟨r1, er1, h⟩ := bindS h
  refine J_getR dX1_ruleClause_8 lRX1_9 ha0 rfl (by decide) er1 (q := 11) rfl (fun fr1 => ?_)
  refine J_iconst (x := 0) dX1_ruleClause_11 (by decide) (q := 12) rfl ?_
  obtain ⟨vk2, sk2, hk2, h⟩ := bnd2S h
  refine J_cVi (as := [.int 0, .ref r1, .int 0]) dX1_ruleClause_12 mRX1_102 ha0 (tX1_items ha0 fr1 hk2) rfl (Nat.le_of_ble_eq_true rfl) (Nat.le_of_ble_eq_true rfl) (Nat.le_of_ble_eq_true rfl) (q := 15) rfl ?_
  intro bk2
  have h := Option.some.inj h
  subst h
  exact J_ireturn dX1_ruleClause_15 rfl bk2 rfl

def fX1_clause (a0 : Nat) (σ : Mm) : Option (Int32 × Mm) :=
  (gR σ a0 0).bind fun r1 => bnd2 (fX7_next r1 σ) fun vk2 sk2 => if vk2 = 112 then if 12 ≤ (gI sk2 a0 4) then (gR sk2 a0 0).bind fun r4 => bnd2 (fX7_wrongHere r4 sk2) fun vk5 sk5 => some (vk5, sk5) else bnd2 (fX1_pageClause a0 sk2) fun vk6 sk6 => some (vk6, sk6) else if vk2 = 113 then (gR sk2 a0 0).bind fun r7 => bnd2 (fX7_wrongHere r7 sk2) fun vk8 sk8 => some (vk8, sk8) else if vk2 = 114 then if 6 ≤ (gI sk2 a0 5) then (gR sk2 a0 0).bind fun r10 => bnd2 (fX7_wrongHere r10 sk2) fun vk11 sk11 => some (vk11, sk11) else bnd2 (fX1_readerClause a0 sk2) fun vk12 sk12 => some (vk12, sk12) else if vk2 = 115 then if (gI sk2 a0 6) = 0 then bnd2 (fX1_ruleClause a0 sk2) fun vk14 sk14 => some (vk14, sk14) else (gR sk2 a0 0).bind fun r15 => bnd2 (fX7_wrongHere r15 sk2) fun vk16 sk16 => some (vk16, sk16) else (gR sk2 a0 0).bind fun r17 => bnd2 (fX7_wrongHere r17 sk2) fun vk18 sk18 => some (vk18, sk18)
set_option maxRecDepth 20000 in
set_option maxHeartbeats 2000000 in
theorem tX1_clause {X : XS} {n : Nat} {σ : Mm} {a0 : Nat} (ha0 : RT n a0 101) {res : Int32 × Mm} (h : fX1_clause a0 σ = some res) : MT X yX1_clause mX1_clause 11 0 0 [.ref a0] n σ (n, some (.int res.1), res.2) := by
  unfold fX1_clause at h
  refine MT_of (by decide +kernel) rfl (fun h => by cases h) (Nat.le_of_ble_eq_true rfl) ?_
  show J X mX1_clause 11 0 0 (n, some (.int res.1), res.2) 0 [(0, .ref a0)] [] n σ
  refine J_aload_n (z := 0) dX1_clause_0 rfl rfl (q := 1) rfl ?_
  obtain ⟨r1, er1, h⟩ := bindS h
  refine J_getR dX1_clause_1 lRX1_21 ha0 rfl (by decide) er1 (q := 4) rfl (fun fr1 => ?_)
  obtain ⟨vk2, sk2, hk2, h⟩ := bnd2S h
  refine J_cVi (as := []) dX1_clause_4 mRX1_81 fr1 (tX7_next fr1 hk2) rfl (Nat.le_of_ble_eq_true rfl) (Nat.le_of_ble_eq_true rfl) (Nat.le_of_ble_eq_true rfl) (q := 7) rfl ?_
  intro bk2
  refine J_table dX1_clause_7 [(112, 58), (113, 106), (114, 82), (115, 36)] 106 (by decide) (by decide) (by decide) ?_ ?_
  · refine List.forall_mem_cons.mpr ⟨fun hx => ?_, List.forall_mem_cons.mpr ⟨fun hx => ?_, List.forall_mem_cons.mpr ⟨fun hx => ?_, List.forall_mem_cons.mpr ⟨fun hx => ?_, fun _ hh => absurd hh List.not_mem_nil⟩⟩⟩⟩
    · replace hx : vk2 = 112 := hx
      rw [if_pos hx] at h
      refine J_aload_n (z := 0) dX1_clause_58 rfl rfl (q := 59) rfl ?_
      refine J_getI dX1_clause_59 lRX1_31 ha0 rfl (q := 62) rfl ?_
      refine J_bipush (x := 12) dX1_clause_62 (by decide) (q := 64) rfl ?_
      refine J_icmp_ge (tgt := 74) dX1_clause_64 (by decide) (q := 67) rfl (fun c2 => ?_) (fun c2 => ?_)
      · rw [if_pos c2] at h
        refine J_aload_n (z := 0) dX1_clause_74 rfl rfl (q := 75) rfl ?_
        obtain ⟨r4, er4, h⟩ := bindS h
        refine J_getR dX1_clause_75 lRX1_21 ha0 rfl (by decide) er4 (q := 78) rfl (fun fr4 => ?_)
        obtain ⟨vk5, sk5, hk5, h⟩ := bnd2S h
        refine J_cVi (as := []) dX1_clause_78 mRX1_90 fr4 (tX7_wrongHere fr4 hk5) rfl (Nat.le_of_ble_eq_true rfl) (Nat.le_of_ble_eq_true rfl) (Nat.le_of_ble_eq_true rfl) (q := 81) rfl ?_
        intro bk5
        have h := Option.some.inj h
        subst h
        exact J_ireturn dX1_clause_81 rfl bk5 rfl
      · rw [if_neg c2] at h
        refine J_aload_n (z := 0) dX1_clause_67 rfl rfl (q := 68) rfl ?_
        obtain ⟨vk6, sk6, hk6, h⟩ := bnd2S h
        refine J_cVi (as := []) dX1_clause_68 mRX1_96 ha0 (tX1_pageClause ha0 hk6) rfl (Nat.le_of_ble_eq_true rfl) (Nat.le_of_ble_eq_true rfl) (Nat.le_of_ble_eq_true rfl) (q := 71) rfl ?_
        intro bk6
        refine J_goto (tgt := 81) dX1_clause_71 (by decide) ?_
        have h := Option.some.inj h
        subst h
        exact J_ireturn dX1_clause_81 rfl bk6 rfl
    · replace hx : vk2 = 113 := hx
      rw [if_neg (by rw [hx]; decide), if_pos hx] at h
      refine J_aload_n (z := 0) dX1_clause_106 rfl rfl (q := 107) rfl ?_
      obtain ⟨r7, er7, h⟩ := bindS h
      refine J_getR dX1_clause_107 lRX1_21 ha0 rfl (by decide) er7 (q := 110) rfl (fun fr7 => ?_)
      obtain ⟨vk8, sk8, hk8, h⟩ := bnd2S h
      refine J_cVi (as := []) dX1_clause_110 mRX1_90 fr7 (tX7_wrongHere fr7 hk8) rfl (Nat.le_of_ble_eq_true rfl) (Nat.le_of_ble_eq_true rfl) (Nat.le_of_ble_eq_true rfl) (q := 113) rfl ?_
      intro bk8
      have h := Option.some.inj h
      subst h
      exact J_ireturn dX1_clause_113 rfl bk8 rfl
    · replace hx : vk2 = 114 := hx
      rw [if_neg (by rw [hx]; decide), if_neg (by rw [hx]; decide), if_pos hx] at h
      refine J_aload_n (z := 0) dX1_clause_82 rfl rfl (q := 83) rfl ?_
      refine J_getI dX1_clause_83 lRX1_35 ha0 rfl (q := 86) rfl ?_
      refine J_bipush (x := 6) dX1_clause_86 (by decide) (q := 88) rfl ?_
      refine J_icmp_ge (tgt := 98) dX1_clause_88 (by decide) (q := 91) rfl (fun c8 => ?_) (fun c8 => ?_)
      · rw [if_pos c8] at h
        refine J_aload_n (z := 0) dX1_clause_98 rfl rfl (q := 99) rfl ?_
        obtain ⟨r10, er10, h⟩ := bindS h
        refine J_getR dX1_clause_99 lRX1_21 ha0 rfl (by decide) er10 (q := 102) rfl (fun fr10 => ?_)
        obtain ⟨vk11, sk11, hk11, h⟩ := bnd2S h
        refine J_cVi (as := []) dX1_clause_102 mRX1_90 fr10 (tX7_wrongHere fr10 hk11) rfl (Nat.le_of_ble_eq_true rfl) (Nat.le_of_ble_eq_true rfl) (Nat.le_of_ble_eq_true rfl) (q := 105) rfl ?_
        intro bk11
        have h := Option.some.inj h
        subst h
        exact J_ireturn dX1_clause_105 rfl bk11 rfl
      · rw [if_neg c8] at h
        refine J_aload_n (z := 0) dX1_clause_91 rfl rfl (q := 92) rfl ?_
        obtain ⟨vk12, sk12, hk12, h⟩ := bnd2S h
        refine J_cVi (as := []) dX1_clause_92 mRX1_99 ha0 (tX1_readerClause ha0 hk12) rfl (Nat.le_of_ble_eq_true rfl) (Nat.le_of_ble_eq_true rfl) (Nat.le_of_ble_eq_true rfl) (q := 95) rfl ?_
        intro bk12
        refine J_goto (tgt := 105) dX1_clause_95 (by decide) ?_
        have h := Option.some.inj h
        subst h
        exact J_ireturn dX1_clause_105 rfl bk12 rfl
    · replace hx : vk2 = 115 := hx
      rw [if_neg (by rw [hx]; decide), if_neg (by rw [hx]; decide), if_neg (by rw [hx]; decide), if_pos hx] at h
      refine J_aload_n (z := 0) dX1_clause_36 rfl rfl (q := 37) rfl ?_
      refine J_getI dX1_clause_37 lRX1_61 ha0 rfl (q := 40) rfl ?_
      refine J_if_eq (tgt := 53) dX1_clause_40 (by decide) (q := 43) rfl (fun c12 => ?_) (fun c12 => ?_)
      · rw [if_pos c12] at h
        refine J_aload_n (z := 0) dX1_clause_53 rfl rfl (q := 54) rfl ?_
        obtain ⟨vk14, sk14, hk14, h⟩ := bnd2S h
        refine J_cVi (as := []) dX1_clause_54 mRX1_93 ha0 (tX1_ruleClause ha0 hk14) rfl (Nat.le_of_ble_eq_true rfl) (Nat.le_of_ble_eq_true rfl) (Nat.le_of_ble_eq_true rfl) (q := 57) rfl ?_
        intro bk14
        have h := Option.some.inj h
        subst h
        exact J_ireturn dX1_clause_57 rfl bk14 rfl
      · rw [if_neg c12] at h
        refine J_aload_n (z := 0) dX1_clause_43 rfl rfl (q := 44) rfl ?_
        obtain ⟨r15, er15, h⟩ := bindS h
        refine J_getR dX1_clause_44 lRX1_21 ha0 rfl (by decide) er15 (q := 47) rfl (fun fr15 => ?_)
        obtain ⟨vk16, sk16, hk16, h⟩ := bnd2S h
        refine J_cVi (as := []) dX1_clause_47 mRX1_90 fr15 (tX7_wrongHere fr15 hk16) rfl (Nat.le_of_ble_eq_true rfl) (Nat.le_of_ble_eq_true rfl) (Nat.le_of_ble_eq_true rfl) (q := 50) rfl ?_
        intro bk16
        refine J_goto (tgt := 57) dX1_clause_50 (by decide) ?_
        have h := Option.some.inj h
        subst h
        exact J_ireturn dX1_clause_57 rfl bk16 rfl
  · intro hx
    rw [if_neg (hx (112, 58) (by decide)), if_neg (hx (113, 106) (by decide)), if_neg (hx (114, 82) (by decide)), if_neg (hx (115, 36) (by decide))] at h
    refine J_aload_n (z := 0) dX1_clause_106 rfl rfl (q := 107) rfl ?_
    obtain ⟨r17, er17, h⟩ := bindS h
    refine J_getR dX1_clause_107 lRX1_21 ha0 rfl (by decide) er17 (q := 110) rfl (fun fr17 => ?_)
    obtain ⟨vk18, sk18, hk18, h⟩ := bnd2S h
    refine J_cVi (as := []) dX1_clause_110 mRX1_90 fr17 (tX7_wrongHere fr17 hk18) rfl (Nat.le_of_ble_eq_true rfl) (Nat.le_of_ble_eq_true rfl) (Nat.le_of_ble_eq_true rfl) (q := 113) rfl ?_
    intro bk18
    have h := Option.some.inj h
    subst h
    exact J_ireturn dX1_clause_113 rfl bk18 rfl

def fX1_isPeopled (a0 : Nat) (σ : Mm) : Option (Int32) :=
  if (gI σ a0 4) ≤ 0 then some 0 else if (gI σ a0 5) ≤ 0 then some 0 else some 1
set_option maxRecDepth 20000 in
set_option maxHeartbeats 2000000 in
theorem tX1_isPeopled {X : XS} {n : Nat} {σ : Mm} {a0 : Nat} (ha0 : RT n a0 101) {res : Int32} (h : fX1_isPeopled a0 σ = some res) : MT X yX1_isPeopled mX1_isPeopled 1 0 0 [.ref a0] n σ (n, some (.int res), σ) := by
  unfold fX1_isPeopled at h
  refine MT_of (by decide +kernel) rfl (fun h => by cases h) (Nat.le_of_ble_eq_true rfl) ?_
  show J X mX1_isPeopled 1 0 0 (n, some (.int res), σ) 0 [(0, .ref a0)] [] n σ
  refine J_aload_n (z := 0) dX1_isPeopled_0 rfl rfl (q := 1) rfl ?_
  refine J_getI dX1_isPeopled_1 lRX1_31 ha0 rfl (q := 4) rfl ?_
  refine J_if_le (tgt := 18) dX1_isPeopled_4 (by decide) (q := 7) rfl (fun c0 => ?_) (fun c0 => ?_)
  · rw [if_pos c0] at h
    refine J_iconst (x := 0) dX1_isPeopled_18 (by decide) (q := 19) rfl ?_
    have h := Option.some.inj h
    subst h
    exact J_ireturn dX1_isPeopled_19 rfl rfl rfl
  · rw [if_neg c0] at h
    refine J_aload_n (z := 0) dX1_isPeopled_7 rfl rfl (q := 8) rfl ?_
    refine J_getI dX1_isPeopled_8 lRX1_35 ha0 rfl (q := 11) rfl ?_
    refine J_if_le (tgt := 18) dX1_isPeopled_11 (by decide) (q := 14) rfl (fun c1 => ?_) (fun c1 => ?_)
    · rw [if_pos c1] at h
      refine J_iconst (x := 0) dX1_isPeopled_18 (by decide) (q := 19) rfl ?_
      have h := Option.some.inj h
      subst h
      exact J_ireturn dX1_isPeopled_19 rfl rfl rfl
    · rw [if_neg c1] at h
      refine J_iconst (x := 1) dX1_isPeopled_14 (by decide) (q := 15) rfl ?_
      refine J_goto (tgt := 19) dX1_isPeopled_15 (by decide) ?_
      have h := Option.some.inj h
      subst h
      exact J_ireturn dX1_isPeopled_19 rfl rfl rfl

def fX7_goOver (a0 : Nat) (a1 : Int32) (σ : Mm) : Option (Int32 × Mm) :=
  bnd2 (fX7_next a0 σ) fun vk1 sk1 => if vk1 = a1 then some (1, (sI sk1 a0 2 ((gI sk1 a0 2) + 1))) else some (0, sk1)
set_option maxRecDepth 20000 in
set_option maxHeartbeats 2000000 in
theorem tX7_goOver {X : XS} {n : Nat} {σ : Mm} {a0 : Nat} {a1 : Int32} (ha0 : RT n a0 107) {res : Int32 × Mm} (h : fX7_goOver a0 a1 σ = some res) : MT X yX7_goOver mX7_goOver 2 0 0 [.ref a0, .int a1] n σ (n, some (.int res.1), res.2) := by
  unfold fX7_goOver at h
  refine MT_of (by decide +kernel) rfl (fun h => by cases h) (Nat.le_of_ble_eq_true rfl) ?_
  show J X mX7_goOver 2 0 0 (n, some (.int res.1), res.2) 0 [(0, .ref a0), (1, .int a1)] [] n σ
  refine J_aload_n (z := 0) dX7_goOver_0 rfl rfl (q := 1) rfl ?_
  obtain ⟨vk1, sk1, hk1, h⟩ := bnd2S h
  refine J_cVi (as := []) dX7_goOver_1 mRX7_25 ha0 (tX7_next ha0 hk1) rfl (Nat.le_of_ble_eq_true rfl) (Nat.le_of_ble_eq_true rfl) (Nat.le_of_ble_eq_true rfl) (q := 4) rfl ?_
  intro bk1
  refine J_iload_n (z := 1) dX7_goOver_4 rfl rfl (q := 5) rfl ?_
  refine J_icmp_eq (tgt := 10) dX7_goOver_5 (by decide) (q := 8) rfl (fun c1 => ?_) (fun c1 => ?_)
  · rw [if_pos c1] at h
    refine J_aload_n (z := 0) dX7_goOver_10 rfl rfl (q := 11) rfl ?_
    refine J_dup dX7_goOver_11 rfl (q := 12) rfl ?_
    refine J_getI dX7_goOver_12 lRX7_22 ha0 rfl (q := 15) rfl ?_
    refine J_iconst (x := 1) dX7_goOver_15 (by decide) (q := 16) rfl ?_
    refine J_iadd dX7_goOver_16  (q := 17) rfl ?_
    refine J_putI dX7_goOver_17 lRX7_22 (fun h => by cases h) ha0 rfl (q := 20) rfl ?_
    refine J_iconst (x := 1) dX7_goOver_20 (by decide) (q := 21) rfl ?_
    have h := Option.some.inj h
    subst h
    exact J_ireturn dX7_goOver_21 rfl rfl rfl
  · rw [if_neg c1] at h
    refine J_iconst (x := 0) dX7_goOver_8 (by decide) (q := 9) rfl ?_
    have h := Option.some.inj h
    subst h
    exact J_ireturn dX7_goOver_9 rfl rfl rfl

def fX7_rewind (a0 : Nat) (σ : Mm) : Option (Mm) :=
  some (sI (sI σ a0 2 0) a0 3 (-1))
set_option maxRecDepth 20000 in
set_option maxHeartbeats 2000000 in
theorem tX7_rewind {X : XS} {n : Nat} {σ : Mm} {a0 : Nat} (ha0 : RT n a0 107) {res : Mm} (h : fX7_rewind a0 σ = some res) : MT X yX7_rewind mX7_rewind 1 0 0 [.ref a0] n σ (n, none, res) := by
  unfold fX7_rewind at h
  refine MT_of (by decide +kernel) rfl (fun h => by cases h) (Nat.le_of_ble_eq_true rfl) ?_
  show J X mX7_rewind 1 0 0 (n, none, res) 0 [(0, .ref a0)] [] n σ
  refine J_aload_n (z := 0) dX7_rewind_0 rfl rfl (q := 1) rfl ?_
  refine J_iconst (x := 0) dX7_rewind_1 (by decide) (q := 2) rfl ?_
  refine J_putI dX7_rewind_2 lRX7_22 (fun h => by cases h) ha0 rfl (q := 5) rfl ?_
  refine J_aload_n (z := 0) dX7_rewind_5 rfl rfl (q := 6) rfl ?_
  refine J_iconst (x := (-1)) dX7_rewind_6 (by decide) (q := 7) rfl ?_
  refine J_putI dX7_rewind_7 lRX7_15 (fun h => by cases h) ha0 rfl (q := 10) rfl ?_
  have h := Option.some.inj h
  subst h
  exact J_return dX7_rewind_10 rfl rfl

def fX1_parse_l43 (a0 : Nat) (a1 : Int32) (a2 : Int32) (σ : Mm) : Option ((Int32 × Int32 × Mm) ⊕ ((Int32 × Mm) ⊕ Mm)) :=
  if a1 = 0 then some (Sum.inr (Sum.inr σ)) else if 240 < a2 then some (Sum.inr (Sum.inr σ)) else bnd2 (fX1_clause a0 σ) fun vk7 sk7 => if vk7 = 0 then some (Sum.inr (Sum.inl (0, sk7))) else (gR sk7 a0 0).bind fun r9 => bnd2 (fX7_goOver r9 59 sk7) fun vk10 sk10 => some (Sum.inl (vk10, (a2 + 1), sk10))
set_option maxRecDepth 20000 in
set_option maxHeartbeats 2000000 in
theorem tX1_parse_l43 {X : XS} {n : Nat} {σ : Mm} {F : Nat × Option Value × Mm} {a0 : Nat} {a1 : Int32} {a2 : Int32} (ha0 : RT n a0 101) {res : (Int32 × Int32 × Mm) ⊕ ((Int32 × Mm) ⊕ Mm)} (h : fX1_parse_l43 a0 a1 a2 σ = some res) (hc : ∀ (b1 : Int32) (b2 : Int32) (s : Mm), res = .inl (b1, b2, s) → J X mX1_parse 12 0 0 F 43 [(0, .ref a0), (1, .int b1), (2, .int b2)] [] n s) (he0 : ∀  (s : Mm), res = .inr (Sum.inr s) → J X mX1_parse 12 0 0 F 79 [(0, .ref a0)] [] n s) (hr : ∀ (v : Int32) (s : Mm), res = .inr (Sum.inl (v, s)) → F = (n, some (.int v), s)) : J X mX1_parse 12 0 0 F 43 [(0, .ref a0), (1, .int a1), (2, .int a2)] [] n σ := by
  unfold fX1_parse_l43 at h
  refine J_iload_n (z := 1) dX1_parse_43 rfl rfl (q := 44) rfl ?_
  refine J_if_eq (tgt := 79) dX1_parse_44 (by decide) (q := 47) rfl (fun c4 => ?_) (fun c4 => ?_)
  · rw [if_pos c4] at h
    have h := Option.some.inj h
    refine J_pick [0] rfl ?_
    exact he0 _ h.symm
  · rw [if_neg c4] at h
    refine J_iload_n (z := 2) dX1_parse_47 rfl rfl (q := 48) rfl ?_
    refine J_sipush (x := 240) dX1_parse_48 (by decide) (q := 51) rfl ?_
    refine J_icmp_gt (tgt := 79) dX1_parse_51 (by decide) (q := 54) rfl (fun c5 => ?_) (fun c5 => ?_)
    · rw [if_pos c5] at h
      have h := Option.some.inj h
      refine J_pick [0] rfl ?_
      exact he0 _ h.symm
    · rw [if_neg c5] at h
      refine J_aload_n (z := 0) dX1_parse_54 rfl rfl (q := 55) rfl ?_
      obtain ⟨vk7, sk7, hk7, h⟩ := bnd2S h
      refine J_cVi (as := []) dX1_parse_55 mRX1_73 ha0 (tX1_clause ha0 hk7) rfl (Nat.le_of_ble_eq_true rfl) (Nat.le_of_ble_eq_true rfl) (Nat.le_of_ble_eq_true rfl) (q := 58) rfl ?_
      intro bk7
      refine J_if_ne (tgt := 63) dX1_parse_58 (by decide) (q := 61) rfl (fun c7 => ?_) (fun c7 => ?_)
      · rw [if_neg c7] at h
        refine J_aload_n (z := 0) dX1_parse_63 rfl rfl (q := 64) rfl ?_
        obtain ⟨r9, er9, h⟩ := bindS h
        refine J_getR dX1_parse_64 lRX1_21 ha0 rfl (by decide) er9 (q := 67) rfl (fun fr9 => ?_)
        refine J_bipush (x := 59) dX1_parse_67 (by decide) (q := 69) rfl ?_
        obtain ⟨vk10, sk10, hk10, h⟩ := bnd2S h
        refine J_cVi (as := [.int 59]) dX1_parse_69 mRX1_77 fr9 (tX7_goOver fr9 hk10) rfl (Nat.le_of_ble_eq_true rfl) (Nat.le_of_ble_eq_true rfl) (Nat.le_of_ble_eq_true rfl) (q := 72) rfl ?_
        intro bk10
        refine J_istore_n (lv' := [(1, .int vk10), (0, .ref a0), (2, .int a2)]) dX1_parse_72 rfl (by decide) rfl (q := 73) rfl ?_
        refine J_iinc (z := 2) (y := (a2 + 1)) (lv' := [(2, .int (a2 + 1)), (1, .int vk10), (0, .ref a0)]) dX1_parse_73 rfl rfl (by decide) rfl (q := 76) rfl ?_
        refine J_goto (tgt := 43) dX1_parse_76 (by decide) ?_
        have h := Option.some.inj h
        refine J_pick [2, 1, 0] rfl ?_
        exact hc _ _ _ h.symm
      · rw [if_pos c7] at h
        refine J_iconst (x := 0) dX1_parse_61 (by decide) (q := 62) rfl ?_
        have h := Option.some.inj h
        exact J_ireturn dX1_parse_62 rfl rfl (hr _ _ h.symm)

def fX1_parse_w43 (a0 : Nat) (a1 : Int32) (a2 : Int32) (σ : Mm) : Option ((Int32 × Mm) ⊕ Mm) :=
  wh (fun a : Int32 × Int32 × Mm => fX1_parse_l43 a0 a.1 a.2.1 a.2.2) BIG (a1, a2, σ)
set_option maxRecDepth 20000 in
set_option maxHeartbeats 2000000 in
theorem tX1_parse_w43 {X : XS} {n : Nat} {σ : Mm} {F : Nat × Option Value × Mm} {a0 : Nat} {a1 : Int32} {a2 : Int32} (ha0 : RT n a0 101) {res : (Int32 × Mm) ⊕ Mm} (h : fX1_parse_w43 a0 a1 a2 σ = some res) (he0 : ∀  (s : Mm), res = (Sum.inr s) → J X mX1_parse 12 0 0 F 79 [(0, .ref a0)] [] n s) (hr : ∀ (v : Int32) (s : Mm), res = (Sum.inl (v, s)) → F = (n, some (.int v), s)) : J X mX1_parse 12 0 0 F 43 [(0, .ref a0), (1, .int a1), (2, .int a2)] [] n σ := by
  unfold fX1_parse_w43 at h
  refine wh_rule (P := fun a : Int32 × Int32 × Mm => J X mX1_parse 12 0 0 F 43 [(0, .ref a0), (1, .int a.1), (2, .int a.2.1)] [] n a.2.2) (K := fun b => b = res) ?_ _ _ _ h rfl
  intro a
  refine ⟨fun a2 hb hP => ?_, fun b hb hK => ?_⟩
  · exact tX1_parse_l43 ha0 hb (fun _ _ _ e => by cases e; exact hP) (fun _ e => by cases e) (fun _ _ e => by cases e)
  · subst hK
    exact tX1_parse_l43 ha0 hb (fun _ _ _ e => by cases e) (fun v0 e => he0 v0 (Sum.inr.inj e)) (fun v0 v1 e => hr v0 v1 (Sum.inr.inj e))

def fX1_parse_b104 (a0 : Nat) (σ : Mm) : Option (Int32 × Mm) :=
  (gR σ a0 0).bind fun r15 => bnd2 (fX7_wrongHere r15 σ) fun vk16 sk16 => if vk16 = 0 then some (0, sk16) else some (1, sk16)
set_option maxRecDepth 20000 in
set_option maxHeartbeats 2000000 in
theorem tX1_parse_b104 {X : XS} {n : Nat} {σ : Mm} {a0 : Nat} (ha0 : RT n a0 101) {res : Int32 × Mm} (h : fX1_parse_b104 a0 σ = some res) : J X mX1_parse 12 0 0 (n, some (.int res.1), res.2) 104 [(0, .ref a0)] [] n σ := by
  unfold fX1_parse_b104 at h
  refine J_aload_n (z := 0) dX1_parse_104 rfl rfl (q := 105) rfl ?_
  obtain ⟨r15, er15, h⟩ := bindS h
  refine J_getR dX1_parse_105 lRX1_21 ha0 rfl (by decide) er15 (q := 108) rfl (fun fr15 => ?_)
  obtain ⟨vk16, sk16, hk16, h⟩ := bnd2S h
  refine J_cVi (as := []) dX1_parse_108 mRX1_90 fr15 (tX7_wrongHere fr15 hk16) rfl (Nat.le_of_ble_eq_true rfl) (Nat.le_of_ble_eq_true rfl) (Nat.le_of_ble_eq_true rfl) (q := 111) rfl ?_
  intro bk16
  refine J_if_eq (tgt := 118) dX1_parse_111 (by decide) (q := 114) rfl (fun c16 => ?_) (fun c16 => ?_)
  · rw [if_pos c16] at h
    refine J_iconst (x := 0) dX1_parse_118 (by decide) (q := 119) rfl ?_
    have h := Option.some.inj h
    subst h
    exact J_ireturn dX1_parse_119 rfl rfl rfl
  · rw [if_neg c16] at h
    refine J_iconst (x := 1) dX1_parse_114 (by decide) (q := 115) rfl ?_
    refine J_goto (tgt := 119) dX1_parse_115 (by decide) ?_
    have h := Option.some.inj h
    subst h
    exact J_ireturn dX1_parse_119 rfl rfl rfl

def fX1_parse_b79 (a0 : Nat) (σ : Mm) : Option (Int32 × Mm) :=
  (gR σ a0 0).bind fun r12 => bnd2 (fX7_next r12 σ) fun vk13 sk13 => if vk13 = (-1) then (fX1_isPeopled a0 sk13).bind fun vk18 => if vk18 = 0 then fX1_parse_b104 a0 sk13 else (fX1_cellsFit a0 sk13).bind fun vk20 => if vk20 = 0 then fX1_parse_b104 a0 sk13 else some (1, sk13) else fX1_parse_b104 a0 sk13
set_option maxRecDepth 20000 in
set_option maxHeartbeats 2000000 in
theorem tX1_parse_b79 {X : XS} {n : Nat} {σ : Mm} {a0 : Nat} (ha0 : RT n a0 101) {res : Int32 × Mm} (h : fX1_parse_b79 a0 σ = some res) : J X mX1_parse 12 0 0 (n, some (.int res.1), res.2) 79 [(0, .ref a0)] [] n σ := by
  unfold fX1_parse_b79 at h
  refine J_aload_n (z := 0) dX1_parse_79 rfl rfl (q := 80) rfl ?_
  obtain ⟨r12, er12, h⟩ := bindS h
  refine J_getR dX1_parse_80 lRX1_21 ha0 rfl (by decide) er12 (q := 83) rfl (fun fr12 => ?_)
  obtain ⟨vk13, sk13, hk13, h⟩ := bnd2S h
  refine J_cVi (as := []) dX1_parse_83 mRX1_81 fr12 (tX7_next fr12 hk13) rfl (Nat.le_of_ble_eq_true rfl) (Nat.le_of_ble_eq_true rfl) (Nat.le_of_ble_eq_true rfl) (q := 86) rfl ?_
  intro bk13
  refine J_iconst (x := (-1)) dX1_parse_86 (by decide) (q := 87) rfl ?_
  refine J_icmp_ne (tgt := 104) dX1_parse_87 (by decide) (q := 90) rfl (fun c13 => ?_) (fun c13 => ?_)
  · rw [if_neg c13] at h
    refine J_pick [0] rfl ?_
    exact tX1_parse_b104 ha0 h
  · rw [if_pos c13] at h
    refine J_aload_n (z := 0) dX1_parse_90 rfl rfl (q := 91) rfl ?_
    obtain ⟨vk18, hk18, h⟩ := bindS h
    refine J_cVi (as := []) dX1_parse_91 mRX1_84 ha0 (tX1_isPeopled ha0 hk18) rfl (Nat.le_of_ble_eq_true rfl) (Nat.le_of_ble_eq_true rfl) (Nat.le_of_ble_eq_true rfl) (q := 94) rfl ?_
    intro bk18
    refine J_if_eq (tgt := 104) dX1_parse_94 (by decide) (q := 97) rfl (fun c18 => ?_) (fun c18 => ?_)
    · rw [if_pos c18] at h
      refine J_pick [0] rfl ?_
      exact tX1_parse_b104 ha0 h
    · rw [if_neg c18] at h
      refine J_aload_n (z := 0) dX1_parse_97 rfl rfl (q := 98) rfl ?_
      obtain ⟨vk20, hk20, h⟩ := bindS h
      refine J_cVi (as := []) dX1_parse_98 mRX1_87 ha0 (tX1_cellsFit ha0 hk20) rfl (Nat.le_of_ble_eq_true rfl) (Nat.le_of_ble_eq_true rfl) (Nat.le_of_ble_eq_true rfl) (q := 101) rfl ?_
      intro bk20
      refine J_if_ne (tgt := 114) dX1_parse_101 (by decide) (q := 104) rfl (fun c20 => ?_) (fun c20 => ?_)
      · rw [if_neg c20] at h
        refine J_iconst (x := 1) dX1_parse_114 (by decide) (q := 115) rfl ?_
        refine J_goto (tgt := 119) dX1_parse_115 (by decide) ?_
        have h := Option.some.inj h
        subst h
        exact J_ireturn dX1_parse_119 rfl rfl rfl
      · rw [if_pos c20] at h
        refine J_pick [0] rfl ?_
        exact tX1_parse_b104 ha0 h

def fX1_parse (a0 : Nat) (σ : Mm) : Option (Int32 × Mm) :=
  (gR σ a0 1).bind fun r1 => if cpB 0 0 (nI (ln r1)) (ln (1000 + 2)) (ln r1) = true then (gR σ a0 0).bind fun r3 => (fX7_rewind r3 (sA (sI (sI (sI σ a0 4 0) a0 5 0) a0 6 0) r1 (va_cpy (KI ((1000 + 2) - 1000)) (gI (sI (sI (sI σ a0 4 0) a0 5 0) a0 6 0) r1) (Int32.toNatClampNeg 0) (Int32.toNatClampNeg 0) (Int32.toNatClampNeg (nI (ln r1)))))).bind fun sk4 => (fX1_parse_w43 a0 1 0 sk4).bind (Sum.elim (fun eo110 => some eo110) (fun eo111 => (fun so11 => fX1_parse_b79 a0 so11) eo111)) else none
set_option maxRecDepth 20000 in
set_option maxHeartbeats 2000000 in
theorem tX1_parse {X : XS} {n : Nat} {σ : Mm} {a0 : Nat} (ha0 : RT n a0 101) {res : Int32 × Mm} (h : fX1_parse a0 σ = some res) : MT X yX1_parse mX1_parse 12 0 0 [.ref a0] n σ (n, some (.int res.1), res.2) := by
  unfold fX1_parse at h
  refine MT_of (by decide +kernel) rfl (fun h => by cases h) (Nat.le_of_ble_eq_true rfl) ?_
  show J X mX1_parse 12 0 0 (n, some (.int res.1), res.2) 0 [(0, .ref a0)] [] n σ
  refine J_aload_n (z := 0) dX1_parse_0 rfl rfl (q := 1) rfl ?_
  refine J_iconst (x := 0) dX1_parse_1 (by decide) (q := 2) rfl ?_
  refine J_putI dX1_parse_2 lRX1_31 (fun h => by cases h) ha0 rfl (q := 5) rfl ?_
  refine J_aload_n (z := 0) dX1_parse_5 rfl rfl (q := 6) rfl ?_
  refine J_iconst (x := 0) dX1_parse_6 (by decide) (q := 7) rfl ?_
  refine J_putI dX1_parse_7 lRX1_35 (fun h => by cases h) ha0 rfl (q := 10) rfl ?_
  refine J_aload_n (z := 0) dX1_parse_10 rfl rfl (q := 11) rfl ?_
  refine J_iconst (x := 0) dX1_parse_11 (by decide) (q := 12) rfl ?_
  refine J_putZ dX1_parse_12 lRX1_61 (fun h => by cases h) ha0 rfl (by decide) (by decide) (q := 15) rfl ?_
  refine J_gets (j := 2) dX1_parse_15 (by decide) sRX1_65 (q := 18) rfl ?_
  refine J_iconst (x := 0) dX1_parse_18 (by decide) (q := 19) rfl ?_
  refine J_aload_n (z := 0) dX1_parse_19 rfl rfl (q := 20) rfl ?_
  obtain ⟨r1, er1, h⟩ := bindS h
  refine J_getR dX1_parse_20 lRX1_9 ha0 rfl (by decide) er1 (q := 23) rfl (fun fr1 => ?_)
  refine J_iconst (x := 0) dX1_parse_23 (by decide) (q := 24) rfl ?_
  refine J_aload_n (z := 0) dX1_parse_24 rfl rfl (q := 25) rfl ?_
  refine J_getR dX1_parse_25 lRX1_9 ha0 rfl (by decide) er1 (q := 28) rfl (fun _ => ?_)
  refine J_alen (t := 0) dX1_parse_28 fr1 (by decide) rfl (q := 29) rfl ?_
  obtain ⟨g2, h⟩ := iteS h
  refine J_copyK dX1_parse_29 cpRX1_25 (rtK_2 _) fr1 g2 (Nat.le_of_ble_eq_true rfl) (Nat.le_of_ble_eq_true rfl) (q := 32) rfl ?_
  refine J_aload_n (z := 0) dX1_parse_32 rfl rfl (q := 33) rfl ?_
  obtain ⟨r3, er3, h⟩ := bindS h
  refine J_getR dX1_parse_33 lRX1_21 ha0 rfl (by decide) er3 (q := 36) rfl (fun fr3 => ?_)
  obtain ⟨sk4, hk4, h⟩ := bindS h
  refine J_cVv (as := []) dX1_parse_36 mRX1_68 fr3 (tX7_rewind fr3 hk4) rfl (Nat.le_of_ble_eq_true rfl) (Nat.le_of_ble_eq_true rfl) (Nat.le_of_ble_eq_true rfl) (q := 39) rfl ?_
  refine J_iconst (x := 1) dX1_parse_39 (by decide) (q := 40) rfl ?_
  refine J_istore_n (lv' := [(1, .int 1), (0, .ref a0)]) dX1_parse_40 rfl (by decide) rfl (q := 41) rfl ?_
  refine J_iconst (x := 0) dX1_parse_41 (by decide) (q := 42) rfl ?_
  refine J_istore_n (lv' := [(2, .int 0), (1, .int 1), (0, .ref a0)]) dX1_parse_42 rfl (by decide) rfl (q := 43) rfl ?_
  obtain ⟨o11, hlo11, h⟩ := bindS h
  refine J_pick [2, 1, 0] rfl ?_
  refine tX1_parse_w43 ha0 hlo11 ?_ ?_
  · intro so11 qo11
    rw [qo11] at h
    try dsimp only [Sum.elim_inl, Sum.elim_inr] at h
    refine J_pick [0] rfl ?_
    exact tX1_parse_b79 ha0 h
  · intro vo11 so11 qo11
    rw [qo11] at h
    try dsimp only [Sum.elim_inl, Sum.elim_inr] at h
    have h := Option.some.inj h
    subst h
    rfl

def fX2_clear (a0 : Nat) (σ : Mm) : Option (Mm) :=
  some (sI (sI σ a0 1 0) a0 2 0)
set_option maxRecDepth 20000 in
set_option maxHeartbeats 2000000 in
theorem tX2_clear {X : XS} {n : Nat} {σ : Mm} {a0 : Nat} (ha0 : RT n a0 102) {res : Mm} (h : fX2_clear a0 σ = some res) : MT X yX2_clear mX2_clear 1 0 0 [.ref a0] n σ (n, none, res) := by
  unfold fX2_clear at h
  refine MT_of (by decide +kernel) rfl (fun h => by cases h) (Nat.le_of_ble_eq_true rfl) ?_
  show J X mX2_clear 1 0 0 (n, none, res) 0 [(0, .ref a0)] [] n σ
  refine J_aload_n (z := 0) dX2_clear_0 rfl rfl (q := 1) rfl ?_
  refine J_iconst (x := 0) dX2_clear_1 (by decide) (q := 2) rfl ?_
  refine J_putI dX2_clear_2 lRX2_15 (fun h => by cases h) ha0 rfl (q := 5) rfl ?_
  refine J_aload_n (z := 0) dX2_clear_5 rfl rfl (q := 6) rfl ?_
  refine J_iconst (x := 0) dX2_clear_6 (by decide) (q := 7) rfl ?_
  refine J_putI dX2_clear_7 lRX2_19 (fun h => by cases h) ha0 rfl (q := 10) rfl ?_
  have h := Option.some.inj h
  subst h
  exact J_return dX2_clear_10 rfl rfl

def fX2_takeFrom (a0 : Nat) (a1 : Nat) (σ : Mm) : Option (Mm) :=
  (gR σ a1 0).bind fun r1 => (gR σ a0 0).bind fun r2 => if cpB 0 0 (nI (ln r2)) (ln r1) (ln r2) = true then some (sI (sI (sA σ r2 (va_cpy (gI σ r1) (gI σ r2) (Int32.toNatClampNeg 0) (Int32.toNatClampNeg 0) (Int32.toNatClampNeg (nI (ln r2))))) a0 1 (gI (sA σ r2 (va_cpy (gI σ r1) (gI σ r2) (Int32.toNatClampNeg 0) (Int32.toNatClampNeg 0) (Int32.toNatClampNeg (nI (ln r2))))) a1 1)) a0 2 (gI (sI (sA σ r2 (va_cpy (gI σ r1) (gI σ r2) (Int32.toNatClampNeg 0) (Int32.toNatClampNeg 0) (Int32.toNatClampNeg (nI (ln r2))))) a0 1 (gI (sA σ r2 (va_cpy (gI σ r1) (gI σ r2) (Int32.toNatClampNeg 0) (Int32.toNatClampNeg 0) (Int32.toNatClampNeg (nI (ln r2))))) a1 1)) a1 2)) else none
set_option maxRecDepth 20000 in
set_option maxHeartbeats 2000000 in
theorem tX2_takeFrom {X : XS} {n : Nat} {σ : Mm} {a0 : Nat} {a1 : Nat} (ha0 : RT n a0 102) (ha1 : RT n a1 102) {res : Mm} (h : fX2_takeFrom a0 a1 σ = some res) : MT X yX2_takeFrom mX2_takeFrom 1 0 0 [.ref a0, .ref a1] n σ (n, none, res) := by
  unfold fX2_takeFrom at h
  refine MT_of (by decide +kernel) rfl (fun h => by cases h) (Nat.le_of_ble_eq_true rfl) ?_
  show J X mX2_takeFrom 1 0 0 (n, none, res) 0 [(0, .ref a0), (1, .ref a1)] [] n σ
  refine J_aload_n (z := 1) dX2_takeFrom_0 rfl rfl (q := 1) rfl ?_
  obtain ⟨r1, er1, h⟩ := bindS h
  refine J_getR dX2_takeFrom_1 lRX2_11 ha1 rfl (by decide) er1 (q := 4) rfl (fun fr1 => ?_)
  refine J_iconst (x := 0) dX2_takeFrom_4 (by decide) (q := 5) rfl ?_
  refine J_aload_n (z := 0) dX2_takeFrom_5 rfl rfl (q := 6) rfl ?_
  obtain ⟨r2, er2, h⟩ := bindS h
  refine J_getR dX2_takeFrom_6 lRX2_11 ha0 rfl (by decide) er2 (q := 9) rfl (fun fr2 => ?_)
  refine J_iconst (x := 0) dX2_takeFrom_9 (by decide) (q := 10) rfl ?_
  refine J_aload_n (z := 0) dX2_takeFrom_10 rfl rfl (q := 11) rfl ?_
  refine J_getR dX2_takeFrom_11 lRX2_11 ha0 rfl (by decide) er2 (q := 14) rfl (fun _ => ?_)
  refine J_alen (t := 0) dX2_takeFrom_14 fr2 (by decide) rfl (q := 15) rfl ?_
  obtain ⟨g3, h⟩ := iteS h
  refine J_copy dX2_takeFrom_15 cpRX2_22 fr1 fr2 g3 (Nat.le_of_ble_eq_true rfl) (Nat.le_of_ble_eq_true rfl) (q := 18) rfl ?_
  refine J_aload_n (z := 0) dX2_takeFrom_18 rfl rfl (q := 19) rfl ?_
  refine J_aload_n (z := 1) dX2_takeFrom_19 rfl rfl (q := 20) rfl ?_
  refine J_getI dX2_takeFrom_20 lRX2_15 ha1 rfl (q := 23) rfl ?_
  refine J_putI dX2_takeFrom_23 lRX2_15 (fun h => by cases h) ha0 rfl (q := 26) rfl ?_
  refine J_aload_n (z := 0) dX2_takeFrom_26 rfl rfl (q := 27) rfl ?_
  refine J_aload_n (z := 1) dX2_takeFrom_27 rfl rfl (q := 28) rfl ?_
  refine J_getI dX2_takeFrom_28 lRX2_19 ha1 rfl (q := 31) rfl ?_
  refine J_putI dX2_takeFrom_31 lRX2_19 (fun h => by cases h) ha0 rfl (q := 34) rfl ?_
  have h := Option.some.inj h
  subst h
  exact J_return dX2_takeFrom_34 rfl rfl

def fX2_add (a0 : Nat) (a1 : Int32) (a2 : Int32) (a3 : Int32) (a4 : Int32) (σ : Mm) : Option (Mm) :=
  if ((gI σ a0 2) * 4) < 0 then some σ else (gR σ a0 0).bind fun r2 => if (((gI σ a0 2) * 4) + 4) ≤ (nI (ln r2)) then if ixB ((gI σ a0 2) * 4) (ln r2) = true then if ixB (((gI σ a0 2) * 4) + 1) (ln r2) = true then if ixB (((gI σ a0 2) * 4) + 2) (ln r2) = true then if ixB (((gI σ a0 2) * 4) + 3) (ln r2) = true then some (sI (sI (sI (sI (sI (sI σ r2 (Int32.toNatClampNeg ((gI σ a0 2) * 4)) a1) r2 (Int32.toNatClampNeg (((gI σ a0 2) * 4) + 1)) a2) r2 (Int32.toNatClampNeg (((gI σ a0 2) * 4) + 2)) a3) r2 (Int32.toNatClampNeg (((gI σ a0 2) * 4) + 3)) a4) a0 2 (remI ((gI (sI (sI (sI (sI σ r2 (Int32.toNatClampNeg ((gI σ a0 2) * 4)) a1) r2 (Int32.toNatClampNeg (((gI σ a0 2) * 4) + 1)) a2) r2 (Int32.toNatClampNeg (((gI σ a0 2) * 4) + 2)) a3) r2 (Int32.toNatClampNeg (((gI σ a0 2) * 4) + 3)) a4) a0 2) + 1) 100)) a0 1 (minI 100 ((gI (sI (sI (sI (sI (sI σ r2 (Int32.toNatClampNeg ((gI σ a0 2) * 4)) a1) r2 (Int32.toNatClampNeg (((gI σ a0 2) * 4) + 1)) a2) r2 (Int32.toNatClampNeg (((gI σ a0 2) * 4) + 2)) a3) r2 (Int32.toNatClampNeg (((gI σ a0 2) * 4) + 3)) a4) a0 2 (remI ((gI (sI (sI (sI (sI σ r2 (Int32.toNatClampNeg ((gI σ a0 2) * 4)) a1) r2 (Int32.toNatClampNeg (((gI σ a0 2) * 4) + 1)) a2) r2 (Int32.toNatClampNeg (((gI σ a0 2) * 4) + 2)) a3) r2 (Int32.toNatClampNeg (((gI σ a0 2) * 4) + 3)) a4) a0 2) + 1) 100)) a0 1) + 1))) else none else none else none else none else some σ
set_option maxRecDepth 20000 in
set_option maxHeartbeats 2000000 in
theorem tX2_add {X : XS} {n : Nat} {σ : Mm} {a0 : Nat} {a1 : Int32} {a2 : Int32} {a3 : Int32} {a4 : Int32} (ha0 : RT n a0 102) {res : Mm} (h : fX2_add a0 a1 a2 a3 a4 σ = some res) : MT X yX2_add mX2_add 1 0 0 [.ref a0, .int a1, .int a2, .int a3, .int a4] n σ (n, none, res) := by
  unfold fX2_add at h
  refine MT_of (by decide +kernel) rfl (fun h => by cases h) (Nat.le_of_ble_eq_true rfl) ?_
  show J X mX2_add 1 0 0 (n, none, res) 0 [(0, .ref a0), (1, .int a1), (2, .int a2), (3, .int a3), (4, .int a4)] [] n σ
  refine J_aload_n (z := 0) dX2_add_0 rfl rfl (q := 1) rfl ?_
  refine J_getI dX2_add_1 lRX2_19 ha0 rfl (q := 4) rfl ?_
  refine J_iconst (x := 4) dX2_add_4 (by decide) (q := 5) rfl ?_
  refine J_imul dX2_add_5  (q := 6) rfl ?_
  refine J_istore (lv' := [(5, .int ((gI σ a0 2) * 4)), (0, .ref a0), (1, .int a1), (2, .int a2), (3, .int a3), (4, .int a4)]) dX2_add_6 (by decide) rfl (q := 8) rfl ?_
  refine J_iload (z := 0) dX2_add_8 rfl (q := 10) rfl ?_
  refine J_if_lt (tgt := 25) dX2_add_10 (by decide) (q := 13) rfl (fun c0 => ?_) (fun c0 => ?_)
  · rw [if_pos c0] at h
    have h := Option.some.inj h
    subst h
    exact J_return dX2_add_25 rfl rfl
  · rw [if_neg c0] at h
    refine J_iload (z := 0) dX2_add_13 rfl (q := 15) rfl ?_
    refine J_iconst (x := 4) dX2_add_15 (by decide) (q := 16) rfl ?_
    refine J_iadd dX2_add_16  (q := 17) rfl ?_
    refine J_aload_n (z := 1) dX2_add_17 rfl rfl (q := 18) rfl ?_
    obtain ⟨r2, er2, h⟩ := bindS h
    refine J_getR dX2_add_18 lRX2_11 ha0 rfl (by decide) er2 (q := 21) rfl (fun fr2 => ?_)
    refine J_alen (t := 0) dX2_add_21 fr2 (by decide) rfl (q := 22) rfl ?_
    refine J_icmp_le (tgt := 26) dX2_add_22 (by decide) (q := 25) rfl (fun c2 => ?_) (fun c2 => ?_)
    · rw [if_pos c2] at h
      refine J_aload_n (z := 1) dX2_add_26 rfl rfl (q := 27) rfl ?_
      refine J_getR dX2_add_27 lRX2_11 ha0 rfl (by decide) er2 (q := 30) rfl (fun _ => ?_)
      refine J_iload (z := 0) dX2_add_30 rfl (q := 32) rfl ?_
      refine J_iload_n (z := 2) dX2_add_32 rfl rfl (q := 33) rfl ?_
      obtain ⟨g4, h⟩ := iteS h
      refine J_iast dX2_add_33 fr2 (ixB_ok g4) (q := 34) rfl ?_
      refine J_aload_n (z := 1) dX2_add_34 rfl rfl (q := 35) rfl ?_
      refine J_getR dX2_add_35 lRX2_11 ha0 rfl (by decide) er2 (q := 38) rfl (fun _ => ?_)
      refine J_iload (z := 0) dX2_add_38 rfl (q := 40) rfl ?_
      refine J_iconst (x := 1) dX2_add_40 (by decide) (q := 41) rfl ?_
      refine J_iadd dX2_add_41  (q := 42) rfl ?_
      refine J_iload_n (z := 3) dX2_add_42 rfl rfl (q := 43) rfl ?_
      obtain ⟨g5, h⟩ := iteS h
      refine J_iast dX2_add_43 fr2 (ixB_ok g5) (q := 44) rfl ?_
      refine J_aload_n (z := 1) dX2_add_44 rfl rfl (q := 45) rfl ?_
      refine J_getR dX2_add_45 lRX2_11 ha0 rfl (by decide) er2 (q := 48) rfl (fun _ => ?_)
      refine J_iload (z := 0) dX2_add_48 rfl (q := 50) rfl ?_
      refine J_iconst (x := 2) dX2_add_50 (by decide) (q := 51) rfl ?_
      refine J_iadd dX2_add_51  (q := 52) rfl ?_
      refine J_iload_n (z := 4) dX2_add_52 rfl rfl (q := 53) rfl ?_
      obtain ⟨g6, h⟩ := iteS h
      refine J_iast dX2_add_53 fr2 (ixB_ok g6) (q := 54) rfl ?_
      refine J_aload_n (z := 1) dX2_add_54 rfl rfl (q := 55) rfl ?_
      refine J_getR dX2_add_55 lRX2_11 ha0 rfl (by decide) er2 (q := 58) rfl (fun _ => ?_)
      refine J_iload (z := 0) dX2_add_58 rfl (q := 60) rfl ?_
      refine J_iconst (x := 3) dX2_add_60 (by decide) (q := 61) rfl ?_
      refine J_iadd dX2_add_61  (q := 62) rfl ?_
      refine J_iload (z := 5) dX2_add_62 rfl (q := 64) rfl ?_
      obtain ⟨g7, h⟩ := iteS h
      refine J_iast dX2_add_64 fr2 (ixB_ok g7) (q := 65) rfl ?_
      refine J_aload_n (z := 1) dX2_add_65 rfl rfl (q := 66) rfl ?_
      refine J_aload_n (z := 1) dX2_add_66 rfl rfl (q := 67) rfl ?_
      refine J_getI dX2_add_67 lRX2_19 ha0 rfl (q := 70) rfl ?_
      refine J_iconst (x := 1) dX2_add_70 (by decide) (q := 71) rfl ?_
      refine J_iadd dX2_add_71  (q := 72) rfl ?_
      refine J_bipush (x := 100) dX2_add_72 (by decide) (q := 74) rfl ?_
      refine J_irem dX2_add_74 (by decide) (q := 75) rfl ?_
      refine J_putI dX2_add_75 lRX2_19 (fun h => by cases h) ha0 rfl (q := 78) rfl ?_
      refine J_aload_n (z := 1) dX2_add_78 rfl rfl (q := 79) rfl ?_
      refine J_bipush (x := 100) dX2_add_79 (by decide) (q := 81) rfl ?_
      refine J_aload_n (z := 1) dX2_add_81 rfl rfl (q := 82) rfl ?_
      refine J_getI dX2_add_82 lRX2_15 ha0 rfl (q := 85) rfl ?_
      refine J_iconst (x := 1) dX2_add_85 (by decide) (q := 86) rfl ?_
      refine J_iadd dX2_add_86  (q := 87) rfl ?_
      refine J_mmin dX2_add_87 pRX2_28 q_static_mmin q_init_math q_code_mmin (Nat.le_of_ble_eq_true rfl) (Nat.le_of_ble_eq_true rfl) (q := 90) rfl ?_
      refine J_putI dX2_add_90 lRX2_15 (fun h => by cases h) ha0 rfl (q := 93) rfl ?_
      have h := Option.some.inj h
      subst h
      exact J_return dX2_add_93 rfl rfl
    · rw [if_neg c2] at h
      have h := Option.some.inj h
      subst h
      exact J_return dX2_add_25 rfl rfl

def fX2_dropLatest (a0 : Nat) (σ : Mm) : Option (Mm) :=
  if (gI σ a0 1) ≤ 0 then some σ else some (sI (sI σ a0 1 ((gI σ a0 1) - 1)) a0 2 (remI (((gI (sI σ a0 1 ((gI σ a0 1) - 1)) a0 2) + 100) - 1) 100))
set_option maxRecDepth 20000 in
set_option maxHeartbeats 2000000 in
theorem tX2_dropLatest {X : XS} {n : Nat} {σ : Mm} {a0 : Nat} (ha0 : RT n a0 102) {res : Mm} (h : fX2_dropLatest a0 σ = some res) : MT X yX2_dropLatest mX2_dropLatest 1 0 0 [.ref a0] n σ (n, none, res) := by
  unfold fX2_dropLatest at h
  refine MT_of (by decide +kernel) rfl (fun h => by cases h) (Nat.le_of_ble_eq_true rfl) ?_
  show J X mX2_dropLatest 1 0 0 (n, none, res) 0 [(0, .ref a0)] [] n σ
  refine J_aload_n (z := 0) dX2_dropLatest_0 rfl rfl (q := 1) rfl ?_
  refine J_getI dX2_dropLatest_1 lRX2_15 ha0 rfl (q := 4) rfl ?_
  refine J_if_le (tgt := 33) dX2_dropLatest_4 (by decide) (q := 7) rfl (fun c0 => ?_) (fun c0 => ?_)
  · rw [if_pos c0] at h
    have h := Option.some.inj h
    subst h
    exact J_return dX2_dropLatest_33 rfl rfl
  · rw [if_neg c0] at h
    refine J_aload_n (z := 0) dX2_dropLatest_7 rfl rfl (q := 8) rfl ?_
    refine J_dup dX2_dropLatest_8 rfl (q := 9) rfl ?_
    refine J_getI dX2_dropLatest_9 lRX2_15 ha0 rfl (q := 12) rfl ?_
    refine J_iconst (x := 1) dX2_dropLatest_12 (by decide) (q := 13) rfl ?_
    refine J_isub dX2_dropLatest_13  (q := 14) rfl ?_
    refine J_putI dX2_dropLatest_14 lRX2_15 (fun h => by cases h) ha0 rfl (q := 17) rfl ?_
    refine J_aload_n (z := 0) dX2_dropLatest_17 rfl rfl (q := 18) rfl ?_
    refine J_aload_n (z := 0) dX2_dropLatest_18 rfl rfl (q := 19) rfl ?_
    refine J_getI dX2_dropLatest_19 lRX2_19 ha0 rfl (q := 22) rfl ?_
    refine J_bipush (x := 100) dX2_dropLatest_22 (by decide) (q := 24) rfl ?_
    refine J_iadd dX2_dropLatest_24  (q := 25) rfl ?_
    refine J_iconst (x := 1) dX2_dropLatest_25 (by decide) (q := 26) rfl ?_
    refine J_isub dX2_dropLatest_26  (q := 27) rfl ?_
    refine J_bipush (x := 100) dX2_dropLatest_27 (by decide) (q := 29) rfl ?_
    refine J_irem dX2_dropLatest_29 (by decide) (q := 30) rfl ?_
    refine J_putI dX2_dropLatest_30 lRX2_19 (fun h => by cases h) ha0 rfl (q := 33) rfl ?_
    have h := Option.some.inj h
    subst h
    exact J_return dX2_dropLatest_33 rfl rfl

def fX2_told (a0 : Nat) (σ : Mm) : Option (Int32) :=
  some (minI (gI σ a0 1) 60)
set_option maxRecDepth 20000 in
set_option maxHeartbeats 2000000 in
theorem tX2_told {X : XS} {n : Nat} {σ : Mm} {a0 : Nat} (ha0 : RT n a0 102) {res : Int32} (h : fX2_told a0 σ = some res) : MT X yX2_told mX2_told 1 0 0 [.ref a0] n σ (n, some (.int res), σ) := by
  unfold fX2_told at h
  refine MT_of (by decide +kernel) rfl (fun h => by cases h) (Nat.le_of_ble_eq_true rfl) ?_
  show J X mX2_told 1 0 0 (n, some (.int res), σ) 0 [(0, .ref a0)] [] n σ
  refine J_aload_n (z := 0) dX2_told_0 rfl rfl (q := 1) rfl ?_
  refine J_getI dX2_told_1 lRX2_15 ha0 rfl (q := 4) rfl ?_
  refine J_bipush (x := 60) dX2_told_4 (by decide) (q := 6) rfl ?_
  refine J_mmin dX2_told_6 pRX2_28 q_static_mmin q_init_math q_code_mmin (Nat.le_of_ble_eq_true rfl) (Nat.le_of_ble_eq_true rfl) (q := 9) rfl ?_
  have h := Option.some.inj h
  subst h
  exact J_ireturn dX2_told_9 rfl rfl rfl

def fX2_entry (a0 : Nat) (a1 : Int32) (a2 : Int32) (σ : Mm) : Option (Int32) :=
  if a1 < 0 then some (-1000000) else (fX2_told a0 σ).bind fun vk2 => if vk2 ≤ a1 then some (-1000000) else if a2 < 0 then some (-1000000) else if a2 < 4 then if 0 ≤ (remI ((((gI σ a0 2) + 100) - 1) - a1) 100) then (gR σ a0 0).bind fun r7 => if ixB (((remI ((((gI σ a0 2) + 100) - 1) - a1) 100) * 4) + a2) (ln r7) = true then some (gI σ r7 (Int32.toNatClampNeg (((remI ((((gI σ a0 2) + 100) - 1) - a1) 100) * 4) + a2))) else none else some (-1000000) else some (-1000000)
set_option maxRecDepth 20000 in
set_option maxHeartbeats 2000000 in
theorem tX2_entry {X : XS} {n : Nat} {σ : Mm} {a0 : Nat} {a1 : Int32} {a2 : Int32} (ha0 : RT n a0 102) {res : Int32} (h : fX2_entry a0 a1 a2 σ = some res) : MT X yX2_entry mX2_entry 2 0 0 [.ref a0, .int a1, .int a2] n σ (n, some (.int res), σ) := by
  unfold fX2_entry at h
  refine MT_of (by decide +kernel) rfl (fun h => by cases h) (Nat.le_of_ble_eq_true rfl) ?_
  show J X mX2_entry 2 0 0 (n, some (.int res), σ) 0 [(0, .ref a0), (1, .int a1), (2, .int a2)] [] n σ
  refine J_iload_n (z := 1) dX2_entry_0 rfl rfl (q := 1) rfl ?_
  refine J_if_lt (tgt := 21) dX2_entry_1 (by decide) (q := 4) rfl (fun c0 => ?_) (fun c0 => ?_)
  · rw [if_pos c0] at h
    refine J_ldc (x := (-1000000)) dX2_entry_21 kRX2_38 (q := 23) rfl ?_
    have h := Option.some.inj h
    subst h
    exact J_ireturn dX2_entry_23 rfl rfl rfl
  · rw [if_neg c0] at h
    refine J_iload_n (z := 1) dX2_entry_4 rfl rfl (q := 5) rfl ?_
    refine J_aload_n (z := 0) dX2_entry_5 rfl rfl (q := 6) rfl ?_
    obtain ⟨vk2, hk2, h⟩ := bindS h
    refine J_cVi (as := []) dX2_entry_6 mRX2_34 ha0 (tX2_told ha0 hk2) rfl (Nat.le_of_ble_eq_true rfl) (Nat.le_of_ble_eq_true rfl) (Nat.le_of_ble_eq_true rfl) (q := 9) rfl ?_
    intro bk2
    refine J_icmp_ge (tgt := 21) dX2_entry_9 (by decide) (q := 12) rfl (fun c2 => ?_) (fun c2 => ?_)
    · rw [if_pos c2] at h
      refine J_ldc (x := (-1000000)) dX2_entry_21 kRX2_38 (q := 23) rfl ?_
      have h := Option.some.inj h
      subst h
      exact J_ireturn dX2_entry_23 rfl rfl rfl
    · rw [if_neg c2] at h
      refine J_iload_n (z := 2) dX2_entry_12 rfl rfl (q := 13) rfl ?_
      refine J_if_lt (tgt := 21) dX2_entry_13 (by decide) (q := 16) rfl (fun c3 => ?_) (fun c3 => ?_)
      · rw [if_pos c3] at h
        refine J_ldc (x := (-1000000)) dX2_entry_21 kRX2_38 (q := 23) rfl ?_
        have h := Option.some.inj h
        subst h
        exact J_ireturn dX2_entry_23 rfl rfl rfl
      · rw [if_neg c3] at h
        refine J_iload_n (z := 2) dX2_entry_16 rfl rfl (q := 17) rfl ?_
        refine J_iconst (x := 4) dX2_entry_17 (by decide) (q := 18) rfl ?_
        refine J_icmp_lt (tgt := 24) dX2_entry_18 (by decide) (q := 21) rfl (fun c4 => ?_) (fun c4 => ?_)
        · rw [if_pos c4] at h
          refine J_aload_n (z := 0) dX2_entry_24 rfl rfl (q := 25) rfl ?_
          refine J_getI dX2_entry_25 lRX2_19 ha0 rfl (q := 28) rfl ?_
          refine J_bipush (x := 100) dX2_entry_28 (by decide) (q := 30) rfl ?_
          refine J_iadd dX2_entry_30  (q := 31) rfl ?_
          refine J_iconst (x := 1) dX2_entry_31 (by decide) (q := 32) rfl ?_
          refine J_isub dX2_entry_32  (q := 33) rfl ?_
          refine J_iload_n (z := 1) dX2_entry_33 rfl rfl (q := 34) rfl ?_
          refine J_isub dX2_entry_34  (q := 35) rfl ?_
          refine J_bipush (x := 100) dX2_entry_35 (by decide) (q := 37) rfl ?_
          refine J_irem dX2_entry_37 (by decide) (q := 38) rfl ?_
          refine J_istore_n (lv' := [(3, .int (remI ((((gI σ a0 2) + 100) - 1) - a1) 100)), (0, .ref a0), (1, .int a1), (2, .int a2)]) dX2_entry_38 rfl (by decide) rfl (q := 39) rfl ?_
          refine J_iload_n (z := 0) dX2_entry_39 rfl rfl (q := 40) rfl ?_
          refine J_if_ge (tgt := 48) dX2_entry_40 (by decide) (q := 43) rfl (fun c5 => ?_) (fun c5 => ?_)
          · rw [if_pos c5] at h
            refine J_aload_n (z := 1) dX2_entry_48 rfl rfl (q := 49) rfl ?_
            obtain ⟨r7, er7, h⟩ := bindS h
            refine J_getR dX2_entry_49 lRX2_11 ha0 rfl (by decide) er7 (q := 52) rfl (fun fr7 => ?_)
            refine J_iload_n (z := 0) dX2_entry_52 rfl rfl (q := 53) rfl ?_
            refine J_iconst (x := 4) dX2_entry_53 (by decide) (q := 54) rfl ?_
            refine J_imul dX2_entry_54  (q := 55) rfl ?_
            refine J_iload_n (z := 3) dX2_entry_55 rfl rfl (q := 56) rfl ?_
            refine J_iadd dX2_entry_56  (q := 57) rfl ?_
            obtain ⟨g8, h⟩ := iteS h
            refine J_iald dX2_entry_57 fr7 (ixB_ok g8) (q := 58) rfl ?_
            have h := Option.some.inj h
            subst h
            exact J_ireturn dX2_entry_58 rfl rfl rfl
          · rw [if_neg c5] at h
            refine J_ldc (x := (-1000000)) dX2_entry_43 kRX2_38 (q := 45) rfl ?_
            refine J_goto (tgt := 58) dX2_entry_45 (by decide) ?_
            have h := Option.some.inj h
            subst h
            exact J_ireturn dX2_entry_58 rfl rfl rfl
        · rw [if_neg c4] at h
          refine J_ldc (x := (-1000000)) dX2_entry_21 kRX2_38 (q := 23) rfl ?_
          have h := Option.some.inj h
          subst h
          exact J_ireturn dX2_entry_23 rfl rfl rfl

def fX3_emit (a0 : Nat) (a1 : Int32) (a2 : Int32) (σ : Mm) : Option (Mm) :=
  (gR σ a0 1).bind fun r1 => if (nI (ln r1)) ≤ (gI σ a0 4) then some σ else if ixB (gI σ a0 4) (ln r1) = true then (gR σ a0 2).bind fun r4 => if ixB (gI (sI σ r1 (Int32.toNatClampNeg (gI σ a0 4)) a1) a0 4) (ln r4) = true then some (sI (sI (sI σ r1 (Int32.toNatClampNeg (gI σ a0 4)) a1) r4 (Int32.toNatClampNeg (gI (sI σ r1 (Int32.toNatClampNeg (gI σ a0 4)) a1) a0 4)) a2) a0 4 ((gI (sI (sI σ r1 (Int32.toNatClampNeg (gI σ a0 4)) a1) r4 (Int32.toNatClampNeg (gI (sI σ r1 (Int32.toNatClampNeg (gI σ a0 4)) a1) a0 4)) a2) a0 4) + 1)) else none else none
set_option maxRecDepth 20000 in
set_option maxHeartbeats 2000000 in
theorem tX3_emit {X : XS} {n : Nat} {σ : Mm} {a0 : Nat} {a1 : Int32} {a2 : Int32} (ha0 : RT n a0 103) {res : Mm} (h : fX3_emit a0 a1 a2 σ = some res) : MT X yX3_emit mX3_emit 1 0 0 [.ref a0, .int a1, .int a2] n σ (n, none, res) := by
  unfold fX3_emit at h
  refine MT_of (by decide +kernel) rfl (fun h => by cases h) (Nat.le_of_ble_eq_true rfl) ?_
  show J X mX3_emit 1 0 0 (n, none, res) 0 [(0, .ref a0), (1, .int a1), (2, .int a2)] [] n σ
  refine J_aload_n (z := 0) dX3_emit_0 rfl rfl (q := 1) rfl ?_
  refine J_getI dX3_emit_1 lRX3_25 ha0 rfl (q := 4) rfl ?_
  refine J_aload_n (z := 0) dX3_emit_4 rfl rfl (q := 5) rfl ?_
  obtain ⟨r1, er1, h⟩ := bindS h
  refine J_getR dX3_emit_5 lRX3_11 ha0 rfl (by decide) er1 (q := 8) rfl (fun fr1 => ?_)
  refine J_alen (t := 0) dX3_emit_8 fr1 (by decide) rfl (q := 9) rfl ?_
  refine J_icmp_ge (tgt := 42) dX3_emit_9 (by decide) (q := 12) rfl (fun c1 => ?_) (fun c1 => ?_)
  · rw [if_pos c1] at h
    have h := Option.some.inj h
    subst h
    exact J_return dX3_emit_42 rfl rfl
  · rw [if_neg c1] at h
    refine J_aload_n (z := 0) dX3_emit_12 rfl rfl (q := 13) rfl ?_
    refine J_getR dX3_emit_13 lRX3_11 ha0 rfl (by decide) er1 (q := 16) rfl (fun _ => ?_)
    refine J_aload_n (z := 0) dX3_emit_16 rfl rfl (q := 17) rfl ?_
    refine J_getI dX3_emit_17 lRX3_25 ha0 rfl (q := 20) rfl ?_
    refine J_iload_n (z := 1) dX3_emit_20 rfl rfl (q := 21) rfl ?_
    obtain ⟨g3, h⟩ := iteS h
    refine J_iast dX3_emit_21 fr1 (ixB_ok g3) (q := 22) rfl ?_
    refine J_aload_n (z := 0) dX3_emit_22 rfl rfl (q := 23) rfl ?_
    obtain ⟨r4, er4, h⟩ := bindS h
    refine J_getR dX3_emit_23 lRX3_15 ha0 rfl (by decide) er4 (q := 26) rfl (fun fr4 => ?_)
    refine J_aload_n (z := 0) dX3_emit_26 rfl rfl (q := 27) rfl ?_
    refine J_getI dX3_emit_27 lRX3_25 ha0 rfl (q := 30) rfl ?_
    refine J_iload_n (z := 2) dX3_emit_30 rfl rfl (q := 31) rfl ?_
    obtain ⟨g5, h⟩ := iteS h
    refine J_iast dX3_emit_31 fr4 (ixB_ok g5) (q := 32) rfl ?_
    refine J_aload_n (z := 0) dX3_emit_32 rfl rfl (q := 33) rfl ?_
    refine J_dup dX3_emit_33 rfl (q := 34) rfl ?_
    refine J_getI dX3_emit_34 lRX3_25 ha0 rfl (q := 37) rfl ?_
    refine J_iconst (x := 1) dX3_emit_37 (by decide) (q := 38) rfl ?_
    refine J_iadd dX3_emit_38  (q := 39) rfl ?_
    refine J_putI dX3_emit_39 lRX3_25 (fun h => by cases h) ha0 rfl (q := 42) rfl ?_
    have h := Option.some.inj h
    subst h
    exact J_return dX3_emit_42 rfl rfl

def fX3_isComparison (a0 : Int32) (σ : Mm) : Option (Int32) :=
  if a0 = 61 then some 1 else if a0 = 60 then some 1 else if a0 = 62 then some 1 else some 0
set_option maxRecDepth 20000 in
set_option maxHeartbeats 2000000 in
theorem tX3_isComparison {X : XS} {n : Nat} {σ : Mm} {a0 : Int32} {res : Int32} (h : fX3_isComparison a0 σ = some res) : MT X yX3_isComparison mX3_isComparison 1 0 0 [.int a0] n σ (n, some (.int res), σ) := by
  unfold fX3_isComparison at h
  refine MT_of (by decide +kernel) rfl (fun h => by cases h) (Nat.le_of_ble_eq_true rfl) ?_
  show J X mX3_isComparison 1 0 0 (n, some (.int res), σ) 0 [(0, .int a0)] [] n σ
  refine J_iload_n (z := 0) dX3_isComparison_0 rfl rfl (q := 1) rfl ?_
  refine J_bipush (x := 61) dX3_isComparison_1 (by decide) (q := 3) rfl ?_
  refine J_icmp_eq (tgt := 18) dX3_isComparison_3 (by decide) (q := 6) rfl (fun c0 => ?_) (fun c0 => ?_)
  · rw [if_pos c0] at h
    refine J_iconst (x := 1) dX3_isComparison_18 (by decide) (q := 19) rfl ?_
    refine J_goto (tgt := 23) dX3_isComparison_19 (by decide) ?_
    have h := Option.some.inj h
    subst h
    exact J_ireturn dX3_isComparison_23 rfl rfl rfl
  · rw [if_neg c0] at h
    refine J_iload_n (z := 0) dX3_isComparison_6 rfl rfl (q := 7) rfl ?_
    refine J_bipush (x := 60) dX3_isComparison_7 (by decide) (q := 9) rfl ?_
    refine J_icmp_eq (tgt := 18) dX3_isComparison_9 (by decide) (q := 12) rfl (fun c1 => ?_) (fun c1 => ?_)
    · rw [if_pos c1] at h
      refine J_iconst (x := 1) dX3_isComparison_18 (by decide) (q := 19) rfl ?_
      refine J_goto (tgt := 23) dX3_isComparison_19 (by decide) ?_
      have h := Option.some.inj h
      subst h
      exact J_ireturn dX3_isComparison_23 rfl rfl rfl
    · rw [if_neg c1] at h
      refine J_iload_n (z := 0) dX3_isComparison_12 rfl rfl (q := 13) rfl ?_
      refine J_bipush (x := 62) dX3_isComparison_13 (by decide) (q := 15) rfl ?_
      refine J_icmp_ne (tgt := 22) dX3_isComparison_15 (by decide) (q := 18) rfl (fun c2 => ?_) (fun c2 => ?_)
      · rw [if_neg c2] at h
        refine J_iconst (x := 0) dX3_isComparison_22 (by decide) (q := 23) rfl ?_
        have h := Option.some.inj h
        subst h
        exact J_ireturn dX3_isComparison_23 rfl rfl rfl
      · rw [if_pos c2] at h
        refine J_iconst (x := 1) dX3_isComparison_18 (by decide) (q := 19) rfl ?_
        refine J_goto (tgt := 23) dX3_isComparison_19 (by decide) ?_
        have h := Option.some.inj h
        subst h
        exact J_ireturn dX3_isComparison_23 rfl rfl rfl

def fX7_expect (a0 : Nat) (a1 : Int32) (σ : Mm) : Option (Int32 × Mm) :=
  bnd2 (fX7_next a0 σ) fun vk1 sk1 => if vk1 = a1 then some (1, (sI sk1 a0 2 ((gI sk1 a0 2) + 1))) else bnd2 (fX7_wrongHere a0 sk1) fun vk3 sk3 => some (vk3, sk3)
set_option maxRecDepth 20000 in
set_option maxHeartbeats 2000000 in
theorem tX7_expect {X : XS} {n : Nat} {σ : Mm} {a0 : Nat} {a1 : Int32} (ha0 : RT n a0 107) {res : Int32 × Mm} (h : fX7_expect a0 a1 σ = some res) : MT X yX7_expect mX7_expect 2 0 0 [.ref a0, .int a1] n σ (n, some (.int res.1), res.2) := by
  unfold fX7_expect at h
  refine MT_of (by decide +kernel) rfl (fun h => by cases h) (Nat.le_of_ble_eq_true rfl) ?_
  show J X mX7_expect 2 0 0 (n, some (.int res.1), res.2) 0 [(0, .ref a0), (1, .int a1)] [] n σ
  refine J_aload_n (z := 0) dX7_expect_0 rfl rfl (q := 1) rfl ?_
  obtain ⟨vk1, sk1, hk1, h⟩ := bnd2S h
  refine J_cVi (as := []) dX7_expect_1 mRX7_25 ha0 (tX7_next ha0 hk1) rfl (Nat.le_of_ble_eq_true rfl) (Nat.le_of_ble_eq_true rfl) (Nat.le_of_ble_eq_true rfl) (q := 4) rfl ?_
  intro bk1
  refine J_iload_n (z := 1) dX7_expect_4 rfl rfl (q := 5) rfl ?_
  refine J_icmp_eq (tgt := 13) dX7_expect_5 (by decide) (q := 8) rfl (fun c1 => ?_) (fun c1 => ?_)
  · rw [if_pos c1] at h
    refine J_aload_n (z := 0) dX7_expect_13 rfl rfl (q := 14) rfl ?_
    refine J_dup dX7_expect_14 rfl (q := 15) rfl ?_
    refine J_getI dX7_expect_15 lRX7_22 ha0 rfl (q := 18) rfl ?_
    refine J_iconst (x := 1) dX7_expect_18 (by decide) (q := 19) rfl ?_
    refine J_iadd dX7_expect_19  (q := 20) rfl ?_
    refine J_putI dX7_expect_20 lRX7_22 (fun h => by cases h) ha0 rfl (q := 23) rfl ?_
    refine J_iconst (x := 1) dX7_expect_23 (by decide) (q := 24) rfl ?_
    have h := Option.some.inj h
    subst h
    exact J_ireturn dX7_expect_24 rfl rfl rfl
  · rw [if_neg c1] at h
    refine J_aload_n (z := 0) dX7_expect_8 rfl rfl (q := 9) rfl ?_
    obtain ⟨vk3, sk3, hk3, h⟩ := bnd2S h
    refine J_cVi (as := []) dX7_expect_9 mRX7_29 ha0 (tX7_wrongHere ha0 hk3) rfl (Nat.le_of_ble_eq_true rfl) (Nat.le_of_ble_eq_true rfl) (Nat.le_of_ble_eq_true rfl) (q := 12) rfl ?_
    intro bk3
    have h := Option.some.inj h
    subst h
    exact J_ireturn dX7_expect_12 rfl bk3 rfl

def RECX3 (X : XS) (dr n : Nat) (rec : Nat → Nat → Int32 → Int32 → Mm → Option (Int32 × Mm)) : Prop :=
  (∀ {a0 : Nat} {a1 : Int32} {a2 : Int32} {σ : Mm} {res : Int32 × Mm}, RT n a0 103 → rec 0 a0 a1 a2 σ = some res → MT X yX3_condition mX3_condition dr 0 0 [.ref a0, .int a1, .int a2] n σ (n, some (.int res.1), res.2)) ∧
  (∀ {a0 : Nat} {a1 : Int32} {a2 : Int32} {σ : Mm} {res : Int32 × Mm}, RT n a0 103 → rec 1 a0 a1 a2 σ = some res → MT X yX3_truth mX3_truth dr 0 0 [.ref a0, .int a1, .int a2] n σ (n, some (.int res.1), res.2)) ∧
  (∀ {a0 : Nat} {a1 : Int32} {a2 : Int32} {σ : Mm} {res : Int32 × Mm}, RT n a0 103 → rec 2 a0 a1 a2 σ = some res → MT X yX3_unit mX3_unit dr 0 0 [.ref a0, .int a1, .int a2] n σ (n, some (.int res.1), res.2)) ∧
  (∀ {a0 : Nat} {a1 : Int32} {a2 : Int32} {σ : Mm} {res : Int32 × Mm}, RT n a0 103 → rec 3 a0 a1 a2 σ = some res → MT X yX3_nestedUnit mX3_nestedUnit dr 0 0 [.ref a0, .int a1, .int a2] n σ (n, some (.int res.1), res.2)) ∧
  (∀ {a0 : Nat} {a1 : Int32} {σ : Mm} {res : Int32 × Mm}, RT n a0 103 → rec 4 a0 a1 0 σ = some res → MT X yX3_sum mX3_sum dr 0 0 [.ref a0, .int a1] n σ (n, some (.int res.1), res.2)) ∧
  (∀ {a0 : Nat} {a1 : Int32} {σ : Mm} {res : Int32 × Mm}, RT n a0 103 → rec 5 a0 a1 0 σ = some res → MT X yX3_term mX3_term dr 0 0 [.ref a0, .int a1] n σ (n, some (.int res.1), res.2)) ∧
  (∀ {a0 : Nat} {a1 : Int32} {σ : Mm} {res : Int32 × Mm}, RT n a0 103 → rec 6 a0 a1 0 σ = some res → MT X yX3_atom mX3_atom dr 0 0 [.ref a0, .int a1] n σ (n, some (.int res.1), res.2))
def fX3_condition_l13 (rec : Nat → Nat → Int32 → Int32 → Mm → Option (Int32 × Mm)) (a0 : Nat) (a1 : Int32) (a3 : Int32) (σ : Mm) : Option ((Int32 × Mm) ⊕ (Int32 × Mm)) :=
  if 240 < a3 then some (Sum.inr (1, σ)) else (gR σ a0 0).bind fun r4 => bnd2 (fX7_goOver r4 124 σ) fun vk5 sk5 => if vk5 = 0 then some (Sum.inr (1, sk5)) else bnd2 (rec 1 a0 a1 0 sk5) fun vk7 sk7 => if vk7 = 0 then some (Sum.inr (0, sk7)) else (fX3_emit a0 124 0 sk7).bind fun sk9 => some (Sum.inl ((a3 + 1), sk9))
set_option maxRecDepth 20000 in
set_option maxHeartbeats 2000000 in
theorem tX3_condition_l13 {X : XS} {n : Nat} {σ : Mm} {F : Nat × Option Value × Mm} {dr : Nat} {rec : Nat → Nat → Int32 → Int32 → Mm → Option (Int32 × Mm)} (hD : 9 ≤ dr) (hrec : RECX3 X dr n rec) {a0 : Nat} {a1 : Int32} {a3 : Int32} (ha0 : RT n a0 103) {res : (Int32 × Mm) ⊕ (Int32 × Mm)} (h : fX3_condition_l13 rec a0 a1 a3 σ = some res) (hc : ∀ (b3 : Int32) (s : Mm), res = .inl (b3, s) → J X mX3_condition (dr + 1) 0 0 F 13 [(0, .ref a0), (1, .int a1), (3, .int b3)] [] n s) (hr : ∀ (v : Int32) (s : Mm), res = .inr (v, s) → F = (n, some (.int v), s)) : J X mX3_condition (dr + 1) 0 0 F 13 [(0, .ref a0), (1, .int a1), (3, .int a3)] [] n σ := by
  unfold fX3_condition_l13 at h
  refine J_iload_n (z := 2) dX3_condition_13 rfl rfl (q := 14) rfl ?_
  refine J_sipush (x := 240) dX3_condition_14 (by decide) (q := 17) rfl ?_
  refine J_icmp_gt (tgt := 56) dX3_condition_17 (by decide) (q := 20) rfl (fun c2 => ?_) (fun c2 => ?_)
  · rw [if_pos c2] at h
    refine J_iconst (x := 1) dX3_condition_56 (by decide) (q := 57) rfl ?_
    have h := Option.some.inj h
    exact J_ireturn dX3_condition_57 rfl rfl (hr _ _ h.symm)
  · rw [if_neg c2] at h
    refine J_aload_n (z := 0) dX3_condition_20 rfl rfl (q := 21) rfl ?_
    obtain ⟨r4, er4, h⟩ := bindS h
    refine J_getR dX3_condition_21 lRX3_21 ha0 rfl (by decide) er4 (q := 24) rfl (fun fr4 => ?_)
    refine J_bipush (x := 124) dX3_condition_24 (by decide) (q := 26) rfl ?_
    obtain ⟨vk5, sk5, hk5, h⟩ := bnd2S h
    refine J_cVi (as := [.int 124]) dX3_condition_26 mRX3_38 fr4 (tX7_goOver fr4 hk5) rfl (by omega) (Nat.le_of_ble_eq_true rfl) (Nat.le_of_ble_eq_true rfl) (q := 29) rfl ?_
    intro bk5
    refine J_if_eq (tgt := 56) dX3_condition_29 (by decide) (q := 32) rfl (fun c5 => ?_) (fun c5 => ?_)
    · rw [if_pos c5] at h
      refine J_iconst (x := 1) dX3_condition_56 (by decide) (q := 57) rfl ?_
      have h := Option.some.inj h
      exact J_ireturn dX3_condition_57 rfl rfl (hr _ _ h.symm)
    · rw [if_neg c5] at h
      refine J_aload_n (z := 0) dX3_condition_32 rfl rfl (q := 33) rfl ?_
      refine J_iload_n (z := 1) dX3_condition_33 rfl rfl (q := 34) rfl ?_
      refine J_iconst (x := 0) dX3_condition_34 (by decide) (q := 35) rfl ?_
      obtain ⟨vk7, sk7, hk7, h⟩ := bnd2S h
      refine J_cVi (as := [.int a1, .int 0]) dX3_condition_35 mRX3_66 ha0 (hrec.2.1 ha0 hk7) rfl (Nat.le_refl _) (Nat.le_of_ble_eq_true rfl) (Nat.le_of_ble_eq_true rfl) (q := 38) rfl ?_
      intro bk7
      refine J_if_ne (tgt := 43) dX3_condition_38 (by decide) (q := 41) rfl (fun c7 => ?_) (fun c7 => ?_)
      · rw [if_neg c7] at h
        refine J_aload_n (z := 0) dX3_condition_43 rfl rfl (q := 44) rfl ?_
        refine J_bipush (x := 124) dX3_condition_44 (by decide) (q := 46) rfl ?_
        refine J_iconst (x := 0) dX3_condition_46 (by decide) (q := 47) rfl ?_
        obtain ⟨sk9, hk9, h⟩ := bindS h
        refine J_cVv (as := [.int 124, .int 0]) dX3_condition_47 mRX3_62 ha0 (tX3_emit ha0 hk9) rfl (by omega) (Nat.le_of_ble_eq_true rfl) (Nat.le_of_ble_eq_true rfl) (q := 50) rfl ?_
        refine J_iinc (z := 2) (y := (a3 + 1)) (lv' := [(3, .int (a3 + 1)), (0, .ref a0), (1, .int a1)]) dX3_condition_50 rfl rfl (by decide) rfl (q := 53) rfl ?_
        refine J_goto (tgt := 13) dX3_condition_53 (by decide) ?_
        have h := Option.some.inj h
        refine J_pick [1, 2, 0] rfl ?_
        exact hc _ _ h.symm
      · rw [if_pos c7] at h
        refine J_iconst (x := 0) dX3_condition_41 (by decide) (q := 42) rfl ?_
        have h := Option.some.inj h
        exact J_ireturn dX3_condition_42 rfl rfl (hr _ _ h.symm)

def fX3_condition_w13 (rec : Nat → Nat → Int32 → Int32 → Mm → Option (Int32 × Mm)) (a0 : Nat) (a1 : Int32) (a3 : Int32) (σ : Mm) : Option (Int32 × Mm) :=
  wh (fun a : Int32 × Mm => fX3_condition_l13 rec a0 a1 a.1 a.2) BIG (a3, σ)
set_option maxRecDepth 20000 in
set_option maxHeartbeats 2000000 in
theorem tX3_condition_w13 {X : XS} {n : Nat} {σ : Mm} {F : Nat × Option Value × Mm} {dr : Nat} {rec : Nat → Nat → Int32 → Int32 → Mm → Option (Int32 × Mm)} (hD : 9 ≤ dr) (hrec : RECX3 X dr n rec) {a0 : Nat} {a1 : Int32} {a3 : Int32} (ha0 : RT n a0 103) {res : Int32 × Mm} (h : fX3_condition_w13 rec a0 a1 a3 σ = some res) (hr : ∀ (v : Int32) (s : Mm), res = (v, s) → F = (n, some (.int v), s)) : J X mX3_condition (dr + 1) 0 0 F 13 [(0, .ref a0), (1, .int a1), (3, .int a3)] [] n σ := by
  unfold fX3_condition_w13 at h
  refine wh_rule (P := fun a : Int32 × Mm => J X mX3_condition (dr + 1) 0 0 F 13 [(0, .ref a0), (1, .int a1), (3, .int a.1)] [] n a.2) (K := fun b => b = res) ?_ _ _ _ h rfl
  intro a
  refine ⟨fun a2 hb hP => ?_, fun b hb hK => ?_⟩
  · exact tX3_condition_l13 hD hrec ha0 hb (fun _ _ e => by cases e; exact hP) (fun _ _ e => by cases e)
  · subst hK
    exact tX3_condition_l13 hD hrec ha0 hb (fun _ _ e => by cases e) (fun v0 v1 e => hr v0 v1 (Sum.inr.inj e))

def fX3_condition (rec : Nat → Nat → Int32 → Int32 → Mm → Option (Int32 × Mm)) (a0 : Nat) (a1 : Int32) (a2 : Int32) (σ : Mm) : Option (Int32 × Mm) :=
  bnd2 (rec 1 a0 a1 a2 σ) fun vk1 sk1 => if vk1 = 0 then some (0, sk1) else (fX3_condition_w13 rec a0 a1 0 sk1).bind (fun o10 => some o10)
set_option maxRecDepth 20000 in
set_option maxHeartbeats 2000000 in
theorem tX3_condition {X : XS} {n : Nat} {σ : Mm} {dr : Nat} {rec : Nat → Nat → Int32 → Int32 → Mm → Option (Int32 × Mm)} (hD : 9 ≤ dr) (hrec : RECX3 X dr n rec) {a0 : Nat} {a1 : Int32} {a2 : Int32} (ha0 : RT n a0 103) {res : Int32 × Mm} (h : fX3_condition rec a0 a1 a2 σ = some res) : MT X yX3_condition mX3_condition (dr + 1) 0 0 [.ref a0, .int a1, .int a2] n σ (n, some (.int res.1), res.2) := by
  unfold fX3_condition at h
  refine MT_of (by decide +kernel) rfl (fun h => by cases h) (Nat.le_of_ble_eq_true rfl) ?_
  show J X mX3_condition (dr + 1) 0 0 (n, some (.int res.1), res.2) 0 [(0, .ref a0), (1, .int a1), (2, .int a2)] [] n σ
  refine J_aload_n (z := 0) dX3_condition_0 rfl rfl (q := 1) rfl ?_
  refine J_iload_n (z := 1) dX3_condition_1 rfl rfl (q := 2) rfl ?_
  refine J_iload_n (z := 2) dX3_condition_2 rfl rfl (q := 3) rfl ?_
  obtain ⟨vk1, sk1, hk1, h⟩ := bnd2S h
  refine J_cVi (as := [.int a1, .int a2]) dX3_condition_3 mRX3_66 ha0 (hrec.2.1 ha0 hk1) rfl (Nat.le_refl _) (Nat.le_of_ble_eq_true rfl) (Nat.le_of_ble_eq_true rfl) (q := 6) rfl ?_
  intro bk1
  refine J_if_ne (tgt := 11) dX3_condition_6 (by decide) (q := 9) rfl (fun c1 => ?_) (fun c1 => ?_)
  · rw [if_neg c1] at h
    refine J_iconst (x := 0) dX3_condition_11 (by decide) (q := 12) rfl ?_
    refine J_istore_n (lv' := [(3, .int 0), (0, .ref a0), (1, .int a1), (2, .int a2)]) dX3_condition_12 rfl (by decide) rfl (q := 13) rfl ?_
    obtain ⟨o10, hlo10, h⟩ := bindS h
    refine J_pick [1, 2, 0] rfl ?_
    refine tX3_condition_w13 hD hrec ha0 hlo10 ?_
    · intro vo10 so10 qo10
      rw [qo10] at h
      try dsimp only [Sum.elim_inl, Sum.elim_inr] at h
      have h := Option.some.inj h
      subst h
      rfl
  · rw [if_pos c1] at h
    refine J_iconst (x := 0) dX3_condition_9 (by decide) (q := 10) rfl ?_
    have h := Option.some.inj h
    subst h
    exact J_ireturn dX3_condition_10 rfl rfl rfl

def fX3_truth_l13 (rec : Nat → Nat → Int32 → Int32 → Mm → Option (Int32 × Mm)) (a0 : Nat) (a1 : Int32) (a3 : Int32) (σ : Mm) : Option ((Int32 × Mm) ⊕ (Int32 × Mm)) :=
  if 240 < a3 then some (Sum.inr (1, σ)) else (gR σ a0 0).bind fun r4 => bnd2 (fX7_goOver r4 38 σ) fun vk5 sk5 => if vk5 = 0 then some (Sum.inr (1, sk5)) else bnd2 (rec 2 a0 a1 0 sk5) fun vk7 sk7 => if vk7 = 0 then some (Sum.inr (0, sk7)) else (fX3_emit a0 38 0 sk7).bind fun sk9 => some (Sum.inl ((a3 + 1), sk9))
set_option maxRecDepth 20000 in
set_option maxHeartbeats 2000000 in
theorem tX3_truth_l13 {X : XS} {n : Nat} {σ : Mm} {F : Nat × Option Value × Mm} {dr : Nat} {rec : Nat → Nat → Int32 → Int32 → Mm → Option (Int32 × Mm)} (hD : 9 ≤ dr) (hrec : RECX3 X dr n rec) {a0 : Nat} {a1 : Int32} {a3 : Int32} (ha0 : RT n a0 103) {res : (Int32 × Mm) ⊕ (Int32 × Mm)} (h : fX3_truth_l13 rec a0 a1 a3 σ = some res) (hc : ∀ (b3 : Int32) (s : Mm), res = .inl (b3, s) → J X mX3_truth (dr + 1) 0 0 F 13 [(0, .ref a0), (1, .int a1), (3, .int b3)] [] n s) (hr : ∀ (v : Int32) (s : Mm), res = .inr (v, s) → F = (n, some (.int v), s)) : J X mX3_truth (dr + 1) 0 0 F 13 [(0, .ref a0), (1, .int a1), (3, .int a3)] [] n σ := by
  unfold fX3_truth_l13 at h
  refine J_iload_n (z := 2) dX3_truth_13 rfl rfl (q := 14) rfl ?_
  refine J_sipush (x := 240) dX3_truth_14 (by decide) (q := 17) rfl ?_
  refine J_icmp_gt (tgt := 56) dX3_truth_17 (by decide) (q := 20) rfl (fun c2 => ?_) (fun c2 => ?_)
  · rw [if_pos c2] at h
    refine J_iconst (x := 1) dX3_truth_56 (by decide) (q := 57) rfl ?_
    have h := Option.some.inj h
    exact J_ireturn dX3_truth_57 rfl rfl (hr _ _ h.symm)
  · rw [if_neg c2] at h
    refine J_aload_n (z := 0) dX3_truth_20 rfl rfl (q := 21) rfl ?_
    obtain ⟨r4, er4, h⟩ := bindS h
    refine J_getR dX3_truth_21 lRX3_21 ha0 rfl (by decide) er4 (q := 24) rfl (fun fr4 => ?_)
    refine J_bipush (x := 38) dX3_truth_24 (by decide) (q := 26) rfl ?_
    obtain ⟨vk5, sk5, hk5, h⟩ := bnd2S h
    refine J_cVi (as := [.int 38]) dX3_truth_26 mRX3_38 fr4 (tX7_goOver fr4 hk5) rfl (by omega) (Nat.le_of_ble_eq_true rfl) (Nat.le_of_ble_eq_true rfl) (q := 29) rfl ?_
    intro bk5
    refine J_if_eq (tgt := 56) dX3_truth_29 (by decide) (q := 32) rfl (fun c5 => ?_) (fun c5 => ?_)
    · rw [if_pos c5] at h
      refine J_iconst (x := 1) dX3_truth_56 (by decide) (q := 57) rfl ?_
      have h := Option.some.inj h
      exact J_ireturn dX3_truth_57 rfl rfl (hr _ _ h.symm)
    · rw [if_neg c5] at h
      refine J_aload_n (z := 0) dX3_truth_32 rfl rfl (q := 33) rfl ?_
      refine J_iload_n (z := 1) dX3_truth_33 rfl rfl (q := 34) rfl ?_
      refine J_iconst (x := 0) dX3_truth_34 (by decide) (q := 35) rfl ?_
      obtain ⟨vk7, sk7, hk7, h⟩ := bnd2S h
      refine J_cVi (as := [.int a1, .int 0]) dX3_truth_35 mRX3_69 ha0 (hrec.2.2.1 ha0 hk7) rfl (Nat.le_refl _) (Nat.le_of_ble_eq_true rfl) (Nat.le_of_ble_eq_true rfl) (q := 38) rfl ?_
      intro bk7
      refine J_if_ne (tgt := 43) dX3_truth_38 (by decide) (q := 41) rfl (fun c7 => ?_) (fun c7 => ?_)
      · rw [if_neg c7] at h
        refine J_aload_n (z := 0) dX3_truth_43 rfl rfl (q := 44) rfl ?_
        refine J_bipush (x := 38) dX3_truth_44 (by decide) (q := 46) rfl ?_
        refine J_iconst (x := 0) dX3_truth_46 (by decide) (q := 47) rfl ?_
        obtain ⟨sk9, hk9, h⟩ := bindS h
        refine J_cVv (as := [.int 38, .int 0]) dX3_truth_47 mRX3_62 ha0 (tX3_emit ha0 hk9) rfl (by omega) (Nat.le_of_ble_eq_true rfl) (Nat.le_of_ble_eq_true rfl) (q := 50) rfl ?_
        refine J_iinc (z := 2) (y := (a3 + 1)) (lv' := [(3, .int (a3 + 1)), (0, .ref a0), (1, .int a1)]) dX3_truth_50 rfl rfl (by decide) rfl (q := 53) rfl ?_
        refine J_goto (tgt := 13) dX3_truth_53 (by decide) ?_
        have h := Option.some.inj h
        refine J_pick [1, 2, 0] rfl ?_
        exact hc _ _ h.symm
      · rw [if_pos c7] at h
        refine J_iconst (x := 0) dX3_truth_41 (by decide) (q := 42) rfl ?_
        have h := Option.some.inj h
        exact J_ireturn dX3_truth_42 rfl rfl (hr _ _ h.symm)

def fX3_truth_w13 (rec : Nat → Nat → Int32 → Int32 → Mm → Option (Int32 × Mm)) (a0 : Nat) (a1 : Int32) (a3 : Int32) (σ : Mm) : Option (Int32 × Mm) :=
  wh (fun a : Int32 × Mm => fX3_truth_l13 rec a0 a1 a.1 a.2) BIG (a3, σ)
set_option maxRecDepth 20000 in
set_option maxHeartbeats 2000000 in
theorem tX3_truth_w13 {X : XS} {n : Nat} {σ : Mm} {F : Nat × Option Value × Mm} {dr : Nat} {rec : Nat → Nat → Int32 → Int32 → Mm → Option (Int32 × Mm)} (hD : 9 ≤ dr) (hrec : RECX3 X dr n rec) {a0 : Nat} {a1 : Int32} {a3 : Int32} (ha0 : RT n a0 103) {res : Int32 × Mm} (h : fX3_truth_w13 rec a0 a1 a3 σ = some res) (hr : ∀ (v : Int32) (s : Mm), res = (v, s) → F = (n, some (.int v), s)) : J X mX3_truth (dr + 1) 0 0 F 13 [(0, .ref a0), (1, .int a1), (3, .int a3)] [] n σ := by
  unfold fX3_truth_w13 at h
  refine wh_rule (P := fun a : Int32 × Mm => J X mX3_truth (dr + 1) 0 0 F 13 [(0, .ref a0), (1, .int a1), (3, .int a.1)] [] n a.2) (K := fun b => b = res) ?_ _ _ _ h rfl
  intro a
  refine ⟨fun a2 hb hP => ?_, fun b hb hK => ?_⟩
  · exact tX3_truth_l13 hD hrec ha0 hb (fun _ _ e => by cases e; exact hP) (fun _ _ e => by cases e)
  · subst hK
    exact tX3_truth_l13 hD hrec ha0 hb (fun _ _ e => by cases e) (fun v0 v1 e => hr v0 v1 (Sum.inr.inj e))

def fX3_truth (rec : Nat → Nat → Int32 → Int32 → Mm → Option (Int32 × Mm)) (a0 : Nat) (a1 : Int32) (a2 : Int32) (σ : Mm) : Option (Int32 × Mm) :=
  bnd2 (rec 2 a0 a1 a2 σ) fun vk1 sk1 => if vk1 = 0 then some (0, sk1) else (fX3_truth_w13 rec a0 a1 0 sk1).bind (fun o10 => some o10)
set_option maxRecDepth 20000 in
set_option maxHeartbeats 2000000 in
theorem tX3_truth {X : XS} {n : Nat} {σ : Mm} {dr : Nat} {rec : Nat → Nat → Int32 → Int32 → Mm → Option (Int32 × Mm)} (hD : 9 ≤ dr) (hrec : RECX3 X dr n rec) {a0 : Nat} {a1 : Int32} {a2 : Int32} (ha0 : RT n a0 103) {res : Int32 × Mm} (h : fX3_truth rec a0 a1 a2 σ = some res) : MT X yX3_truth mX3_truth (dr + 1) 0 0 [.ref a0, .int a1, .int a2] n σ (n, some (.int res.1), res.2) := by
  unfold fX3_truth at h
  refine MT_of (by decide +kernel) rfl (fun h => by cases h) (Nat.le_of_ble_eq_true rfl) ?_
  show J X mX3_truth (dr + 1) 0 0 (n, some (.int res.1), res.2) 0 [(0, .ref a0), (1, .int a1), (2, .int a2)] [] n σ
  refine J_aload_n (z := 0) dX3_truth_0 rfl rfl (q := 1) rfl ?_
  refine J_iload_n (z := 1) dX3_truth_1 rfl rfl (q := 2) rfl ?_
  refine J_iload_n (z := 2) dX3_truth_2 rfl rfl (q := 3) rfl ?_
  obtain ⟨vk1, sk1, hk1, h⟩ := bnd2S h
  refine J_cVi (as := [.int a1, .int a2]) dX3_truth_3 mRX3_69 ha0 (hrec.2.2.1 ha0 hk1) rfl (Nat.le_refl _) (Nat.le_of_ble_eq_true rfl) (Nat.le_of_ble_eq_true rfl) (q := 6) rfl ?_
  intro bk1
  refine J_if_ne (tgt := 11) dX3_truth_6 (by decide) (q := 9) rfl (fun c1 => ?_) (fun c1 => ?_)
  · rw [if_neg c1] at h
    refine J_iconst (x := 0) dX3_truth_11 (by decide) (q := 12) rfl ?_
    refine J_istore_n (lv' := [(3, .int 0), (0, .ref a0), (1, .int a1), (2, .int a2)]) dX3_truth_12 rfl (by decide) rfl (q := 13) rfl ?_
    obtain ⟨o10, hlo10, h⟩ := bindS h
    refine J_pick [1, 2, 0] rfl ?_
    refine tX3_truth_w13 hD hrec ha0 hlo10 ?_
    · intro vo10 so10 qo10
      rw [qo10] at h
      try dsimp only [Sum.elim_inl, Sum.elim_inr] at h
      have h := Option.some.inj h
      subst h
      rfl
  · rw [if_pos c1] at h
    refine J_iconst (x := 0) dX3_truth_9 (by decide) (q := 10) rfl ?_
    have h := Option.some.inj h
    subst h
    exact J_ireturn dX3_truth_10 rfl rfl rfl

def fX3_unit_b61 (rec : Nat → Nat → Int32 → Int32 → Mm → Option (Int32 × Mm)) (a0 : Nat) (a1 : Int32) (σ : Mm) : Option (Int32 × Mm) :=
  (gR σ a0 0).bind fun r5 => bnd2 (fX7_next r5 σ) fun vk6 sk6 => (fX3_isComparison vk6 sk6).bind fun vk7 => if vk7 = 0 then (gR sk6 a0 0).bind fun r13 => bnd2 (fX7_wrongHere r13 sk6) fun vk14 sk14 => some (vk14, sk14) else (gR sk6 a0 0).bind fun r9 => bnd2 (rec 4 a0 a1 0 (sI sk6 r9 2 ((gI sk6 r9 2) + 1))) fun vk10 sk10 => if vk10 = 0 then some (0, sk10) else (fX3_emit a0 vk6 0 sk10).bind fun sk12 => some (1, sk12)
set_option maxRecDepth 20000 in
set_option maxHeartbeats 2000000 in
theorem tX3_unit_b61 {X : XS} {n : Nat} {σ : Mm} {dr : Nat} {rec : Nat → Nat → Int32 → Int32 → Mm → Option (Int32 × Mm)} (hD : 9 ≤ dr) (hrec : RECX3 X dr n rec) {a0 : Nat} {a1 : Int32} (ha0 : RT n a0 103) {res : Int32 × Mm} (h : fX3_unit_b61 rec a0 a1 σ = some res) : J X mX3_unit (dr + 1) 0 0 (n, some (.int res.1), res.2) 61 [(0, .ref a0), (1, .int a1)] [] n σ := by
  unfold fX3_unit_b61 at h
  refine J_aload_n (z := 0) dX3_unit_61 rfl rfl (q := 62) rfl ?_
  obtain ⟨r5, er5, h⟩ := bindS h
  refine J_getR dX3_unit_62 lRX3_21 ha0 rfl (by decide) er5 (q := 65) rfl (fun fr5 => ?_)
  obtain ⟨vk6, sk6, hk6, h⟩ := bnd2S h
  refine J_cVi (as := []) dX3_unit_65 mRX3_42 fr5 (tX7_next fr5 hk6) rfl (by omega) (Nat.le_of_ble_eq_true rfl) (Nat.le_of_ble_eq_true rfl) (q := 68) rfl ?_
  intro bk6
  refine J_istore (lv' := [(4, .int vk6), (0, .ref a0), (1, .int a1)]) dX3_unit_68 (by decide) rfl (q := 70) rfl ?_
  refine J_iload (z := 0) dX3_unit_70 rfl (q := 72) rfl ?_
  obtain ⟨vk7, hk7, h⟩ := bindS h
  refine J_cSi (as := [.int vk6]) dX3_unit_72 mRX3_55 (tX3_isComparison  hk7) rfl (by omega) (Nat.le_of_ble_eq_true rfl) (Nat.le_of_ble_eq_true rfl) (q := 75) rfl ?_
  intro bk7
  refine J_if_ne (tgt := 86) dX3_unit_75 (by decide) (q := 78) rfl (fun c7 => ?_) (fun c7 => ?_)
  · rw [if_neg c7] at h
    refine J_aload_n (z := 1) dX3_unit_86 rfl rfl (q := 87) rfl ?_
    obtain ⟨r9, er9, h⟩ := bindS h
    refine J_getR dX3_unit_87 lRX3_21 ha0 rfl (by decide) er9 (q := 90) rfl (fun fr9 => ?_)
    refine J_dup dX3_unit_90 rfl (q := 91) rfl ?_
    refine J_getI dX3_unit_91 lRX3_76 fr9 rfl (q := 94) rfl ?_
    refine J_iconst (x := 1) dX3_unit_94 (by decide) (q := 95) rfl ?_
    refine J_iadd dX3_unit_95  (q := 96) rfl ?_
    refine J_putI dX3_unit_96 lRX3_76 (fun h => by cases h) fr9 rfl (q := 99) rfl ?_
    refine J_aload_n (z := 1) dX3_unit_99 rfl rfl (q := 100) rfl ?_
    refine J_iload_n (z := 2) dX3_unit_100 rfl rfl (q := 101) rfl ?_
    obtain ⟨vk10, sk10, hk10, h⟩ := bnd2S h
    refine J_cVi (as := [.int a1]) dX3_unit_101 mRX3_52 ha0 (hrec.2.2.2.2.1 ha0 hk10) rfl (Nat.le_refl _) (Nat.le_of_ble_eq_true rfl) (Nat.le_of_ble_eq_true rfl) (q := 104) rfl ?_
    intro bk10
    refine J_if_ne (tgt := 109) dX3_unit_104 (by decide) (q := 107) rfl (fun c10 => ?_) (fun c10 => ?_)
    · rw [if_neg c10] at h
      refine J_aload_n (z := 1) dX3_unit_109 rfl rfl (q := 110) rfl ?_
      refine J_iload (z := 0) dX3_unit_110 rfl (q := 112) rfl ?_
      refine J_iconst (x := 0) dX3_unit_112 (by decide) (q := 113) rfl ?_
      obtain ⟨sk12, hk12, h⟩ := bindS h
      refine J_cVv (as := [.int vk6, .int 0]) dX3_unit_113 mRX3_62 ha0 (tX3_emit ha0 hk12) rfl (by omega) (Nat.le_of_ble_eq_true rfl) (Nat.le_of_ble_eq_true rfl) (q := 116) rfl ?_
      refine J_iconst (x := 1) dX3_unit_116 (by decide) (q := 117) rfl ?_
      have h := Option.some.inj h
      subst h
      exact J_ireturn dX3_unit_117 rfl rfl rfl
    · rw [if_pos c10] at h
      refine J_iconst (x := 0) dX3_unit_107 (by decide) (q := 108) rfl ?_
      have h := Option.some.inj h
      subst h
      exact J_ireturn dX3_unit_108 rfl rfl rfl
  · rw [if_pos c7] at h
    refine J_aload_n (z := 1) dX3_unit_78 rfl rfl (q := 79) rfl ?_
    obtain ⟨r13, er13, h⟩ := bindS h
    refine J_getR dX3_unit_79 lRX3_21 ha0 rfl (by decide) er13 (q := 82) rfl (fun fr13 => ?_)
    obtain ⟨vk14, sk14, hk14, h⟩ := bnd2S h
    refine J_cVi (as := []) dX3_unit_82 mRX3_46 fr13 (tX7_wrongHere fr13 hk14) rfl (by omega) (Nat.le_of_ble_eq_true rfl) (Nat.le_of_ble_eq_true rfl) (q := 85) rfl ?_
    intro bk14
    have h := Option.some.inj h
    subst h
    exact J_ireturn dX3_unit_85 rfl bk14 rfl

def fX3_unit_b47 (rec : Nat → Nat → Int32 → Int32 → Mm → Option (Int32 × Mm)) (a0 : Nat) (a1 : Int32) (a2 : Int32) (σ : Mm) : Option (Int32 × Mm) :=
  if a2 = 0 then bnd2 (rec 4 a0 a1 0 σ) fun vk15 sk15 => if vk15 = 0 then some (0, sk15) else fX3_unit_b61 rec a0 a1 sk15 else fX3_unit_b61 rec a0 a1 σ
set_option maxRecDepth 20000 in
set_option maxHeartbeats 2000000 in
theorem tX3_unit_b47 {X : XS} {n : Nat} {σ : Mm} {dr : Nat} {rec : Nat → Nat → Int32 → Int32 → Mm → Option (Int32 × Mm)} (hD : 9 ≤ dr) (hrec : RECX3 X dr n rec) {a0 : Nat} {a1 : Int32} {a2 : Int32} (ha0 : RT n a0 103) {res : Int32 × Mm} (h : fX3_unit_b47 rec a0 a1 a2 σ = some res) : J X mX3_unit (dr + 1) 0 0 (n, some (.int res.1), res.2) 47 [(0, .ref a0), (1, .int a1), (2, .int a2)] [] n σ := by
  unfold fX3_unit_b47 at h
  refine J_iload_n (z := 2) dX3_unit_47 rfl rfl (q := 48) rfl ?_
  refine J_if_ne (tgt := 61) dX3_unit_48 (by decide) (q := 51) rfl (fun c3 => ?_) (fun c3 => ?_)
  · rw [if_neg c3] at h
    refine J_pick [0, 1] rfl ?_
    exact tX3_unit_b61 hD hrec ha0 h
  · rw [if_pos c3] at h
    refine J_aload_n (z := 0) dX3_unit_51 rfl rfl (q := 52) rfl ?_
    refine J_iload_n (z := 1) dX3_unit_52 rfl rfl (q := 53) rfl ?_
    obtain ⟨vk15, sk15, hk15, h⟩ := bnd2S h
    refine J_cVi (as := [.int a1]) dX3_unit_53 mRX3_52 ha0 (hrec.2.2.2.2.1 ha0 hk15) rfl (Nat.le_refl _) (Nat.le_of_ble_eq_true rfl) (Nat.le_of_ble_eq_true rfl) (q := 56) rfl ?_
    intro bk15
    refine J_if_ne (tgt := 61) dX3_unit_56 (by decide) (q := 59) rfl (fun c15 => ?_) (fun c15 => ?_)
    · rw [if_neg c15] at h
      refine J_pick [0, 1] rfl ?_
      exact tX3_unit_b61 hD hrec ha0 h
    · rw [if_pos c15] at h
      refine J_iconst (x := 0) dX3_unit_59 (by decide) (q := 60) rfl ?_
      have h := Option.some.inj h
      subst h
      exact J_ireturn dX3_unit_60 rfl rfl rfl

def fX3_unit_b24 (rec : Nat → Nat → Int32 → Int32 → Mm → Option (Int32 × Mm)) (a0 : Nat) (a1 : Int32) (a3 : Int32) (σ : Mm) : Option (Int32 × Mm) :=
  if 6 ≤ a1 then (gR σ a0 0).bind fun r19 => bnd2 (fX7_wrongHere r19 σ) fun vk20 sk20 => some (vk20, sk20) else bnd2 (rec 3 a0 a1 a3 σ) fun vk21 sk21 => some (vk21, sk21)
set_option maxRecDepth 20000 in
set_option maxHeartbeats 2000000 in
theorem tX3_unit_b24 {X : XS} {n : Nat} {σ : Mm} {dr : Nat} {rec : Nat → Nat → Int32 → Int32 → Mm → Option (Int32 × Mm)} (hD : 9 ≤ dr) (hrec : RECX3 X dr n rec) {a0 : Nat} {a1 : Int32} {a3 : Int32} (ha0 : RT n a0 103) {res : Int32 × Mm} (h : fX3_unit_b24 rec a0 a1 a3 σ = some res) : J X mX3_unit (dr + 1) 0 0 (n, some (.int res.1), res.2) 24 [(0, .ref a0), (1, .int a1), (3, .int a3)] [] n σ := by
  unfold fX3_unit_b24 at h
  refine J_iload_n (z := 1) dX3_unit_24 rfl rfl (q := 25) rfl ?_
  refine J_bipush (x := 6) dX3_unit_25 (by decide) (q := 27) rfl ?_
  refine J_icmp_ge (tgt := 39) dX3_unit_27 (by decide) (q := 30) rfl (fun c17 => ?_) (fun c17 => ?_)
  · rw [if_pos c17] at h
    refine J_aload_n (z := 0) dX3_unit_39 rfl rfl (q := 40) rfl ?_
    obtain ⟨r19, er19, h⟩ := bindS h
    refine J_getR dX3_unit_40 lRX3_21 ha0 rfl (by decide) er19 (q := 43) rfl (fun fr19 => ?_)
    obtain ⟨vk20, sk20, hk20, h⟩ := bnd2S h
    refine J_cVi (as := []) dX3_unit_43 mRX3_46 fr19 (tX7_wrongHere fr19 hk20) rfl (by omega) (Nat.le_of_ble_eq_true rfl) (Nat.le_of_ble_eq_true rfl) (q := 46) rfl ?_
    intro bk20
    have h := Option.some.inj h
    subst h
    exact J_ireturn dX3_unit_46 rfl bk20 rfl
  · rw [if_neg c17] at h
    refine J_aload_n (z := 0) dX3_unit_30 rfl rfl (q := 31) rfl ?_
    refine J_iload_n (z := 1) dX3_unit_31 rfl rfl (q := 32) rfl ?_
    refine J_iload_n (z := 2) dX3_unit_32 rfl rfl (q := 33) rfl ?_
    obtain ⟨vk21, sk21, hk21, h⟩ := bnd2S h
    refine J_cVi (as := [.int a1, .int a3]) dX3_unit_33 mRX3_72 ha0 (hrec.2.2.2.1 ha0 hk21) rfl (Nat.le_refl _) (Nat.le_of_ble_eq_true rfl) (Nat.le_of_ble_eq_true rfl) (q := 36) rfl ?_
    intro bk21
    refine J_goto (tgt := 46) dX3_unit_36 (by decide) ?_
    have h := Option.some.inj h
    subst h
    exact J_ireturn dX3_unit_46 rfl bk21 rfl

def fX3_unit (rec : Nat → Nat → Int32 → Int32 → Mm → Option (Int32 × Mm)) (a0 : Nat) (a1 : Int32) (a2 : Int32) (σ : Mm) : Option (Int32 × Mm) :=
  (gR σ a0 0).bind fun r1 => bnd2 (fX7_next r1 σ) fun vk2 sk2 => if a2 = 0 then if vk2 = 33 then fX3_unit_b24 rec a0 a1 vk2 sk2 else if vk2 = 40 then fX3_unit_b24 rec a0 a1 vk2 sk2 else fX3_unit_b47 rec a0 a1 a2 sk2 else fX3_unit_b47 rec a0 a1 a2 sk2
set_option maxRecDepth 20000 in
set_option maxHeartbeats 2000000 in
theorem tX3_unit {X : XS} {n : Nat} {σ : Mm} {dr : Nat} {rec : Nat → Nat → Int32 → Int32 → Mm → Option (Int32 × Mm)} (hD : 9 ≤ dr) (hrec : RECX3 X dr n rec) {a0 : Nat} {a1 : Int32} {a2 : Int32} (ha0 : RT n a0 103) {res : Int32 × Mm} (h : fX3_unit rec a0 a1 a2 σ = some res) : MT X yX3_unit mX3_unit (dr + 1) 0 0 [.ref a0, .int a1, .int a2] n σ (n, some (.int res.1), res.2) := by
  unfold fX3_unit at h
  refine MT_of (by decide +kernel) rfl (fun h => by cases h) (Nat.le_of_ble_eq_true rfl) ?_
  show J X mX3_unit (dr + 1) 0 0 (n, some (.int res.1), res.2) 0 [(0, .ref a0), (1, .int a1), (2, .int a2)] [] n σ
  refine J_aload_n (z := 0) dX3_unit_0 rfl rfl (q := 1) rfl ?_
  obtain ⟨r1, er1, h⟩ := bindS h
  refine J_getR dX3_unit_1 lRX3_21 ha0 rfl (by decide) er1 (q := 4) rfl (fun fr1 => ?_)
  obtain ⟨vk2, sk2, hk2, h⟩ := bnd2S h
  refine J_cVi (as := []) dX3_unit_4 mRX3_42 fr1 (tX7_next fr1 hk2) rfl (by omega) (Nat.le_of_ble_eq_true rfl) (Nat.le_of_ble_eq_true rfl) (q := 7) rfl ?_
  intro bk2
  refine J_istore_n (lv' := [(3, .int vk2), (0, .ref a0), (1, .int a1), (2, .int a2)]) dX3_unit_7 rfl (by decide) rfl (q := 8) rfl ?_
  refine J_iload_n (z := 3) dX3_unit_8 rfl rfl (q := 9) rfl ?_
  refine J_if_ne (tgt := 47) dX3_unit_9 (by decide) (q := 12) rfl (fun c2 => ?_) (fun c2 => ?_)
  · rw [if_neg c2] at h
    refine J_pick [1, 2, 3] rfl ?_
    exact tX3_unit_b47 hD hrec ha0 h
  · rw [if_pos c2] at h
    refine J_iload_n (z := 0) dX3_unit_12 rfl rfl (q := 13) rfl ?_
    refine J_bipush (x := 33) dX3_unit_13 (by decide) (q := 15) rfl ?_
    refine J_icmp_eq (tgt := 24) dX3_unit_15 (by decide) (q := 18) rfl (fun c16 => ?_) (fun c16 => ?_)
    · rw [if_pos c16] at h
      refine J_pick [1, 2, 0] rfl ?_
      exact tX3_unit_b24 hD hrec ha0 h
    · rw [if_neg c16] at h
      refine J_iload_n (z := 0) dX3_unit_18 rfl rfl (q := 19) rfl ?_
      refine J_bipush (x := 40) dX3_unit_19 (by decide) (q := 21) rfl ?_
      refine J_icmp_ne (tgt := 47) dX3_unit_21 (by decide) (q := 24) rfl (fun c21 => ?_) (fun c21 => ?_)
      · rw [if_neg c21] at h
        refine J_pick [1, 2, 3] rfl ?_
        exact tX3_unit_b47 hD hrec ha0 h
      · rw [if_pos c21] at h
        refine J_pick [1, 2, 0] rfl ?_
        exact tX3_unit_b24 hD hrec ha0 h

def fX3_nestedUnit (rec : Nat → Nat → Int32 → Int32 → Mm → Option (Int32 × Mm)) (a0 : Nat) (a1 : Int32) (a2 : Int32) (σ : Mm) : Option (Int32 × Mm) :=
  (gR σ a0 0).bind fun r1 => if a2 = 40 then bnd2 (rec 0 a0 (a1 + 1) 0 (sI σ r1 2 ((gI σ r1 2) + 1))) fun vk6 sk6 => if vk6 = 0 then some (0, sk6) else (gR sk6 a0 0).bind fun r8 => bnd2 (fX7_expect r8 41 sk6) fun vk9 sk9 => if vk9 = 0 then some (0, sk9) else some (1, sk9) else bnd2 (rec 2 a0 (a1 + 1) 0 (sI σ r1 2 ((gI σ r1 2) + 1))) fun vk3 sk3 => if vk3 = 0 then some (0, sk3) else (fX3_emit a0 33 0 sk3).bind fun sk5 => some (1, sk5)
set_option maxRecDepth 20000 in
set_option maxHeartbeats 2000000 in
theorem tX3_nestedUnit {X : XS} {n : Nat} {σ : Mm} {dr : Nat} {rec : Nat → Nat → Int32 → Int32 → Mm → Option (Int32 × Mm)} (hD : 9 ≤ dr) (hrec : RECX3 X dr n rec) {a0 : Nat} {a1 : Int32} {a2 : Int32} (ha0 : RT n a0 103) {res : Int32 × Mm} (h : fX3_nestedUnit rec a0 a1 a2 σ = some res) : MT X yX3_nestedUnit mX3_nestedUnit (dr + 1) 0 0 [.ref a0, .int a1, .int a2] n σ (n, some (.int res.1), res.2) := by
  unfold fX3_nestedUnit at h
  refine MT_of (by decide +kernel) rfl (fun h => by cases h) (Nat.le_of_ble_eq_true rfl) ?_
  show J X mX3_nestedUnit (dr + 1) 0 0 (n, some (.int res.1), res.2) 0 [(0, .ref a0), (1, .int a1), (2, .int a2)] [] n σ
  refine J_aload_n (z := 0) dX3_nestedUnit_0 rfl rfl (q := 1) rfl ?_
  obtain ⟨r1, er1, h⟩ := bindS h
  refine J_getR dX3_nestedUnit_1 lRX3_21 ha0 rfl (by decide) er1 (q := 4) rfl (fun fr1 => ?_)
  refine J_dup dX3_nestedUnit_4 rfl (q := 5) rfl ?_
  refine J_getI dX3_nestedUnit_5 lRX3_76 fr1 rfl (q := 8) rfl ?_
  refine J_iconst (x := 1) dX3_nestedUnit_8 (by decide) (q := 9) rfl ?_
  refine J_iadd dX3_nestedUnit_9  (q := 10) rfl ?_
  refine J_putI dX3_nestedUnit_10 lRX3_76 (fun h => by cases h) fr1 rfl (q := 13) rfl ?_
  refine J_iload_n (z := 2) dX3_nestedUnit_13 rfl rfl (q := 14) rfl ?_
  refine J_bipush (x := 40) dX3_nestedUnit_14 (by decide) (q := 16) rfl ?_
  refine J_icmp_ne (tgt := 48) dX3_nestedUnit_16 (by decide) (q := 19) rfl (fun c1 => ?_) (fun c1 => ?_)
  · rw [if_neg c1] at h
    refine J_aload_n (z := 0) dX3_nestedUnit_48 rfl rfl (q := 49) rfl ?_
    refine J_iload_n (z := 1) dX3_nestedUnit_49 rfl rfl (q := 50) rfl ?_
    refine J_iconst (x := 1) dX3_nestedUnit_50 (by decide) (q := 51) rfl ?_
    refine J_iadd dX3_nestedUnit_51  (q := 52) rfl ?_
    refine J_iconst (x := 0) dX3_nestedUnit_52 (by decide) (q := 53) rfl ?_
    obtain ⟨vk3, sk3, hk3, h⟩ := bnd2S h
    refine J_cVi (as := [.int (a1 + 1), .int 0]) dX3_nestedUnit_53 mRX3_69 ha0 (hrec.2.2.1 ha0 hk3) rfl (Nat.le_refl _) (Nat.le_of_ble_eq_true rfl) (Nat.le_of_ble_eq_true rfl) (q := 56) rfl ?_
    intro bk3
    refine J_if_ne (tgt := 61) dX3_nestedUnit_56 (by decide) (q := 59) rfl (fun c3 => ?_) (fun c3 => ?_)
    · rw [if_neg c3] at h
      refine J_aload_n (z := 0) dX3_nestedUnit_61 rfl rfl (q := 62) rfl ?_
      refine J_bipush (x := 33) dX3_nestedUnit_62 (by decide) (q := 64) rfl ?_
      refine J_iconst (x := 0) dX3_nestedUnit_64 (by decide) (q := 65) rfl ?_
      obtain ⟨sk5, hk5, h⟩ := bindS h
      refine J_cVv (as := [.int 33, .int 0]) dX3_nestedUnit_65 mRX3_62 ha0 (tX3_emit ha0 hk5) rfl (by omega) (Nat.le_of_ble_eq_true rfl) (Nat.le_of_ble_eq_true rfl) (q := 68) rfl ?_
      refine J_iconst (x := 1) dX3_nestedUnit_68 (by decide) (q := 69) rfl ?_
      have h := Option.some.inj h
      subst h
      exact J_ireturn dX3_nestedUnit_69 rfl rfl rfl
    · rw [if_pos c3] at h
      refine J_iconst (x := 0) dX3_nestedUnit_59 (by decide) (q := 60) rfl ?_
      have h := Option.some.inj h
      subst h
      exact J_ireturn dX3_nestedUnit_60 rfl rfl rfl
  · rw [if_pos c1] at h
    refine J_aload_n (z := 0) dX3_nestedUnit_19 rfl rfl (q := 20) rfl ?_
    refine J_iload_n (z := 1) dX3_nestedUnit_20 rfl rfl (q := 21) rfl ?_
    refine J_iconst (x := 1) dX3_nestedUnit_21 (by decide) (q := 22) rfl ?_
    refine J_iadd dX3_nestedUnit_22  (q := 23) rfl ?_
    refine J_iconst (x := 0) dX3_nestedUnit_23 (by decide) (q := 24) rfl ?_
    obtain ⟨vk6, sk6, hk6, h⟩ := bnd2S h
    refine J_cVi (as := [.int (a1 + 1), .int 0]) dX3_nestedUnit_24 mRX3_58 ha0 (hrec.1 ha0 hk6) rfl (Nat.le_refl _) (Nat.le_of_ble_eq_true rfl) (Nat.le_of_ble_eq_true rfl) (q := 27) rfl ?_
    intro bk6
    refine J_if_eq (tgt := 46) dX3_nestedUnit_27 (by decide) (q := 30) rfl (fun c6 => ?_) (fun c6 => ?_)
    · rw [if_pos c6] at h
      refine J_iconst (x := 0) dX3_nestedUnit_46 (by decide) (q := 47) rfl ?_
      have h := Option.some.inj h
      subst h
      exact J_ireturn dX3_nestedUnit_47 rfl rfl rfl
    · rw [if_neg c6] at h
      refine J_aload_n (z := 0) dX3_nestedUnit_30 rfl rfl (q := 31) rfl ?_
      obtain ⟨r8, er8, h⟩ := bindS h
      refine J_getR dX3_nestedUnit_31 lRX3_21 ha0 rfl (by decide) er8 (q := 34) rfl (fun fr8 => ?_)
      refine J_bipush (x := 41) dX3_nestedUnit_34 (by decide) (q := 36) rfl ?_
      obtain ⟨vk9, sk9, hk9, h⟩ := bnd2S h
      refine J_cVi (as := [.int 41]) dX3_nestedUnit_36 mRX3_49 fr8 (tX7_expect fr8 hk9) rfl (by omega) (Nat.le_of_ble_eq_true rfl) (Nat.le_of_ble_eq_true rfl) (q := 39) rfl ?_
      intro bk9
      refine J_if_eq (tgt := 46) dX3_nestedUnit_39 (by decide) (q := 42) rfl (fun c9 => ?_) (fun c9 => ?_)
      · rw [if_pos c9] at h
        refine J_iconst (x := 0) dX3_nestedUnit_46 (by decide) (q := 47) rfl ?_
        have h := Option.some.inj h
        subst h
        exact J_ireturn dX3_nestedUnit_47 rfl rfl rfl
      · rw [if_neg c9] at h
        refine J_iconst (x := 1) dX3_nestedUnit_42 (by decide) (q := 43) rfl ?_
        refine J_goto (tgt := 47) dX3_nestedUnit_43 (by decide) ?_
        have h := Option.some.inj h
        subst h
        exact J_ireturn dX3_nestedUnit_47 rfl rfl rfl

def fX3_sum_b39 (rec : Nat → Nat → Int32 → Int32 → Mm → Option (Int32 × Mm)) (a0 : Nat) (a1 : Int32) (a2 : Int32) (a3 : Int32) (σ : Mm) : Option ((Int32 × Int32 × Mm) ⊕ (Int32 × Mm)) :=
  (gR σ a0 0).bind fun r7 => bnd2 (rec 5 a0 a1 0 (sI σ r7 2 ((gI σ r7 2) + 1))) fun vk8 sk8 => if vk8 = 0 then some (Sum.inr (0, sk8)) else (fX3_emit a0 a2 0 sk8).bind fun sk10 => (gR sk10 a0 0).bind fun r11 => bnd2 (fX7_next r11 sk10) fun vk12 sk12 => some (Sum.inl (vk12, (a3 + 1), sk12))
set_option maxRecDepth 20000 in
set_option maxHeartbeats 2000000 in
theorem tX3_sum_b39 {X : XS} {n : Nat} {σ : Mm} {F : Nat × Option Value × Mm} {dr : Nat} {rec : Nat → Nat → Int32 → Int32 → Mm → Option (Int32 × Mm)} (hD : 9 ≤ dr) (hrec : RECX3 X dr n rec) {a0 : Nat} {a1 : Int32} {a2 : Int32} {a3 : Int32} (ha0 : RT n a0 103) {res : (Int32 × Int32 × Mm) ⊕ (Int32 × Mm)} (h : fX3_sum_b39 rec a0 a1 a2 a3 σ = some res) (hc : ∀ (b2 : Int32) (b3 : Int32) (s : Mm), res = .inl (b2, b3, s) → J X mX3_sum (dr + 1) 0 0 F 20 [(0, .ref a0), (1, .int a1), (2, .int b2), (3, .int b3)] [] n s) (hr : ∀ (v : Int32) (s : Mm), res = .inr (v, s) → F = (n, some (.int v), s)) : J X mX3_sum (dr + 1) 0 0 F 39 [(0, .ref a0), (1, .int a1), (2, .int a2), (3, .int a3)] [] n σ := by
  unfold fX3_sum_b39 at h
  refine J_aload_n (z := 0) dX3_sum_39 rfl rfl (q := 40) rfl ?_
  obtain ⟨r7, er7, h⟩ := bindS h
  refine J_getR dX3_sum_40 lRX3_21 ha0 rfl (by decide) er7 (q := 43) rfl (fun fr7 => ?_)
  refine J_dup dX3_sum_43 rfl (q := 44) rfl ?_
  refine J_getI dX3_sum_44 lRX3_76 fr7 rfl (q := 47) rfl ?_
  refine J_iconst (x := 1) dX3_sum_47 (by decide) (q := 48) rfl ?_
  refine J_iadd dX3_sum_48  (q := 49) rfl ?_
  refine J_putI dX3_sum_49 lRX3_76 (fun h => by cases h) fr7 rfl (q := 52) rfl ?_
  refine J_aload_n (z := 0) dX3_sum_52 rfl rfl (q := 53) rfl ?_
  refine J_iload_n (z := 1) dX3_sum_53 rfl rfl (q := 54) rfl ?_
  obtain ⟨vk8, sk8, hk8, h⟩ := bnd2S h
  refine J_cVi (as := [.int a1]) dX3_sum_54 mRX3_79 ha0 (hrec.2.2.2.2.2.1 ha0 hk8) rfl (Nat.le_refl _) (Nat.le_of_ble_eq_true rfl) (Nat.le_of_ble_eq_true rfl) (q := 57) rfl ?_
  intro bk8
  refine J_if_ne (tgt := 62) dX3_sum_57 (by decide) (q := 60) rfl (fun c8 => ?_) (fun c8 => ?_)
  · rw [if_neg c8] at h
    refine J_aload_n (z := 0) dX3_sum_62 rfl rfl (q := 63) rfl ?_
    refine J_iload_n (z := 2) dX3_sum_63 rfl rfl (q := 64) rfl ?_
    refine J_iconst (x := 0) dX3_sum_64 (by decide) (q := 65) rfl ?_
    obtain ⟨sk10, hk10, h⟩ := bindS h
    refine J_cVv (as := [.int a2, .int 0]) dX3_sum_65 mRX3_62 ha0 (tX3_emit ha0 hk10) rfl (by omega) (Nat.le_of_ble_eq_true rfl) (Nat.le_of_ble_eq_true rfl) (q := 68) rfl ?_
    refine J_aload_n (z := 0) dX3_sum_68 rfl rfl (q := 69) rfl ?_
    obtain ⟨r11, er11, h⟩ := bindS h
    refine J_getR dX3_sum_69 lRX3_21 ha0 rfl (by decide) er11 (q := 72) rfl (fun fr11 => ?_)
    obtain ⟨vk12, sk12, hk12, h⟩ := bnd2S h
    refine J_cVi (as := []) dX3_sum_72 mRX3_42 fr11 (tX7_next fr11 hk12) rfl (by omega) (Nat.le_of_ble_eq_true rfl) (Nat.le_of_ble_eq_true rfl) (q := 75) rfl ?_
    intro bk12
    refine J_istore_n (lv' := [(2, .int vk12), (0, .ref a0), (1, .int a1), (3, .int a3)]) dX3_sum_75 rfl (by decide) rfl (q := 76) rfl ?_
    refine J_iinc (z := 3) (y := (a3 + 1)) (lv' := [(3, .int (a3 + 1)), (2, .int vk12), (0, .ref a0), (1, .int a1)]) dX3_sum_76 rfl rfl (by decide) rfl (q := 79) rfl ?_
    refine J_goto (tgt := 20) dX3_sum_79 (by decide) ?_
    have h := Option.some.inj h
    refine J_pick [2, 3, 1, 0] rfl ?_
    exact hc _ _ _ h.symm
  · rw [if_pos c8] at h
    refine J_iconst (x := 0) dX3_sum_60 (by decide) (q := 61) rfl ?_
    have h := Option.some.inj h
    exact J_ireturn dX3_sum_61 rfl rfl (hr _ _ h.symm)

def fX3_sum_l20 (rec : Nat → Nat → Int32 → Int32 → Mm → Option (Int32 × Mm)) (a0 : Nat) (a1 : Int32) (a2 : Int32) (a3 : Int32) (σ : Mm) : Option ((Int32 × Int32 × Mm) ⊕ (Int32 × Mm)) :=
  if 240 < a3 then some (Sum.inr (1, σ)) else if a2 = 43 then fX3_sum_b39 rec a0 a1 a2 a3 σ else if a2 = 45 then fX3_sum_b39 rec a0 a1 a2 a3 σ else some (Sum.inr (1, σ))
set_option maxRecDepth 20000 in
set_option maxHeartbeats 2000000 in
theorem tX3_sum_l20 {X : XS} {n : Nat} {σ : Mm} {F : Nat × Option Value × Mm} {dr : Nat} {rec : Nat → Nat → Int32 → Int32 → Mm → Option (Int32 × Mm)} (hD : 9 ≤ dr) (hrec : RECX3 X dr n rec) {a0 : Nat} {a1 : Int32} {a2 : Int32} {a3 : Int32} (ha0 : RT n a0 103) {res : (Int32 × Int32 × Mm) ⊕ (Int32 × Mm)} (h : fX3_sum_l20 rec a0 a1 a2 a3 σ = some res) (hc : ∀ (b2 : Int32) (b3 : Int32) (s : Mm), res = .inl (b2, b3, s) → J X mX3_sum (dr + 1) 0 0 F 20 [(0, .ref a0), (1, .int a1), (2, .int b2), (3, .int b3)] [] n s) (hr : ∀ (v : Int32) (s : Mm), res = .inr (v, s) → F = (n, some (.int v), s)) : J X mX3_sum (dr + 1) 0 0 F 20 [(0, .ref a0), (1, .int a1), (2, .int a2), (3, .int a3)] [] n σ := by
  unfold fX3_sum_l20 at h
  refine J_iload_n (z := 3) dX3_sum_20 rfl rfl (q := 21) rfl ?_
  refine J_sipush (x := 240) dX3_sum_21 (by decide) (q := 24) rfl ?_
  refine J_icmp_gt (tgt := 82) dX3_sum_24 (by decide) (q := 27) rfl (fun c4 => ?_) (fun c4 => ?_)
  · rw [if_pos c4] at h
    refine J_iconst (x := 1) dX3_sum_82 (by decide) (q := 83) rfl ?_
    have h := Option.some.inj h
    exact J_ireturn dX3_sum_83 rfl rfl (hr _ _ h.symm)
  · rw [if_neg c4] at h
    refine J_iload_n (z := 2) dX3_sum_27 rfl rfl (q := 28) rfl ?_
    refine J_bipush (x := 43) dX3_sum_28 (by decide) (q := 30) rfl ?_
    refine J_icmp_eq (tgt := 39) dX3_sum_30 (by decide) (q := 33) rfl (fun c5 => ?_) (fun c5 => ?_)
    · rw [if_pos c5] at h
      refine J_pick [0, 1, 2, 3] rfl ?_
      exact tX3_sum_b39 hD hrec ha0 h hc hr
    · rw [if_neg c5] at h
      refine J_iload_n (z := 2) dX3_sum_33 rfl rfl (q := 34) rfl ?_
      refine J_bipush (x := 45) dX3_sum_34 (by decide) (q := 36) rfl ?_
      refine J_icmp_ne (tgt := 82) dX3_sum_36 (by decide) (q := 39) rfl (fun c12 => ?_) (fun c12 => ?_)
      · rw [if_neg c12] at h
        refine J_iconst (x := 1) dX3_sum_82 (by decide) (q := 83) rfl ?_
        have h := Option.some.inj h
        exact J_ireturn dX3_sum_83 rfl rfl (hr _ _ h.symm)
      · rw [if_pos c12] at h
        refine J_pick [0, 1, 2, 3] rfl ?_
        exact tX3_sum_b39 hD hrec ha0 h hc hr

def fX3_sum_w20 (rec : Nat → Nat → Int32 → Int32 → Mm → Option (Int32 × Mm)) (a0 : Nat) (a1 : Int32) (a2 : Int32) (a3 : Int32) (σ : Mm) : Option (Int32 × Mm) :=
  wh (fun a : Int32 × Int32 × Mm => fX3_sum_l20 rec a0 a1 a.1 a.2.1 a.2.2) BIG (a2, a3, σ)
set_option maxRecDepth 20000 in
set_option maxHeartbeats 2000000 in
theorem tX3_sum_w20 {X : XS} {n : Nat} {σ : Mm} {F : Nat × Option Value × Mm} {dr : Nat} {rec : Nat → Nat → Int32 → Int32 → Mm → Option (Int32 × Mm)} (hD : 9 ≤ dr) (hrec : RECX3 X dr n rec) {a0 : Nat} {a1 : Int32} {a2 : Int32} {a3 : Int32} (ha0 : RT n a0 103) {res : Int32 × Mm} (h : fX3_sum_w20 rec a0 a1 a2 a3 σ = some res) (hr : ∀ (v : Int32) (s : Mm), res = (v, s) → F = (n, some (.int v), s)) : J X mX3_sum (dr + 1) 0 0 F 20 [(0, .ref a0), (1, .int a1), (2, .int a2), (3, .int a3)] [] n σ := by
  unfold fX3_sum_w20 at h
  refine wh_rule (P := fun a : Int32 × Int32 × Mm => J X mX3_sum (dr + 1) 0 0 F 20 [(0, .ref a0), (1, .int a1), (2, .int a.1), (3, .int a.2.1)] [] n a.2.2) (K := fun b => b = res) ?_ _ _ _ h rfl
  intro a
  refine ⟨fun a2 hb hP => ?_, fun b hb hK => ?_⟩
  · exact tX3_sum_l20 hD hrec ha0 hb (fun _ _ _ e => by cases e; exact hP) (fun _ _ e => by cases e)
  · subst hK
    exact tX3_sum_l20 hD hrec ha0 hb (fun _ _ _ e => by cases e) (fun v0 v1 e => hr v0 v1 (Sum.inr.inj e))

def fX3_sum (rec : Nat → Nat → Int32 → Int32 → Mm → Option (Int32 × Mm)) (a0 : Nat) (a1 : Int32) (σ : Mm) : Option (Int32 × Mm) :=
  bnd2 (rec 5 a0 a1 0 σ) fun vk1 sk1 => if vk1 = 0 then some (0, sk1) else (gR sk1 a0 0).bind fun r3 => bnd2 (fX7_next r3 sk1) fun vk4 sk4 => (fX3_sum_w20 rec a0 a1 vk4 0 sk4).bind (fun o14 => some o14)
set_option maxRecDepth 20000 in
set_option maxHeartbeats 2000000 in
theorem tX3_sum {X : XS} {n : Nat} {σ : Mm} {dr : Nat} {rec : Nat → Nat → Int32 → Int32 → Mm → Option (Int32 × Mm)} (hD : 9 ≤ dr) (hrec : RECX3 X dr n rec) {a0 : Nat} {a1 : Int32} (ha0 : RT n a0 103) {res : Int32 × Mm} (h : fX3_sum rec a0 a1 σ = some res) : MT X yX3_sum mX3_sum (dr + 1) 0 0 [.ref a0, .int a1] n σ (n, some (.int res.1), res.2) := by
  unfold fX3_sum at h
  refine MT_of (by decide +kernel) rfl (fun h => by cases h) (Nat.le_of_ble_eq_true rfl) ?_
  show J X mX3_sum (dr + 1) 0 0 (n, some (.int res.1), res.2) 0 [(0, .ref a0), (1, .int a1)] [] n σ
  refine J_aload_n (z := 0) dX3_sum_0 rfl rfl (q := 1) rfl ?_
  refine J_iload_n (z := 1) dX3_sum_1 rfl rfl (q := 2) rfl ?_
  obtain ⟨vk1, sk1, hk1, h⟩ := bnd2S h
  refine J_cVi (as := [.int a1]) dX3_sum_2 mRX3_79 ha0 (hrec.2.2.2.2.2.1 ha0 hk1) rfl (Nat.le_refl _) (Nat.le_of_ble_eq_true rfl) (Nat.le_of_ble_eq_true rfl) (q := 5) rfl ?_
  intro bk1
  refine J_if_ne (tgt := 10) dX3_sum_5 (by decide) (q := 8) rfl (fun c1 => ?_) (fun c1 => ?_)
  · rw [if_neg c1] at h
    refine J_aload_n (z := 0) dX3_sum_10 rfl rfl (q := 11) rfl ?_
    obtain ⟨r3, er3, h⟩ := bindS h
    refine J_getR dX3_sum_11 lRX3_21 ha0 rfl (by decide) er3 (q := 14) rfl (fun fr3 => ?_)
    obtain ⟨vk4, sk4, hk4, h⟩ := bnd2S h
    refine J_cVi (as := []) dX3_sum_14 mRX3_42 fr3 (tX7_next fr3 hk4) rfl (by omega) (Nat.le_of_ble_eq_true rfl) (Nat.le_of_ble_eq_true rfl) (q := 17) rfl ?_
    intro bk4
    refine J_istore_n (lv' := [(2, .int vk4), (0, .ref a0), (1, .int a1)]) dX3_sum_17 rfl (by decide) rfl (q := 18) rfl ?_
    refine J_iconst (x := 0) dX3_sum_18 (by decide) (q := 19) rfl ?_
    refine J_istore_n (lv' := [(3, .int 0), (2, .int vk4), (0, .ref a0), (1, .int a1)]) dX3_sum_19 rfl (by decide) rfl (q := 20) rfl ?_
    obtain ⟨o14, hlo14, h⟩ := bindS h
    refine J_pick [2, 3, 1, 0] rfl ?_
    refine tX3_sum_w20 hD hrec ha0 hlo14 ?_
    · intro vo14 so14 qo14
      rw [qo14] at h
      try dsimp only [Sum.elim_inl, Sum.elim_inr] at h
      have h := Option.some.inj h
      subst h
      rfl
  · rw [if_pos c1] at h
    refine J_iconst (x := 0) dX3_sum_8 (by decide) (q := 9) rfl ?_
    have h := Option.some.inj h
    subst h
    exact J_ireturn dX3_sum_9 rfl rfl rfl

def fX3_term_b39 (rec : Nat → Nat → Int32 → Int32 → Mm → Option (Int32 × Mm)) (a0 : Nat) (a1 : Int32) (a2 : Int32) (a3 : Int32) (σ : Mm) : Option ((Int32 × Int32 × Mm) ⊕ (Int32 × Mm)) :=
  (gR σ a0 0).bind fun r7 => bnd2 (rec 6 a0 a1 0 (sI σ r7 2 ((gI σ r7 2) + 1))) fun vk8 sk8 => if vk8 = 0 then some (Sum.inr (0, sk8)) else (fX3_emit a0 a2 0 sk8).bind fun sk10 => (gR sk10 a0 0).bind fun r11 => bnd2 (fX7_next r11 sk10) fun vk12 sk12 => some (Sum.inl (vk12, (a3 + 1), sk12))
set_option maxRecDepth 20000 in
set_option maxHeartbeats 2000000 in
theorem tX3_term_b39 {X : XS} {n : Nat} {σ : Mm} {F : Nat × Option Value × Mm} {dr : Nat} {rec : Nat → Nat → Int32 → Int32 → Mm → Option (Int32 × Mm)} (hD : 9 ≤ dr) (hrec : RECX3 X dr n rec) {a0 : Nat} {a1 : Int32} {a2 : Int32} {a3 : Int32} (ha0 : RT n a0 103) {res : (Int32 × Int32 × Mm) ⊕ (Int32 × Mm)} (h : fX3_term_b39 rec a0 a1 a2 a3 σ = some res) (hc : ∀ (b2 : Int32) (b3 : Int32) (s : Mm), res = .inl (b2, b3, s) → J X mX3_term (dr + 1) 0 0 F 20 [(0, .ref a0), (1, .int a1), (2, .int b2), (3, .int b3)] [] n s) (hr : ∀ (v : Int32) (s : Mm), res = .inr (v, s) → F = (n, some (.int v), s)) : J X mX3_term (dr + 1) 0 0 F 39 [(0, .ref a0), (1, .int a1), (2, .int a2), (3, .int a3)] [] n σ := by
  unfold fX3_term_b39 at h
  refine J_aload_n (z := 0) dX3_term_39 rfl rfl (q := 40) rfl ?_
  obtain ⟨r7, er7, h⟩ := bindS h
  refine J_getR dX3_term_40 lRX3_21 ha0 rfl (by decide) er7 (q := 43) rfl (fun fr7 => ?_)
  refine J_dup dX3_term_43 rfl (q := 44) rfl ?_
  refine J_getI dX3_term_44 lRX3_76 fr7 rfl (q := 47) rfl ?_
  refine J_iconst (x := 1) dX3_term_47 (by decide) (q := 48) rfl ?_
  refine J_iadd dX3_term_48  (q := 49) rfl ?_
  refine J_putI dX3_term_49 lRX3_76 (fun h => by cases h) fr7 rfl (q := 52) rfl ?_
  refine J_aload_n (z := 0) dX3_term_52 rfl rfl (q := 53) rfl ?_
  refine J_iload_n (z := 1) dX3_term_53 rfl rfl (q := 54) rfl ?_
  obtain ⟨vk8, sk8, hk8, h⟩ := bnd2S h
  refine J_cVi (as := [.int a1]) dX3_term_54 mRX3_82 ha0 (hrec.2.2.2.2.2.2 ha0 hk8) rfl (Nat.le_refl _) (Nat.le_of_ble_eq_true rfl) (Nat.le_of_ble_eq_true rfl) (q := 57) rfl ?_
  intro bk8
  refine J_if_ne (tgt := 62) dX3_term_57 (by decide) (q := 60) rfl (fun c8 => ?_) (fun c8 => ?_)
  · rw [if_neg c8] at h
    refine J_aload_n (z := 0) dX3_term_62 rfl rfl (q := 63) rfl ?_
    refine J_iload_n (z := 2) dX3_term_63 rfl rfl (q := 64) rfl ?_
    refine J_iconst (x := 0) dX3_term_64 (by decide) (q := 65) rfl ?_
    obtain ⟨sk10, hk10, h⟩ := bindS h
    refine J_cVv (as := [.int a2, .int 0]) dX3_term_65 mRX3_62 ha0 (tX3_emit ha0 hk10) rfl (by omega) (Nat.le_of_ble_eq_true rfl) (Nat.le_of_ble_eq_true rfl) (q := 68) rfl ?_
    refine J_aload_n (z := 0) dX3_term_68 rfl rfl (q := 69) rfl ?_
    obtain ⟨r11, er11, h⟩ := bindS h
    refine J_getR dX3_term_69 lRX3_21 ha0 rfl (by decide) er11 (q := 72) rfl (fun fr11 => ?_)
    obtain ⟨vk12, sk12, hk12, h⟩ := bnd2S h
    refine J_cVi (as := []) dX3_term_72 mRX3_42 fr11 (tX7_next fr11 hk12) rfl (by omega) (Nat.le_of_ble_eq_true rfl) (Nat.le_of_ble_eq_true rfl) (q := 75) rfl ?_
    intro bk12
    refine J_istore_n (lv' := [(2, .int vk12), (0, .ref a0), (1, .int a1), (3, .int a3)]) dX3_term_75 rfl (by decide) rfl (q := 76) rfl ?_
    refine J_iinc (z := 3) (y := (a3 + 1)) (lv' := [(3, .int (a3 + 1)), (2, .int vk12), (0, .ref a0), (1, .int a1)]) dX3_term_76 rfl rfl (by decide) rfl (q := 79) rfl ?_
    refine J_goto (tgt := 20) dX3_term_79 (by decide) ?_
    have h := Option.some.inj h
    refine J_pick [2, 3, 1, 0] rfl ?_
    exact hc _ _ _ h.symm
  · rw [if_pos c8] at h
    refine J_iconst (x := 0) dX3_term_60 (by decide) (q := 61) rfl ?_
    have h := Option.some.inj h
    exact J_ireturn dX3_term_61 rfl rfl (hr _ _ h.symm)

def fX3_term_l20 (rec : Nat → Nat → Int32 → Int32 → Mm → Option (Int32 × Mm)) (a0 : Nat) (a1 : Int32) (a2 : Int32) (a3 : Int32) (σ : Mm) : Option ((Int32 × Int32 × Mm) ⊕ (Int32 × Mm)) :=
  if 240 < a3 then some (Sum.inr (1, σ)) else if a2 = 42 then fX3_term_b39 rec a0 a1 a2 a3 σ else if a2 = 47 then fX3_term_b39 rec a0 a1 a2 a3 σ else some (Sum.inr (1, σ))
set_option maxRecDepth 20000 in
set_option maxHeartbeats 2000000 in
theorem tX3_term_l20 {X : XS} {n : Nat} {σ : Mm} {F : Nat × Option Value × Mm} {dr : Nat} {rec : Nat → Nat → Int32 → Int32 → Mm → Option (Int32 × Mm)} (hD : 9 ≤ dr) (hrec : RECX3 X dr n rec) {a0 : Nat} {a1 : Int32} {a2 : Int32} {a3 : Int32} (ha0 : RT n a0 103) {res : (Int32 × Int32 × Mm) ⊕ (Int32 × Mm)} (h : fX3_term_l20 rec a0 a1 a2 a3 σ = some res) (hc : ∀ (b2 : Int32) (b3 : Int32) (s : Mm), res = .inl (b2, b3, s) → J X mX3_term (dr + 1) 0 0 F 20 [(0, .ref a0), (1, .int a1), (2, .int b2), (3, .int b3)] [] n s) (hr : ∀ (v : Int32) (s : Mm), res = .inr (v, s) → F = (n, some (.int v), s)) : J X mX3_term (dr + 1) 0 0 F 20 [(0, .ref a0), (1, .int a1), (2, .int a2), (3, .int a3)] [] n σ := by
  unfold fX3_term_l20 at h
  refine J_iload_n (z := 3) dX3_term_20 rfl rfl (q := 21) rfl ?_
  refine J_sipush (x := 240) dX3_term_21 (by decide) (q := 24) rfl ?_
  refine J_icmp_gt (tgt := 82) dX3_term_24 (by decide) (q := 27) rfl (fun c4 => ?_) (fun c4 => ?_)
  · rw [if_pos c4] at h
    refine J_iconst (x := 1) dX3_term_82 (by decide) (q := 83) rfl ?_
    have h := Option.some.inj h
    exact J_ireturn dX3_term_83 rfl rfl (hr _ _ h.symm)
  · rw [if_neg c4] at h
    refine J_iload_n (z := 2) dX3_term_27 rfl rfl (q := 28) rfl ?_
    refine J_bipush (x := 42) dX3_term_28 (by decide) (q := 30) rfl ?_
    refine J_icmp_eq (tgt := 39) dX3_term_30 (by decide) (q := 33) rfl (fun c5 => ?_) (fun c5 => ?_)
    · rw [if_pos c5] at h
      refine J_pick [0, 1, 2, 3] rfl ?_
      exact tX3_term_b39 hD hrec ha0 h hc hr
    · rw [if_neg c5] at h
      refine J_iload_n (z := 2) dX3_term_33 rfl rfl (q := 34) rfl ?_
      refine J_bipush (x := 47) dX3_term_34 (by decide) (q := 36) rfl ?_
      refine J_icmp_ne (tgt := 82) dX3_term_36 (by decide) (q := 39) rfl (fun c12 => ?_) (fun c12 => ?_)
      · rw [if_neg c12] at h
        refine J_iconst (x := 1) dX3_term_82 (by decide) (q := 83) rfl ?_
        have h := Option.some.inj h
        exact J_ireturn dX3_term_83 rfl rfl (hr _ _ h.symm)
      · rw [if_pos c12] at h
        refine J_pick [0, 1, 2, 3] rfl ?_
        exact tX3_term_b39 hD hrec ha0 h hc hr

def fX3_term_w20 (rec : Nat → Nat → Int32 → Int32 → Mm → Option (Int32 × Mm)) (a0 : Nat) (a1 : Int32) (a2 : Int32) (a3 : Int32) (σ : Mm) : Option (Int32 × Mm) :=
  wh (fun a : Int32 × Int32 × Mm => fX3_term_l20 rec a0 a1 a.1 a.2.1 a.2.2) BIG (a2, a3, σ)
set_option maxRecDepth 20000 in
set_option maxHeartbeats 2000000 in
theorem tX3_term_w20 {X : XS} {n : Nat} {σ : Mm} {F : Nat × Option Value × Mm} {dr : Nat} {rec : Nat → Nat → Int32 → Int32 → Mm → Option (Int32 × Mm)} (hD : 9 ≤ dr) (hrec : RECX3 X dr n rec) {a0 : Nat} {a1 : Int32} {a2 : Int32} {a3 : Int32} (ha0 : RT n a0 103) {res : Int32 × Mm} (h : fX3_term_w20 rec a0 a1 a2 a3 σ = some res) (hr : ∀ (v : Int32) (s : Mm), res = (v, s) → F = (n, some (.int v), s)) : J X mX3_term (dr + 1) 0 0 F 20 [(0, .ref a0), (1, .int a1), (2, .int a2), (3, .int a3)] [] n σ := by
  unfold fX3_term_w20 at h
  refine wh_rule (P := fun a : Int32 × Int32 × Mm => J X mX3_term (dr + 1) 0 0 F 20 [(0, .ref a0), (1, .int a1), (2, .int a.1), (3, .int a.2.1)] [] n a.2.2) (K := fun b => b = res) ?_ _ _ _ h rfl
  intro a
  refine ⟨fun a2 hb hP => ?_, fun b hb hK => ?_⟩
  · exact tX3_term_l20 hD hrec ha0 hb (fun _ _ _ e => by cases e; exact hP) (fun _ _ e => by cases e)
  · subst hK
    exact tX3_term_l20 hD hrec ha0 hb (fun _ _ _ e => by cases e) (fun v0 v1 e => hr v0 v1 (Sum.inr.inj e))

def fX3_term (rec : Nat → Nat → Int32 → Int32 → Mm → Option (Int32 × Mm)) (a0 : Nat) (a1 : Int32) (σ : Mm) : Option (Int32 × Mm) :=
  bnd2 (rec 6 a0 a1 0 σ) fun vk1 sk1 => if vk1 = 0 then some (0, sk1) else (gR sk1 a0 0).bind fun r3 => bnd2 (fX7_next r3 sk1) fun vk4 sk4 => (fX3_term_w20 rec a0 a1 vk4 0 sk4).bind (fun o14 => some o14)
set_option maxRecDepth 20000 in
set_option maxHeartbeats 2000000 in
theorem tX3_term {X : XS} {n : Nat} {σ : Mm} {dr : Nat} {rec : Nat → Nat → Int32 → Int32 → Mm → Option (Int32 × Mm)} (hD : 9 ≤ dr) (hrec : RECX3 X dr n rec) {a0 : Nat} {a1 : Int32} (ha0 : RT n a0 103) {res : Int32 × Mm} (h : fX3_term rec a0 a1 σ = some res) : MT X yX3_term mX3_term (dr + 1) 0 0 [.ref a0, .int a1] n σ (n, some (.int res.1), res.2) := by
  unfold fX3_term at h
  refine MT_of (by decide +kernel) rfl (fun h => by cases h) (Nat.le_of_ble_eq_true rfl) ?_
  show J X mX3_term (dr + 1) 0 0 (n, some (.int res.1), res.2) 0 [(0, .ref a0), (1, .int a1)] [] n σ
  refine J_aload_n (z := 0) dX3_term_0 rfl rfl (q := 1) rfl ?_
  refine J_iload_n (z := 1) dX3_term_1 rfl rfl (q := 2) rfl ?_
  obtain ⟨vk1, sk1, hk1, h⟩ := bnd2S h
  refine J_cVi (as := [.int a1]) dX3_term_2 mRX3_82 ha0 (hrec.2.2.2.2.2.2 ha0 hk1) rfl (Nat.le_refl _) (Nat.le_of_ble_eq_true rfl) (Nat.le_of_ble_eq_true rfl) (q := 5) rfl ?_
  intro bk1
  refine J_if_ne (tgt := 10) dX3_term_5 (by decide) (q := 8) rfl (fun c1 => ?_) (fun c1 => ?_)
  · rw [if_neg c1] at h
    refine J_aload_n (z := 0) dX3_term_10 rfl rfl (q := 11) rfl ?_
    obtain ⟨r3, er3, h⟩ := bindS h
    refine J_getR dX3_term_11 lRX3_21 ha0 rfl (by decide) er3 (q := 14) rfl (fun fr3 => ?_)
    obtain ⟨vk4, sk4, hk4, h⟩ := bnd2S h
    refine J_cVi (as := []) dX3_term_14 mRX3_42 fr3 (tX7_next fr3 hk4) rfl (by omega) (Nat.le_of_ble_eq_true rfl) (Nat.le_of_ble_eq_true rfl) (q := 17) rfl ?_
    intro bk4
    refine J_istore_n (lv' := [(2, .int vk4), (0, .ref a0), (1, .int a1)]) dX3_term_17 rfl (by decide) rfl (q := 18) rfl ?_
    refine J_iconst (x := 0) dX3_term_18 (by decide) (q := 19) rfl ?_
    refine J_istore_n (lv' := [(3, .int 0), (2, .int vk4), (0, .ref a0), (1, .int a1)]) dX3_term_19 rfl (by decide) rfl (q := 20) rfl ?_
    obtain ⟨o14, hlo14, h⟩ := bindS h
    refine J_pick [2, 3, 1, 0] rfl ?_
    refine tX3_term_w20 hD hrec ha0 hlo14 ?_
    · intro vo14 so14 qo14
      rw [qo14] at h
      try dsimp only [Sum.elim_inl, Sum.elim_inr] at h
      have h := Option.some.inj h
      subst h
      rfl
  · rw [if_pos c1] at h
    refine J_iconst (x := 0) dX3_term_8 (by decide) (q := 9) rfl ?_
    have h := Option.some.inj h
    subst h
    exact J_ireturn dX3_term_9 rfl rfl rfl

def fX3_atom (rec : Nat → Nat → Int32 → Int32 → Mm → Option (Int32 × Mm)) (a0 : Nat) (a1 : Int32) (σ : Mm) : Option (Int32 × Mm) :=
  (gR σ a0 0).bind fun r1 => bnd2 (fX7_nextOf r1 (1100 + 2 * 3) σ) fun vk2 sk2 => if vk2 < 0 then (gR sk2 a0 0).bind fun r4 => bnd2 (fX7_next r4 sk2) fun vk5 sk5 => if vk5 = 91 then if a1 < 6 then (gR sk5 a0 0).bind fun r12 => bnd2 (rec 4 a0 (a1 + 1) 0 (sI sk5 r12 2 ((gI sk5 r12 2) + 1))) fun vk13 sk13 => if vk13 = 0 then some (0, sk13) else (gR sk13 a0 0).bind fun r15 => bnd2 (fX7_expect r15 93 sk13) fun vk16 sk16 => if vk16 = 0 then some (0, sk16) else some (1, sk16) else (gR sk5 a0 0).bind fun r18 => bnd2 (fX7_wrongHere r18 sk5) fun vk19 sk19 => some (vk19, sk19) else (gR sk5 a0 0).bind fun r7 => bnd2 (fX7_number r7 4 0 9999 sk5) fun vk8 sk8 => (fX3_emit a0 48 vk8 sk8).bind fun sk9 => if vk8 < 0 then some (0, sk9) else some (1, sk9) else (gR sk2 a0 0).bind fun r20 => (fX3_emit a0 97 vk2 (sI sk2 r20 2 ((gI sk2 r20 2) + 1))).bind fun sk21 => some (1, sk21)
set_option maxRecDepth 20000 in
set_option maxHeartbeats 2000000 in
theorem tX3_atom {X : XS} {n : Nat} {σ : Mm} {dr : Nat} {rec : Nat → Nat → Int32 → Int32 → Mm → Option (Int32 × Mm)} (hD : 9 ≤ dr) (hrec : RECX3 X dr n rec) {a0 : Nat} {a1 : Int32} (ha0 : RT n a0 103) {res : Int32 × Mm} (h : fX3_atom rec a0 a1 σ = some res) : MT X yX3_atom mX3_atom (dr + 1) 0 0 [.ref a0, .int a1] n σ (n, some (.int res.1), res.2) := by
  unfold fX3_atom at h
  refine MT_of (by decide +kernel) rfl (fun h => by cases h) (Nat.le_of_ble_eq_true rfl) ?_
  show J X mX3_atom (dr + 1) 0 0 (n, some (.int res.1), res.2) 0 [(0, .ref a0), (1, .int a1)] [] n σ
  refine J_aload_n (z := 0) dX3_atom_0 rfl rfl (q := 1) rfl ?_
  obtain ⟨r1, er1, h⟩ := bindS h
  refine J_getR dX3_atom_1 lRX3_21 ha0 rfl (by decide) er1 (q := 4) rfl (fun fr1 => ?_)
  refine J_ldcS (tx := "bcdsnt") (j := 3) dX3_atom_4 (by decide +kernel) (q := 6) rfl ?_
  obtain ⟨vk2, sk2, hk2, h⟩ := bnd2S h
  refine J_cVi (as := [.ref (1100 + 2 * 3)]) dX3_atom_6 mRX3_87 fr1 (tX7_nextOf fr1 (rtS_3 _) hk2) rfl (by omega) (Nat.le_of_ble_eq_true rfl) (Nat.le_of_ble_eq_true rfl) (q := 9) rfl ?_
  intro bk2
  refine J_istore_n (lv' := [(2, .int vk2), (0, .ref a0), (1, .int a1)]) dX3_atom_9 rfl (by decide) rfl (q := 10) rfl ?_
  refine J_iload_n (z := 0) dX3_atom_10 rfl rfl (q := 11) rfl ?_
  refine J_if_lt (tgt := 36) dX3_atom_11 (by decide) (q := 14) rfl (fun c2 => ?_) (fun c2 => ?_)
  · rw [if_pos c2] at h
    refine J_aload_n (z := 1) dX3_atom_36 rfl rfl (q := 37) rfl ?_
    obtain ⟨r4, er4, h⟩ := bindS h
    refine J_getR dX3_atom_37 lRX3_21 ha0 rfl (by decide) er4 (q := 40) rfl (fun fr4 => ?_)
    obtain ⟨vk5, sk5, hk5, h⟩ := bnd2S h
    refine J_cVi (as := []) dX3_atom_40 mRX3_42 fr4 (tX7_next fr4 hk5) rfl (by omega) (Nat.le_of_ble_eq_true rfl) (Nat.le_of_ble_eq_true rfl) (q := 43) rfl ?_
    intro bk5
    refine J_bipush (x := 91) dX3_atom_43 (by decide) (q := 45) rfl ?_
    refine J_icmp_ne (tgt := 103) dX3_atom_45 (by decide) (q := 48) rfl (fun c5 => ?_) (fun c5 => ?_)
    · rw [if_neg c5] at h
      refine J_aload_n (z := 1) dX3_atom_103 rfl rfl (q := 104) rfl ?_
      obtain ⟨r7, er7, h⟩ := bindS h
      refine J_getR dX3_atom_104 lRX3_21 ha0 rfl (by decide) er7 (q := 107) rfl (fun fr7 => ?_)
      refine J_iconst (x := 4) dX3_atom_107 (by decide) (q := 108) rfl ?_
      refine J_iconst (x := 0) dX3_atom_108 (by decide) (q := 109) rfl ?_
      refine J_sipush (x := 9999) dX3_atom_109 (by decide) (q := 112) rfl ?_
      obtain ⟨vk8, sk8, hk8, h⟩ := bnd2S h
      refine J_cVi (as := [.int 4, .int 0, .int 9999]) dX3_atom_112 mRX3_91 fr7 (tX7_number fr7 hk8) rfl (by omega) (Nat.le_of_ble_eq_true rfl) (Nat.le_of_ble_eq_true rfl) (q := 115) rfl ?_
      intro bk8
      refine J_istore_n (lv' := [(3, .int vk8), (2, .int vk2), (0, .ref a0), (1, .int a1)]) dX3_atom_115 rfl (by decide) rfl (q := 116) rfl ?_
      refine J_aload_n (z := 2) dX3_atom_116 rfl rfl (q := 117) rfl ?_
      refine J_bipush (x := 48) dX3_atom_117 (by decide) (q := 119) rfl ?_
      refine J_iload_n (z := 0) dX3_atom_119 rfl rfl (q := 120) rfl ?_
      obtain ⟨sk9, hk9, h⟩ := bindS h
      refine J_cVv (as := [.int 48, .int vk8]) dX3_atom_120 mRX3_62 ha0 (tX3_emit ha0 hk9) rfl (by omega) (Nat.le_of_ble_eq_true rfl) (Nat.le_of_ble_eq_true rfl) (q := 123) rfl ?_
      refine J_iload_n (z := 0) dX3_atom_123 rfl rfl (q := 124) rfl ?_
      refine J_if_lt (tgt := 131) dX3_atom_124 (by decide) (q := 127) rfl (fun c9 => ?_) (fun c9 => ?_)
      · rw [if_pos c9] at h
        refine J_iconst (x := 0) dX3_atom_131 (by decide) (q := 132) rfl ?_
        have h := Option.some.inj h
        subst h
        exact J_ireturn dX3_atom_132 rfl rfl rfl
      · rw [if_neg c9] at h
        refine J_iconst (x := 1) dX3_atom_127 (by decide) (q := 128) rfl ?_
        refine J_goto (tgt := 132) dX3_atom_128 (by decide) ?_
        have h := Option.some.inj h
        subst h
        exact J_ireturn dX3_atom_132 rfl rfl rfl
    · rw [if_pos c5] at h
      refine J_iload_n (z := 2) dX3_atom_48 rfl rfl (q := 49) rfl ?_
      refine J_bipush (x := 6) dX3_atom_49 (by decide) (q := 51) rfl ?_
      refine J_icmp_lt (tgt := 62) dX3_atom_51 (by decide) (q := 54) rfl (fun c10 => ?_) (fun c10 => ?_)
      · rw [if_pos c10] at h
        refine J_aload_n (z := 1) dX3_atom_62 rfl rfl (q := 63) rfl ?_
        obtain ⟨r12, er12, h⟩ := bindS h
        refine J_getR dX3_atom_63 lRX3_21 ha0 rfl (by decide) er12 (q := 66) rfl (fun fr12 => ?_)
        refine J_dup dX3_atom_66 rfl (q := 67) rfl ?_
        refine J_getI dX3_atom_67 lRX3_76 fr12 rfl (q := 70) rfl ?_
        refine J_iconst (x := 1) dX3_atom_70 (by decide) (q := 71) rfl ?_
        refine J_iadd dX3_atom_71  (q := 72) rfl ?_
        refine J_putI dX3_atom_72 lRX3_76 (fun h => by cases h) fr12 rfl (q := 75) rfl ?_
        refine J_aload_n (z := 1) dX3_atom_75 rfl rfl (q := 76) rfl ?_
        refine J_iload_n (z := 2) dX3_atom_76 rfl rfl (q := 77) rfl ?_
        refine J_iconst (x := 1) dX3_atom_77 (by decide) (q := 78) rfl ?_
        refine J_iadd dX3_atom_78  (q := 79) rfl ?_
        obtain ⟨vk13, sk13, hk13, h⟩ := bnd2S h
        refine J_cVi (as := [.int (a1 + 1)]) dX3_atom_79 mRX3_52 ha0 (hrec.2.2.2.2.1 ha0 hk13) rfl (Nat.le_refl _) (Nat.le_of_ble_eq_true rfl) (Nat.le_of_ble_eq_true rfl) (q := 82) rfl ?_
        intro bk13
        refine J_if_eq (tgt := 101) dX3_atom_82 (by decide) (q := 85) rfl (fun c13 => ?_) (fun c13 => ?_)
        · rw [if_pos c13] at h
          refine J_iconst (x := 0) dX3_atom_101 (by decide) (q := 102) rfl ?_
          have h := Option.some.inj h
          subst h
          exact J_ireturn dX3_atom_102 rfl rfl rfl
        · rw [if_neg c13] at h
          refine J_aload_n (z := 1) dX3_atom_85 rfl rfl (q := 86) rfl ?_
          obtain ⟨r15, er15, h⟩ := bindS h
          refine J_getR dX3_atom_86 lRX3_21 ha0 rfl (by decide) er15 (q := 89) rfl (fun fr15 => ?_)
          refine J_bipush (x := 93) dX3_atom_89 (by decide) (q := 91) rfl ?_
          obtain ⟨vk16, sk16, hk16, h⟩ := bnd2S h
          refine J_cVi (as := [.int 93]) dX3_atom_91 mRX3_49 fr15 (tX7_expect fr15 hk16) rfl (by omega) (Nat.le_of_ble_eq_true rfl) (Nat.le_of_ble_eq_true rfl) (q := 94) rfl ?_
          intro bk16
          refine J_if_eq (tgt := 101) dX3_atom_94 (by decide) (q := 97) rfl (fun c16 => ?_) (fun c16 => ?_)
          · rw [if_pos c16] at h
            refine J_iconst (x := 0) dX3_atom_101 (by decide) (q := 102) rfl ?_
            have h := Option.some.inj h
            subst h
            exact J_ireturn dX3_atom_102 rfl rfl rfl
          · rw [if_neg c16] at h
            refine J_iconst (x := 1) dX3_atom_97 (by decide) (q := 98) rfl ?_
            refine J_goto (tgt := 102) dX3_atom_98 (by decide) ?_
            have h := Option.some.inj h
            subst h
            exact J_ireturn dX3_atom_102 rfl rfl rfl
      · rw [if_neg c10] at h
        refine J_aload_n (z := 1) dX3_atom_54 rfl rfl (q := 55) rfl ?_
        obtain ⟨r18, er18, h⟩ := bindS h
        refine J_getR dX3_atom_55 lRX3_21 ha0 rfl (by decide) er18 (q := 58) rfl (fun fr18 => ?_)
        obtain ⟨vk19, sk19, hk19, h⟩ := bnd2S h
        refine J_cVi (as := []) dX3_atom_58 mRX3_46 fr18 (tX7_wrongHere fr18 hk19) rfl (by omega) (Nat.le_of_ble_eq_true rfl) (Nat.le_of_ble_eq_true rfl) (q := 61) rfl ?_
        intro bk19
        have h := Option.some.inj h
        subst h
        exact J_ireturn dX3_atom_61 rfl bk19 rfl
  · rw [if_neg c2] at h
    refine J_aload_n (z := 1) dX3_atom_14 rfl rfl (q := 15) rfl ?_
    obtain ⟨r20, er20, h⟩ := bindS h
    refine J_getR dX3_atom_15 lRX3_21 ha0 rfl (by decide) er20 (q := 18) rfl (fun fr20 => ?_)
    refine J_dup dX3_atom_18 rfl (q := 19) rfl ?_
    refine J_getI dX3_atom_19 lRX3_76 fr20 rfl (q := 22) rfl ?_
    refine J_iconst (x := 1) dX3_atom_22 (by decide) (q := 23) rfl ?_
    refine J_iadd dX3_atom_23  (q := 24) rfl ?_
    refine J_putI dX3_atom_24 lRX3_76 (fun h => by cases h) fr20 rfl (q := 27) rfl ?_
    refine J_aload_n (z := 1) dX3_atom_27 rfl rfl (q := 28) rfl ?_
    refine J_bipush (x := 97) dX3_atom_28 (by decide) (q := 30) rfl ?_
    refine J_iload_n (z := 0) dX3_atom_30 rfl rfl (q := 31) rfl ?_
    obtain ⟨sk21, hk21, h⟩ := bindS h
    refine J_cVv (as := [.int 97, .int vk2]) dX3_atom_31 mRX3_62 ha0 (tX3_emit ha0 hk21) rfl (by omega) (Nat.le_of_ble_eq_true rfl) (Nat.le_of_ble_eq_true rfl) (q := 34) rfl ?_
    refine J_iconst (x := 1) dX3_atom_34 (by decide) (q := 35) rfl ?_
    have h := Option.some.inj h
    subst h
    exact J_ireturn dX3_atom_35 rfl rfl rfl

def gX3 : Nat → Nat → Nat → Int32 → Int32 → Mm → Option (Int32 × Mm)
  | 0, _, _, _, _, _ => none
  | k + 1, w, a0, a1, a2, σ => match w with
    | 0 => fX3_condition (gX3 k) a0 a1 a2 σ
    | 1 => fX3_truth (gX3 k) a0 a1 a2 σ
    | 2 => fX3_unit (gX3 k) a0 a1 a2 σ
    | 3 => fX3_nestedUnit (gX3 k) a0 a1 a2 σ
    | 4 => fX3_sum (gX3 k) a0 a1 σ
    | 5 => fX3_term (gX3 k) a0 a1 σ
    | 6 => fX3_atom (gX3 k) a0 a1 σ
    | _ => none
theorem tgX3 {X : XS} {n : Nat} : ∀ k : Nat, RECX3 X (9 + k) n (gX3 k) := by
  intro k
  induction k with
  | zero =>
    unfold RECX3
    exact ⟨fun _ h => (by cases h), fun _ h => (by cases h), fun _ h => (by cases h), fun _ h => (by cases h), fun _ h => (by cases h), fun _ h => (by cases h), fun _ h => (by cases h)⟩
  | succ k ih =>
    unfold RECX3
    exact ⟨fun h0 h => tX3_condition (Nat.le_add_right 9 k) ih h0 h, fun h0 h => tX3_truth (Nat.le_add_right 9 k) ih h0 h, fun h0 h => tX3_unit (Nat.le_add_right 9 k) ih h0 h, fun h0 h => tX3_nestedUnit (Nat.le_add_right 9 k) ih h0 h, fun h0 h => tX3_sum (Nat.le_add_right 9 k) ih h0 h, fun h0 h => tX3_term (Nat.le_add_right 9 k) ih h0 h, fun h0 h => tX3_atom (Nat.le_add_right 9 k) ih h0 h⟩
