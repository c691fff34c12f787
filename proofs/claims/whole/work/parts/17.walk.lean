def fX10_fails (a0 : Nat) (σ : Mm) : Option (Int32 × Mm) :=
  if (gI σ a0 11) = (-1) then some (0, (sI σ a0 11 (gI σ a0 10))) else some (0, σ)
set_option maxRecDepth 20000 in
set_option maxHeartbeats 2000000 in
theorem tX10_fails {X : XS} {n : Nat} {σ : Mm} {a0 : Nat} (ha0 : RT n a0 110) {res : Int32 × Mm} (h : fX10_fails a0 σ = some res) : MT X yX10_fails mX10_fails 1 0 0 [.ref a0] n σ (n, some (.int res.1), res.2) := by
  unfold fX10_fails at h
  refine MT_of (by decide +kernel) rfl (fun h => by cases h) (Nat.le_of_ble_eq_true rfl) ?_
  show J X mX10_fails 1 0 0 (n, some (.int res.1), res.2) 0 [(0, .ref a0)] [] n σ
  refine J_aload_n (z := 0) dX10_fails_0 rfl rfl (q := 1) rfl ?_
  refine J_getI dX10_fails_1 lRX10_128 ha0 rfl (q := 4) rfl ?_
  refine J_iconst (x := (-1)) dX10_fails_4 (by decide) (q := 5) rfl ?_
  refine J_icmp_ne (tgt := 16) dX10_fails_5 (by decide) (q := 8) rfl (fun c0 => ?_) (fun c0 => ?_)
  · rw [if_neg c0] at h
    refine J_iconst (x := 0) dX10_fails_16 (by decide) (q := 17) rfl ?_
    have h := Option.some.inj h
    subst h
    exact J_ireturn dX10_fails_17 rfl rfl rfl
  · rw [if_pos c0] at h
    refine J_aload_n (z := 0) dX10_fails_8 rfl rfl (q := 9) rfl ?_
    refine J_aload_n (z := 0) dX10_fails_9 rfl rfl (q := 10) rfl ?_
    refine J_getI dX10_fails_10 lRX10_119 ha0 rfl (q := 13) rfl ?_
    refine J_putI dX10_fails_13 lRX10_128 (fun h => by cases h) ha0 rfl (q := 16) rfl ?_
    refine J_iconst (x := 0) dX10_fails_16 (by decide) (q := 17) rfl ?_
    have h := Option.some.inj h
    subst h
    exact J_ireturn dX10_fails_17 rfl rfl rfl

def fX10_goesIn (a0 : Nat) (σ : Mm) : Option (Int32 × Mm) :=
  if (gI σ a0 12) = 6 then bnd2 (fX10_fails a0 σ) fun vk2 sk2 => some (vk2, sk2) else some (1, (sI (sI σ a0 12 ((gI σ a0 12) + 1)) a0 10 ((gI (sI σ a0 12 ((gI σ a0 12) + 1)) a0 10) + 1)))
set_option maxRecDepth 20000 in
set_option maxHeartbeats 2000000 in
theorem tX10_goesIn {X : XS} {n : Nat} {σ : Mm} {a0 : Nat} (ha0 : RT n a0 110) {res : Int32 × Mm} (h : fX10_goesIn a0 σ = some res) : MT X yX10_goesIn mX10_goesIn 2 0 0 [.ref a0] n σ (n, some (.int res.1), res.2) := by
  unfold fX10_goesIn at h
  refine MT_of (by decide +kernel) rfl (fun h => by cases h) (Nat.le_of_ble_eq_true rfl) ?_
  show J X mX10_goesIn 2 0 0 (n, some (.int res.1), res.2) 0 [(0, .ref a0)] [] n σ
  refine J_aload_n (z := 0) dX10_goesIn_0 rfl rfl (q := 1) rfl ?_
  refine J_getI dX10_goesIn_1 lRX10_131 ha0 rfl (q := 4) rfl ?_
  refine J_bipush (x := 6) dX10_goesIn_4 (by decide) (q := 6) rfl ?_
  refine J_icmp_ne (tgt := 14) dX10_goesIn_6 (by decide) (q := 9) rfl (fun c0 => ?_) (fun c0 => ?_)
  · rw [if_neg c0] at h
    refine J_aload_n (z := 0) dX10_goesIn_14 rfl rfl (q := 15) rfl ?_
    refine J_dup dX10_goesIn_15 rfl (q := 16) rfl ?_
    refine J_getI dX10_goesIn_16 lRX10_131 ha0 rfl (q := 19) rfl ?_
    refine J_iconst (x := 1) dX10_goesIn_19 (by decide) (q := 20) rfl ?_
    refine J_iadd dX10_goesIn_20  (q := 21) rfl ?_
    refine J_putI dX10_goesIn_21 lRX10_131 (fun h => by cases h) ha0 rfl (q := 24) rfl ?_
    refine J_aload_n (z := 0) dX10_goesIn_24 rfl rfl (q := 25) rfl ?_
    refine J_dup dX10_goesIn_25 rfl (q := 26) rfl ?_
    refine J_getI dX10_goesIn_26 lRX10_119 ha0 rfl (q := 29) rfl ?_
    refine J_iconst (x := 1) dX10_goesIn_29 (by decide) (q := 30) rfl ?_
    refine J_iadd dX10_goesIn_30  (q := 31) rfl ?_
    refine J_putI dX10_goesIn_31 lRX10_119 (fun h => by cases h) ha0 rfl (q := 34) rfl ?_
    refine J_iconst (x := 1) dX10_goesIn_34 (by decide) (q := 35) rfl ?_
    have h := Option.some.inj h
    subst h
    exact J_ireturn dX10_goesIn_35 rfl rfl rfl
  · rw [if_pos c0] at h
    refine J_aload_n (z := 0) dX10_goesIn_9 rfl rfl (q := 10) rfl ?_
    obtain ⟨vk2, sk2, hk2, h⟩ := bnd2S h
    refine J_cVi (as := []) dX10_goesIn_10 mRX10_134 ha0 (tX10_fails ha0 hk2) rfl (Nat.le_of_ble_eq_true rfl) (Nat.le_of_ble_eq_true rfl) (Nat.le_of_ble_eq_true rfl) (q := 13) rfl ?_
    intro bk2
    have h := Option.some.inj h
    subst h
    exact J_ireturn dX10_goesIn_13 rfl bk2 rfl

def fX10_takes_b16 (a0 : Nat) (σ : Mm) : Option (Int32 × Mm) :=
  bnd2 (fX10_fails a0 σ) fun vk2 sk2 => some (vk2, sk2)
set_option maxRecDepth 20000 in
set_option maxHeartbeats 2000000 in
theorem tX10_takes_b16 {X : XS} {n : Nat} {σ : Mm} {a0 : Nat} (ha0 : RT n a0 110) {res : Int32 × Mm} (h : fX10_takes_b16 a0 σ = some res) : J X mX10_takes 2 0 0 (n, some (.int res.1), res.2) 16 [(0, .ref a0)] [] n σ := by
  unfold fX10_takes_b16 at h
  refine J_aload_n (z := 0) dX10_takes_16 rfl rfl (q := 17) rfl ?_
  obtain ⟨vk2, sk2, hk2, h⟩ := bnd2S h
  refine J_cVi (as := []) dX10_takes_17 mRX10_134 ha0 (tX10_fails ha0 hk2) rfl (Nat.le_of_ble_eq_true rfl) (Nat.le_of_ble_eq_true rfl) (Nat.le_of_ble_eq_true rfl) (q := 20) rfl ?_
  intro bk2
  have h := Option.some.inj h
  subst h
  exact J_ireturn dX10_takes_20 rfl bk2 rfl

def fX10_takes (a0 : Nat) (a1 : Int32) (σ : Mm) : Option (Int32 × Mm) :=
  if (gI σ a0 11) = (-1) then bnd2 (fX10_look a0 σ) fun vk3 sk3 => if vk3 = a1 then some (1, (sI sk3 a0 10 ((gI sk3 a0 10) + 1))) else fX10_takes_b16 a0 sk3 else fX10_takes_b16 a0 σ
set_option maxRecDepth 20000 in
set_option maxHeartbeats 2000000 in
theorem tX10_takes {X : XS} {n : Nat} {σ : Mm} {a0 : Nat} {a1 : Int32} (ha0 : RT n a0 110) {res : Int32 × Mm} (h : fX10_takes a0 a1 σ = some res) : MT X yX10_takes mX10_takes 2 0 0 [.ref a0, .int a1] n σ (n, some (.int res.1), res.2) := by
  unfold fX10_takes at h
  refine MT_of (by decide +kernel) rfl (fun h => by cases h) (Nat.le_of_ble_eq_true rfl) ?_
  show J X mX10_takes 2 0 0 (n, some (.int res.1), res.2) 0 [(0, .ref a0), (1, .int a1)] [] n σ
  refine J_aload_n (z := 0) dX10_takes_0 rfl rfl (q := 1) rfl ?_
  refine J_getI dX10_takes_1 lRX10_128 ha0 rfl (q := 4) rfl ?_
  refine J_iconst (x := (-1)) dX10_takes_4 (by decide) (q := 5) rfl ?_
  refine J_icmp_ne (tgt := 16) dX10_takes_5 (by decide) (q := 8) rfl (fun c0 => ?_) (fun c0 => ?_)
  · rw [if_neg c0] at h
    refine J_pick [0] rfl ?_
    exact tX10_takes_b16 ha0 h
  · rw [if_pos c0] at h
    refine J_aload_n (z := 0) dX10_takes_8 rfl rfl (q := 9) rfl ?_
    obtain ⟨vk3, sk3, hk3, h⟩ := bnd2S h
    refine J_cVi (as := []) dX10_takes_9 mRX10_138 ha0 (tX10_look ha0 hk3) rfl (Nat.le_of_ble_eq_true rfl) (Nat.le_of_ble_eq_true rfl) (Nat.le_of_ble_eq_true rfl) (q := 12) rfl ?_
    intro bk3
    refine J_iload_n (z := 1) dX10_takes_12 rfl rfl (q := 13) rfl ?_
    refine J_icmp_eq (tgt := 21) dX10_takes_13 (by decide) (q := 16) rfl (fun c3 => ?_) (fun c3 => ?_)
    · rw [if_pos c3] at h
      refine J_aload_n (z := 0) dX10_takes_21 rfl rfl (q := 22) rfl ?_
      refine J_dup dX10_takes_22 rfl (q := 23) rfl ?_
      refine J_getI dX10_takes_23 lRX10_119 ha0 rfl (q := 26) rfl ?_
      refine J_iconst (x := 1) dX10_takes_26 (by decide) (q := 27) rfl ?_
      refine J_iadd dX10_takes_27  (q := 28) rfl ?_
      refine J_putI dX10_takes_28 lRX10_119 (fun h => by cases h) ha0 rfl (q := 31) rfl ?_
      refine J_iconst (x := 1) dX10_takes_31 (by decide) (q := 32) rfl ?_
      have h := Option.some.inj h
      subst h
      exact J_ireturn dX10_takes_32 rfl rfl rfl
    · rw [if_neg c3] at h
      refine J_pick [0] rfl ?_
      exact tX10_takes_b16 ha0 h

def fX10_isDigit (a0 : Nat) (σ : Mm) : Option (Int32) :=
  if (gI σ a0 9) ≤ (gI σ a0 10) then some 0 else (gR σ a0 5).bind fun r2 => if ixB ((gI σ a0 8) + (gI σ a0 10)) (ln r2) = true then if (gI σ r2 (Int32.toNatClampNeg ((gI σ a0 8) + (gI σ a0 10)))) < 48 then some 0 else if ixB ((gI σ a0 8) + (gI σ a0 10)) (ln r2) = true then if 57 < (gI σ r2 (Int32.toNatClampNeg ((gI σ a0 8) + (gI σ a0 10)))) then some 0 else some 1 else none else none
set_option maxRecDepth 20000 in
set_option maxHeartbeats 2000000 in
theorem tX10_isDigit {X : XS} {n : Nat} {σ : Mm} {a0 : Nat} (ha0 : RT n a0 110) {res : Int32} (h : fX10_isDigit a0 σ = some res) : MT X yX10_isDigit mX10_isDigit 1 0 0 [.ref a0] n σ (n, some (.int res), σ) := by
  unfold fX10_isDigit at h
  refine MT_of (by decide +kernel) rfl (fun h => by cases h) (Nat.le_of_ble_eq_true rfl) ?_
  show J X mX10_isDigit 1 0 0 (n, some (.int res), σ) 0 [(0, .ref a0)] [] n σ
  refine J_aload_n (z := 0) dX10_isDigit_0 rfl rfl (q := 1) rfl ?_
  refine J_getI dX10_isDigit_1 lRX10_119 ha0 rfl (q := 4) rfl ?_
  refine J_aload_n (z := 0) dX10_isDigit_4 rfl rfl (q := 5) rfl ?_
  refine J_getI dX10_isDigit_5 lRX10_122 ha0 rfl (q := 8) rfl ?_
  refine J_icmp_ge (tgt := 53) dX10_isDigit_8 (by decide) (q := 11) rfl (fun c0 => ?_) (fun c0 => ?_)
  · rw [if_pos c0] at h
    refine J_iconst (x := 0) dX10_isDigit_53 (by decide) (q := 54) rfl ?_
    have h := Option.some.inj h
    subst h
    exact J_ireturn dX10_isDigit_54 rfl rfl rfl
  · rw [if_neg c0] at h
    refine J_aload_n (z := 0) dX10_isDigit_11 rfl rfl (q := 12) rfl ?_
    obtain ⟨r2, er2, h⟩ := bindS h
    refine J_getR dX10_isDigit_12 lRX10_23 ha0 rfl (by decide) er2 (q := 15) rfl (fun fr2 => ?_)
    refine J_aload_n (z := 0) dX10_isDigit_15 rfl rfl (q := 16) rfl ?_
    refine J_getI dX10_isDigit_16 lRX10_125 ha0 rfl (q := 19) rfl ?_
    refine J_aload_n (z := 0) dX10_isDigit_19 rfl rfl (q := 20) rfl ?_
    refine J_getI dX10_isDigit_20 lRX10_119 ha0 rfl (q := 23) rfl ?_
    refine J_iadd dX10_isDigit_23  (q := 24) rfl ?_
    obtain ⟨g3, h⟩ := iteS h
    refine J_bald dX10_isDigit_24 fr2 (ixB_ok g3) (q := 25) rfl ?_
    refine J_bipush (x := 48) dX10_isDigit_25 (by decide) (q := 27) rfl ?_
    refine J_icmp_lt (tgt := 53) dX10_isDigit_27 (by decide) (q := 30) rfl (fun c3 => ?_) (fun c3 => ?_)
    · rw [if_pos c3] at h
      refine J_iconst (x := 0) dX10_isDigit_53 (by decide) (q := 54) rfl ?_
      have h := Option.some.inj h
      subst h
      exact J_ireturn dX10_isDigit_54 rfl rfl rfl
    · rw [if_neg c3] at h
      refine J_aload_n (z := 0) dX10_isDigit_30 rfl rfl (q := 31) rfl ?_
      refine J_getR dX10_isDigit_31 lRX10_23 ha0 rfl (by decide) er2 (q := 34) rfl (fun _ => ?_)
      refine J_aload_n (z := 0) dX10_isDigit_34 rfl rfl (q := 35) rfl ?_
      refine J_getI dX10_isDigit_35 lRX10_125 ha0 rfl (q := 38) rfl ?_
      refine J_aload_n (z := 0) dX10_isDigit_38 rfl rfl (q := 39) rfl ?_
      refine J_getI dX10_isDigit_39 lRX10_119 ha0 rfl (q := 42) rfl ?_
      refine J_iadd dX10_isDigit_42  (q := 43) rfl ?_
      obtain ⟨g5, h⟩ := iteS h
      refine J_bald dX10_isDigit_43 fr2 (ixB_ok g5) (q := 44) rfl ?_
      refine J_bipush (x := 57) dX10_isDigit_44 (by decide) (q := 46) rfl ?_
      refine J_icmp_gt (tgt := 53) dX10_isDigit_46 (by decide) (q := 49) rfl (fun c5 => ?_) (fun c5 => ?_)
      · rw [if_pos c5] at h
        refine J_iconst (x := 0) dX10_isDigit_53 (by decide) (q := 54) rfl ?_
        have h := Option.some.inj h
        subst h
        exact J_ireturn dX10_isDigit_54 rfl rfl rfl
      · rw [if_neg c5] at h
        refine J_iconst (x := 1) dX10_isDigit_49 (by decide) (q := 50) rfl ?_
        refine J_goto (tgt := 54) dX10_isDigit_50 (by decide) ?_
        have h := Option.some.inj h
        subst h
        exact J_ireturn dX10_isDigit_54 rfl rfl rfl

def fX10_within (a0 : Int64) (σ : Mm) : Option (Int32) :=
  some (Int64.toInt32 (maxL (-1000000) (minL 1000000 a0)))
set_option maxRecDepth 20000 in
set_option maxHeartbeats 2000000 in
theorem tX10_within {X : XS} {n : Nat} {σ : Mm} {a0 : Int64} {res : Int32} (h : fX10_within a0 σ = some res) : MT X yX10_within mX10_within 1 0 0 [.long a0] n σ (n, some (.int res), σ) := by
  unfold fX10_within at h
  refine MT_of (by decide +kernel) rfl (fun h => by cases h) (Nat.le_of_ble_eq_true rfl) ?_
  show J X mX10_within 1 0 0 (n, some (.int res), σ) 0 [(0, .long a0)] [] n σ
  refine J_ldc2 (x := (-1000000)) dX10_within_0 kRX10_141 (q := 3) rfl ?_
  refine J_ldc2 (x := 1000000) dX10_within_3 kRX10_143 (q := 6) rfl ?_
  refine J_lload_n (z := 0) dX10_within_6 rfl rfl (q := 7) rfl ?_
  refine J_mminL dX10_within_7 pRX10_145 q_static_mminL q_init_math q_code_mminL (Nat.le_of_ble_eq_true rfl) (Nat.le_of_ble_eq_true rfl) (q := 10) rfl ?_
  refine J_mmaxL dX10_within_10 pRX10_151 q_static_mmaxL q_init_math q_code_mmaxL (Nat.le_of_ble_eq_true rfl) (Nat.le_of_ble_eq_true rfl) (q := 13) rfl ?_
  refine J_l2i dX10_within_13  (q := 14) rfl ?_
  have h := Option.some.inj h
  subst h
  exact J_ireturn dX10_within_14 rfl rfl rfl

def fX10_isSign (a0 : Int32) (σ : Mm) : Option (Int32) :=
  if a0 = 61 then some 1 else if a0 = 60 then some 1 else if a0 = 62 then some 1 else some 0
set_option maxRecDepth 20000 in
set_option maxHeartbeats 2000000 in
theorem tX10_isSign {X : XS} {n : Nat} {σ : Mm} {a0 : Int32} {res : Int32} (h : fX10_isSign a0 σ = some res) : MT X yX10_isSign mX10_isSign 1 0 0 [.int a0] n σ (n, some (.int res), σ) := by
  unfold fX10_isSign at h
  refine MT_of (by decide +kernel) rfl (fun h => by cases h) (Nat.le_of_ble_eq_true rfl) ?_
  show J X mX10_isSign 1 0 0 (n, some (.int res), σ) 0 [(0, .int a0)] [] n σ
  refine J_iload_n (z := 0) dX10_isSign_0 rfl rfl (q := 1) rfl ?_
  refine J_bipush (x := 61) dX10_isSign_1 (by decide) (q := 3) rfl ?_
  refine J_icmp_eq (tgt := 18) dX10_isSign_3 (by decide) (q := 6) rfl (fun c0 => ?_) (fun c0 => ?_)
  · rw [if_pos c0] at h
    refine J_iconst (x := 1) dX10_isSign_18 (by decide) (q := 19) rfl ?_
    refine J_goto (tgt := 23) dX10_isSign_19 (by decide) ?_
    have h := Option.some.inj h
    subst h
    exact J_ireturn dX10_isSign_23 rfl rfl rfl
  · rw [if_neg c0] at h
    refine J_iload_n (z := 0) dX10_isSign_6 rfl rfl (q := 7) rfl ?_
    refine J_bipush (x := 60) dX10_isSign_7 (by decide) (q := 9) rfl ?_
    refine J_icmp_eq (tgt := 18) dX10_isSign_9 (by decide) (q := 12) rfl (fun c1 => ?_) (fun c1 => ?_)
    · rw [if_pos c1] at h
      refine J_iconst (x := 1) dX10_isSign_18 (by decide) (q := 19) rfl ?_
      refine J_goto (tgt := 23) dX10_isSign_19 (by decide) ?_
      have h := Option.some.inj h
      subst h
      exact J_ireturn dX10_isSign_23 rfl rfl rfl
    · rw [if_neg c1] at h
      refine J_iload_n (z := 0) dX10_isSign_12 rfl rfl (q := 13) rfl ?_
      refine J_bipush (x := 62) dX10_isSign_13 (by decide) (q := 15) rfl ?_
      refine J_icmp_ne (tgt := 22) dX10_isSign_15 (by decide) (q := 18) rfl (fun c2 => ?_) (fun c2 => ?_)
      · rw [if_neg c2] at h
        refine J_iconst (x := 0) dX10_isSign_22 (by decide) (q := 23) rfl ?_
        have h := Option.some.inj h
        subst h
        exact J_ireturn dX10_isSign_23 rfl rfl rfl
      · rw [if_pos c2] at h
        refine J_iconst (x := 1) dX10_isSign_18 (by decide) (q := 19) rfl ?_
        refine J_goto (tgt := 23) dX10_isSign_19 (by decide) ?_
        have h := Option.some.inj h
        subst h
        exact J_ireturn dX10_isSign_23 rfl rfl rfl

def RECX10p (X : XS) (dr n : Nat) (rec : Nat → Nat → Int32 → Int32 → Mm → Option (Int32 × Mm)) : Prop :=
  (∀ {a0 : Nat} {σ : Mm} {res : Int32 × Mm}, RT n a0 110 → rec 0 a0 0 0 σ = some res → MT X yX10_atom mX10_atom dr 0 0 [.ref a0] n σ (n, some (.int res.1), res.2)) ∧
  (∀ {a0 : Nat} {σ : Mm} {res : Int32 × Mm}, RT n a0 110 → rec 1 a0 0 0 σ = some res → MT X yX10_term mX10_term dr 0 0 [.ref a0] n σ (n, some (.int res.1), res.2)) ∧
  (∀ {a0 : Nat} {σ : Mm} {res : Int32 × Mm}, RT n a0 110 → rec 2 a0 0 0 σ = some res → MT X yX10_sum mX10_sum dr 0 0 [.ref a0] n σ (n, some (.int res.1), res.2)) ∧
  (∀ {a0 : Nat} {a1 : Int32} {a2 : Int32} {σ : Mm} {res : Int32 × Mm}, RT n a0 110 → rec 3 a0 a1 a2 σ = some res → MT X yX10_compares mX10_compares dr 0 0 [.ref a0, .int a1, .int a2] n σ (n, some (.int res.1), res.2)) ∧
  (∀ {a0 : Nat} {σ : Mm} {res : Int32 × Mm}, RT n a0 110 → rec 4 a0 0 0 σ = some res → MT X yX10_unit mX10_unit dr 0 0 [.ref a0] n σ (n, some (.int res.1), res.2)) ∧
  (∀ {a0 : Nat} {a1 : Int32} {a2 : Int32} {σ : Mm} {res : Int32 × Mm}, RT n a0 110 → rec 5 a0 a1 a2 σ = some res → MT X yX10_part mX10_part dr 0 0 [.ref a0, .int a1, .int a2] n σ (n, some (.int res.1), res.2)) ∧
  (∀ {a0 : Nat} {a1 : Int32} {a2 : Int32} {σ : Mm} {res : Int32 × Mm}, RT n a0 110 → rec 6 a0 a1 a2 σ = some res → MT X yX10_condition mX10_condition dr 0 0 [.ref a0, .int a1, .int a2] n σ (n, some (.int res.1), res.2))
def fX10_atom_l90 (rec : Nat → Nat → Int32 → Int32 → Mm → Option (Int32 × Mm)) (a0 : Nat) (a2 : Int32) (a3 : Int32) (σ : Mm) : Option ((Int32 × Int32 × Mm) ⊕ ((Int32 × Mm) ⊕ Mm)) :=
  (fX10_isDigit a0 σ).bind fun vk7 => if vk7 = 0 then some (Sum.inr (Sum.inl (a2, σ))) else if (gI σ a0 11) = (-1) then if a3 = 4 then some (Sum.inr (Sum.inr σ)) else (gR σ a0 5).bind fun r11 => if ixB ((gI σ a0 8) + (gI σ a0 10)) (ln r11) = true then some (Sum.inl ((((10 * a2) + (gI σ r11 (Int32.toNatClampNeg ((gI σ a0 8) + (gI σ a0 10))))) - 48), (a3 + 1), (sI σ a0 10 ((gI σ a0 10) + 1)))) else none else some (Sum.inr (Sum.inl (a2, σ)))
set_option maxRecDepth 20000 in
set_option maxHeartbeats 2000000 in
theorem tX10_atom_l90 {X : XS} {n : Nat} {σ : Mm} {F : Nat × Option Value × Mm} {dr : Nat} {rec : Nat → Nat → Int32 → Int32 → Mm → Option (Int32 × Mm)} (hD : 8 ≤ dr) (hrec : RECX10p X dr n rec) {a0 : Nat} {a2 : Int32} {a3 : Int32} (ha0 : RT n a0 110) {res : (Int32 × Int32 × Mm) ⊕ ((Int32 × Mm) ⊕ Mm)} (h : fX10_atom_l90 rec a0 a2 a3 σ = some res) (hc : ∀ (b2 : Int32) (b3 : Int32) (s : Mm), res = .inl (b2, b3, s) → J X mX10_atom (dr + 1) 0 0 F 90 [(0, .ref a0), (2, .int b2), (3, .int b3)] [] n s) (he0 : ∀  (s : Mm), res = .inr (Sum.inr s) → J X mX10_atom (dr + 1) 0 0 F 110 [(0, .ref a0)] [] n s) (hr : ∀ (v : Int32) (s : Mm), res = .inr (Sum.inl (v, s)) → F = (n, some (.int v), s)) : J X mX10_atom (dr + 1) 0 0 F 90 [(0, .ref a0), (2, .int a2), (3, .int a3)] [] n σ := by
  unfold fX10_atom_l90 at h
  refine J_aload_n (z := 0) dX10_atom_90 rfl rfl (q := 91) rfl ?_
  obtain ⟨vk7, hk7, h⟩ := bindS h
  refine J_cVi (as := []) dX10_atom_91 mRX10_168 ha0 (tX10_isDigit ha0 hk7) rfl (by omega) (Nat.le_of_ble_eq_true rfl) (Nat.le_of_ble_eq_true rfl) (q := 94) rfl ?_
  intro bk7
  refine J_if_eq (tgt := 156) dX10_atom_94 (by decide) (q := 97) rfl (fun c7 => ?_) (fun c7 => ?_)
  · rw [if_pos c7] at h
    refine J_iload_n (z := 1) dX10_atom_156 rfl rfl (q := 157) rfl ?_
    have h := Option.some.inj h
    exact J_ireturn dX10_atom_157 rfl rfl (hr _ _ h.symm)
  · rw [if_neg c7] at h
    refine J_aload_n (z := 0) dX10_atom_97 rfl rfl (q := 98) rfl ?_
    refine J_getI dX10_atom_98 lRX10_128 ha0 rfl (q := 101) rfl ?_
    refine J_iconst (x := (-1)) dX10_atom_101 (by decide) (q := 102) rfl ?_
    refine J_icmp_ne (tgt := 156) dX10_atom_102 (by decide) (q := 105) rfl (fun c8 => ?_) (fun c8 => ?_)
    · rw [if_neg c8] at h
      refine J_iload_n (z := 1) dX10_atom_156 rfl rfl (q := 157) rfl ?_
      have h := Option.some.inj h
      exact J_ireturn dX10_atom_157 rfl rfl (hr _ _ h.symm)
    · rw [if_pos c8] at h
      refine J_iload_n (z := 2) dX10_atom_105 rfl rfl (q := 106) rfl ?_
      refine J_iconst (x := 4) dX10_atom_106 (by decide) (q := 107) rfl ?_
      refine J_icmp_ne (tgt := 117) dX10_atom_107 (by decide) (q := 110) rfl (fun c9 => ?_) (fun c9 => ?_)
      · rw [if_neg c9] at h
        refine J_bipush (x := 10) dX10_atom_117 (by decide) (q := 119) rfl ?_
        refine J_iload_n (z := 1) dX10_atom_119 rfl rfl (q := 120) rfl ?_
        refine J_imul dX10_atom_120  (q := 121) rfl ?_
        refine J_aload_n (z := 0) dX10_atom_121 rfl rfl (q := 122) rfl ?_
        obtain ⟨r11, er11, h⟩ := bindS h
        refine J_getR dX10_atom_122 lRX10_23 ha0 rfl (by decide) er11 (q := 125) rfl (fun fr11 => ?_)
        refine J_aload_n (z := 0) dX10_atom_125 rfl rfl (q := 126) rfl ?_
        refine J_getI dX10_atom_126 lRX10_125 ha0 rfl (q := 129) rfl ?_
        refine J_aload_n (z := 0) dX10_atom_129 rfl rfl (q := 130) rfl ?_
        refine J_getI dX10_atom_130 lRX10_119 ha0 rfl (q := 133) rfl ?_
        refine J_iadd dX10_atom_133  (q := 134) rfl ?_
        obtain ⟨g12, h⟩ := iteS h
        refine J_bald dX10_atom_134 fr11 (ixB_ok g12) (q := 135) rfl ?_
        refine J_iadd dX10_atom_135  (q := 136) rfl ?_
        refine J_bipush (x := 48) dX10_atom_136 (by decide) (q := 138) rfl ?_
        refine J_isub dX10_atom_138  (q := 139) rfl ?_
        refine J_istore_n (lv' := [(2, .int (((10 * a2) + (gI σ r11 (Int32.toNatClampNeg ((gI σ a0 8) + (gI σ a0 10))))) - 48)), (0, .ref a0), (3, .int a3)]) dX10_atom_139 rfl (by decide) rfl (q := 140) rfl ?_
        refine J_aload_n (z := 1) dX10_atom_140 rfl rfl (q := 141) rfl ?_
        refine J_dup dX10_atom_141 rfl (q := 142) rfl ?_
        refine J_getI dX10_atom_142 lRX10_119 ha0 rfl (q := 145) rfl ?_
        refine J_iconst (x := 1) dX10_atom_145 (by decide) (q := 146) rfl ?_
        refine J_iadd dX10_atom_146  (q := 147) rfl ?_
        refine J_putI dX10_atom_147 lRX10_119 (fun h => by cases h) ha0 rfl (q := 150) rfl ?_
        refine J_iinc (z := 2) (y := (a3 + 1)) (lv' := [(3, .int (a3 + 1)), (2, .int (((10 * a2) + (gI σ r11 (Int32.toNatClampNeg ((gI σ a0 8) + (gI σ a0 10))))) - 48)), (0, .ref a0)]) dX10_atom_150 rfl rfl (by decide) rfl (q := 153) rfl ?_
        refine J_goto (tgt := 90) dX10_atom_153 (by decide) ?_
        have h := Option.some.inj h
        refine J_pick [2, 1, 0] rfl ?_
        exact hc _ _ _ h.symm
      · rw [if_pos c9] at h
        have h := Option.some.inj h
        refine J_pick [0] rfl ?_
        exact he0 _ h.symm

def fX10_atom_w90 (rec : Nat → Nat → Int32 → Int32 → Mm → Option (Int32 × Mm)) (a0 : Nat) (a2 : Int32) (a3 : Int32) (σ : Mm) : Option ((Int32 × Mm) ⊕ Mm) :=
  wh (fun a : Int32 × Int32 × Mm => fX10_atom_l90 rec a0 a.1 a.2.1 a.2.2) BIG (a2, a3, σ)
set_option maxRecDepth 20000 in
set_option maxHeartbeats 2000000 in
theorem tX10_atom_w90 {X : XS} {n : Nat} {σ : Mm} {F : Nat × Option Value × Mm} {dr : Nat} {rec : Nat → Nat → Int32 → Int32 → Mm → Option (Int32 × Mm)} (hD : 8 ≤ dr) (hrec : RECX10p X dr n rec) {a0 : Nat} {a2 : Int32} {a3 : Int32} (ha0 : RT n a0 110) {res : (Int32 × Mm) ⊕ Mm} (h : fX10_atom_w90 rec a0 a2 a3 σ = some res) (he0 : ∀  (s : Mm), res = (Sum.inr s) → J X mX10_atom (dr + 1) 0 0 F 110 [(0, .ref a0)] [] n s) (hr : ∀ (v : Int32) (s : Mm), res = (Sum.inl (v, s)) → F = (n, some (.int v), s)) : J X mX10_atom (dr + 1) 0 0 F 90 [(0, .ref a0), (2, .int a2), (3, .int a3)] [] n σ := by
  unfold fX10_atom_w90 at h
  refine wh_rule (P := fun a : Int32 × Int32 × Mm => J X mX10_atom (dr + 1) 0 0 F 90 [(0, .ref a0), (2, .int a.1), (3, .int a.2.1)] [] n a.2.2) (K := fun b => b = res) ?_ _ _ _ h rfl
  intro a
  refine ⟨fun a2 hb hP => ?_, fun b hb hK => ?_⟩
  · exact tX10_atom_l90 hD hrec ha0 hb (fun _ _ _ e => by cases e; exact hP) (fun _ e => by cases e) (fun _ _ e => by cases e)
  · subst hK
    exact tX10_atom_l90 hD hrec ha0 hb (fun _ _ _ e => by cases e) (fun v0 e => he0 v0 (Sum.inr.inj e)) (fun v0 v1 e => hr v0 v1 (Sum.inr.inj e))

def fX10_atom_b86 (rec : Nat → Nat → Int32 → Int32 → Mm → Option (Int32 × Mm)) (a0 : Nat) (σ : Mm) : Option (Int32 × Mm) :=
  (fX10_atom_w90 rec a0 0 0 σ).bind (Sum.elim (fun eo130 => some eo130) (fun eo131 => (fun so13 => bnd2 (fX10_fails a0 so13) fun vk14 sk14 => some (0, sk14)) eo131))
set_option maxRecDepth 20000 in
set_option maxHeartbeats 2000000 in
theorem tX10_atom_b86 {X : XS} {n : Nat} {σ : Mm} {dr : Nat} {rec : Nat → Nat → Int32 → Int32 → Mm → Option (Int32 × Mm)} (hD : 8 ≤ dr) (hrec : RECX10p X dr n rec) {a0 : Nat} (ha0 : RT n a0 110) {res : Int32 × Mm} (h : fX10_atom_b86 rec a0 σ = some res) : J X mX10_atom (dr + 1) 0 0 (n, some (.int res.1), res.2) 86 [(0, .ref a0)] [] n σ := by
  unfold fX10_atom_b86 at h
  refine J_iconst (x := 0) dX10_atom_86 (by decide) (q := 87) rfl ?_
  refine J_istore_n (lv' := [(2, .int 0), (0, .ref a0)]) dX10_atom_87 rfl (by decide) rfl (q := 88) rfl ?_
  refine J_iconst (x := 0) dX10_atom_88 (by decide) (q := 89) rfl ?_
  refine J_istore_n (lv' := [(3, .int 0), (2, .int 0), (0, .ref a0)]) dX10_atom_89 rfl (by decide) rfl (q := 90) rfl ?_
  obtain ⟨o13, hlo13, h⟩ := bindS h
  refine J_pick [2, 1, 0] rfl ?_
  refine tX10_atom_w90 hD hrec ha0 hlo13 ?_ ?_
  · intro so13 qo13
    rw [qo13] at h
    try dsimp only [Sum.elim_inl, Sum.elim_inr] at h
    refine J_aload_n (z := 0) dX10_atom_110 rfl rfl (q := 111) rfl ?_
    obtain ⟨vk14, sk14, hk14, h⟩ := bnd2S h
    refine J_cVi (as := []) dX10_atom_111 mRX10_134 ha0 (tX10_fails ha0 hk14) rfl (by omega) (Nat.le_of_ble_eq_true rfl) (Nat.le_of_ble_eq_true rfl) (q := 114) rfl ?_
    intro bk14
    refine J_pop dX10_atom_114 rfl (q := 115) rfl ?_
    refine J_iconst (x := 0) dX10_atom_115 (by decide) (q := 116) rfl ?_
    have h := Option.some.inj h
    subst h
    exact J_ireturn dX10_atom_116 rfl rfl rfl
  · intro vo13 so13 qo13
    rw [qo13] at h
    try dsimp only [Sum.elim_inl, Sum.elim_inr] at h
    have h := Option.some.inj h
    subst h
    rfl

def fX10_atom (rec : Nat → Nat → Int32 → Int32 → Mm → Option (Int32 × Mm)) (a0 : Nat) (σ : Mm) : Option (Int32 × Mm) :=
  bnd2 (fX10_look a0 σ) fun vk1 sk1 => (fX10_isAmong (1100 + 2 * 3) vk1 sk1).bind fun vk2 => if vk2 = 0 then if vk1 = 91 then bnd2 (fX10_goesIn a0 sk1) fun vk16 sk16 => if vk16 = 0 then some (0, sk16) else bnd2 (rec 2 a0 0 0 sk16) fun vk18 sk18 => bnd2 (fX10_takes a0 93 sk18) fun vk19 sk19 => if vk19 = 0 then some (0, sk19) else some (vk18, (sI sk19 a0 12 ((gI sk19 a0 12) - 1))) else (fX10_isDigit a0 sk1).bind fun vk5 => if vk5 = 0 then bnd2 (fX10_fails a0 sk1) fun vk15 sk15 => fX10_atom_b86 rec a0 sk15 else fX10_atom_b86 rec a0 sk1 else (gR sk1 a0 4).bind fun r21 => if ixB vk1 (ln r21) = true then some ((gI (sI sk1 a0 10 ((gI sk1 a0 10) + 1)) r21 (Int32.toNatClampNeg vk1)), (sI sk1 a0 10 ((gI sk1 a0 10) + 1))) else none
set_option maxRecDepth 20000 in
set_option maxHeartbeats 2000000 in
theorem tX10_atom {X : XS} {n : Nat} {σ : Mm} {dr : Nat} {rec : Nat → Nat → Int32 → Int32 → Mm → Option (Int32 × Mm)} (hD : 8 ≤ dr) (hrec : RECX10p X dr n rec) {a0 : Nat} (ha0 : RT n a0 110) {res : Int32 × Mm} (h : fX10_atom rec a0 σ = some res) : MT X yX10_atom mX10_atom (dr + 1) 0 0 [.ref a0] n σ (n, some (.int res.1), res.2) := by
  unfold fX10_atom at h
  refine MT_of (by decide +kernel) rfl (fun h => by cases h) (Nat.le_of_ble_eq_true rfl) ?_
  show J X mX10_atom (dr + 1) 0 0 (n, some (.int res.1), res.2) 0 [(0, .ref a0)] [] n σ
  refine J_aload_n (z := 0) dX10_atom_0 rfl rfl (q := 1) rfl ?_
  obtain ⟨vk1, sk1, hk1, h⟩ := bnd2S h
  refine J_cVi (as := []) dX10_atom_1 mRX10_138 ha0 (tX10_look ha0 hk1) rfl (by omega) (Nat.le_of_ble_eq_true rfl) (Nat.le_of_ble_eq_true rfl) (q := 4) rfl ?_
  intro bk1
  refine J_istore_n (lv' := [(1, .int vk1), (0, .ref a0)]) dX10_atom_4 rfl (by decide) rfl (q := 5) rfl ?_
  refine J_ldcS (tx := "bcdsnt") (j := 3) dX10_atom_5 (by decide +kernel) (q := 7) rfl ?_
  refine J_iload_n (z := 0) dX10_atom_7 rfl rfl (q := 8) rfl ?_
  obtain ⟨vk2, hk2, h⟩ := bindS h
  refine J_cSi (as := [.ref (1100 + 2 * 3), .int vk1]) dX10_atom_8 mRX10_154 (tX10_isAmong (rtS_3 _) hk2) rfl (by omega) (Nat.le_of_ble_eq_true rfl) (Nat.le_of_ble_eq_true rfl) (q := 11) rfl ?_
  intro bk2
  refine J_if_eq (tgt := 31) dX10_atom_11 (by decide) (q := 14) rfl (fun c2 => ?_) (fun c2 => ?_)
  · rw [if_pos c2] at h
    refine J_iload_n (z := 0) dX10_atom_31 rfl rfl (q := 32) rfl ?_
    refine J_bipush (x := 91) dX10_atom_32 (by decide) (q := 34) rfl ?_
    refine J_icmp_ne (tgt := 74) dX10_atom_34 (by decide) (q := 37) rfl (fun c3 => ?_) (fun c3 => ?_)
    · rw [if_neg c3] at h
      refine J_aload_n (z := 1) dX10_atom_74 rfl rfl (q := 75) rfl ?_
      obtain ⟨vk5, hk5, h⟩ := bindS h
      refine J_cVi (as := []) dX10_atom_75 mRX10_168 ha0 (tX10_isDigit ha0 hk5) rfl (by omega) (Nat.le_of_ble_eq_true rfl) (Nat.le_of_ble_eq_true rfl) (q := 78) rfl ?_
      intro bk5
      refine J_if_ne (tgt := 86) dX10_atom_78 (by decide) (q := 81) rfl (fun c5 => ?_) (fun c5 => ?_)
      · rw [if_neg c5] at h
        refine J_pick [1] rfl ?_
        exact tX10_atom_b86 hD hrec ha0 h
      · rw [if_pos c5] at h
        refine J_aload_n (z := 1) dX10_atom_81 rfl rfl (q := 82) rfl ?_
        obtain ⟨vk15, sk15, hk15, h⟩ := bnd2S h
        refine J_cVi (as := []) dX10_atom_82 mRX10_134 ha0 (tX10_fails ha0 hk15) rfl (by omega) (Nat.le_of_ble_eq_true rfl) (Nat.le_of_ble_eq_true rfl) (q := 85) rfl ?_
        intro bk15
        refine J_pop dX10_atom_85 rfl (q := 86) rfl ?_
        refine J_pick [1] rfl ?_
        exact tX10_atom_b86 hD hrec ha0 h
    · rw [if_pos c3] at h
      refine J_aload_n (z := 1) dX10_atom_37 rfl rfl (q := 38) rfl ?_
      obtain ⟨vk16, sk16, hk16, h⟩ := bnd2S h
      refine J_cVi (as := []) dX10_atom_38 mRX10_158 ha0 (tX10_goesIn ha0 hk16) rfl (by omega) (Nat.le_of_ble_eq_true rfl) (Nat.le_of_ble_eq_true rfl) (q := 41) rfl ?_
      intro bk16
      refine J_if_ne (tgt := 46) dX10_atom_41 (by decide) (q := 44) rfl (fun c16 => ?_) (fun c16 => ?_)
      · rw [if_neg c16] at h
        refine J_aload_n (z := 1) dX10_atom_46 rfl rfl (q := 47) rfl ?_
        obtain ⟨vk18, sk18, hk18, h⟩ := bnd2S h
        refine J_cVi (as := []) dX10_atom_47 mRX10_161 ha0 (hrec.2.2.1 ha0 hk18) rfl (Nat.le_refl _) (Nat.le_of_ble_eq_true rfl) (Nat.le_of_ble_eq_true rfl) (q := 50) rfl ?_
        intro bk18
        refine J_istore_n (lv' := [(2, .int vk18), (1, .int vk1), (0, .ref a0)]) dX10_atom_50 rfl (by decide) rfl (q := 51) rfl ?_
        refine J_aload_n (z := 2) dX10_atom_51 rfl rfl (q := 52) rfl ?_
        refine J_bipush (x := 93) dX10_atom_52 (by decide) (q := 54) rfl ?_
        obtain ⟨vk19, sk19, hk19, h⟩ := bnd2S h
        refine J_cVi (as := [.int 93]) dX10_atom_54 mRX10_164 ha0 (tX10_takes ha0 hk19) rfl (by omega) (Nat.le_of_ble_eq_true rfl) (Nat.le_of_ble_eq_true rfl) (q := 57) rfl ?_
        intro bk19
        refine J_if_ne (tgt := 62) dX10_atom_57 (by decide) (q := 60) rfl (fun c19 => ?_) (fun c19 => ?_)
        · rw [if_neg c19] at h
          refine J_aload_n (z := 2) dX10_atom_62 rfl rfl (q := 63) rfl ?_
          refine J_dup dX10_atom_63 rfl (q := 64) rfl ?_
          refine J_getI dX10_atom_64 lRX10_131 ha0 rfl (q := 67) rfl ?_
          refine J_iconst (x := 1) dX10_atom_67 (by decide) (q := 68) rfl ?_
          refine J_isub dX10_atom_68  (q := 69) rfl ?_
          refine J_putI dX10_atom_69 lRX10_131 (fun h => by cases h) ha0 rfl (q := 72) rfl ?_
          refine J_iload_n (z := 0) dX10_atom_72 rfl rfl (q := 73) rfl ?_
          have h := Option.some.inj h
          subst h
          exact J_ireturn dX10_atom_73 rfl rfl rfl
        · rw [if_pos c19] at h
          refine J_iconst (x := 0) dX10_atom_60 (by decide) (q := 61) rfl ?_
          have h := Option.some.inj h
          subst h
          exact J_ireturn dX10_atom_61 rfl rfl rfl
      · rw [if_pos c16] at h
        refine J_iconst (x := 0) dX10_atom_44 (by decide) (q := 45) rfl ?_
        have h := Option.some.inj h
        subst h
        exact J_ireturn dX10_atom_45 rfl rfl rfl
  · rw [if_neg c2] at h
    refine J_aload_n (z := 1) dX10_atom_14 rfl rfl (q := 15) rfl ?_
    refine J_dup dX10_atom_15 rfl (q := 16) rfl ?_
    refine J_getI dX10_atom_16 lRX10_119 ha0 rfl (q := 19) rfl ?_
    refine J_iconst (x := 1) dX10_atom_19 (by decide) (q := 20) rfl ?_
    refine J_iadd dX10_atom_20  (q := 21) rfl ?_
    refine J_putI dX10_atom_21 lRX10_119 (fun h => by cases h) ha0 rfl (q := 24) rfl ?_
    refine J_aload_n (z := 1) dX10_atom_24 rfl rfl (q := 25) rfl ?_
    obtain ⟨r21, er21, h⟩ := bindS h
    refine J_getR dX10_atom_25 lRX10_20 ha0 rfl (by decide) er21 (q := 28) rfl (fun fr21 => ?_)
    refine J_iload_n (z := 0) dX10_atom_28 rfl rfl (q := 29) rfl ?_
    obtain ⟨g22, h⟩ := iteS h
    refine J_iald dX10_atom_29 fr21 (ixB_ok g22) (q := 30) rfl ?_
    have h := Option.some.inj h
    subst h
    exact J_ireturn dX10_atom_30 rfl rfl rfl

def fX10_term_b87 (rec : Nat → Nat → Int32 → Int32 → Mm → Option (Int32 × Mm)) (a0 : Nat) (z0 : Int64) (σ : Mm) : Option ((Int32 × Mm) ⊕ (Int32 × Mm)) :=
  (fX10_within z0 σ).bind fun vk11 => some (Sum.inl (vk11, σ))
set_option maxRecDepth 20000 in
set_option maxHeartbeats 2000000 in
theorem tX10_term_b87 {X : XS} {n : Nat} {σ : Mm} {F : Nat × Option Value × Mm} {dr : Nat} {rec : Nat → Nat → Int32 → Int32 → Mm → Option (Int32 × Mm)} (hD : 8 ≤ dr) (hrec : RECX10p X dr n rec) {a0 : Nat} {z0 : Int64} (ha0 : RT n a0 110) {res : (Int32 × Mm) ⊕ (Int32 × Mm)} (h : fX10_term_b87 rec a0 z0 σ = some res) (hc : ∀ (b1 : Int32) (s : Mm), res = .inl (b1, s) → J X mX10_term (dr + 1) 0 0 F 5 [(0, .ref a0), (1, .int b1)] [] n s) (hr : ∀ (v : Int32) (s : Mm), res = .inr (v, s) → F = (n, some (.int v), s)) : J X mX10_term (dr + 1) 0 0 F 87 [(0, .ref a0)] [.long z0] n σ := by
  unfold fX10_term_b87 at h
  obtain ⟨vk11, hk11, h⟩ := bindS h
  refine J_cSi (as := [.long z0]) dX10_term_87 mRX10_174 (tX10_within  hk11) rfl (by omega) (Nat.le_of_ble_eq_true rfl) (Nat.le_of_ble_eq_true rfl) (q := 90) rfl ?_
  intro bk11
  refine J_istore_n (lv' := [(1, .int vk11), (0, .ref a0)]) dX10_term_90 rfl (by decide) rfl (q := 91) rfl ?_
  refine J_goto (tgt := 5) dX10_term_91 (by decide) ?_
  have h := Option.some.inj h
  refine J_pick [1, 0] rfl ?_
  exact hc _ _ h.symm

def fX10_term_b45 (rec : Nat → Nat → Int32 → Int32 → Mm → Option (Int32 × Mm)) (a0 : Nat) (a1 : Int32) (z0 : Int32) (σ : Mm) : Option ((Int32 × Mm) ⊕ (Int32 × Mm)) :=
  bnd2 (rec 0 a0 0 0 (sI σ a0 10 ((gI σ a0 10) + 1))) fun vk7 sk7 => if z0 = 0 then if (lg_cmp (Int32.toInt64 vk7) 0) = 0 then fX10_term_b87 rec a0 0 sk7 else if (Int32.toInt64 vk7) = 0 then none else fX10_term_b87 rec a0 ((Int32.toInt64 a1) / (Int32.toInt64 vk7)) sk7 else fX10_term_b87 rec a0 ((Int32.toInt64 a1) * (Int32.toInt64 vk7)) sk7
set_option maxRecDepth 20000 in
set_option maxHeartbeats 2000000 in
theorem tX10_term_b45 {X : XS} {n : Nat} {σ : Mm} {F : Nat × Option Value × Mm} {dr : Nat} {rec : Nat → Nat → Int32 → Int32 → Mm → Option (Int32 × Mm)} (hD : 8 ≤ dr) (hrec : RECX10p X dr n rec) {a0 : Nat} {a1 : Int32} {z0 : Int32} (ha0 : RT n a0 110) {res : (Int32 × Mm) ⊕ (Int32 × Mm)} (h : fX10_term_b45 rec a0 a1 z0 σ = some res) (hc : ∀ (b1 : Int32) (s : Mm), res = .inl (b1, s) → J X mX10_term (dr + 1) 0 0 F 5 [(0, .ref a0), (1, .int b1)] [] n s) (hr : ∀ (v : Int32) (s : Mm), res = .inr (v, s) → F = (n, some (.int v), s)) : J X mX10_term (dr + 1) 0 0 F 45 [(0, .ref a0), (1, .int a1)] [.int z0] n σ := by
  unfold fX10_term_b45 at h
  refine J_istore_n (lv' := [(2, .int z0), (0, .ref a0), (1, .int a1)]) dX10_term_45 rfl (by decide) rfl (q := 46) rfl ?_
  refine J_aload_n (z := 1) dX10_term_46 rfl rfl (q := 47) rfl ?_
  refine J_dup dX10_term_47 rfl (q := 48) rfl ?_
  refine J_getI dX10_term_48 lRX10_119 ha0 rfl (q := 51) rfl ?_
  refine J_iconst (x := 1) dX10_term_51 (by decide) (q := 52) rfl ?_
  refine J_iadd dX10_term_52  (q := 53) rfl ?_
  refine J_putI dX10_term_53 lRX10_119 (fun h => by cases h) ha0 rfl (q := 56) rfl ?_
  refine J_aload_n (z := 1) dX10_term_56 rfl rfl (q := 57) rfl ?_
  obtain ⟨vk7, sk7, hk7, h⟩ := bnd2S h
  refine J_cVi (as := []) dX10_term_57 mRX10_171 ha0 (hrec.1 ha0 hk7) rfl (Nat.le_refl _) (Nat.le_of_ble_eq_true rfl) (Nat.le_of_ble_eq_true rfl) (q := 60) rfl ?_
  intro bk7
  refine J_i2l dX10_term_60  (q := 61) rfl ?_
  refine J_lstore_n (lv' := [(3, .long (Int32.toInt64 vk7)), (2, .int z0), (0, .ref a0), (1, .int a1)]) dX10_term_61 rfl (by decide) rfl (q := 62) rfl ?_
  refine J_iload_n (z := 1) dX10_term_62 rfl rfl (q := 63) rfl ?_
  refine J_if_eq (tgt := 73) dX10_term_63 (by decide) (q := 66) rfl (fun c7 => ?_) (fun c7 => ?_)
  · rw [if_pos c7] at h
    refine J_lload_n (z := 0) dX10_term_73 rfl rfl (q := 74) rfl ?_
    refine J_lconst (x := 0) dX10_term_74 (by decide) (q := 75) rfl ?_
    refine J_lcmp dX10_term_75  (q := 76) rfl ?_
    refine J_if_ne (tgt := 83) dX10_term_76 (by decide) (q := 79) rfl (fun c8 => ?_) (fun c8 => ?_)
    · rw [if_neg c8] at h
      refine J_iload_n (z := 3) dX10_term_83 rfl rfl (q := 84) rfl ?_
      refine J_i2l dX10_term_84  (q := 85) rfl ?_
      refine J_lload_n (z := 0) dX10_term_85 rfl rfl (q := 86) rfl ?_
      obtain ⟨g10, h⟩ := iteN h
      refine J_ldiv dX10_term_86 g10 (q := 87) rfl ?_
      refine J_pick [2] rfl ?_
      exact tX10_term_b87 hD hrec ha0 h hc hr
    · rw [if_pos c8] at h
      refine J_lconst (x := 0) dX10_term_79 (by decide) (q := 80) rfl ?_
      refine J_goto (tgt := 87) dX10_term_80 (by decide) ?_
      refine J_pick [2] rfl ?_
      exact tX10_term_b87 hD hrec ha0 h hc hr
  · rw [if_neg c7] at h
    refine J_iload_n (z := 3) dX10_term_66 rfl rfl (q := 67) rfl ?_
    refine J_i2l dX10_term_67  (q := 68) rfl ?_
    refine J_lload_n (z := 0) dX10_term_68 rfl rfl (q := 69) rfl ?_
    refine J_lmul dX10_term_69  (q := 70) rfl ?_
    refine J_goto (tgt := 87) dX10_term_70 (by decide) ?_
    refine J_pick [2] rfl ?_
    exact tX10_term_b87 hD hrec ha0 h hc hr

def fX10_term_b31 (rec : Nat → Nat → Int32 → Int32 → Mm → Option (Int32 × Mm)) (a0 : Nat) (a1 : Int32) (σ : Mm) : Option ((Int32 × Mm) ⊕ (Int32 × Mm)) :=
  bnd2 (fX10_look a0 σ) fun vk5 sk5 => if vk5 = 42 then fX10_term_b45 rec a0 a1 1 sk5 else fX10_term_b45 rec a0 a1 0 sk5
set_option maxRecDepth 20000 in
set_option maxHeartbeats 2000000 in
theorem tX10_term_b31 {X : XS} {n : Nat} {σ : Mm} {F : Nat × Option Value × Mm} {dr : Nat} {rec : Nat → Nat → Int32 → Int32 → Mm → Option (Int32 × Mm)} (hD : 8 ≤ dr) (hrec : RECX10p X dr n rec) {a0 : Nat} {a1 : Int32} (ha0 : RT n a0 110) {res : (Int32 × Mm) ⊕ (Int32 × Mm)} (h : fX10_term_b31 rec a0 a1 σ = some res) (hc : ∀ (b1 : Int32) (s : Mm), res = .inl (b1, s) → J X mX10_term (dr + 1) 0 0 F 5 [(0, .ref a0), (1, .int b1)] [] n s) (hr : ∀ (v : Int32) (s : Mm), res = .inr (v, s) → F = (n, some (.int v), s)) : J X mX10_term (dr + 1) 0 0 F 31 [(0, .ref a0), (1, .int a1)] [] n σ := by
  unfold fX10_term_b31 at h
  refine J_aload_n (z := 0) dX10_term_31 rfl rfl (q := 32) rfl ?_
  obtain ⟨vk5, sk5, hk5, h⟩ := bnd2S h
  refine J_cVi (as := []) dX10_term_32 mRX10_138 ha0 (tX10_look ha0 hk5) rfl (by omega) (Nat.le_of_ble_eq_true rfl) (Nat.le_of_ble_eq_true rfl) (q := 35) rfl ?_
  intro bk5
  refine J_bipush (x := 42) dX10_term_35 (by decide) (q := 37) rfl ?_
  refine J_icmp_ne (tgt := 44) dX10_term_37 (by decide) (q := 40) rfl (fun c5 => ?_) (fun c5 => ?_)
  · rw [if_neg c5] at h
    refine J_iconst (x := 0) dX10_term_44 (by decide) (q := 45) rfl ?_
    refine J_pick [0, 1] rfl ?_
    exact tX10_term_b45 hD hrec ha0 h hc hr
  · rw [if_pos c5] at h
    refine J_iconst (x := 1) dX10_term_40 (by decide) (q := 41) rfl ?_
    refine J_goto (tgt := 45) dX10_term_41 (by decide) ?_
    refine J_pick [0, 1] rfl ?_
    exact tX10_term_b45 hD hrec ha0 h hc hr

def fX10_term_l5 (rec : Nat → Nat → Int32 → Int32 → Mm → Option (Int32 × Mm)) (a0 : Nat) (a1 : Int32) (σ : Mm) : Option ((Int32 × Mm) ⊕ (Int32 × Mm)) :=
  if (gI σ a0 11) = (-1) then bnd2 (fX10_look a0 σ) fun vk3 sk3 => if vk3 = 42 then fX10_term_b31 rec a0 a1 sk3 else bnd2 (fX10_look a0 sk3) fun vk12 sk12 => if vk12 = 47 then fX10_term_b31 rec a0 a1 sk12 else some (Sum.inr (a1, sk12)) else some (Sum.inr (a1, σ))
set_option maxRecDepth 20000 in
set_option maxHeartbeats 2000000 in
theorem tX10_term_l5 {X : XS} {n : Nat} {σ : Mm} {F : Nat × Option Value × Mm} {dr : Nat} {rec : Nat → Nat → Int32 → Int32 → Mm → Option (Int32 × Mm)} (hD : 8 ≤ dr) (hrec : RECX10p X dr n rec) {a0 : Nat} {a1 : Int32} (ha0 : RT n a0 110) {res : (Int32 × Mm) ⊕ (Int32 × Mm)} (h : fX10_term_l5 rec a0 a1 σ = some res) (hc : ∀ (b1 : Int32) (s : Mm), res = .inl (b1, s) → J X mX10_term (dr + 1) 0 0 F 5 [(0, .ref a0), (1, .int b1)] [] n s) (hr : ∀ (v : Int32) (s : Mm), res = .inr (v, s) → F = (n, some (.int v), s)) : J X mX10_term (dr + 1) 0 0 F 5 [(0, .ref a0), (1, .int a1)] [] n σ := by
  unfold fX10_term_l5 at h
  refine J_aload_n (z := 0) dX10_term_5 rfl rfl (q := 6) rfl ?_
  refine J_getI dX10_term_6 lRX10_128 ha0 rfl (q := 9) rfl ?_
  refine J_iconst (x := (-1)) dX10_term_9 (by decide) (q := 10) rfl ?_
  refine J_icmp_ne (tgt := 94) dX10_term_10 (by decide) (q := 13) rfl (fun c1 => ?_) (fun c1 => ?_)
  · rw [if_neg c1] at h
    refine J_iload_n (z := 1) dX10_term_94 rfl rfl (q := 95) rfl ?_
    have h := Option.some.inj h
    exact J_ireturn dX10_term_95 rfl rfl (hr _ _ h.symm)
  · rw [if_pos c1] at h
    refine J_aload_n (z := 0) dX10_term_13 rfl rfl (q := 14) rfl ?_
    obtain ⟨vk3, sk3, hk3, h⟩ := bnd2S h
    refine J_cVi (as := []) dX10_term_14 mRX10_138 ha0 (tX10_look ha0 hk3) rfl (by omega) (Nat.le_of_ble_eq_true rfl) (Nat.le_of_ble_eq_true rfl) (q := 17) rfl ?_
    intro bk3
    refine J_bipush (x := 42) dX10_term_17 (by decide) (q := 19) rfl ?_
    refine J_icmp_eq (tgt := 31) dX10_term_19 (by decide) (q := 22) rfl (fun c3 => ?_) (fun c3 => ?_)
    · rw [if_pos c3] at h
      refine J_pick [0, 1] rfl ?_
      exact tX10_term_b31 hD hrec ha0 h hc hr
    · rw [if_neg c3] at h
      refine J_aload_n (z := 0) dX10_term_22 rfl rfl (q := 23) rfl ?_
      obtain ⟨vk12, sk12, hk12, h⟩ := bnd2S h
      refine J_cVi (as := []) dX10_term_23 mRX10_138 ha0 (tX10_look ha0 hk12) rfl (by omega) (Nat.le_of_ble_eq_true rfl) (Nat.le_of_ble_eq_true rfl) (q := 26) rfl ?_
      intro bk12
      refine J_bipush (x := 47) dX10_term_26 (by decide) (q := 28) rfl ?_
      refine J_icmp_ne (tgt := 94) dX10_term_28 (by decide) (q := 31) rfl (fun c12 => ?_) (fun c12 => ?_)
      · rw [if_neg c12] at h
        refine J_iload_n (z := 1) dX10_term_94 rfl rfl (q := 95) rfl ?_
        have h := Option.some.inj h
        exact J_ireturn dX10_term_95 rfl rfl (hr _ _ h.symm)
      · rw [if_pos c12] at h
        refine J_pick [0, 1] rfl ?_
        exact tX10_term_b31 hD hrec ha0 h hc hr

def fX10_term_w5 (rec : Nat → Nat → Int32 → Int32 → Mm → Option (Int32 × Mm)) (a0 : Nat) (a1 : Int32) (σ : Mm) : Option (Int32 × Mm) :=
  wh (fun a : Int32 × Mm => fX10_term_l5 rec a0 a.1 a.2) BIG (a1, σ)
set_option maxRecDepth 20000 in
set_option maxHeartbeats 2000000 in
theorem tX10_term_w5 {X : XS} {n : Nat} {σ : Mm} {F : Nat × Option Value × Mm} {dr : Nat} {rec : Nat → Nat → Int32 → Int32 → Mm → Option (Int32 × Mm)} (hD : 8 ≤ dr) (hrec : RECX10p X dr n rec) {a0 : Nat} {a1 : Int32} (ha0 : RT n a0 110) {res : Int32 × Mm} (h : fX10_term_w5 rec a0 a1 σ = some res) (hr : ∀ (v : Int32) (s : Mm), res = (v, s) → F = (n, some (.int v), s)) : J X mX10_term (dr + 1) 0 0 F 5 [(0, .ref a0), (1, .int a1)] [] n σ := by
  unfold fX10_term_w5 at h
  refine wh_rule (P := fun a : Int32 × Mm => J X mX10_term (dr + 1) 0 0 F 5 [(0, .ref a0), (1, .int a.1)] [] n a.2) (K := fun b => b = res) ?_ _ _ _ h rfl
  intro a
  refine ⟨fun a2 hb hP => ?_, fun b hb hK => ?_⟩
  · exact tX10_term_l5 hD hrec ha0 hb (fun _ _ e => by cases e; exact hP) (fun _ _ e => by cases e)
  · subst hK
    exact tX10_term_l5 hD hrec ha0 hb (fun _ _ e => by cases e) (fun v0 v1 e => hr v0 v1 (Sum.inr.inj e))

def fX10_term (rec : Nat → Nat → Int32 → Int32 → Mm → Option (Int32 × Mm)) (a0 : Nat) (σ : Mm) : Option (Int32 × Mm) :=
  bnd2 (rec 0 a0 0 0 σ) fun vk1 sk1 => (fX10_term_w5 rec a0 vk1 sk1).bind (fun o14 => some o14)
set_option maxRecDepth 20000 in
set_option maxHeartbeats 2000000 in
theorem tX10_term {X : XS} {n : Nat} {σ : Mm} {dr : Nat} {rec : Nat → Nat → Int32 → Int32 → Mm → Option (Int32 × Mm)} (hD : 8 ≤ dr) (hrec : RECX10p X dr n rec) {a0 : Nat} (ha0 : RT n a0 110) {res : Int32 × Mm} (h : fX10_term rec a0 σ = some res) : MT X yX10_term mX10_term (dr + 1) 0 0 [.ref a0] n σ (n, some (.int res.1), res.2) := by
  unfold fX10_term at h
  refine MT_of (by decide +kernel) rfl (fun h => by cases h) (Nat.le_of_ble_eq_true rfl) ?_
  show J X mX10_term (dr + 1) 0 0 (n, some (.int res.1), res.2) 0 [(0, .ref a0)] [] n σ
  refine J_aload_n (z := 0) dX10_term_0 rfl rfl (q := 1) rfl ?_
  obtain ⟨vk1, sk1, hk1, h⟩ := bnd2S h
  refine J_cVi (as := []) dX10_term_1 mRX10_171 ha0 (hrec.1 ha0 hk1) rfl (Nat.le_refl _) (Nat.le_of_ble_eq_true rfl) (Nat.le_of_ble_eq_true rfl) (q := 4) rfl ?_
  intro bk1
  refine J_istore_n (lv' := [(1, .int vk1), (0, .ref a0)]) dX10_term_4 rfl (by decide) rfl (q := 5) rfl ?_
  obtain ⟨o14, hlo14, h⟩ := bindS h
  refine J_pick [1, 0] rfl ?_
  refine tX10_term_w5 hD hrec ha0 hlo14 ?_
  · intro vo14 so14 qo14
    rw [qo14] at h
    try dsimp only [Sum.elim_inl, Sum.elim_inr] at h
    have h := Option.some.inj h
    subst h
    rfl

def fX10_sum_b77 (rec : Nat → Nat → Int32 → Int32 → Mm → Option (Int32 × Mm)) (a0 : Nat) (z0 : Int64) (σ : Mm) : Option ((Int32 × Mm) ⊕ (Int32 × Mm)) :=
  (fX10_within z0 σ).bind fun vk9 => some (Sum.inl (vk9, σ))
set_option maxRecDepth 20000 in
set_option maxHeartbeats 2000000 in
theorem tX10_sum_b77 {X : XS} {n : Nat} {σ : Mm} {F : Nat × Option Value × Mm} {dr : Nat} {rec : Nat → Nat → Int32 → Int32 → Mm → Option (Int32 × Mm)} (hD : 8 ≤ dr) (hrec : RECX10p X dr n rec) {a0 : Nat} {z0 : Int64} (ha0 : RT n a0 110) {res : (Int32 × Mm) ⊕ (Int32 × Mm)} (h : fX10_sum_b77 rec a0 z0 σ = some res) (hc : ∀ (b1 : Int32) (s : Mm), res = .inl (b1, s) → J X mX10_sum (dr + 1) 0 0 F 5 [(0, .ref a0), (1, .int b1)] [] n s) (hr : ∀ (v : Int32) (s : Mm), res = .inr (v, s) → F = (n, some (.int v), s)) : J X mX10_sum (dr + 1) 0 0 F 77 [(0, .ref a0)] [.long z0] n σ := by
  unfold fX10_sum_b77 at h
  obtain ⟨vk9, hk9, h⟩ := bindS h
  refine J_cSi (as := [.long z0]) dX10_sum_77 mRX10_174 (tX10_within  hk9) rfl (by omega) (Nat.le_of_ble_eq_true rfl) (Nat.le_of_ble_eq_true rfl) (q := 80) rfl ?_
  intro bk9
  refine J_istore_n (lv' := [(1, .int vk9), (0, .ref a0)]) dX10_sum_80 rfl (by decide) rfl (q := 81) rfl ?_
  refine J_goto (tgt := 5) dX10_sum_81 (by decide) ?_
  have h := Option.some.inj h
  refine J_pick [1, 0] rfl ?_
  exact hc _ _ h.symm

def fX10_sum_b45 (rec : Nat → Nat → Int32 → Int32 → Mm → Option (Int32 × Mm)) (a0 : Nat) (a1 : Int32) (z0 : Int32) (σ : Mm) : Option ((Int32 × Mm) ⊕ (Int32 × Mm)) :=
  bnd2 (rec 1 a0 0 0 (sI σ a0 10 ((gI σ a0 10) + 1))) fun vk7 sk7 => if z0 = 0 then fX10_sum_b77 rec a0 ((Int32.toInt64 a1) - (Int32.toInt64 vk7)) sk7 else fX10_sum_b77 rec a0 ((Int32.toInt64 a1) + (Int32.toInt64 vk7)) sk7
set_option maxRecDepth 20000 in
set_option maxHeartbeats 2000000 in
theorem tX10_sum_b45 {X : XS} {n : Nat} {σ : Mm} {F : Nat × Option Value × Mm} {dr : Nat} {rec : Nat → Nat → Int32 → Int32 → Mm → Option (Int32 × Mm)} (hD : 8 ≤ dr) (hrec : RECX10p X dr n rec) {a0 : Nat} {a1 : Int32} {z0 : Int32} (ha0 : RT n a0 110) {res : (Int32 × Mm) ⊕ (Int32 × Mm)} (h : fX10_sum_b45 rec a0 a1 z0 σ = some res) (hc : ∀ (b1 : Int32) (s : Mm), res = .inl (b1, s) → J X mX10_sum (dr + 1) 0 0 F 5 [(0, .ref a0), (1, .int b1)] [] n s) (hr : ∀ (v : Int32) (s : Mm), res = .inr (v, s) → F = (n, some (.int v), s)) : J X mX10_sum (dr + 1) 0 0 F 45 [(0, .ref a0), (1, .int a1)] [.int z0] n σ := by
  unfold fX10_sum_b45 at h
  refine J_istore_n (lv' := [(2, .int z0), (0, .ref a0), (1, .int a1)]) dX10_sum_45 rfl (by decide) rfl (q := 46) rfl ?_
  refine J_aload_n (z := 1) dX10_sum_46 rfl rfl (q := 47) rfl ?_
  refine J_dup dX10_sum_47 rfl (q := 48) rfl ?_
  refine J_getI dX10_sum_48 lRX10_119 ha0 rfl (q := 51) rfl ?_
  refine J_iconst (x := 1) dX10_sum_51 (by decide) (q := 52) rfl ?_
  refine J_iadd dX10_sum_52  (q := 53) rfl ?_
  refine J_putI dX10_sum_53 lRX10_119 (fun h => by cases h) ha0 rfl (q := 56) rfl ?_
  refine J_aload_n (z := 1) dX10_sum_56 rfl rfl (q := 57) rfl ?_
  obtain ⟨vk7, sk7, hk7, h⟩ := bnd2S h
  refine J_cVi (as := []) dX10_sum_57 mRX10_178 ha0 (hrec.2.1 ha0 hk7) rfl (Nat.le_refl _) (Nat.le_of_ble_eq_true rfl) (Nat.le_of_ble_eq_true rfl) (q := 60) rfl ?_
  intro bk7
  refine J_i2l dX10_sum_60  (q := 61) rfl ?_
  refine J_lstore_n (lv' := [(3, .long (Int32.toInt64 vk7)), (2, .int z0), (0, .ref a0), (1, .int a1)]) dX10_sum_61 rfl (by decide) rfl (q := 62) rfl ?_
  refine J_iload_n (z := 1) dX10_sum_62 rfl rfl (q := 63) rfl ?_
  refine J_if_eq (tgt := 73) dX10_sum_63 (by decide) (q := 66) rfl (fun c7 => ?_) (fun c7 => ?_)
  · rw [if_pos c7] at h
    refine J_iload_n (z := 3) dX10_sum_73 rfl rfl (q := 74) rfl ?_
    refine J_i2l dX10_sum_74  (q := 75) rfl ?_
    refine J_lload_n (z := 0) dX10_sum_75 rfl rfl (q := 76) rfl ?_
    refine J_lsub dX10_sum_76  (q := 77) rfl ?_
    refine J_pick [2] rfl ?_
    exact tX10_sum_b77 hD hrec ha0 h hc hr
  · rw [if_neg c7] at h
    refine J_iload_n (z := 3) dX10_sum_66 rfl rfl (q := 67) rfl ?_
    refine J_i2l dX10_sum_67  (q := 68) rfl ?_
    refine J_lload_n (z := 0) dX10_sum_68 rfl rfl (q := 69) rfl ?_
    refine J_ladd dX10_sum_69  (q := 70) rfl ?_
    refine J_goto (tgt := 77) dX10_sum_70 (by decide) ?_
    refine J_pick [2] rfl ?_
    exact tX10_sum_b77 hD hrec ha0 h hc hr

def fX10_sum_b31 (rec : Nat → Nat → Int32 → Int32 → Mm → Option (Int32 × Mm)) (a0 : Nat) (a1 : Int32) (σ : Mm) : Option ((Int32 × Mm) ⊕ (Int32 × Mm)) :=
  bnd2 (fX10_look a0 σ) fun vk5 sk5 => if vk5 = 43 then fX10_sum_b45 rec a0 a1 1 sk5 else fX10_sum_b45 rec a0 a1 0 sk5
set_option maxRecDepth 20000 in
set_option maxHeartbeats 2000000 in
theorem tX10_sum_b31 {X : XS} {n : Nat} {σ : Mm} {F : Nat × Option Value × Mm} {dr : Nat} {rec : Nat → Nat → Int32 → Int32 → Mm → Option (Int32 × Mm)} (hD : 8 ≤ dr) (hrec : RECX10p X dr n rec) {a0 : Nat} {a1 : Int32} (ha0 : RT n a0 110) {res : (Int32 × Mm) ⊕ (Int32 × Mm)} (h : fX10_sum_b31 rec a0 a1 σ = some res) (hc : ∀ (b1 : Int32) (s : Mm), res = .inl (b1, s) → J X mX10_sum (dr + 1) 0 0 F 5 [(0, .ref a0), (1, .int b1)] [] n s) (hr : ∀ (v : Int32) (s : Mm), res = .inr (v, s) → F = (n, some (.int v), s)) : J X mX10_sum (dr + 1) 0 0 F 31 [(0, .ref a0), (1, .int a1)] [] n σ := by
  unfold fX10_sum_b31 at h
  refine J_aload_n (z := 0) dX10_sum_31 rfl rfl (q := 32) rfl ?_
  obtain ⟨vk5, sk5, hk5, h⟩ := bnd2S h
  refine J_cVi (as := []) dX10_sum_32 mRX10_138 ha0 (tX10_look ha0 hk5) rfl (by omega) (Nat.le_of_ble_eq_true rfl) (Nat.le_of_ble_eq_true rfl) (q := 35) rfl ?_
  intro bk5
  refine J_bipush (x := 43) dX10_sum_35 (by decide) (q := 37) rfl ?_
  refine J_icmp_ne (tgt := 44) dX10_sum_37 (by decide) (q := 40) rfl (fun c5 => ?_) (fun c5 => ?_)
  · rw [if_neg c5] at h
    refine J_iconst (x := 0) dX10_sum_44 (by decide) (q := 45) rfl ?_
    refine J_pick [0, 1] rfl ?_
    exact tX10_sum_b45 hD hrec ha0 h hc hr
  · rw [if_pos c5] at h
    refine J_iconst (x := 1) dX10_sum_40 (by decide) (q := 41) rfl ?_
    refine J_goto (tgt := 45) dX10_sum_41 (by decide) ?_
    refine J_pick [0, 1] rfl ?_
    exact tX10_sum_b45 hD hrec ha0 h hc hr

def fX10_sum_l5 (rec : Nat → Nat → Int32 → Int32 → Mm → Option (Int32 × Mm)) (a0 : Nat) (a1 : Int32) (σ : Mm) : Option ((Int32 × Mm) ⊕ (Int32 × Mm)) :=
  if (gI σ a0 11) = (-1) then bnd2 (fX10_look a0 σ) fun vk3 sk3 => if vk3 = 43 then fX10_sum_b31 rec a0 a1 sk3 else bnd2 (fX10_look a0 sk3) fun vk10 sk10 => if vk10 = 45 then fX10_sum_b31 rec a0 a1 sk10 else some (Sum.inr (a1, sk10)) else some (Sum.inr (a1, σ))
set_option maxRecDepth 20000 in
set_option maxHeartbeats 2000000 in
theorem tX10_sum_l5 {X : XS} {n : Nat} {σ : Mm} {F : Nat × Option Value × Mm} {dr : Nat} {rec : Nat → Nat → Int32 → Int32 → Mm → Option (Int32 × Mm)} (hD : 8 ≤ dr) (hrec : RECX10p X dr n rec) {a0 : Nat} {a1 : Int32} (ha0 : RT n a0 110) {res : (Int32 × Mm) ⊕ (Int32 × Mm)} (h : fX10_sum_l5 rec a0 a1 σ = some res) (hc : ∀ (b1 : Int32) (s : Mm), res = .inl (b1, s) → J X mX10_sum (dr + 1) 0 0 F 5 [(0, .ref a0), (1, .int b1)] [] n s) (hr : ∀ (v : Int32) (s : Mm), res = .inr (v, s) → F = (n, some (.int v), s)) : J X mX10_sum (dr + 1) 0 0 F 5 [(0, .ref a0), (1, .int a1)] [] n σ := by
  unfold fX10_sum_l5 at h
  refine J_aload_n (z := 0) dX10_sum_5 rfl rfl (q := 6) rfl ?_
  refine J_getI dX10_sum_6 lRX10_128 ha0 rfl (q := 9) rfl ?_
  refine J_iconst (x := (-1)) dX10_sum_9 (by decide) (q := 10) rfl ?_
  refine J_icmp_ne (tgt := 84) dX10_sum_10 (by decide) (q := 13) rfl (fun c1 => ?_) (fun c1 => ?_)
  · rw [if_neg c1] at h
    refine J_iload_n (z := 1) dX10_sum_84 rfl rfl (q := 85) rfl ?_
    have h := Option.some.inj h
    exact J_ireturn dX10_sum_85 rfl rfl (hr _ _ h.symm)
  · rw [if_pos c1] at h
    refine J_aload_n (z := 0) dX10_sum_13 rfl rfl (q := 14) rfl ?_
    obtain ⟨vk3, sk3, hk3, h⟩ := bnd2S h
    refine J_cVi (as := []) dX10_sum_14 mRX10_138 ha0 (tX10_look ha0 hk3) rfl (by omega) (Nat.le_of_ble_eq_true rfl) (Nat.le_of_ble_eq_true rfl) (q := 17) rfl ?_
    intro bk3
    refine J_bipush (x := 43) dX10_sum_17 (by decide) (q := 19) rfl ?_
    refine J_icmp_eq (tgt := 31) dX10_sum_19 (by decide) (q := 22) rfl (fun c3 => ?_) (fun c3 => ?_)
    · rw [if_pos c3] at h
      refine J_pick [0, 1] rfl ?_
      exact tX10_sum_b31 hD hrec ha0 h hc hr
    · rw [if_neg c3] at h
      refine J_aload_n (z := 0) dX10_sum_22 rfl rfl (q := 23) rfl ?_
      obtain ⟨vk10, sk10, hk10, h⟩ := bnd2S h
      refine J_cVi (as := []) dX10_sum_23 mRX10_138 ha0 (tX10_look ha0 hk10) rfl (by omega) (Nat.le_of_ble_eq_true rfl) (Nat.le_of_ble_eq_true rfl) (q := 26) rfl ?_
      intro bk10
      refine J_bipush (x := 45) dX10_sum_26 (by decide) (q := 28) rfl ?_
      refine J_icmp_ne (tgt := 84) dX10_sum_28 (by decide) (q := 31) rfl (fun c10 => ?_) (fun c10 => ?_)
      · rw [if_neg c10] at h
        refine J_iload_n (z := 1) dX10_sum_84 rfl rfl (q := 85) rfl ?_
        have h := Option.some.inj h
        exact J_ireturn dX10_sum_85 rfl rfl (hr _ _ h.symm)
      · rw [if_pos c10] at h
        refine J_pick [0, 1] rfl ?_
        exact tX10_sum_b31 hD hrec ha0 h hc hr

def fX10_sum_w5 (rec : Nat → Nat → Int32 → Int32 → Mm → Option (Int32 × Mm)) (a0 : Nat) (a1 : Int32) (σ : Mm) : Option (Int32 × Mm) :=
  wh (fun a : Int32 × Mm => fX10_sum_l5 rec a0 a.1 a.2) BIG (a1, σ)
set_option maxRecDepth 20000 in
set_option maxHeartbeats 2000000 in
theorem tX10_sum_w5 {X : XS} {n : Nat} {σ : Mm} {F : Nat × Option Value × Mm} {dr : Nat} {rec : Nat → Nat → Int32 → Int32 → Mm → Option (Int32 × Mm)} (hD : 8 ≤ dr) (hrec : RECX10p X dr n rec) {a0 : Nat} {a1 : Int32} (ha0 : RT n a0 110) {res : Int32 × Mm} (h : fX10_sum_w5 rec a0 a1 σ = some res) (hr : ∀ (v : Int32) (s : Mm), res = (v, s) → F = (n, some (.int v), s)) : J X mX10_sum (dr + 1) 0 0 F 5 [(0, .ref a0), (1, .int a1)] [] n σ := by
  unfold fX10_sum_w5 at h
  refine wh_rule (P := fun a : Int32 × Mm => J X mX10_sum (dr + 1) 0 0 F 5 [(0, .ref a0), (1, .int a.1)] [] n a.2) (K := fun b => b = res) ?_ _ _ _ h rfl
  intro a
  refine ⟨fun a2 hb hP => ?_, fun b hb hK => ?_⟩
  · exact tX10_sum_l5 hD hrec ha0 hb (fun _ _ e => by cases e; exact hP) (fun _ _ e => by cases e)
  · subst hK
    exact tX10_sum_l5 hD hrec ha0 hb (fun _ _ e => by cases e) (fun v0 v1 e => hr v0 v1 (Sum.inr.inj e))

def fX10_sum (rec : Nat → Nat → Int32 → Int32 → Mm → Option (Int32 × Mm)) (a0 : Nat) (σ : Mm) : Option (Int32 × Mm) :=
  bnd2 (rec 1 a0 0 0 σ) fun vk1 sk1 => (fX10_sum_w5 rec a0 vk1 sk1).bind (fun o12 => some o12)
set_option maxRecDepth 20000 in
set_option maxHeartbeats 2000000 in
theorem tX10_sum {X : XS} {n : Nat} {σ : Mm} {dr : Nat} {rec : Nat → Nat → Int32 → Int32 → Mm → Option (Int32 × Mm)} (hD : 8 ≤ dr) (hrec : RECX10p X dr n rec) {a0 : Nat} (ha0 : RT n a0 110) {res : Int32 × Mm} (h : fX10_sum rec a0 σ = some res) : MT X yX10_sum mX10_sum (dr + 1) 0 0 [.ref a0] n σ (n, some (.int res.1), res.2) := by
  unfold fX10_sum at h
  refine MT_of (by decide +kernel) rfl (fun h => by cases h) (Nat.le_of_ble_eq_true rfl) ?_
  show J X mX10_sum (dr + 1) 0 0 (n, some (.int res.1), res.2) 0 [(0, .ref a0)] [] n σ
  refine J_aload_n (z := 0) dX10_sum_0 rfl rfl (q := 1) rfl ?_
  obtain ⟨vk1, sk1, hk1, h⟩ := bnd2S h
  refine J_cVi (as := []) dX10_sum_1 mRX10_178 ha0 (hrec.2.1 ha0 hk1) rfl (Nat.le_refl _) (Nat.le_of_ble_eq_true rfl) (Nat.le_of_ble_eq_true rfl) (q := 4) rfl ?_
  intro bk1
  refine J_istore_n (lv' := [(1, .int vk1), (0, .ref a0)]) dX10_sum_4 rfl (by decide) rfl (q := 5) rfl ?_
  obtain ⟨o12, hlo12, h⟩ := bindS h
  refine J_pick [1, 0] rfl ?_
  refine tX10_sum_w5 hD hrec ha0 hlo12 ?_
  · intro vo12 so12 qo12
    rw [qo12] at h
    try dsimp only [Sum.elim_inl, Sum.elim_inr] at h
    have h := Option.some.inj h
    subst h
    rfl

def fX10_compares_b12 (rec : Nat → Nat → Int32 → Int32 → Mm → Option (Int32 × Mm)) (a0 : Nat) (z0 : Int32) (σ : Mm) : Option (Int32 × Mm) :=
  if (gI σ a0 11) = (-1) then bnd2 (fX10_look a0 σ) fun vk4 sk4 => (fX10_isSign vk4 sk4).bind fun vk5 => if vk5 = 0 then bnd2 (fX10_fails a0 sk4) fun vk13 sk13 => some (vk13, sk13) else bnd2 (rec 2 a0 0 0 (sI sk4 a0 10 ((gI sk4 a0 10) + 1))) fun vk7 sk7 => if vk4 = 61 then if z0 = vk7 then some (1, sk7) else some (0, sk7) else if vk4 = 60 then if vk7 ≤ z0 then some (0, sk7) else some (1, sk7) else if z0 ≤ vk7 then some (0, sk7) else some (1, sk7) else some (0, σ)
set_option maxRecDepth 20000 in
set_option maxHeartbeats 2000000 in
theorem tX10_compares_b12 {X : XS} {n : Nat} {σ : Mm} {dr : Nat} {rec : Nat → Nat → Int32 → Int32 → Mm → Option (Int32 × Mm)} (hD : 8 ≤ dr) (hrec : RECX10p X dr n rec) {a0 : Nat} {z0 : Int32} (ha0 : RT n a0 110) {res : Int32 × Mm} (h : fX10_compares_b12 rec a0 z0 σ = some res) : J X mX10_compares (dr + 1) 0 0 (n, some (.int res.1), res.2) 12 [(0, .ref a0)] [.int z0] n σ := by
  unfold fX10_compares_b12 at h
  refine J_istore_n (lv' := [(3, .int z0), (0, .ref a0)]) dX10_compares_12 rfl (by decide) rfl (q := 13) rfl ?_
  refine J_aload_n (z := 1) dX10_compares_13 rfl rfl (q := 14) rfl ?_
  refine J_getI dX10_compares_14 lRX10_128 ha0 rfl (q := 17) rfl ?_
  refine J_iconst (x := (-1)) dX10_compares_17 (by decide) (q := 18) rfl ?_
  refine J_icmp_eq (tgt := 23) dX10_compares_18 (by decide) (q := 21) rfl (fun c2 => ?_) (fun c2 => ?_)
  · rw [if_pos c2] at h
    refine J_aload_n (z := 1) dX10_compares_23 rfl rfl (q := 24) rfl ?_
    obtain ⟨vk4, sk4, hk4, h⟩ := bnd2S h
    refine J_cVi (as := []) dX10_compares_24 mRX10_138 ha0 (tX10_look ha0 hk4) rfl (by omega) (Nat.le_of_ble_eq_true rfl) (Nat.le_of_ble_eq_true rfl) (q := 27) rfl ?_
    intro bk4
    refine J_istore (lv' := [(4, .int vk4), (3, .int z0), (0, .ref a0)]) dX10_compares_27 (by decide) rfl (q := 29) rfl ?_
    refine J_iload (z := 0) dX10_compares_29 rfl (q := 31) rfl ?_
    obtain ⟨vk5, hk5, h⟩ := bindS h
    refine J_cSi (as := [.int vk4]) dX10_compares_31 mRX10_181 (tX10_isSign  hk5) rfl (by omega) (Nat.le_of_ble_eq_true rfl) (Nat.le_of_ble_eq_true rfl) (q := 34) rfl ?_
    intro bk5
    refine J_if_ne (tgt := 42) dX10_compares_34 (by decide) (q := 37) rfl (fun c5 => ?_) (fun c5 => ?_)
    · rw [if_neg c5] at h
      refine J_aload_n (z := 2) dX10_compares_42 rfl rfl (q := 43) rfl ?_
      refine J_dup dX10_compares_43 rfl (q := 44) rfl ?_
      refine J_getI dX10_compares_44 lRX10_119 ha0 rfl (q := 47) rfl ?_
      refine J_iconst (x := 1) dX10_compares_47 (by decide) (q := 48) rfl ?_
      refine J_iadd dX10_compares_48  (q := 49) rfl ?_
      refine J_putI dX10_compares_49 lRX10_119 (fun h => by cases h) ha0 rfl (q := 52) rfl ?_
      refine J_aload_n (z := 2) dX10_compares_52 rfl rfl (q := 53) rfl ?_
      obtain ⟨vk7, sk7, hk7, h⟩ := bnd2S h
      refine J_cVi (as := []) dX10_compares_53 mRX10_161 ha0 (hrec.2.2.1 ha0 hk7) rfl (Nat.le_refl _) (Nat.le_of_ble_eq_true rfl) (Nat.le_of_ble_eq_true rfl) (q := 56) rfl ?_
      intro bk7
      refine J_istore (lv' := [(5, .int vk7), (4, .int vk4), (3, .int z0), (0, .ref a0)]) dX10_compares_56 (by decide) rfl (q := 58) rfl ?_
      refine J_iload (z := 1) dX10_compares_58 rfl (q := 60) rfl ?_
      refine J_bipush (x := 61) dX10_compares_60 (by decide) (q := 62) rfl ?_
      refine J_icmp_ne (tgt := 79) dX10_compares_62 (by decide) (q := 65) rfl (fun c7 => ?_) (fun c7 => ?_)
      · rw [if_neg c7] at h
        refine J_iload (z := 1) dX10_compares_79 rfl (q := 81) rfl ?_
        refine J_bipush (x := 60) dX10_compares_81 (by decide) (q := 83) rfl ?_
        refine J_icmp_ne (tgt := 100) dX10_compares_83 (by decide) (q := 86) rfl (fun c8 => ?_) (fun c8 => ?_)
        · rw [if_neg c8] at h
          refine J_iload_n (z := 2) dX10_compares_100 rfl rfl (q := 101) rfl ?_
          refine J_iload (z := 0) dX10_compares_101 rfl (q := 103) rfl ?_
          refine J_icmp_le (tgt := 110) dX10_compares_103 (by decide) (q := 106) rfl (fun c9 => ?_) (fun c9 => ?_)
          · rw [if_pos c9] at h
            refine J_iconst (x := 0) dX10_compares_110 (by decide) (q := 111) rfl ?_
            have h := Option.some.inj h
            subst h
            exact J_ireturn dX10_compares_111 rfl rfl rfl
          · rw [if_neg c9] at h
            refine J_iconst (x := 1) dX10_compares_106 (by decide) (q := 107) rfl ?_
            refine J_goto (tgt := 111) dX10_compares_107 (by decide) ?_
            have h := Option.some.inj h
            subst h
            exact J_ireturn dX10_compares_111 rfl rfl rfl
        · rw [if_pos c8] at h
          refine J_iload_n (z := 2) dX10_compares_86 rfl rfl (q := 87) rfl ?_
          refine J_iload (z := 0) dX10_compares_87 rfl (q := 89) rfl ?_
          refine J_icmp_ge (tgt := 96) dX10_compares_89 (by decide) (q := 92) rfl (fun c10 => ?_) (fun c10 => ?_)
          · rw [if_pos c10] at h
            refine J_iconst (x := 0) dX10_compares_96 (by decide) (q := 97) rfl ?_
            refine J_goto (tgt := 111) dX10_compares_97 (by decide) ?_
            have h := Option.some.inj h
            subst h
            exact J_ireturn dX10_compares_111 rfl rfl rfl
          · rw [if_neg c10] at h
            refine J_iconst (x := 1) dX10_compares_92 (by decide) (q := 93) rfl ?_
            refine J_goto (tgt := 111) dX10_compares_93 (by decide) ?_
            have h := Option.some.inj h
            subst h
            exact J_ireturn dX10_compares_111 rfl rfl rfl
      · rw [if_pos c7] at h
        refine J_iload_n (z := 2) dX10_compares_65 rfl rfl (q := 66) rfl ?_
        refine J_iload (z := 0) dX10_compares_66 rfl (q := 68) rfl ?_
        refine J_icmp_ne (tgt := 75) dX10_compares_68 (by decide) (q := 71) rfl (fun c11 => ?_) (fun c11 => ?_)
        · rw [if_neg c11] at h
          refine J_iconst (x := 0) dX10_compares_75 (by decide) (q := 76) rfl ?_
          refine J_goto (tgt := 111) dX10_compares_76 (by decide) ?_
          have h := Option.some.inj h
          subst h
          exact J_ireturn dX10_compares_111 rfl rfl rfl
        · rw [if_pos c11] at h
          refine J_iconst (x := 1) dX10_compares_71 (by decide) (q := 72) rfl ?_
          refine J_goto (tgt := 111) dX10_compares_72 (by decide) ?_
          have h := Option.some.inj h
          subst h
          exact J_ireturn dX10_compares_111 rfl rfl rfl
    · rw [if_pos c5] at h
      refine J_aload_n (z := 2) dX10_compares_37 rfl rfl (q := 38) rfl ?_
      obtain ⟨vk13, sk13, hk13, h⟩ := bnd2S h
      refine J_cVi (as := []) dX10_compares_38 mRX10_134 ha0 (tX10_fails ha0 hk13) rfl (by omega) (Nat.le_of_ble_eq_true rfl) (Nat.le_of_ble_eq_true rfl) (q := 41) rfl ?_
      intro bk13
      have h := Option.some.inj h
      subst h
      exact J_ireturn dX10_compares_41 rfl bk13 rfl
  · rw [if_neg c2] at h
    refine J_iconst (x := 0) dX10_compares_21 (by decide) (q := 22) rfl ?_
    have h := Option.some.inj h
    subst h
    exact J_ireturn dX10_compares_22 rfl rfl rfl

def fX10_compares (rec : Nat → Nat → Int32 → Int32 → Mm → Option (Int32 × Mm)) (a0 : Nat) (a1 : Int32) (a2 : Int32) (σ : Mm) : Option (Int32 × Mm) :=
  if a1 = 0 then bnd2 (rec 2 a0 0 0 σ) fun vk2 sk2 => fX10_compares_b12 rec a0 vk2 sk2 else fX10_compares_b12 rec a0 a2 σ
set_option maxRecDepth 20000 in
set_option maxHeartbeats 2000000 in
theorem tX10_compares {X : XS} {n : Nat} {σ : Mm} {dr : Nat} {rec : Nat → Nat → Int32 → Int32 → Mm → Option (Int32 × Mm)} (hD : 8 ≤ dr) (hrec : RECX10p X dr n rec) {a0 : Nat} {a1 : Int32} {a2 : Int32} (ha0 : RT n a0 110) {res : Int32 × Mm} (h : fX10_compares rec a0 a1 a2 σ = some res) : MT X yX10_compares mX10_compares (dr + 1) 0 0 [.ref a0, .int a1, .int a2] n σ (n, some (.int res.1), res.2) := by
  unfold fX10_compares at h
  refine MT_of (by decide +kernel) rfl (fun h => by cases h) (Nat.le_of_ble_eq_true rfl) ?_
  show J X mX10_compares (dr + 1) 0 0 (n, some (.int res.1), res.2) 0 [(0, .ref a0), (1, .int a1), (2, .int a2)] [] n σ
  refine J_iload_n (z := 1) dX10_compares_0 rfl rfl (q := 1) rfl ?_
  refine J_if_eq (tgt := 8) dX10_compares_1 (by decide) (q := 4) rfl (fun c0 => ?_) (fun c0 => ?_)
  · rw [if_pos c0] at h
    refine J_aload_n (z := 0) dX10_compares_8 rfl rfl (q := 9) rfl ?_
    obtain ⟨vk2, sk2, hk2, h⟩ := bnd2S h
    refine J_cVi (as := []) dX10_compares_9 mRX10_161 ha0 (hrec.2.2.1 ha0 hk2) rfl (Nat.le_refl _) (Nat.le_of_ble_eq_true rfl) (Nat.le_of_ble_eq_true rfl) (q := 12) rfl ?_
    intro bk2
    refine J_pick [0] rfl ?_
    exact tX10_compares_b12 hD hrec ha0 h
  · rw [if_neg c0] at h
    refine J_iload_n (z := 2) dX10_compares_4 rfl rfl (q := 5) rfl ?_
    refine J_goto (tgt := 12) dX10_compares_5 (by decide) ?_
    refine J_pick [0] rfl ?_
    exact tX10_compares_b12 hD hrec ha0 h

def fX10_unit (rec : Nat → Nat → Int32 → Int32 → Mm → Option (Int32 × Mm)) (a0 : Nat) (σ : Mm) : Option (Int32 × Mm) :=
  bnd2 (fX10_look a0 σ) fun vk1 sk1 => if vk1 = 33 then bnd2 (fX10_goesIn a0 sk1) fun vk10 sk10 => if vk10 = 0 then some (0, sk10) else bnd2 (rec 4 a0 0 0 sk10) fun vk12 sk12 => if vk12 = 0 then some (1, (sI sk12 a0 12 ((gI sk12 a0 12) - 1))) else some (0, (sI sk12 a0 12 ((gI sk12 a0 12) - 1))) else if vk1 = 40 then bnd2 (fX10_goesIn a0 sk1) fun vk5 sk5 => if vk5 = 0 then some (0, sk5) else bnd2 (rec 6 a0 0 0 sk5) fun vk7 sk7 => bnd2 (fX10_takes a0 41 sk7) fun vk8 sk8 => if vk8 = 0 then some (0, sk8) else some (vk7, (sI sk8 a0 12 ((gI sk8 a0 12) - 1))) else bnd2 (rec 3 a0 0 0 sk1) fun vk4 sk4 => some (vk4, sk4)
set_option maxRecDepth 20000 in
set_option maxHeartbeats 2000000 in
theorem tX10_unit {X : XS} {n : Nat} {σ : Mm} {dr : Nat} {rec : Nat → Nat → Int32 → Int32 → Mm → Option (Int32 × Mm)} (hD : 8 ≤ dr) (hrec : RECX10p X dr n rec) {a0 : Nat} (ha0 : RT n a0 110) {res : Int32 × Mm} (h : fX10_unit rec a0 σ = some res) : MT X yX10_unit mX10_unit (dr + 1) 0 0 [.ref a0] n σ (n, some (.int res.1), res.2) := by
  unfold fX10_unit at h
  refine MT_of (by decide +kernel) rfl (fun h => by cases h) (Nat.le_of_ble_eq_true rfl) ?_
  show J X mX10_unit (dr + 1) 0 0 (n, some (.int res.1), res.2) 0 [(0, .ref a0)] [] n σ
  refine J_aload_n (z := 0) dX10_unit_0 rfl rfl (q := 1) rfl ?_
  obtain ⟨vk1, sk1, hk1, h⟩ := bnd2S h
  refine J_cVi (as := []) dX10_unit_1 mRX10_138 ha0 (tX10_look ha0 hk1) rfl (by omega) (Nat.le_of_ble_eq_true rfl) (Nat.le_of_ble_eq_true rfl) (q := 4) rfl ?_
  intro bk1
  refine J_istore_n (lv' := [(1, .int vk1), (0, .ref a0)]) dX10_unit_4 rfl (by decide) rfl (q := 5) rfl ?_
  refine J_iload_n (z := 0) dX10_unit_5 rfl rfl (q := 6) rfl ?_
  refine J_bipush (x := 33) dX10_unit_6 (by decide) (q := 8) rfl ?_
  refine J_icmp_ne (tgt := 45) dX10_unit_8 (by decide) (q := 11) rfl (fun c1 => ?_) (fun c1 => ?_)
  · rw [if_neg c1] at h
    refine J_iload_n (z := 0) dX10_unit_45 rfl rfl (q := 46) rfl ?_
    refine J_bipush (x := 40) dX10_unit_46 (by decide) (q := 48) rfl ?_
    refine J_icmp_ne (tgt := 90) dX10_unit_48 (by decide) (q := 51) rfl (fun c2 => ?_) (fun c2 => ?_)
    · rw [if_neg c2] at h
      refine J_aload_n (z := 1) dX10_unit_90 rfl rfl (q := 91) rfl ?_
      refine J_iconst (x := 0) dX10_unit_91 (by decide) (q := 92) rfl ?_
      refine J_iconst (x := 0) dX10_unit_92 (by decide) (q := 93) rfl ?_
      obtain ⟨vk4, sk4, hk4, h⟩ := bnd2S h
      refine J_cVi (as := [.int 0, .int 0]) dX10_unit_93 mRX10_191 ha0 (hrec.2.2.2.1 ha0 hk4) rfl (Nat.le_refl _) (Nat.le_of_ble_eq_true rfl) (Nat.le_of_ble_eq_true rfl) (q := 96) rfl ?_
      intro bk4
      have h := Option.some.inj h
      subst h
      exact J_ireturn dX10_unit_96 rfl bk4 rfl
    · rw [if_pos c2] at h
      refine J_aload_n (z := 1) dX10_unit_51 rfl rfl (q := 52) rfl ?_
      obtain ⟨vk5, sk5, hk5, h⟩ := bnd2S h
      refine J_cVi (as := []) dX10_unit_52 mRX10_158 ha0 (tX10_goesIn ha0 hk5) rfl (by omega) (Nat.le_of_ble_eq_true rfl) (Nat.le_of_ble_eq_true rfl) (q := 55) rfl ?_
      intro bk5
      refine J_if_ne (tgt := 60) dX10_unit_55 (by decide) (q := 58) rfl (fun c5 => ?_) (fun c5 => ?_)
      · rw [if_neg c5] at h
        refine J_aload_n (z := 1) dX10_unit_60 rfl rfl (q := 61) rfl ?_
        refine J_iconst (x := 0) dX10_unit_61 (by decide) (q := 62) rfl ?_
        refine J_iconst (x := 0) dX10_unit_62 (by decide) (q := 63) rfl ?_
        obtain ⟨vk7, sk7, hk7, h⟩ := bnd2S h
        refine J_cVi (as := [.int 0, .int 0]) dX10_unit_63 mRX10_187 ha0 (hrec.2.2.2.2.2.2 ha0 hk7) rfl (Nat.le_refl _) (Nat.le_of_ble_eq_true rfl) (Nat.le_of_ble_eq_true rfl) (q := 66) rfl ?_
        intro bk7
        refine J_istore_n (lv' := [(2, .int vk7), (1, .int vk1), (0, .ref a0)]) dX10_unit_66 rfl (by decide) rfl (q := 67) rfl ?_
        refine J_aload_n (z := 2) dX10_unit_67 rfl rfl (q := 68) rfl ?_
        refine J_bipush (x := 41) dX10_unit_68 (by decide) (q := 70) rfl ?_
        obtain ⟨vk8, sk8, hk8, h⟩ := bnd2S h
        refine J_cVi (as := [.int 41]) dX10_unit_70 mRX10_164 ha0 (tX10_takes ha0 hk8) rfl (by omega) (Nat.le_of_ble_eq_true rfl) (Nat.le_of_ble_eq_true rfl) (q := 73) rfl ?_
        intro bk8
        refine J_if_ne (tgt := 78) dX10_unit_73 (by decide) (q := 76) rfl (fun c8 => ?_) (fun c8 => ?_)
        · rw [if_neg c8] at h
          refine J_aload_n (z := 2) dX10_unit_78 rfl rfl (q := 79) rfl ?_
          refine J_dup dX10_unit_79 rfl (q := 80) rfl ?_
          refine J_getI dX10_unit_80 lRX10_131 ha0 rfl (q := 83) rfl ?_
          refine J_iconst (x := 1) dX10_unit_83 (by decide) (q := 84) rfl ?_
          refine J_isub dX10_unit_84  (q := 85) rfl ?_
          refine J_putI dX10_unit_85 lRX10_131 (fun h => by cases h) ha0 rfl (q := 88) rfl ?_
          refine J_iload_n (z := 0) dX10_unit_88 rfl rfl (q := 89) rfl ?_
          have h := Option.some.inj h
          subst h
          exact J_ireturn dX10_unit_89 rfl bk7 rfl
        · rw [if_pos c8] at h
          refine J_iconst (x := 0) dX10_unit_76 (by decide) (q := 77) rfl ?_
          have h := Option.some.inj h
          subst h
          exact J_ireturn dX10_unit_77 rfl rfl rfl
      · rw [if_pos c5] at h
        refine J_iconst (x := 0) dX10_unit_58 (by decide) (q := 59) rfl ?_
        have h := Option.some.inj h
        subst h
        exact J_ireturn dX10_unit_59 rfl rfl rfl
  · rw [if_pos c1] at h
    refine J_aload_n (z := 1) dX10_unit_11 rfl rfl (q := 12) rfl ?_
    obtain ⟨vk10, sk10, hk10, h⟩ := bnd2S h
    refine J_cVi (as := []) dX10_unit_12 mRX10_158 ha0 (tX10_goesIn ha0 hk10) rfl (by omega) (Nat.le_of_ble_eq_true rfl) (Nat.le_of_ble_eq_true rfl) (q := 15) rfl ?_
    intro bk10
    refine J_if_ne (tgt := 20) dX10_unit_15 (by decide) (q := 18) rfl (fun c10 => ?_) (fun c10 => ?_)
    · rw [if_neg c10] at h
      refine J_aload_n (z := 1) dX10_unit_20 rfl rfl (q := 21) rfl ?_
      obtain ⟨vk12, sk12, hk12, h⟩ := bnd2S h
      refine J_cVi (as := []) dX10_unit_21 mRX10_184 ha0 (hrec.2.2.2.2.1 ha0 hk12) rfl (Nat.le_refl _) (Nat.le_of_ble_eq_true rfl) (Nat.le_of_ble_eq_true rfl) (q := 24) rfl ?_
      intro bk12
      refine J_istore_n (lv' := [(2, .int vk12), (1, .int vk1), (0, .ref a0)]) dX10_unit_24 rfl (by decide) rfl (q := 25) rfl ?_
      refine J_aload_n (z := 2) dX10_unit_25 rfl rfl (q := 26) rfl ?_
      refine J_dup dX10_unit_26 rfl (q := 27) rfl ?_
      refine J_getI dX10_unit_27 lRX10_131 ha0 rfl (q := 30) rfl ?_
      refine J_iconst (x := 1) dX10_unit_30 (by decide) (q := 31) rfl ?_
      refine J_isub dX10_unit_31  (q := 32) rfl ?_
      refine J_putI dX10_unit_32 lRX10_131 (fun h => by cases h) ha0 rfl (q := 35) rfl ?_
      refine J_iload_n (z := 0) dX10_unit_35 rfl rfl (q := 36) rfl ?_
      refine J_if_ne (tgt := 43) dX10_unit_36 (by decide) (q := 39) rfl (fun c12 => ?_) (fun c12 => ?_)
      · rw [if_neg c12] at h
        refine J_iconst (x := 0) dX10_unit_43 (by decide) (q := 44) rfl ?_
        have h := Option.some.inj h
        subst h
        exact J_ireturn dX10_unit_44 rfl rfl rfl
      · rw [if_pos c12] at h
        refine J_iconst (x := 1) dX10_unit_39 (by decide) (q := 40) rfl ?_
        refine J_goto (tgt := 44) dX10_unit_40 (by decide) ?_
        have h := Option.some.inj h
        subst h
        exact J_ireturn dX10_unit_44 rfl rfl rfl
    · rw [if_pos c10] at h
      refine J_iconst (x := 0) dX10_unit_18 (by decide) (q := 19) rfl ?_
      have h := Option.some.inj h
      subst h
      exact J_ireturn dX10_unit_19 rfl rfl rfl

def fX10_part_b65 (rec : Nat → Nat → Int32 → Int32 → Mm → Option (Int32 × Mm)) (a0 : Nat) (z0 : Int32) (σ : Mm) : Option ((Int32 × Mm) ⊕ (Int32 × Mm)) :=
  some (Sum.inl (z0, σ))
set_option maxRecDepth 20000 in
set_option maxHeartbeats 2000000 in
theorem tX10_part_b65 {X : XS} {n : Nat} {σ : Mm} {F : Nat × Option Value × Mm} {dr : Nat} {rec : Nat → Nat → Int32 → Int32 → Mm → Option (Int32 × Mm)} (hD : 8 ≤ dr) (hrec : RECX10p X dr n rec) {a0 : Nat} {z0 : Int32} (ha0 : RT n a0 110) {res : (Int32 × Mm) ⊕ (Int32 × Mm)} (h : fX10_part_b65 rec a0 z0 σ = some res) (hc : ∀ (b3 : Int32) (s : Mm), res = .inl (b3, s) → J X mX10_part (dr + 1) 0 0 F 18 [(0, .ref a0), (3, .int b3)] [] n s) (hr : ∀ (v : Int32) (s : Mm), res = .inr (v, s) → F = (n, some (.int v), s)) : J X mX10_part (dr + 1) 0 0 F 65 [(0, .ref a0)] [.int z0] n σ := by
  unfold fX10_part_b65 at h
  refine J_istore_n (lv' := [(3, .int z0), (0, .ref a0)]) dX10_part_65 rfl (by decide) rfl (q := 66) rfl ?_
  refine J_goto (tgt := 18) dX10_part_66 (by decide) ?_
  have h := Option.some.inj h
  refine J_pick [1, 0] rfl ?_
  exact hc _ _ h.symm

def fX10_part_b64 (rec : Nat → Nat → Int32 → Int32 → Mm → Option (Int32 × Mm)) (a0 : Nat) (σ : Mm) : Option ((Int32 × Mm) ⊕ (Int32 × Mm)) :=
  fX10_part_b65 rec a0 0 σ
set_option maxRecDepth 20000 in
set_option maxHeartbeats 2000000 in
theorem tX10_part_b64 {X : XS} {n : Nat} {σ : Mm} {F : Nat × Option Value × Mm} {dr : Nat} {rec : Nat → Nat → Int32 → Int32 → Mm → Option (Int32 × Mm)} (hD : 8 ≤ dr) (hrec : RECX10p X dr n rec) {a0 : Nat} (ha0 : RT n a0 110) {res : (Int32 × Mm) ⊕ (Int32 × Mm)} (h : fX10_part_b64 rec a0 σ = some res) (hc : ∀ (b3 : Int32) (s : Mm), res = .inl (b3, s) → J X mX10_part (dr + 1) 0 0 F 18 [(0, .ref a0), (3, .int b3)] [] n s) (hr : ∀ (v : Int32) (s : Mm), res = .inr (v, s) → F = (n, some (.int v), s)) : J X mX10_part (dr + 1) 0 0 F 64 [(0, .ref a0)] [] n σ := by
  unfold fX10_part_b64 at h
  refine J_iconst (x := 0) dX10_part_64 (by decide) (q := 65) rfl ?_
  refine J_pick [0] rfl ?_
  exact tX10_part_b65 hD hrec ha0 h hc hr

def fX10_part_l18 (rec : Nat → Nat → Int32 → Int32 → Mm → Option (Int32 × Mm)) (a0 : Nat) (a3 : Int32) (σ : Mm) : Option ((Int32 × Mm) ⊕ (Int32 × Mm)) :=
  if (gI σ a0 11) = (-1) then bnd2 (fX10_look a0 σ) fun vk5 sk5 => if vk5 = 38 then bnd2 (rec 4 a0 0 0 (sI sk5 a0 10 ((gI sk5 a0 10) + 1))) fun vk8 sk8 => if a3 = 0 then fX10_part_b64 rec a0 sk8 else if vk8 = 0 then fX10_part_b64 rec a0 sk8 else fX10_part_b65 rec a0 1 sk8 else if zB a3 = true then some (Sum.inr (a3, sk5)) else none else if zB a3 = true then some (Sum.inr (a3, σ)) else none
set_option maxRecDepth 20000 in
set_option maxHeartbeats 2000000 in
theorem tX10_part_l18 {X : XS} {n : Nat} {σ : Mm} {F : Nat × Option Value × Mm} {dr : Nat} {rec : Nat → Nat → Int32 → Int32 → Mm → Option (Int32 × Mm)} (hD : 8 ≤ dr) (hrec : RECX10p X dr n rec) {a0 : Nat} {a3 : Int32} (ha0 : RT n a0 110) {res : (Int32 × Mm) ⊕ (Int32 × Mm)} (h : fX10_part_l18 rec a0 a3 σ = some res) (hc : ∀ (b3 : Int32) (s : Mm), res = .inl (b3, s) → J X mX10_part (dr + 1) 0 0 F 18 [(0, .ref a0), (3, .int b3)] [] n s) (hr : ∀ (v : Int32) (s : Mm), res = .inr (v, s) → F = (n, some (.int v), s)) : J X mX10_part (dr + 1) 0 0 F 18 [(0, .ref a0), (3, .int a3)] [] n σ := by
  unfold fX10_part_l18 at h
  refine J_aload_n (z := 0) dX10_part_18 rfl rfl (q := 19) rfl ?_
  refine J_getI dX10_part_19 lRX10_128 ha0 rfl (q := 22) rfl ?_
  refine J_iconst (x := (-1)) dX10_part_22 (by decide) (q := 23) rfl ?_
  refine J_icmp_ne (tgt := 69) dX10_part_23 (by decide) (q := 26) rfl (fun c2 => ?_) (fun c2 => ?_)
  · rw [if_neg c2] at h
    refine J_iload_n (z := 1) dX10_part_69 rfl rfl (q := 70) rfl ?_
    obtain ⟨g4, h⟩ := iteS h
    have h := Option.some.inj h
    exact J_ireturn dX10_part_70 rfl (zB_nar g4) (hr _ _ h.symm)
  · rw [if_pos c2] at h
    refine J_aload_n (z := 0) dX10_part_26 rfl rfl (q := 27) rfl ?_
    obtain ⟨vk5, sk5, hk5, h⟩ := bnd2S h
    refine J_cVi (as := []) dX10_part_27 mRX10_138 ha0 (tX10_look ha0 hk5) rfl (by omega) (Nat.le_of_ble_eq_true rfl) (Nat.le_of_ble_eq_true rfl) (q := 30) rfl ?_
    intro bk5
    refine J_bipush (x := 38) dX10_part_30 (by decide) (q := 32) rfl ?_
    refine J_icmp_ne (tgt := 69) dX10_part_32 (by decide) (q := 35) rfl (fun c5 => ?_) (fun c5 => ?_)
    · rw [if_neg c5] at h
      refine J_iload_n (z := 1) dX10_part_69 rfl rfl (q := 70) rfl ?_
      obtain ⟨g7, h⟩ := iteS h
      have h := Option.some.inj h
      exact J_ireturn dX10_part_70 rfl (zB_nar g7) (hr _ _ h.symm)
    · rw [if_pos c5] at h
      refine J_aload_n (z := 0) dX10_part_35 rfl rfl (q := 36) rfl ?_
      refine J_dup dX10_part_36 rfl (q := 37) rfl ?_
      refine J_getI dX10_part_37 lRX10_119 ha0 rfl (q := 40) rfl ?_
      refine J_iconst (x := 1) dX10_part_40 (by decide) (q := 41) rfl ?_
      refine J_iadd dX10_part_41  (q := 42) rfl ?_
      refine J_putI dX10_part_42 lRX10_119 (fun h => by cases h) ha0 rfl (q := 45) rfl ?_
      refine J_aload_n (z := 0) dX10_part_45 rfl rfl (q := 46) rfl ?_
      obtain ⟨vk8, sk8, hk8, h⟩ := bnd2S h
      refine J_cVi (as := []) dX10_part_46 mRX10_184 ha0 (hrec.2.2.2.2.1 ha0 hk8) rfl (Nat.le_refl _) (Nat.le_of_ble_eq_true rfl) (Nat.le_of_ble_eq_true rfl) (q := 49) rfl ?_
      intro bk8
      refine J_istore (lv' := [(4, .int vk8), (0, .ref a0), (3, .int a3)]) dX10_part_49 (by decide) rfl (q := 51) rfl ?_
      refine J_iload_n (z := 2) dX10_part_51 rfl rfl (q := 52) rfl ?_
      refine J_if_eq (tgt := 64) dX10_part_52 (by decide) (q := 55) rfl (fun c8 => ?_) (fun c8 => ?_)
      · rw [if_pos c8] at h
        refine J_pick [1] rfl ?_
        exact tX10_part_b64 hD hrec ha0 h hc hr
      · rw [if_neg c8] at h
        refine J_iload (z := 0) dX10_part_55 rfl (q := 57) rfl ?_
        refine J_if_eq (tgt := 64) dX10_part_57 (by decide) (q := 60) rfl (fun c9 => ?_) (fun c9 => ?_)
        · rw [if_pos c9] at h
          refine J_pick [1] rfl ?_
          exact tX10_part_b64 hD hrec ha0 h hc hr
        · rw [if_neg c9] at h
          refine J_iconst (x := 1) dX10_part_60 (by decide) (q := 61) rfl ?_
          refine J_goto (tgt := 65) dX10_part_61 (by decide) ?_
          refine J_pick [1] rfl ?_
          exact tX10_part_b65 hD hrec ha0 h hc hr

def fX10_part_w18 (rec : Nat → Nat → Int32 → Int32 → Mm → Option (Int32 × Mm)) (a0 : Nat) (a3 : Int32) (σ : Mm) : Option (Int32 × Mm) :=
  wh (fun a : Int32 × Mm => fX10_part_l18 rec a0 a.1 a.2) BIG (a3, σ)
set_option maxRecDepth 20000 in
set_option maxHeartbeats 2000000 in
theorem tX10_part_w18 {X : XS} {n : Nat} {σ : Mm} {F : Nat × Option Value × Mm} {dr : Nat} {rec : Nat → Nat → Int32 → Int32 → Mm → Option (Int32 × Mm)} (hD : 8 ≤ dr) (hrec : RECX10p X dr n rec) {a0 : Nat} {a3 : Int32} (ha0 : RT n a0 110) {res : Int32 × Mm} (h : fX10_part_w18 rec a0 a3 σ = some res) (hr : ∀ (v : Int32) (s : Mm), res = (v, s) → F = (n, some (.int v), s)) : J X mX10_part (dr + 1) 0 0 F 18 [(0, .ref a0), (3, .int a3)] [] n σ := by
  unfold fX10_part_w18 at h
  refine wh_rule (P := fun a : Int32 × Mm => J X mX10_part (dr + 1) 0 0 F 18 [(0, .ref a0), (3, .int a.1)] [] n a.2) (K := fun b => b = res) ?_ _ _ _ h rfl
  intro a
  refine ⟨fun a2 hb hP => ?_, fun b hb hK => ?_⟩
  · exact tX10_part_l18 hD hrec ha0 hb (fun _ _ e => by cases e; exact hP) (fun _ _ e => by cases e)
  · subst hK
    exact tX10_part_l18 hD hrec ha0 hb (fun _ _ e => by cases e) (fun v0 v1 e => hr v0 v1 (Sum.inr.inj e))

def fX10_part_b17 (rec : Nat → Nat → Int32 → Int32 → Mm → Option (Int32 × Mm)) (a0 : Nat) (z0 : Int32) (σ : Mm) : Option (Int32 × Mm) :=
  (fX10_part_w18 rec a0 z0 σ).bind (fun o11 => some o11)
set_option maxRecDepth 20000 in
set_option maxHeartbeats 2000000 in
theorem tX10_part_b17 {X : XS} {n : Nat} {σ : Mm} {dr : Nat} {rec : Nat → Nat → Int32 → Int32 → Mm → Option (Int32 × Mm)} (hD : 8 ≤ dr) (hrec : RECX10p X dr n rec) {a0 : Nat} {z0 : Int32} (ha0 : RT n a0 110) {res : Int32 × Mm} (h : fX10_part_b17 rec a0 z0 σ = some res) : J X mX10_part (dr + 1) 0 0 (n, some (.int res.1), res.2) 17 [(0, .ref a0)] [.int z0] n σ := by
  unfold fX10_part_b17 at h
  refine J_istore_n (lv' := [(3, .int z0), (0, .ref a0)]) dX10_part_17 rfl (by decide) rfl (q := 18) rfl ?_
  obtain ⟨o11, hlo11, h⟩ := bindS h
  refine J_pick [1, 0] rfl ?_
  refine tX10_part_w18 hD hrec ha0 hlo11 ?_
  · intro vo11 so11 qo11
    rw [qo11] at h
    try dsimp only [Sum.elim_inl, Sum.elim_inr] at h
    have h := Option.some.inj h
    subst h
    rfl

def fX10_part (rec : Nat → Nat → Int32 → Int32 → Mm → Option (Int32 × Mm)) (a0 : Nat) (a1 : Int32) (a2 : Int32) (σ : Mm) : Option (Int32 × Mm) :=
  if a1 = 0 then bnd2 (rec 4 a0 0 0 σ) fun vk2 sk2 => fX10_part_b17 rec a0 vk2 sk2 else bnd2 (rec 3 a0 1 a2 σ) fun vk12 sk12 => fX10_part_b17 rec a0 vk12 sk12
set_option maxRecDepth 20000 in
set_option maxHeartbeats 2000000 in
theorem tX10_part {X : XS} {n : Nat} {σ : Mm} {dr : Nat} {rec : Nat → Nat → Int32 → Int32 → Mm → Option (Int32 × Mm)} (hD : 8 ≤ dr) (hrec : RECX10p X dr n rec) {a0 : Nat} {a1 : Int32} {a2 : Int32} (ha0 : RT n a0 110) {res : Int32 × Mm} (h : fX10_part rec a0 a1 a2 σ = some res) : MT X yX10_part mX10_part (dr + 1) 0 0 [.ref a0, .int a1, .int a2] n σ (n, some (.int res.1), res.2) := by
  unfold fX10_part at h
  refine MT_of (by decide +kernel) rfl (fun h => by cases h) (Nat.le_of_ble_eq_true rfl) ?_
  show J X mX10_part (dr + 1) 0 0 (n, some (.int res.1), res.2) 0 [(0, .ref a0), (1, .int a1), (2, .int a2)] [] n σ
  refine J_iload_n (z := 1) dX10_part_0 rfl rfl (q := 1) rfl ?_
  refine J_if_eq (tgt := 13) dX10_part_1 (by decide) (q := 4) rfl (fun c0 => ?_) (fun c0 => ?_)
  · rw [if_pos c0] at h
    refine J_aload_n (z := 0) dX10_part_13 rfl rfl (q := 14) rfl ?_
    obtain ⟨vk2, sk2, hk2, h⟩ := bnd2S h
    refine J_cVi (as := []) dX10_part_14 mRX10_184 ha0 (hrec.2.2.2.2.1 ha0 hk2) rfl (Nat.le_refl _) (Nat.le_of_ble_eq_true rfl) (Nat.le_of_ble_eq_true rfl) (q := 17) rfl ?_
    intro bk2
    refine J_pick [0] rfl ?_
    exact tX10_part_b17 hD hrec ha0 h
  · rw [if_neg c0] at h
    refine J_aload_n (z := 0) dX10_part_4 rfl rfl (q := 5) rfl ?_
    refine J_iconst (x := 1) dX10_part_5 (by decide) (q := 6) rfl ?_
    refine J_iload_n (z := 2) dX10_part_6 rfl rfl (q := 7) rfl ?_
    obtain ⟨vk12, sk12, hk12, h⟩ := bnd2S h
    refine J_cVi (as := [.int 1, .int a2]) dX10_part_7 mRX10_191 ha0 (hrec.2.2.2.1 ha0 hk12) rfl (Nat.le_refl _) (Nat.le_of_ble_eq_true rfl) (Nat.le_of_ble_eq_true rfl) (q := 10) rfl ?_
    intro bk12
    refine J_goto (tgt := 17) dX10_part_10 (by decide) ?_
    refine J_pick [0] rfl ?_
    exact tX10_part_b17 hD hrec ha0 h

def fX10_condition_b56 (rec : Nat → Nat → Int32 → Int32 → Mm → Option (Int32 × Mm)) (a0 : Nat) (z0 : Int32) (σ : Mm) : Option ((Int32 × Mm) ⊕ (Int32 × Mm)) :=
  some (Sum.inl (z0, σ))
set_option maxRecDepth 20000 in
set_option maxHeartbeats 2000000 in
theorem tX10_condition_b56 {X : XS} {n : Nat} {σ : Mm} {F : Nat × Option Value × Mm} {dr : Nat} {rec : Nat → Nat → Int32 → Int32 → Mm → Option (Int32 × Mm)} (hD : 8 ≤ dr) (hrec : RECX10p X dr n rec) {a0 : Nat} {z0 : Int32} (ha0 : RT n a0 110) {res : (Int32 × Mm) ⊕ (Int32 × Mm)} (h : fX10_condition_b56 rec a0 z0 σ = some res) (hc : ∀ (b3 : Int32) (s : Mm), res = .inl (b3, s) → J X mX10_condition (dr + 1) 0 0 F 7 [(0, .ref a0), (3, .int b3)] [] n s) (hr : ∀ (v : Int32) (s : Mm), res = .inr (v, s) → F = (n, some (.int v), s)) : J X mX10_condition (dr + 1) 0 0 F 56 [(0, .ref a0)] [.int z0] n σ := by
  unfold fX10_condition_b56 at h
  refine J_istore_n (lv' := [(3, .int z0), (0, .ref a0)]) dX10_condition_56 rfl (by decide) rfl (q := 57) rfl ?_
  refine J_goto (tgt := 7) dX10_condition_57 (by decide) ?_
  have h := Option.some.inj h
  refine J_pick [1, 0] rfl ?_
  exact hc _ _ h.symm

def fX10_condition_b51 (rec : Nat → Nat → Int32 → Int32 → Mm → Option (Int32 × Mm)) (a0 : Nat) (σ : Mm) : Option ((Int32 × Mm) ⊕ (Int32 × Mm)) :=
  fX10_condition_b56 rec a0 1 σ
set_option maxRecDepth 20000 in
set_option maxHeartbeats 2000000 in
theorem tX10_condition_b51 {X : XS} {n : Nat} {σ : Mm} {F : Nat × Option Value × Mm} {dr : Nat} {rec : Nat → Nat → Int32 → Int32 → Mm → Option (Int32 × Mm)} (hD : 8 ≤ dr) (hrec : RECX10p X dr n rec) {a0 : Nat} (ha0 : RT n a0 110) {res : (Int32 × Mm) ⊕ (Int32 × Mm)} (h : fX10_condition_b51 rec a0 σ = some res) (hc : ∀ (b3 : Int32) (s : Mm), res = .inl (b3, s) → J X mX10_condition (dr + 1) 0 0 F 7 [(0, .ref a0), (3, .int b3)] [] n s) (hr : ∀ (v : Int32) (s : Mm), res = .inr (v, s) → F = (n, some (.int v), s)) : J X mX10_condition (dr + 1) 0 0 F 51 [(0, .ref a0)] [] n σ := by
  unfold fX10_condition_b51 at h
  refine J_iconst (x := 1) dX10_condition_51 (by decide) (q := 52) rfl ?_
  refine J_goto (tgt := 56) dX10_condition_52 (by decide) ?_
  refine J_pick [0] rfl ?_
  exact tX10_condition_b56 hD hrec ha0 h hc hr

def fX10_condition_l7 (rec : Nat → Nat → Int32 → Int32 → Mm → Option (Int32 × Mm)) (a0 : Nat) (a3 : Int32) (σ : Mm) : Option ((Int32 × Mm) ⊕ (Int32 × Mm)) :=
  if (gI σ a0 11) = (-1) then bnd2 (fX10_look a0 σ) fun vk4 sk4 => if vk4 = 124 then bnd2 (rec 5 a0 0 0 (sI sk4 a0 10 ((gI sk4 a0 10) + 1))) fun vk7 sk7 => if a3 = 0 then if vk7 = 0 then fX10_condition_b56 rec a0 0 sk7 else fX10_condition_b51 rec a0 sk7 else fX10_condition_b51 rec a0 sk7 else if zB a3 = true then some (Sum.inr (a3, sk4)) else none else if zB a3 = true then some (Sum.inr (a3, σ)) else none
set_option maxRecDepth 20000 in
set_option maxHeartbeats 2000000 in
theorem tX10_condition_l7 {X : XS} {n : Nat} {σ : Mm} {F : Nat × Option Value × Mm} {dr : Nat} {rec : Nat → Nat → Int32 → Int32 → Mm → Option (Int32 × Mm)} (hD : 8 ≤ dr) (hrec : RECX10p X dr n rec) {a0 : Nat} {a3 : Int32} (ha0 : RT n a0 110) {res : (Int32 × Mm) ⊕ (Int32 × Mm)} (h : fX10_condition_l7 rec a0 a3 σ = some res) (hc : ∀ (b3 : Int32) (s : Mm), res = .inl (b3, s) → J X mX10_condition (dr + 1) 0 0 F 7 [(0, .ref a0), (3, .int b3)] [] n s) (hr : ∀ (v : Int32) (s : Mm), res = .inr (v, s) → F = (n, some (.int v), s)) : J X mX10_condition (dr + 1) 0 0 F 7 [(0, .ref a0), (3, .int a3)] [] n σ := by
  unfold fX10_condition_l7 at h
  refine J_aload_n (z := 0) dX10_condition_7 rfl rfl (q := 8) rfl ?_
  refine J_getI dX10_condition_8 lRX10_128 ha0 rfl (q := 11) rfl ?_
  refine J_iconst (x := (-1)) dX10_condition_11 (by decide) (q := 12) rfl ?_
  refine J_icmp_ne (tgt := 60) dX10_condition_12 (by decide) (q := 15) rfl (fun c1 => ?_) (fun c1 => ?_)
  · rw [if_neg c1] at h
    refine J_iload_n (z := 1) dX10_condition_60 rfl rfl (q := 61) rfl ?_
    obtain ⟨g3, h⟩ := iteS h
    have h := Option.some.inj h
    exact J_ireturn dX10_condition_61 rfl (zB_nar g3) (hr _ _ h.symm)
  · rw [if_pos c1] at h
    refine J_aload_n (z := 0) dX10_condition_15 rfl rfl (q := 16) rfl ?_
    obtain ⟨vk4, sk4, hk4, h⟩ := bnd2S h
    refine J_cVi (as := []) dX10_condition_16 mRX10_138 ha0 (tX10_look ha0 hk4) rfl (by omega) (Nat.le_of_ble_eq_true rfl) (Nat.le_of_ble_eq_true rfl) (q := 19) rfl ?_
    intro bk4
    refine J_bipush (x := 124) dX10_condition_19 (by decide) (q := 21) rfl ?_
    refine J_icmp_ne (tgt := 60) dX10_condition_21 (by decide) (q := 24) rfl (fun c4 => ?_) (fun c4 => ?_)
    · rw [if_neg c4] at h
      refine J_iload_n (z := 1) dX10_condition_60 rfl rfl (q := 61) rfl ?_
      obtain ⟨g6, h⟩ := iteS h
      have h := Option.some.inj h
      exact J_ireturn dX10_condition_61 rfl (zB_nar g6) (hr _ _ h.symm)
    · rw [if_pos c4] at h
      refine J_aload_n (z := 0) dX10_condition_24 rfl rfl (q := 25) rfl ?_
      refine J_dup dX10_condition_25 rfl (q := 26) rfl ?_
      refine J_getI dX10_condition_26 lRX10_119 ha0 rfl (q := 29) rfl ?_
      refine J_iconst (x := 1) dX10_condition_29 (by decide) (q := 30) rfl ?_
      refine J_iadd dX10_condition_30  (q := 31) rfl ?_
      refine J_putI dX10_condition_31 lRX10_119 (fun h => by cases h) ha0 rfl (q := 34) rfl ?_
      refine J_aload_n (z := 0) dX10_condition_34 rfl rfl (q := 35) rfl ?_
      refine J_iconst (x := 0) dX10_condition_35 (by decide) (q := 36) rfl ?_
      refine J_iconst (x := 0) dX10_condition_36 (by decide) (q := 37) rfl ?_
      obtain ⟨vk7, sk7, hk7, h⟩ := bnd2S h
      refine J_cVi (as := [.int 0, .int 0]) dX10_condition_37 mRX10_194 ha0 (hrec.2.2.2.2.2.1 ha0 hk7) rfl (Nat.le_refl _) (Nat.le_of_ble_eq_true rfl) (Nat.le_of_ble_eq_true rfl) (q := 40) rfl ?_
      intro bk7
      refine J_istore (lv' := [(4, .int vk7), (0, .ref a0), (3, .int a3)]) dX10_condition_40 (by decide) rfl (q := 42) rfl ?_
      refine J_iload_n (z := 2) dX10_condition_42 rfl rfl (q := 43) rfl ?_
      refine J_if_ne (tgt := 51) dX10_condition_43 (by decide) (q := 46) rfl (fun c7 => ?_) (fun c7 => ?_)
      · rw [if_neg c7] at h
        refine J_pick [1] rfl ?_
        exact tX10_condition_b51 hD hrec ha0 h hc hr
      · rw [if_pos c7] at h
        refine J_iload (z := 0) dX10_condition_46 rfl (q := 48) rfl ?_
        refine J_if_eq (tgt := 55) dX10_condition_48 (by decide) (q := 51) rfl (fun c8 => ?_) (fun c8 => ?_)
        · rw [if_pos c8] at h
          refine J_iconst (x := 0) dX10_condition_55 (by decide) (q := 56) rfl ?_
          refine J_pick [1] rfl ?_
          exact tX10_condition_b56 hD hrec ha0 h hc hr
        · rw [if_neg c8] at h
          refine J_pick [1] rfl ?_
          exact tX10_condition_b51 hD hrec ha0 h hc hr

def fX10_condition_w7 (rec : Nat → Nat → Int32 → Int32 → Mm → Option (Int32 × Mm)) (a0 : Nat) (a3 : Int32) (σ : Mm) : Option (Int32 × Mm) :=
  wh (fun a : Int32 × Mm => fX10_condition_l7 rec a0 a.1 a.2) BIG (a3, σ)
set_option maxRecDepth 20000 in
set_option maxHeartbeats 2000000 in
theorem tX10_condition_w7 {X : XS} {n : Nat} {σ : Mm} {F : Nat × Option Value × Mm} {dr : Nat} {rec : Nat → Nat → Int32 → Int32 → Mm → Option (Int32 × Mm)} (hD : 8 ≤ dr) (hrec : RECX10p X dr n rec) {a0 : Nat} {a3 : Int32} (ha0 : RT n a0 110) {res : Int32 × Mm} (h : fX10_condition_w7 rec a0 a3 σ = some res) (hr : ∀ (v : Int32) (s : Mm), res = (v, s) → F = (n, some (.int v), s)) : J X mX10_condition (dr + 1) 0 0 F 7 [(0, .ref a0), (3, .int a3)] [] n σ := by
  unfold fX10_condition_w7 at h
  refine wh_rule (P := fun a : Int32 × Mm => J X mX10_condition (dr + 1) 0 0 F 7 [(0, .ref a0), (3, .int a.1)] [] n a.2) (K := fun b => b = res) ?_ _ _ _ h rfl
  intro a
  refine ⟨fun a2 hb hP => ?_, fun b hb hK => ?_⟩
  · exact tX10_condition_l7 hD hrec ha0 hb (fun _ _ e => by cases e; exact hP) (fun _ _ e => by cases e)
  · subst hK
    exact tX10_condition_l7 hD hrec ha0 hb (fun _ _ e => by cases e) (fun v0 v1 e => hr v0 v1 (Sum.inr.inj e))

def fX10_condition (rec : Nat → Nat → Int32 → Int32 → Mm → Option (Int32 × Mm)) (a0 : Nat) (a1 : Int32) (a2 : Int32) (σ : Mm) : Option (Int32 × Mm) :=
  bnd2 (rec 5 a0 a1 a2 σ) fun vk1 sk1 => (fX10_condition_w7 rec a0 vk1 sk1).bind (fun o10 => some o10)
set_option maxRecDepth 20000 in
set_option maxHeartbeats 2000000 in
theorem tX10_condition {X : XS} {n : Nat} {σ : Mm} {dr : Nat} {rec : Nat → Nat → Int32 → Int32 → Mm → Option (Int32 × Mm)} (hD : 8 ≤ dr) (hrec : RECX10p X dr n rec) {a0 : Nat} {a1 : Int32} {a2 : Int32} (ha0 : RT n a0 110) {res : Int32 × Mm} (h : fX10_condition rec a0 a1 a2 σ = some res) : MT X yX10_condition mX10_condition (dr + 1) 0 0 [.ref a0, .int a1, .int a2] n σ (n, some (.int res.1), res.2) := by
  unfold fX10_condition at h
  refine MT_of (by decide +kernel) rfl (fun h => by cases h) (Nat.le_of_ble_eq_true rfl) ?_
  show J X mX10_condition (dr + 1) 0 0 (n, some (.int res.1), res.2) 0 [(0, .ref a0), (1, .int a1), (2, .int a2)] [] n σ
  refine J_aload_n (z := 0) dX10_condition_0 rfl rfl (q := 1) rfl ?_
  refine J_iload_n (z := 1) dX10_condition_1 rfl rfl (q := 2) rfl ?_
  refine J_iload_n (z := 2) dX10_condition_2 rfl rfl (q := 3) rfl ?_
  obtain ⟨vk1, sk1, hk1, h⟩ := bnd2S h
  refine J_cVi (as := [.int a1, .int a2]) dX10_condition_3 mRX10_194 ha0 (hrec.2.2.2.2.2.1 ha0 hk1) rfl (Nat.le_refl _) (Nat.le_of_ble_eq_true rfl) (Nat.le_of_ble_eq_true rfl) (q := 6) rfl ?_
  intro bk1
  refine J_istore_n (lv' := [(3, .int vk1), (0, .ref a0), (1, .int a1), (2, .int a2)]) dX10_condition_6 rfl (by decide) rfl (q := 7) rfl ?_
  obtain ⟨o10, hlo10, h⟩ := bindS h
  refine J_pick [1, 0] rfl ?_
  refine tX10_condition_w7 hD hrec ha0 hlo10 ?_
  · intro vo10 so10 qo10
    rw [qo10] at h
    try dsimp only [Sum.elim_inl, Sum.elim_inr] at h
    have h := Option.some.inj h
    subst h
    rfl

def gX10p : Nat → Nat → Nat → Int32 → Int32 → Mm → Option (Int32 × Mm)
  | 0, _, _, _, _, _ => none
  | k + 1, w, a0, a1, a2, σ => match w with
    | 0 => fX10_atom (gX10p k) a0 σ
    | 1 => fX10_term (gX10p k) a0 σ
    | 2 => fX10_sum (gX10p k) a0 σ
    | 3 => fX10_compares (gX10p k) a0 a1 a2 σ
    | 4 => fX10_unit (gX10p k) a0 σ
    | 5 => fX10_part (gX10p k) a0 a1 a2 σ
    | 6 => fX10_condition (gX10p k) a0 a1 a2 σ
    | _ => none
theorem tgX10p {X : XS} {n : Nat} : ∀ k : Nat, RECX10p X (8 + k) n (gX10p k) := by
  intro k
  induction k with
  | zero =>
    unfold RECX10p
    exact ⟨fun _ h => (by cases h), fun _ h => (by cases h), fun _ h => (by cases h), fun _ h => (by cases h), fun _ h => (by cases h), fun _ h => (by cases h), fun _ h => (by cases h)⟩
  | succ k ih =>
    unfold RECX10p
    exact ⟨fun h0 h => tX10_atom (Nat.le_add_right 8 k) ih h0 h, fun h0 h => tX10_term (Nat.le_add_right 8 k) ih h0 h, fun h0 h => tX10_sum (Nat.le_add_right 8 k) ih h0 h, fun h0 h => tX10_compares (Nat.le_add_right 8 k) ih h0 h, fun h0 h => tX10_unit (Nat.le_add_right 8 k) ih h0 h, fun h0 h => tX10_part (Nat.le_add_right 8 k) ih h0 h, fun h0 h => tX10_condition (Nat.le_add_right 8 k) ih h0 h⟩
def fX10_clause_b134 (a0 : Nat) (a1 : Int32) (a2 : Int32) (a3 : Int32) (σ : Mm) : Option (Mm) :=
  if (gI σ a0 11) = (-1) then if (gI σ a0 17) = 0 then if a1 = (gI σ a0 13) then if a2 = 0 then some σ else some (sI (sI σ a0 17 1) a0 14 a3) else some σ else some σ else some σ
set_option maxRecDepth 20000 in
set_option maxHeartbeats 2000000 in
theorem tX10_clause_b134 {X : XS} {n : Nat} {σ : Mm} {a0 : Nat} {a1 : Int32} {a2 : Int32} {a3 : Int32} (ha0 : RT n a0 110) {res : Mm} (h : fX10_clause_b134 a0 a1 a2 a3 σ = some res) : J X mX10_clause 109 0 0 (n, none, res) 134 [(0, .ref a0), (1, .int a1), (2, .int a2), (3, .int a3)] [] n σ := by
  unfold fX10_clause_b134 at h
  refine J_aload_n (z := 0) dX10_clause_134 rfl rfl (q := 135) rfl ?_
  refine J_getI dX10_clause_135 lRX10_128 ha0 rfl (q := 138) rfl ?_
  refine J_iconst (x := (-1)) dX10_clause_138 (by decide) (q := 139) rfl ?_
  refine J_icmp_ne (tgt := 161) dX10_clause_139 (by decide) (q := 142) rfl (fun c11 => ?_) (fun c11 => ?_)
  · rw [if_neg c11] at h
    have h := Option.some.inj h
    subst h
    exact J_return dX10_clause_161 rfl rfl
  · rw [if_pos c11] at h
    refine J_aload_n (z := 0) dX10_clause_142 rfl rfl (q := 143) rfl ?_
    refine J_getI dX10_clause_143 lRX10_197 ha0 rfl (q := 146) rfl ?_
    refine J_if_ne (tgt := 161) dX10_clause_146 (by decide) (q := 149) rfl (fun c12 => ?_) (fun c12 => ?_)
    · rw [if_neg c12] at h
      have h := Option.some.inj h
      subst h
      exact J_return dX10_clause_161 rfl rfl
    · rw [if_pos c12] at h
      refine J_iload_n (z := 1) dX10_clause_149 rfl rfl (q := 150) rfl ?_
      refine J_aload_n (z := 0) dX10_clause_150 rfl rfl (q := 151) rfl ?_
      refine J_getI dX10_clause_151 lRX10_201 ha0 rfl (q := 154) rfl ?_
      refine J_icmp_ne (tgt := 161) dX10_clause_154 (by decide) (q := 157) rfl (fun c13 => ?_) (fun c13 => ?_)
      · rw [if_neg c13] at h
        have h := Option.some.inj h
        subst h
        exact J_return dX10_clause_161 rfl rfl
      · rw [if_pos c13] at h
        refine J_iload_n (z := 2) dX10_clause_157 rfl rfl (q := 158) rfl ?_
        refine J_if_ne (tgt := 162) dX10_clause_158 (by decide) (q := 161) rfl (fun c14 => ?_) (fun c14 => ?_)
        · rw [if_neg c14] at h
          refine J_aload_n (z := 0) dX10_clause_162 rfl rfl (q := 163) rfl ?_
          refine J_iconst (x := 1) dX10_clause_163 (by decide) (q := 164) rfl ?_
          refine J_putZ dX10_clause_164 lRX10_197 (fun h => by cases h) ha0 rfl (by decide) (by decide) (q := 167) rfl ?_
          refine J_aload_n (z := 0) dX10_clause_167 rfl rfl (q := 168) rfl ?_
          refine J_iload_n (z := 3) dX10_clause_168 rfl rfl (q := 169) rfl ?_
          refine J_putI dX10_clause_169 lRX10_204 (fun h => by cases h) ha0 rfl (q := 172) rfl ?_
          have h := Option.some.inj h
          subst h
          exact J_return dX10_clause_172 rfl rfl
        · rw [if_pos c14] at h
          have h := Option.some.inj h
          subst h
          exact J_return dX10_clause_161 rfl rfl

def fX10_clause_b64 (a0 : Nat) (a1 : Int32) (σ : Mm) : Option (Mm) :=
  bnd2 (gX10p 100 6 a0 0 0 σ) fun vk8 sk8 => bnd2 (fX10_takes a0 63 sk8) fun vk9 sk9 => if vk9 = 0 then some sk9 else bnd2 (gX10p 100 2 a0 0 0 sk9) fun vk11 sk11 => fX10_clause_b134 a0 a1 vk8 vk11 sk11
set_option maxRecDepth 20000 in
set_option maxHeartbeats 2000000 in
theorem tX10_clause_b64 {X : XS} {n : Nat} {σ : Mm} {a0 : Nat} {a1 : Int32} (ha0 : RT n a0 110) {res : Mm} (h : fX10_clause_b64 a0 a1 σ = some res) : J X mX10_clause 109 0 0 (n, none, res) 64 [(0, .ref a0), (1, .int a1)] [] n σ := by
  unfold fX10_clause_b64 at h
  refine J_aload_n (z := 0) dX10_clause_64 rfl rfl (q := 65) rfl ?_
  refine J_iconst (x := 0) dX10_clause_65 (by decide) (q := 66) rfl ?_
  refine J_iconst (x := 0) dX10_clause_66 (by decide) (q := 67) rfl ?_
  obtain ⟨vk8, sk8, hk8, h⟩ := bnd2S h
  refine J_cVi (as := [.int 0, .int 0]) dX10_clause_67 mRX10_187 ha0 ((tgX10p 100).2.2.2.2.2.2 ha0 hk8) rfl (Nat.le_of_ble_eq_true rfl) (Nat.le_of_ble_eq_true rfl) (Nat.le_of_ble_eq_true rfl) (q := 70) rfl ?_
  intro bk8
  refine J_istore_n (lv' := [(2, .int vk8), (0, .ref a0), (1, .int a1)]) dX10_clause_70 rfl (by decide) rfl (q := 71) rfl ?_
  refine J_aload_n (z := 1) dX10_clause_71 rfl rfl (q := 72) rfl ?_
  refine J_bipush (x := 63) dX10_clause_72 (by decide) (q := 74) rfl ?_
  obtain ⟨vk9, sk9, hk9, h⟩ := bnd2S h
  refine J_cVi (as := [.int 63]) dX10_clause_74 mRX10_164 ha0 (tX10_takes ha0 hk9) rfl (Nat.le_of_ble_eq_true rfl) (Nat.le_of_ble_eq_true rfl) (Nat.le_of_ble_eq_true rfl) (q := 77) rfl ?_
  intro bk9
  refine J_if_ne (tgt := 81) dX10_clause_77 (by decide) (q := 80) rfl (fun c9 => ?_) (fun c9 => ?_)
  · rw [if_neg c9] at h
    refine J_aload_n (z := 1) dX10_clause_81 rfl rfl (q := 82) rfl ?_
    obtain ⟨vk11, sk11, hk11, h⟩ := bnd2S h
    refine J_cVi (as := []) dX10_clause_82 mRX10_161 ha0 ((tgX10p 100).2.2.1 ha0 hk11) rfl (Nat.le_of_ble_eq_true rfl) (Nat.le_of_ble_eq_true rfl) (Nat.le_of_ble_eq_true rfl) (q := 85) rfl ?_
    intro bk11
    refine J_istore_n (lv' := [(3, .int vk11), (2, .int vk8), (0, .ref a0), (1, .int a1)]) dX10_clause_85 rfl (by decide) rfl (q := 86) rfl ?_
    refine J_goto (tgt := 134) dX10_clause_86 (by decide) ?_
    refine J_pick [2, 3, 1, 0] rfl ?_
    exact tX10_clause_b134 ha0 h
  · rw [if_pos c9] at h
    have h := Option.some.inj h
    subst h
    exact J_return dX10_clause_80 rfl rfl

def fX10_clause (a0 : Nat) (σ : Mm) : Option (Mm) :=
  bnd2 (fX10_look a0 σ) fun vk1 sk1 => (fX10_isAmong (1100 + 2 * 5) vk1 sk1).bind fun vk2 => if vk2 = 0 then bnd2 (fX10_fails a0 sk1) fun vk26 sk26 => some sk26 else bnd2 (fX10_takes a0 58 (sI sk1 a0 10 ((gI sk1 a0 10) + 1))) fun vk4 sk4 => if vk4 = 0 then some sk4 else bnd2 (fX10_look a0 sk4) fun vk6 sk6 => if vk6 = 33 then fX10_clause_b64 a0 vk1 sk6 else if vk6 = 40 then fX10_clause_b64 a0 vk1 sk6 else bnd2 (gX10p 100 2 a0 0 0 sk6) fun vk17 sk17 => if (gI sk17 a0 11) = (-1) then bnd2 (fX10_look a0 sk17) fun vk19 sk19 => (fX10_isSign vk19 sk19).bind fun vk20 => if vk20 = 0 then fX10_clause_b134 a0 vk1 1 vk17 sk19 else bnd2 (gX10p 100 6 a0 1 vk17 sk19) fun vk22 sk22 => bnd2 (fX10_takes a0 63 sk22) fun vk23 sk23 => if vk23 = 0 then some sk23 else bnd2 (gX10p 100 2 a0 0 0 sk23) fun vk25 sk25 => fX10_clause_b134 a0 vk1 vk22 vk25 sk25 else fX10_clause_b134 a0 vk1 1 vk17 sk17
set_option maxRecDepth 20000 in
set_option maxHeartbeats 2000000 in
theorem tX10_clause {X : XS} {n : Nat} {σ : Mm} {a0 : Nat} (ha0 : RT n a0 110) {res : Mm} (h : fX10_clause a0 σ = some res) : MT X yX10_clause mX10_clause 109 0 0 [.ref a0] n σ (n, none, res) := by
  unfold fX10_clause at h
  refine MT_of (by decide +kernel) rfl (fun h => by cases h) (Nat.le_of_ble_eq_true rfl) ?_
  show J X mX10_clause 109 0 0 (n, none, res) 0 [(0, .ref a0)] [] n σ
  refine J_aload_n (z := 0) dX10_clause_0 rfl rfl (q := 1) rfl ?_
  obtain ⟨vk1, sk1, hk1, h⟩ := bnd2S h
  refine J_cVi (as := []) dX10_clause_1 mRX10_138 ha0 (tX10_look ha0 hk1) rfl (Nat.le_of_ble_eq_true rfl) (Nat.le_of_ble_eq_true rfl) (Nat.le_of_ble_eq_true rfl) (q := 4) rfl ?_
  intro bk1
  refine J_istore_n (lv' := [(1, .int vk1), (0, .ref a0)]) dX10_clause_4 rfl (by decide) rfl (q := 5) rfl ?_
  refine J_ldcS (tx := "y") (j := 5) dX10_clause_5 (by decide +kernel) (q := 7) rfl ?_
  refine J_iload_n (z := 0) dX10_clause_7 rfl rfl (q := 8) rfl ?_
  obtain ⟨vk2, hk2, h⟩ := bindS h
  refine J_cSi (as := [.ref (1100 + 2 * 5), .int vk1]) dX10_clause_8 mRX10_154 (tX10_isAmong (rtS_5 _) hk2) rfl (Nat.le_of_ble_eq_true rfl) (Nat.le_of_ble_eq_true rfl) (Nat.le_of_ble_eq_true rfl) (q := 11) rfl ?_
  intro bk2
  refine J_if_ne (tgt := 20) dX10_clause_11 (by decide) (q := 14) rfl (fun c2 => ?_) (fun c2 => ?_)
  · rw [if_neg c2] at h
    refine J_aload_n (z := 1) dX10_clause_20 rfl rfl (q := 21) rfl ?_
    refine J_dup dX10_clause_21 rfl (q := 22) rfl ?_
    refine J_getI dX10_clause_22 lRX10_119 ha0 rfl (q := 25) rfl ?_
    refine J_iconst (x := 1) dX10_clause_25 (by decide) (q := 26) rfl ?_
    refine J_iadd dX10_clause_26  (q := 27) rfl ?_
    refine J_putI dX10_clause_27 lRX10_119 (fun h => by cases h) ha0 rfl (q := 30) rfl ?_
    refine J_aload_n (z := 1) dX10_clause_30 rfl rfl (q := 31) rfl ?_
    refine J_bipush (x := 58) dX10_clause_31 (by decide) (q := 33) rfl ?_
    obtain ⟨vk4, sk4, hk4, h⟩ := bnd2S h
    refine J_cVi (as := [.int 58]) dX10_clause_33 mRX10_164 ha0 (tX10_takes ha0 hk4) rfl (Nat.le_of_ble_eq_true rfl) (Nat.le_of_ble_eq_true rfl) (Nat.le_of_ble_eq_true rfl) (q := 36) rfl ?_
    intro bk4
    refine J_if_ne (tgt := 40) dX10_clause_36 (by decide) (q := 39) rfl (fun c4 => ?_) (fun c4 => ?_)
    · rw [if_neg c4] at h
      refine J_iconst (x := 1) dX10_clause_40 (by decide) (q := 41) rfl ?_
      refine J_istore_n (lv' := [(2, .int 1), (1, .int vk1), (0, .ref a0)]) dX10_clause_41 rfl (by decide) rfl (q := 42) rfl ?_
      refine J_iconst (x := 0) dX10_clause_42 (by decide) (q := 43) rfl ?_
      refine J_istore_n (lv' := [(3, .int 0), (2, .int 1), (1, .int vk1), (0, .ref a0)]) dX10_clause_43 rfl (by decide) rfl (q := 44) rfl ?_
      refine J_aload_n (z := 3) dX10_clause_44 rfl rfl (q := 45) rfl ?_
      obtain ⟨vk6, sk6, hk6, h⟩ := bnd2S h
      refine J_cVi (as := []) dX10_clause_45 mRX10_138 ha0 (tX10_look ha0 hk6) rfl (Nat.le_of_ble_eq_true rfl) (Nat.le_of_ble_eq_true rfl) (Nat.le_of_ble_eq_true rfl) (q := 48) rfl ?_
      intro bk6
      refine J_istore (lv' := [(4, .int vk6), (3, .int 0), (2, .int 1), (1, .int vk1), (0, .ref a0)]) dX10_clause_48 (by decide) rfl (q := 50) rfl ?_
      refine J_iload (z := 0) dX10_clause_50 rfl (q := 52) rfl ?_
      refine J_bipush (x := 33) dX10_clause_52 (by decide) (q := 54) rfl ?_
      refine J_icmp_eq (tgt := 64) dX10_clause_54 (by decide) (q := 57) rfl (fun c6 => ?_) (fun c6 => ?_)
      · rw [if_pos c6] at h
        refine J_pick [4, 3] rfl ?_
        exact tX10_clause_b64 ha0 h
      · rw [if_neg c6] at h
        refine J_iload (z := 0) dX10_clause_57 rfl (q := 59) rfl ?_
        refine J_bipush (x := 40) dX10_clause_59 (by decide) (q := 61) rfl ?_
        refine J_icmp_ne (tgt := 89) dX10_clause_61 (by decide) (q := 64) rfl (fun c15 => ?_) (fun c15 => ?_)
        · rw [if_neg c15] at h
          refine J_aload_n (z := 4) dX10_clause_89 rfl rfl (q := 90) rfl ?_
          obtain ⟨vk17, sk17, hk17, h⟩ := bnd2S h
          refine J_cVi (as := []) dX10_clause_90 mRX10_161 ha0 ((tgX10p 100).2.2.1 ha0 hk17) rfl (Nat.le_of_ble_eq_true rfl) (Nat.le_of_ble_eq_true rfl) (Nat.le_of_ble_eq_true rfl) (q := 93) rfl ?_
          intro bk17
          refine J_istore_n (lv' := [(3, .int vk17), (4, .int vk6), (2, .int 1), (1, .int vk1), (0, .ref a0)]) dX10_clause_93 rfl (by decide) rfl (q := 94) rfl ?_
          refine J_aload_n (z := 4) dX10_clause_94 rfl rfl (q := 95) rfl ?_
          refine J_getI dX10_clause_95 lRX10_128 ha0 rfl (q := 98) rfl ?_
          refine J_iconst (x := (-1)) dX10_clause_98 (by decide) (q := 99) rfl ?_
          refine J_icmp_ne (tgt := 134) dX10_clause_99 (by decide) (q := 102) rfl (fun c17 => ?_) (fun c17 => ?_)
          · rw [if_neg c17] at h
            refine J_pick [4, 3, 2, 0] rfl ?_
            exact tX10_clause_b134 ha0 h
          · rw [if_pos c17] at h
            refine J_aload_n (z := 4) dX10_clause_102 rfl rfl (q := 103) rfl ?_
            obtain ⟨vk19, sk19, hk19, h⟩ := bnd2S h
            refine J_cVi (as := []) dX10_clause_103 mRX10_138 ha0 (tX10_look ha0 hk19) rfl (Nat.le_of_ble_eq_true rfl) (Nat.le_of_ble_eq_true rfl) (Nat.le_of_ble_eq_true rfl) (q := 106) rfl ?_
            intro bk19
            obtain ⟨vk20, hk20, h⟩ := bindS h
            refine J_cSi (as := [.int vk19]) dX10_clause_106 mRX10_181 (tX10_isSign  hk20) rfl (Nat.le_of_ble_eq_true rfl) (Nat.le_of_ble_eq_true rfl) (Nat.le_of_ble_eq_true rfl) (q := 109) rfl ?_
            intro bk20
            refine J_if_eq (tgt := 134) dX10_clause_109 (by decide) (q := 112) rfl (fun c20 => ?_) (fun c20 => ?_)
            · rw [if_pos c20] at h
              refine J_pick [4, 3, 2, 0] rfl ?_
              exact tX10_clause_b134 ha0 h
            · rw [if_neg c20] at h
              refine J_aload_n (z := 4) dX10_clause_112 rfl rfl (q := 113) rfl ?_
              refine J_iconst (x := 1) dX10_clause_113 (by decide) (q := 114) rfl ?_
              refine J_iload_n (z := 0) dX10_clause_114 rfl rfl (q := 115) rfl ?_
              obtain ⟨vk22, sk22, hk22, h⟩ := bnd2S h
              refine J_cVi (as := [.int 1, .int vk17]) dX10_clause_115 mRX10_187 ha0 ((tgX10p 100).2.2.2.2.2.2 ha0 hk22) rfl (Nat.le_of_ble_eq_true rfl) (Nat.le_of_ble_eq_true rfl) (Nat.le_of_ble_eq_true rfl) (q := 118) rfl ?_
              intro bk22
              refine J_istore_n (lv' := [(2, .int vk22), (3, .int vk17), (4, .int vk6), (1, .int vk1), (0, .ref a0)]) dX10_clause_118 rfl (by decide) rfl (q := 119) rfl ?_
              refine J_aload_n (z := 4) dX10_clause_119 rfl rfl (q := 120) rfl ?_
              refine J_bipush (x := 63) dX10_clause_120 (by decide) (q := 122) rfl ?_
              obtain ⟨vk23, sk23, hk23, h⟩ := bnd2S h
              refine J_cVi (as := [.int 63]) dX10_clause_122 mRX10_164 ha0 (tX10_takes ha0 hk23) rfl (Nat.le_of_ble_eq_true rfl) (Nat.le_of_ble_eq_true rfl) (Nat.le_of_ble_eq_true rfl) (q := 125) rfl ?_
              intro bk23
              refine J_if_ne (tgt := 129) dX10_clause_125 (by decide) (q := 128) rfl (fun c23 => ?_) (fun c23 => ?_)
              · rw [if_neg c23] at h
                refine J_aload_n (z := 4) dX10_clause_129 rfl rfl (q := 130) rfl ?_
                obtain ⟨vk25, sk25, hk25, h⟩ := bnd2S h
                refine J_cVi (as := []) dX10_clause_130 mRX10_161 ha0 ((tgX10p 100).2.2.1 ha0 hk25) rfl (Nat.le_of_ble_eq_true rfl) (Nat.le_of_ble_eq_true rfl) (Nat.le_of_ble_eq_true rfl) (q := 133) rfl ?_
                intro bk25
                refine J_istore_n (lv' := [(3, .int vk25), (2, .int vk22), (4, .int vk6), (1, .int vk1), (0, .ref a0)]) dX10_clause_133 rfl (by decide) rfl (q := 134) rfl ?_
                refine J_pick [4, 3, 1, 0] rfl ?_
                exact tX10_clause_b134 ha0 h
              · rw [if_pos c23] at h
                have h := Option.some.inj h
                subst h
                exact J_return dX10_clause_128 rfl rfl
        · rw [if_pos c15] at h
          refine J_pick [4, 3] rfl ?_
          exact tX10_clause_b64 ha0 h
    · rw [if_pos c4] at h
      have h := Option.some.inj h
      subst h
      exact J_return dX10_clause_39 rfl rfl
  · rw [if_pos c2] at h
    refine J_aload_n (z := 1) dX10_clause_14 rfl rfl (q := 15) rfl ?_
    obtain ⟨vk26, sk26, hk26, h⟩ := bnd2S h
    refine J_cVi (as := []) dX10_clause_15 mRX10_134 ha0 (tX10_fails ha0 hk26) rfl (Nat.le_of_ble_eq_true rfl) (Nat.le_of_ble_eq_true rfl) (Nat.le_of_ble_eq_true rfl) (q := 18) rfl ?_
    intro bk26
    refine J_pop dX10_clause_18 rfl (q := 19) rfl ?_
    have h := Option.some.inj h
    subst h
    exact J_return dX10_clause_19 rfl rfl

def fX10_starts (a0 : Nat) (a1 : Nat) (a2 : Int32) (a3 : Int32) (σ : Mm) : Option (Mm) :=
  some (sI (sI (sI (sI (sR σ a0 5 (some a1)) a0 8 a2) a0 9 a3) a0 10 0) a0 11 (-1))
set_option maxRecDepth 20000 in
set_option maxHeartbeats 2000000 in
theorem tX10_starts {X : XS} {n : Nat} {σ : Mm} {a0 : Nat} {a1 : Nat} {a2 : Int32} {a3 : Int32} (ha0 : RT n a0 110) (ha1 : RT n a1 202) {res : Mm} (h : fX10_starts a0 a1 a2 a3 σ = some res) : MT X yX10_starts mX10_starts 1 0 0 [.ref a0, .ref a1, .int a2, .int a3] n σ (n, none, res) := by
  unfold fX10_starts at h
  refine MT_of (by decide +kernel) rfl (fun h => by cases h) (Nat.le_of_ble_eq_true rfl) ?_
  show J X mX10_starts 1 0 0 (n, none, res) 0 [(0, .ref a0), (1, .ref a1), (2, .int a2), (3, .int a3)] [] n σ
  refine J_aload_n (z := 0) dX10_starts_0 rfl rfl (q := 1) rfl ?_
  refine J_aload_n (z := 1) dX10_starts_1 rfl rfl (q := 2) rfl ?_
  refine J_putR dX10_starts_2 lRX10_23 (Or.inr ⟨_, rfl⟩) (fun h => by cases h) ha0 rfl (by decide) ha1 (q := 5) rfl ?_
  refine J_aload_n (z := 0) dX10_starts_5 rfl rfl (q := 6) rfl ?_
  refine J_iload_n (z := 2) dX10_starts_6 rfl rfl (q := 7) rfl ?_
  refine J_putI dX10_starts_7 lRX10_125 (fun h => by cases h) ha0 rfl (q := 10) rfl ?_
  refine J_aload_n (z := 0) dX10_starts_10 rfl rfl (q := 11) rfl ?_
  refine J_iload_n (z := 3) dX10_starts_11 rfl rfl (q := 12) rfl ?_
  refine J_putI dX10_starts_12 lRX10_122 (fun h => by cases h) ha0 rfl (q := 15) rfl ?_
  refine J_aload_n (z := 0) dX10_starts_15 rfl rfl (q := 16) rfl ?_
  refine J_iconst (x := 0) dX10_starts_16 (by decide) (q := 17) rfl ?_
  refine J_putI dX10_starts_17 lRX10_119 (fun h => by cases h) ha0 rfl (q := 20) rfl ?_
  refine J_aload_n (z := 0) dX10_starts_20 rfl rfl (q := 21) rfl ?_
  refine J_iconst (x := (-1)) dX10_starts_21 (by decide) (q := 22) rfl ?_
  refine J_putI dX10_starts_22 lRX10_128 (fun h => by cases h) ha0 rfl (q := 25) rfl ?_
  have h := Option.some.inj h
  subst h
  exact J_return dX10_starts_25 rfl rfl

def fX10_goThrough_l32 (a0 : Nat) (σ : Mm) : Option (Mm ⊕ (Mm)) :=
  if (gI σ a0 11) = (-1) then bnd2 (fX10_look a0 σ) fun vk4 sk4 => if vk4 = 59 then (fX10_clause a0 (sI sk4 a0 10 ((gI sk4 a0 10) + 1))).bind fun sk6 => some (Sum.inl sk6) else some (Sum.inr sk4) else some (Sum.inr σ)
set_option maxRecDepth 20000 in
set_option maxHeartbeats 2000000 in
theorem tX10_goThrough_l32 {X : XS} {n : Nat} {σ : Mm} {F : Nat × Option Value × Mm} {a0 : Nat} (ha0 : RT n a0 110) {res : Mm ⊕ (Mm)} (h : fX10_goThrough_l32 a0 σ = some res) (hc : ∀  (s : Mm), res = .inl s → J X mX10_goThrough 110 0 0 F 32 [(0, .ref a0)] [] n s) (he0 : ∀  (s : Mm), res = .inr s → J X mX10_goThrough 110 0 0 F 66 [(0, .ref a0)] [] n s) : J X mX10_goThrough 110 0 0 F 32 [(0, .ref a0)] [] n σ := by
  unfold fX10_goThrough_l32 at h
  refine J_aload_n (z := 0) dX10_goThrough_32 rfl rfl (q := 33) rfl ?_
  refine J_getI dX10_goThrough_33 lRX10_128 ha0 rfl (q := 36) rfl ?_
  refine J_iconst (x := (-1)) dX10_goThrough_36 (by decide) (q := 37) rfl ?_
  refine J_icmp_ne (tgt := 66) dX10_goThrough_37 (by decide) (q := 40) rfl (fun c2 => ?_) (fun c2 => ?_)
  · rw [if_neg c2] at h
    have h := Option.some.inj h
    refine J_pick [0] rfl ?_
    exact he0 _ h.symm
  · rw [if_pos c2] at h
    refine J_aload_n (z := 0) dX10_goThrough_40 rfl rfl (q := 41) rfl ?_
    obtain ⟨vk4, sk4, hk4, h⟩ := bnd2S h
    refine J_cVi (as := []) dX10_goThrough_41 mRX10_138 ha0 (tX10_look ha0 hk4) rfl (Nat.le_of_ble_eq_true rfl) (Nat.le_of_ble_eq_true rfl) (Nat.le_of_ble_eq_true rfl) (q := 44) rfl ?_
    intro bk4
    refine J_bipush (x := 59) dX10_goThrough_44 (by decide) (q := 46) rfl ?_
    refine J_icmp_ne (tgt := 66) dX10_goThrough_46 (by decide) (q := 49) rfl (fun c4 => ?_) (fun c4 => ?_)
    · rw [if_neg c4] at h
      have h := Option.some.inj h
      refine J_pick [0] rfl ?_
      exact he0 _ h.symm
    · rw [if_pos c4] at h
      refine J_aload_n (z := 0) dX10_goThrough_49 rfl rfl (q := 50) rfl ?_
      refine J_dup dX10_goThrough_50 rfl (q := 51) rfl ?_
      refine J_getI dX10_goThrough_51 lRX10_119 ha0 rfl (q := 54) rfl ?_
      refine J_iconst (x := 1) dX10_goThrough_54 (by decide) (q := 55) rfl ?_
      refine J_iadd dX10_goThrough_55  (q := 56) rfl ?_
      refine J_putI dX10_goThrough_56 lRX10_119 (fun h => by cases h) ha0 rfl (q := 59) rfl ?_
      refine J_aload_n (z := 0) dX10_goThrough_59 rfl rfl (q := 60) rfl ?_
      obtain ⟨sk6, hk6, h⟩ := bindS h
      refine J_cVv (as := []) dX10_goThrough_60 mRX10_211 ha0 (tX10_clause ha0 hk6) rfl (Nat.le_of_ble_eq_true rfl) (Nat.le_of_ble_eq_true rfl) (Nat.le_of_ble_eq_true rfl) (q := 63) rfl ?_
      refine J_goto (tgt := 32) dX10_goThrough_63 (by decide) ?_
      have h := Option.some.inj h
      refine J_pick [0] rfl ?_
      exact hc _ h.symm

def fX10_goThrough_w32 (a0 : Nat) (σ : Mm) : Option (Mm) :=
  wh (fun a : Mm => fX10_goThrough_l32 a0 a) BIG σ
set_option maxRecDepth 20000 in
set_option maxHeartbeats 2000000 in
theorem tX10_goThrough_w32 {X : XS} {n : Nat} {σ : Mm} {F : Nat × Option Value × Mm} {a0 : Nat} (ha0 : RT n a0 110) {res : Mm} (h : fX10_goThrough_w32 a0 σ = some res) (he0 : ∀  (s : Mm), res = s → J X mX10_goThrough 110 0 0 F 66 [(0, .ref a0)] [] n s) : J X mX10_goThrough 110 0 0 F 32 [(0, .ref a0)] [] n σ := by
  unfold fX10_goThrough_w32 at h
  refine wh_rule (P := fun a : Mm => J X mX10_goThrough 110 0 0 F 32 [(0, .ref a0)] [] n a) (K := fun b => b = res) ?_ _ _ _ h rfl
  intro a
  refine ⟨fun a2 hb hP => ?_, fun b hb hK => ?_⟩
  · exact tX10_goThrough_l32 ha0 hb (fun _ e => by cases e; exact hP) (fun _ e => by cases e)
  · subst hK
    exact tX10_goThrough_l32 ha0 hb (fun _ e => by cases e) (fun v0 e => he0 v0 (Sum.inr.inj e))

def fX10_goThrough_b66 (a0 : Nat) (σ : Mm) : Option (Mm) :=
  if (gI σ a0 11) = (-1) then bnd2 (fX10_look a0 σ) fun vk9 sk9 => if vk9 = (-1) then some sk9 else bnd2 (fX10_fails a0 sk9) fun vk11 sk11 => some sk11 else some σ
set_option maxRecDepth 20000 in
set_option maxHeartbeats 2000000 in
theorem tX10_goThrough_b66 {X : XS} {n : Nat} {σ : Mm} {a0 : Nat} (ha0 : RT n a0 110) {res : Mm} (h : fX10_goThrough_b66 a0 σ = some res) : J X mX10_goThrough 110 0 0 (n, none, res) 66 [(0, .ref a0)] [] n σ := by
  unfold fX10_goThrough_b66 at h
  refine J_aload_n (z := 0) dX10_goThrough_66 rfl rfl (q := 67) rfl ?_
  refine J_getI dX10_goThrough_67 lRX10_128 ha0 rfl (q := 70) rfl ?_
  refine J_iconst (x := (-1)) dX10_goThrough_70 (by decide) (q := 71) rfl ?_
  refine J_icmp_ne (tgt := 87) dX10_goThrough_71 (by decide) (q := 74) rfl (fun c7 => ?_) (fun c7 => ?_)
  · rw [if_neg c7] at h
    have h := Option.some.inj h
    subst h
    exact J_return dX10_goThrough_87 rfl rfl
  · rw [if_pos c7] at h
    refine J_aload_n (z := 0) dX10_goThrough_74 rfl rfl (q := 75) rfl ?_
    obtain ⟨vk9, sk9, hk9, h⟩ := bnd2S h
    refine J_cVi (as := []) dX10_goThrough_75 mRX10_138 ha0 (tX10_look ha0 hk9) rfl (Nat.le_of_ble_eq_true rfl) (Nat.le_of_ble_eq_true rfl) (Nat.le_of_ble_eq_true rfl) (q := 78) rfl ?_
    intro bk9
    refine J_iconst (x := (-1)) dX10_goThrough_78 (by decide) (q := 79) rfl ?_
    refine J_icmp_eq (tgt := 87) dX10_goThrough_79 (by decide) (q := 82) rfl (fun c9 => ?_) (fun c9 => ?_)
    · rw [if_pos c9] at h
      have h := Option.some.inj h
      subst h
      exact J_return dX10_goThrough_87 rfl rfl
    · rw [if_neg c9] at h
      refine J_aload_n (z := 0) dX10_goThrough_82 rfl rfl (q := 83) rfl ?_
      obtain ⟨vk11, sk11, hk11, h⟩ := bnd2S h
      refine J_cVi (as := []) dX10_goThrough_83 mRX10_134 ha0 (tX10_fails ha0 hk11) rfl (Nat.le_of_ble_eq_true rfl) (Nat.le_of_ble_eq_true rfl) (Nat.le_of_ble_eq_true rfl) (q := 86) rfl ?_
      intro bk11
      refine J_pop dX10_goThrough_86 rfl (q := 87) rfl ?_
      have h := Option.some.inj h
      subst h
      exact J_return dX10_goThrough_87 rfl rfl

def fX10_goThrough (a0 : Nat) (a1 : Nat) (a2 : Int32) (a3 : Int32) (σ : Mm) : Option (Mm) :=
  (fX10_starts a0 a1 a2 a3 σ).bind fun sk1 => (fX10_clause a0 (sI (sI (sI (sI sk1 a0 13 121) a0 12 0) a0 17 0) a0 14 0)).bind fun sk2 => (fX10_goThrough_w32 a0 sk2).bind (fun o7 => (fun so7 => fX10_goThrough_b66 a0 so7) o7)
set_option maxRecDepth 20000 in
set_option maxHeartbeats 2000000 in
theorem tX10_goThrough {X : XS} {n : Nat} {σ : Mm} {a0 : Nat} {a1 : Nat} {a2 : Int32} {a3 : Int32} (ha0 : RT n a0 110) (ha1 : RT n a1 202) {res : Mm} (h : fX10_goThrough a0 a1 a2 a3 σ = some res) : MT X yX10_goThrough mX10_goThrough 110 0 0 [.ref a0, .ref a1, .int a2, .int a3] n σ (n, none, res) := by
  unfold fX10_goThrough at h
  refine MT_of (by decide +kernel) rfl (fun h => by cases h) (Nat.le_of_ble_eq_true rfl) ?_
  show J X mX10_goThrough 110 0 0 (n, none, res) 0 [(0, .ref a0), (1, .ref a1), (2, .int a2), (3, .int a3)] [] n σ
  refine J_aload_n (z := 0) dX10_goThrough_0 rfl rfl (q := 1) rfl ?_
  refine J_aload_n (z := 1) dX10_goThrough_1 rfl rfl (q := 2) rfl ?_
  refine J_iload_n (z := 2) dX10_goThrough_2 rfl rfl (q := 3) rfl ?_
  refine J_iload_n (z := 3) dX10_goThrough_3 rfl rfl (q := 4) rfl ?_
  obtain ⟨sk1, hk1, h⟩ := bindS h
  refine J_cVv (as := [.ref a1, .int a2, .int a3]) dX10_goThrough_4 mRX10_207 ha0 (tX10_starts ha0 ha1 hk1) rfl (Nat.le_of_ble_eq_true rfl) (Nat.le_of_ble_eq_true rfl) (Nat.le_of_ble_eq_true rfl) (q := 7) rfl ?_
  refine J_aload_n (z := 0) dX10_goThrough_7 rfl rfl (q := 8) rfl ?_
  refine J_bipush (x := 121) dX10_goThrough_8 (by decide) (q := 10) rfl ?_
  refine J_putI dX10_goThrough_10 lRX10_201 (fun h => by cases h) ha0 rfl (q := 13) rfl ?_
  refine J_aload_n (z := 0) dX10_goThrough_13 rfl rfl (q := 14) rfl ?_
  refine J_iconst (x := 0) dX10_goThrough_14 (by decide) (q := 15) rfl ?_
  refine J_putI dX10_goThrough_15 lRX10_131 (fun h => by cases h) ha0 rfl (q := 18) rfl ?_
  refine J_aload_n (z := 0) dX10_goThrough_18 rfl rfl (q := 19) rfl ?_
  refine J_iconst (x := 0) dX10_goThrough_19 (by decide) (q := 20) rfl ?_
  refine J_putZ dX10_goThrough_20 lRX10_197 (fun h => by cases h) ha0 rfl (by decide) (by decide) (q := 23) rfl ?_
  refine J_aload_n (z := 0) dX10_goThrough_23 rfl rfl (q := 24) rfl ?_
  refine J_iconst (x := 0) dX10_goThrough_24 (by decide) (q := 25) rfl ?_
  refine J_putI dX10_goThrough_25 lRX10_204 (fun h => by cases h) ha0 rfl (q := 28) rfl ?_
  refine J_aload_n (z := 0) dX10_goThrough_28 rfl rfl (q := 29) rfl ?_
  obtain ⟨sk2, hk2, h⟩ := bindS h
  refine J_cVv (as := []) dX10_goThrough_29 mRX10_211 ha0 (tX10_clause ha0 hk2) rfl (Nat.le_of_ble_eq_true rfl) (Nat.le_of_ble_eq_true rfl) (Nat.le_of_ble_eq_true rfl) (q := 32) rfl ?_
  obtain ⟨o7, hlo7, h⟩ := bindS h
  refine J_pick [0] rfl ?_
  refine tX10_goThrough_w32 ha0 hlo7 ?_
  · intro so7 qo7
    rw [qo7] at h
    try dsimp only [Sum.elim_inl, Sum.elim_inr] at h
    refine J_pick [0] rfl ?_
    exact tX10_goThrough_b66 ha0 h

def fX10_here (a0 : Nat) (σ : Mm) : Option (Int32) :=
  if (gI σ a0 9) ≤ (gI σ a0 10) then some (-1) else (gR σ a0 5).bind fun r2 => if ixB ((gI σ a0 8) + (gI σ a0 10)) (ln r2) = true then some ((gI σ r2 (Int32.toNatClampNeg ((gI σ a0 8) + (gI σ a0 10)))) &&& 255) else none
set_option maxRecDepth 20000 in
set_option maxHeartbeats 2000000 in
theorem tX10_here {X : XS} {n : Nat} {σ : Mm} {a0 : Nat} (ha0 : RT n a0 110) {res : Int32} (h : fX10_here a0 σ = some res) : MT X yX10_here mX10_here 1 0 0 [.ref a0] n σ (n, some (.int res), σ) := by
  unfold fX10_here at h
  refine MT_of (by decide +kernel) rfl (fun h => by cases h) (Nat.le_of_ble_eq_true rfl) ?_
  show J X mX10_here 1 0 0 (n, some (.int res), σ) 0 [(0, .ref a0)] [] n σ
  refine J_aload_n (z := 0) dX10_here_0 rfl rfl (q := 1) rfl ?_
  refine J_getI dX10_here_1 lRX10_119 ha0 rfl (q := 4) rfl ?_
  refine J_aload_n (z := 0) dX10_here_4 rfl rfl (q := 5) rfl ?_
  refine J_getI dX10_here_5 lRX10_122 ha0 rfl (q := 8) rfl ?_
  refine J_icmp_ge (tgt := 32) dX10_here_8 (by decide) (q := 11) rfl (fun c0 => ?_) (fun c0 => ?_)
  · rw [if_pos c0] at h
    refine J_iconst (x := (-1)) dX10_here_32 (by decide) (q := 33) rfl ?_
    have h := Option.some.inj h
    subst h
    exact J_ireturn dX10_here_33 rfl rfl rfl
  · rw [if_neg c0] at h
    refine J_aload_n (z := 0) dX10_here_11 rfl rfl (q := 12) rfl ?_
    obtain ⟨r2, er2, h⟩ := bindS h
    refine J_getR dX10_here_12 lRX10_23 ha0 rfl (by decide) er2 (q := 15) rfl (fun fr2 => ?_)
    refine J_aload_n (z := 0) dX10_here_15 rfl rfl (q := 16) rfl ?_
    refine J_getI dX10_here_16 lRX10_125 ha0 rfl (q := 19) rfl ?_
    refine J_aload_n (z := 0) dX10_here_19 rfl rfl (q := 20) rfl ?_
    refine J_getI dX10_here_20 lRX10_119 ha0 rfl (q := 23) rfl ?_
    refine J_iadd dX10_here_23  (q := 24) rfl ?_
    obtain ⟨g3, h⟩ := iteS h
    refine J_bald dX10_here_24 fr2 (ixB_ok g3) (q := 25) rfl ?_
    refine J_sipush (x := 255) dX10_here_25 (by decide) (q := 28) rfl ?_
    refine J_iand dX10_here_28  (q := 29) rfl ?_
    refine J_goto (tgt := 33) dX10_here_29 (by decide) ?_
    have h := Option.some.inj h
    subst h
    exact J_ireturn dX10_here_33 rfl rfl rfl

def fX10_spotOf_l2 (a0 : Nat) (a1 : Int32) (a2 : Int32) (σ : Mm) : Option (Int32 ⊕ (Int32)) :=
  if (slen a0) ≤ a2 then some (Sum.inr (-1)) else if ixB a2 (slenN a0) = true then if (sat a0 (Int32.toNatClampNeg a2)) = a1 then some (Sum.inr a2) else some (Sum.inl (a2 + 1)) else none
set_option maxRecDepth 20000 in
set_option maxHeartbeats 2000000 in
theorem tX10_spotOf_l2 {X : XS} {n : Nat} {σ : Mm} {F : Nat × Option Value × Mm} {a0 : Nat} {a1 : Int32} {a2 : Int32} (ha0 : RT n a0 207) {res : Int32 ⊕ (Int32)} (h : fX10_spotOf_l2 a0 a1 a2 σ = some res) (hc : ∀ (b2 : Int32), res = .inl b2 → J X mX10_spotOf 7 0 0 F 2 [(0, .ref a0), (1, .int a1), (2, .int b2)] [] n σ) (hr : ∀ (v : Int32), res = .inr v → F = (n, some (.int v), σ)) : J X mX10_spotOf 7 0 0 F 2 [(0, .ref a0), (1, .int a1), (2, .int a2)] [] n σ := by
  unfold fX10_spotOf_l2 at h
  refine J_iload_n (z := 2) dX10_spotOf_2 rfl rfl (q := 3) rfl ?_
  refine J_aload_n (z := 0) dX10_spotOf_3 rfl rfl (q := 4) rfl ?_
  refine J_strlen dX10_spotOf_4 mRX10_99 ha0 (Nat.le_of_ble_eq_true rfl) (Nat.le_of_ble_eq_true rfl) (q := 7) rfl ?_
  refine J_icmp_ge (tgt := 27) dX10_spotOf_7 (by decide) (q := 10) rfl (fun c0 => ?_) (fun c0 => ?_)
  · rw [if_pos c0] at h
    refine J_iconst (x := (-1)) dX10_spotOf_27 (by decide) (q := 28) rfl ?_
    have h := Option.some.inj h
    exact J_ireturn dX10_spotOf_28 rfl rfl (hr _ h.symm)
  · rw [if_neg c0] at h
    refine J_aload_n (z := 0) dX10_spotOf_10 rfl rfl (q := 11) rfl ?_
    refine J_iload_n (z := 2) dX10_spotOf_11 rfl rfl (q := 12) rfl ?_
    obtain ⟨g2, h⟩ := iteS h
    refine J_strat dX10_spotOf_12 mRX10_105 ha0 g2 (Nat.le_of_ble_eq_true rfl) (Nat.le_of_ble_eq_true rfl) (q := 15) rfl ?_
    refine J_iload_n (z := 1) dX10_spotOf_15 rfl rfl (q := 16) rfl ?_
    refine J_icmp_ne (tgt := 21) dX10_spotOf_16 (by decide) (q := 19) rfl (fun c2 => ?_) (fun c2 => ?_)
    · rw [if_neg c2] at h
      refine J_iinc (z := 2) (y := (a2 + 1)) (lv' := [(2, .int (a2 + 1)), (0, .ref a0), (1, .int a1)]) dX10_spotOf_21 rfl rfl (by decide) rfl (q := 24) rfl ?_
      refine J_goto (tgt := 2) dX10_spotOf_24 (by decide) ?_
      have h := Option.some.inj h
      refine J_pick [1, 2, 0] rfl ?_
      exact hc _ h.symm
    · rw [if_pos c2] at h
      refine J_iload_n (z := 2) dX10_spotOf_19 rfl rfl (q := 20) rfl ?_
      have h := Option.some.inj h
      exact J_ireturn dX10_spotOf_20 rfl rfl (hr _ h.symm)

def fX10_spotOf_w2 (a0 : Nat) (a1 : Int32) (a2 : Int32) (σ : Mm) : Option (Int32) :=
  wh (fun a : Int32 => fX10_spotOf_l2 a0 a1 a σ) BIG a2
set_option maxRecDepth 20000 in
set_option maxHeartbeats 2000000 in
theorem tX10_spotOf_w2 {X : XS} {n : Nat} {σ : Mm} {F : Nat × Option Value × Mm} {a0 : Nat} {a1 : Int32} {a2 : Int32} (ha0 : RT n a0 207) {res : Int32} (h : fX10_spotOf_w2 a0 a1 a2 σ = some res) (hr : ∀ (v : Int32), res = v → F = (n, some (.int v), σ)) : J X mX10_spotOf 7 0 0 F 2 [(0, .ref a0), (1, .int a1), (2, .int a2)] [] n σ := by
  unfold fX10_spotOf_w2 at h
  refine wh_rule (P := fun a : Int32 => J X mX10_spotOf 7 0 0 F 2 [(0, .ref a0), (1, .int a1), (2, .int a)] [] n σ) (K := fun b => b = res) ?_ _ _ _ h rfl
  intro a
  refine ⟨fun a2 hb hP => ?_, fun b hb hK => ?_⟩
  · exact tX10_spotOf_l2 ha0 hb (fun _ e => by cases e; exact hP) (fun _ e => by cases e)
  · subst hK
    exact tX10_spotOf_l2 ha0 hb (fun _ e => by cases e) (fun v0 e => hr v0 (Sum.inr.inj e))

def fX10_spotOf (a0 : Nat) (a1 : Int32) (σ : Mm) : Option (Int32) :=
  (fX10_spotOf_w2 a0 a1 0 σ).bind (fun o4 => some o4)
set_option maxRecDepth 20000 in
set_option maxHeartbeats 2000000 in
theorem tX10_spotOf {X : XS} {n : Nat} {σ : Mm} {a0 : Nat} {a1 : Int32} (ha0 : RT n a0 207) {res : Int32} (h : fX10_spotOf a0 a1 σ = some res) : MT X yX10_spotOf mX10_spotOf 7 0 0 [.ref a0, .int a1] n σ (n, some (.int res), σ) := by
  unfold fX10_spotOf at h
  refine MT_of (by decide +kernel) rfl (fun h => by cases h) (Nat.le_of_ble_eq_true rfl) ?_
  show J X mX10_spotOf 7 0 0 (n, some (.int res), σ) 0 [(0, .ref a0), (1, .int a1)] [] n σ
  refine J_iconst (x := 0) dX10_spotOf_0 (by decide) (q := 1) rfl ?_
  refine J_istore_n (lv' := [(2, .int 0), (0, .ref a0), (1, .int a1)]) dX10_spotOf_1 rfl (by decide) rfl (q := 2) rfl ?_
  obtain ⟨o4, hlo4, h⟩ := bindS h
  refine J_pick [1, 2, 0] rfl ?_
  refine tX10_spotOf_w2 ha0 hlo4 ?_
  · intro vo4 qo4
    rw [qo4] at h
    try dsimp only [Sum.elim_inl, Sum.elim_inr] at h
    have h := Option.some.inj h
    subst h
    rfl

def fX10_number_b67 (a0 : Nat) (a1 : Int32) (a2 : Int32) (a4 : Int32) (σ : Mm) : Option (Int32 × Mm) :=
  (fX10_isDigit a0 σ).bind fun vk6 => if vk6 = 0 then (fX10_isIn (Int32.toInt64 a4) (Int32.toInt64 a1) (Int32.toInt64 a2) σ).bind fun vk8 => if vk8 = 0 then bnd2 (fX10_fails a0 (sI σ a0 10 ((gI σ a0 10) - 1))) fun vk10 sk10 => some (a4, sk10) else some (a4, σ) else bnd2 (fX10_fails a0 σ) fun vk11 sk11 => some (0, sk11)
set_option maxRecDepth 20000 in
set_option maxHeartbeats 2000000 in
theorem tX10_number_b67 {X : XS} {n : Nat} {σ : Mm} {a0 : Nat} {a1 : Int32} {a2 : Int32} {a4 : Int32} (ha0 : RT n a0 110) {res : Int32 × Mm} (h : fX10_number_b67 a0 a1 a2 a4 σ = some res) : J X mX10_number 2 0 0 (n, some (.int res.1), res.2) 67 [(0, .ref a0), (1, .int a1), (2, .int a2), (4, .int a4)] [] n σ := by
  unfold fX10_number_b67 at h
  refine J_aload_n (z := 0) dX10_number_67 rfl rfl (q := 68) rfl ?_
  obtain ⟨vk6, hk6, h⟩ := bindS h
  refine J_cVi (as := []) dX10_number_68 mRX10_168 ha0 (tX10_isDigit ha0 hk6) rfl (Nat.le_of_ble_eq_true rfl) (Nat.le_of_ble_eq_true rfl) (Nat.le_of_ble_eq_true rfl) (q := 71) rfl ?_
  intro bk6
  refine J_if_eq (tgt := 81) dX10_number_71 (by decide) (q := 74) rfl (fun c6 => ?_) (fun c6 => ?_)
  · rw [if_pos c6] at h
    refine J_iload (z := 3) dX10_number_81 rfl (q := 83) rfl ?_
    refine J_i2l dX10_number_83  (q := 84) rfl ?_
    refine J_iload_n (z := 1) dX10_number_84 rfl rfl (q := 85) rfl ?_
    refine J_i2l dX10_number_85  (q := 86) rfl ?_
    refine J_iload_n (z := 2) dX10_number_86 rfl rfl (q := 87) rfl ?_
    refine J_i2l dX10_number_87  (q := 88) rfl ?_
    obtain ⟨vk8, hk8, h⟩ := bindS h
    refine J_cSi (as := [.long (Int32.toInt64 a4), .long (Int32.toInt64 a1), .long (Int32.toInt64 a2)]) dX10_number_88 mRX10_217 (tX10_isIn  hk8) rfl (Nat.le_of_ble_eq_true rfl) (Nat.le_of_ble_eq_true rfl) (Nat.le_of_ble_eq_true rfl) (q := 91) rfl ?_
    intro bk8
    refine J_if_ne (tgt := 109) dX10_number_91 (by decide) (q := 94) rfl (fun c8 => ?_) (fun c8 => ?_)
    · rw [if_neg c8] at h
      refine J_iload (z := 3) dX10_number_109 rfl (q := 111) rfl ?_
      have h := Option.some.inj h
      subst h
      exact J_ireturn dX10_number_111 rfl rfl rfl
    · rw [if_pos c8] at h
      refine J_aload_n (z := 0) dX10_number_94 rfl rfl (q := 95) rfl ?_
      refine J_dup dX10_number_95 rfl (q := 96) rfl ?_
      refine J_getI dX10_number_96 lRX10_119 ha0 rfl (q := 99) rfl ?_
      refine J_iconst (x := 1) dX10_number_99 (by decide) (q := 100) rfl ?_
      refine J_isub dX10_number_100  (q := 101) rfl ?_
      refine J_putI dX10_number_101 lRX10_119 (fun h => by cases h) ha0 rfl (q := 104) rfl ?_
      refine J_aload_n (z := 0) dX10_number_104 rfl rfl (q := 105) rfl ?_
      obtain ⟨vk10, sk10, hk10, h⟩ := bnd2S h
      refine J_cVi (as := []) dX10_number_105 mRX10_134 ha0 (tX10_fails ha0 hk10) rfl (Nat.le_of_ble_eq_true rfl) (Nat.le_of_ble_eq_true rfl) (Nat.le_of_ble_eq_true rfl) (q := 108) rfl ?_
      intro bk10
      refine J_pop dX10_number_108 rfl (q := 109) rfl ?_
      refine J_iload (z := 3) dX10_number_109 rfl (q := 111) rfl ?_
      have h := Option.some.inj h
      subst h
      exact J_ireturn dX10_number_111 rfl rfl rfl
  · rw [if_neg c6] at h
    refine J_aload_n (z := 0) dX10_number_74 rfl rfl (q := 75) rfl ?_
    obtain ⟨vk11, sk11, hk11, h⟩ := bnd2S h
    refine J_cVi (as := []) dX10_number_75 mRX10_134 ha0 (tX10_fails ha0 hk11) rfl (Nat.le_of_ble_eq_true rfl) (Nat.le_of_ble_eq_true rfl) (Nat.le_of_ble_eq_true rfl) (q := 78) rfl ?_
    intro bk11
    refine J_pop dX10_number_78 rfl (q := 79) rfl ?_
    refine J_iconst (x := 0) dX10_number_79 (by decide) (q := 80) rfl ?_
    have h := Option.some.inj h
    subst h
    exact J_ireturn dX10_number_80 rfl rfl rfl

def fX10_number (a0 : Nat) (a1 : Int32) (a2 : Int32) (σ : Mm) : Option (Int32 × Mm) :=
  bnd2 (fX10_look a0 σ) fun vk1 sk1 => (fX10_isDigit a0 sk1).bind fun vk2 => if vk2 = 0 then bnd2 (fX10_fails a0 sk1) fun vk13 sk13 => some (0, sk13) else (fX10_isDigit a0 (sI sk1 a0 10 ((gI sk1 a0 10) + 1))).bind fun vk4 => if vk4 = 0 then fX10_number_b67 a0 a1 a2 (vk1 - 48) (sI sk1 a0 10 ((gI sk1 a0 10) + 1)) else (fX10_here a0 (sI sk1 a0 10 ((gI sk1 a0 10) + 1))).bind fun vk12 => fX10_number_b67 a0 a1 a2 (((10 * (vk1 - 48)) + vk12) - 48) (sI (sI sk1 a0 10 ((gI sk1 a0 10) + 1)) a0 10 ((gI (sI sk1 a0 10 ((gI sk1 a0 10) + 1)) a0 10) + 1))
set_option maxRecDepth 20000 in
set_option maxHeartbeats 2000000 in
theorem tX10_number {X : XS} {n : Nat} {σ : Mm} {a0 : Nat} {a1 : Int32} {a2 : Int32} (ha0 : RT n a0 110) {res : Int32 × Mm} (h : fX10_number a0 a1 a2 σ = some res) : MT X yX10_number mX10_number 2 0 0 [.ref a0, .int a1, .int a2] n σ (n, some (.int res.1), res.2) := by
  unfold fX10_number at h
  refine MT_of (by decide +kernel) rfl (fun h => by cases h) (Nat.le_of_ble_eq_true rfl) ?_
  show J X mX10_number 2 0 0 (n, some (.int res.1), res.2) 0 [(0, .ref a0), (1, .int a1), (2, .int a2)] [] n σ
  refine J_aload_n (z := 0) dX10_number_0 rfl rfl (q := 1) rfl ?_
  obtain ⟨vk1, sk1, hk1, h⟩ := bnd2S h
  refine J_cVi (as := []) dX10_number_1 mRX10_138 ha0 (tX10_look ha0 hk1) rfl (Nat.le_of_ble_eq_true rfl) (Nat.le_of_ble_eq_true rfl) (Nat.le_of_ble_eq_true rfl) (q := 4) rfl ?_
  intro bk1
  refine J_istore_n (lv' := [(3, .int vk1), (0, .ref a0), (1, .int a1), (2, .int a2)]) dX10_number_4 rfl (by decide) rfl (q := 5) rfl ?_
  refine J_aload_n (z := 1) dX10_number_5 rfl rfl (q := 6) rfl ?_
  obtain ⟨vk2, hk2, h⟩ := bindS h
  refine J_cVi (as := []) dX10_number_6 mRX10_168 ha0 (tX10_isDigit ha0 hk2) rfl (Nat.le_of_ble_eq_true rfl) (Nat.le_of_ble_eq_true rfl) (Nat.le_of_ble_eq_true rfl) (q := 9) rfl ?_
  intro bk2
  refine J_if_ne (tgt := 19) dX10_number_9 (by decide) (q := 12) rfl (fun c2 => ?_) (fun c2 => ?_)
  · rw [if_neg c2] at h
    refine J_iload_n (z := 0) dX10_number_19 rfl rfl (q := 20) rfl ?_
    refine J_bipush (x := 48) dX10_number_20 (by decide) (q := 22) rfl ?_
    refine J_isub dX10_number_22  (q := 23) rfl ?_
    refine J_istore (lv' := [(4, .int (vk1 - 48)), (3, .int vk1), (0, .ref a0), (1, .int a1), (2, .int a2)]) dX10_number_23 (by decide) rfl (q := 25) rfl ?_
    refine J_aload_n (z := 2) dX10_number_25 rfl rfl (q := 26) rfl ?_
    refine J_dup dX10_number_26 rfl (q := 27) rfl ?_
    refine J_getI dX10_number_27 lRX10_119 ha0 rfl (q := 30) rfl ?_
    refine J_iconst (x := 1) dX10_number_30 (by decide) (q := 31) rfl ?_
    refine J_iadd dX10_number_31  (q := 32) rfl ?_
    refine J_putI dX10_number_32 lRX10_119 (fun h => by cases h) ha0 rfl (q := 35) rfl ?_
    refine J_aload_n (z := 2) dX10_number_35 rfl rfl (q := 36) rfl ?_
    obtain ⟨vk4, hk4, h⟩ := bindS h
    refine J_cVi (as := []) dX10_number_36 mRX10_168 ha0 (tX10_isDigit ha0 hk4) rfl (Nat.le_of_ble_eq_true rfl) (Nat.le_of_ble_eq_true rfl) (Nat.le_of_ble_eq_true rfl) (q := 39) rfl ?_
    intro bk4
    refine J_if_eq (tgt := 67) dX10_number_39 (by decide) (q := 42) rfl (fun c4 => ?_) (fun c4 => ?_)
    · rw [if_pos c4] at h
      refine J_pick [2, 3, 4, 0] rfl ?_
      exact tX10_number_b67 ha0 h
    · rw [if_neg c4] at h
      refine J_bipush (x := 10) dX10_number_42 (by decide) (q := 44) rfl ?_
      refine J_iload (z := 0) dX10_number_44 rfl (q := 46) rfl ?_
      refine J_imul dX10_number_46  (q := 47) rfl ?_
      refine J_aload_n (z := 2) dX10_number_47 rfl rfl (q := 48) rfl ?_
      obtain ⟨vk12, hk12, h⟩ := bindS h
      refine J_cVi (as := []) dX10_number_48 mRX10_214 ha0 (tX10_here ha0 hk12) rfl (Nat.le_of_ble_eq_true rfl) (Nat.le_of_ble_eq_true rfl) (Nat.le_of_ble_eq_true rfl) (q := 51) rfl ?_
      intro bk12
      refine J_iadd dX10_number_51  (q := 52) rfl ?_
      refine J_bipush (x := 48) dX10_number_52 (by decide) (q := 54) rfl ?_
      refine J_isub dX10_number_54  (q := 55) rfl ?_
      refine J_istore (lv' := [(4, .int (((10 * (vk1 - 48)) + vk12) - 48)), (3, .int vk1), (0, .ref a0), (1, .int a1), (2, .int a2)]) dX10_number_55 (by decide) rfl (q := 57) rfl ?_
      refine J_aload_n (z := 2) dX10_number_57 rfl rfl (q := 58) rfl ?_
      refine J_dup dX10_number_58 rfl (q := 59) rfl ?_
      refine J_getI dX10_number_59 lRX10_119 ha0 rfl (q := 62) rfl ?_
      refine J_iconst (x := 1) dX10_number_62 (by decide) (q := 63) rfl ?_
      refine J_iadd dX10_number_63  (q := 64) rfl ?_
      refine J_putI dX10_number_64 lRX10_119 (fun h => by cases h) ha0 rfl (q := 67) rfl ?_
      refine J_pick [2, 3, 4, 0] rfl ?_
      exact tX10_number_b67 ha0 h
  · rw [if_pos c2] at h
    refine J_aload_n (z := 1) dX10_number_12 rfl rfl (q := 13) rfl ?_
    obtain ⟨vk13, sk13, hk13, h⟩ := bnd2S h
    refine J_cVi (as := []) dX10_number_13 mRX10_134 ha0 (tX10_fails ha0 hk13) rfl (Nat.le_of_ble_eq_true rfl) (Nat.le_of_ble_eq_true rfl) (Nat.le_of_ble_eq_true rfl) (q := 16) rfl ?_
    intro bk13
    refine J_pop dX10_number_16 rfl (q := 17) rfl ?_
    refine J_iconst (x := 0) dX10_number_17 (by decide) (q := 18) rfl ?_
    have h := Option.some.inj h
    subst h
    exact J_ireturn dX10_number_18 rfl rfl rfl

def fX10_mostOf (a0 : Int32) (a1 : Int32) (σ : Mm) : Option (Int32) :=
  if a0 = 115 then if a1 = 0 then some 6 else if a1 = 1 then some 5 else if a1 = 3 then some 9 else some 99 else if a1 = 0 then some 29 else if a0 = 112 then if a1 = 2 then some 4 else some 9 else if a1 = 3 then some 4 else some 9
set_option maxRecDepth 20000 in
set_option maxHeartbeats 2000000 in
theorem tX10_mostOf {X : XS} {n : Nat} {σ : Mm} {a0 : Int32} {a1 : Int32} {res : Int32} (h : fX10_mostOf a0 a1 σ = some res) : MT X yX10_mostOf mX10_mostOf 1 0 0 [.int a0, .int a1] n σ (n, some (.int res), σ) := by
  unfold fX10_mostOf at h
  refine MT_of (by decide +kernel) rfl (fun h => by cases h) (Nat.le_of_ble_eq_true rfl) ?_
  show J X mX10_mostOf 1 0 0 (n, some (.int res), σ) 0 [(0, .int a0), (1, .int a1)] [] n σ
  refine J_iload_n (z := 0) dX10_mostOf_0 rfl rfl (q := 1) rfl ?_
  refine J_bipush (x := 115) dX10_mostOf_1 (by decide) (q := 3) rfl ?_
  refine J_icmp_ne (tgt := 37) dX10_mostOf_3 (by decide) (q := 6) rfl (fun c0 => ?_) (fun c0 => ?_)
  · rw [if_neg c0] at h
    refine J_iload_n (z := 1) dX10_mostOf_37 rfl rfl (q := 38) rfl ?_
    refine J_if_ne (tgt := 44) dX10_mostOf_38 (by decide) (q := 41) rfl (fun c1 => ?_) (fun c1 => ?_)
    · rw [if_neg c1] at h
      refine J_iload_n (z := 0) dX10_mostOf_44 rfl rfl (q := 45) rfl ?_
      refine J_bipush (x := 112) dX10_mostOf_45 (by decide) (q := 47) rfl ?_
      refine J_icmp_ne (tgt := 62) dX10_mostOf_47 (by decide) (q := 50) rfl (fun c2 => ?_) (fun c2 => ?_)
      · rw [if_neg c2] at h
        refine J_iload_n (z := 1) dX10_mostOf_62 rfl rfl (q := 63) rfl ?_
        refine J_iconst (x := 3) dX10_mostOf_63 (by decide) (q := 64) rfl ?_
        refine J_icmp_ne (tgt := 71) dX10_mostOf_64 (by decide) (q := 67) rfl (fun c3 => ?_) (fun c3 => ?_)
        · rw [if_neg c3] at h
          refine J_bipush (x := 9) dX10_mostOf_71 (by decide) (q := 73) rfl ?_
          have h := Option.some.inj h
          subst h
          exact J_ireturn dX10_mostOf_73 rfl rfl rfl
        · rw [if_pos c3] at h
          refine J_iconst (x := 4) dX10_mostOf_67 (by decide) (q := 68) rfl ?_
          refine J_goto (tgt := 73) dX10_mostOf_68 (by decide) ?_
          have h := Option.some.inj h
          subst h
          exact J_ireturn dX10_mostOf_73 rfl rfl rfl
      · rw [if_pos c2] at h
        refine J_iload_n (z := 1) dX10_mostOf_50 rfl rfl (q := 51) rfl ?_
        refine J_iconst (x := 2) dX10_mostOf_51 (by decide) (q := 52) rfl ?_
        refine J_icmp_ne (tgt := 59) dX10_mostOf_52 (by decide) (q := 55) rfl (fun c4 => ?_) (fun c4 => ?_)
        · rw [if_neg c4] at h
          refine J_bipush (x := 9) dX10_mostOf_59 (by decide) (q := 61) rfl ?_
          have h := Option.some.inj h
          subst h
          exact J_ireturn dX10_mostOf_61 rfl rfl rfl
        · rw [if_pos c4] at h
          refine J_iconst (x := 4) dX10_mostOf_55 (by decide) (q := 56) rfl ?_
          refine J_goto (tgt := 61) dX10_mostOf_56 (by decide) ?_
          have h := Option.some.inj h
          subst h
          exact J_ireturn dX10_mostOf_61 rfl rfl rfl
    · rw [if_pos c1] at h
      refine J_bipush (x := 29) dX10_mostOf_41 (by decide) (q := 43) rfl ?_
      have h := Option.some.inj h
      subst h
      exact J_ireturn dX10_mostOf_43 rfl rfl rfl
  · rw [if_pos c0] at h
    refine J_iload_n (z := 1) dX10_mostOf_6 rfl rfl (q := 7) rfl ?_
    refine J_if_ne (tgt := 15) dX10_mostOf_7 (by decide) (q := 10) rfl (fun c5 => ?_) (fun c5 => ?_)
    · rw [if_neg c5] at h
      refine J_iload_n (z := 1) dX10_mostOf_15 rfl rfl (q := 16) rfl ?_
      refine J_iconst (x := 1) dX10_mostOf_16 (by decide) (q := 17) rfl ?_
      refine J_icmp_ne (tgt := 24) dX10_mostOf_17 (by decide) (q := 20) rfl (fun c6 => ?_) (fun c6 => ?_)
      · rw [if_neg c6] at h
        refine J_iload_n (z := 1) dX10_mostOf_24 rfl rfl (q := 25) rfl ?_
        refine J_iconst (x := 3) dX10_mostOf_25 (by decide) (q := 26) rfl ?_
        refine J_icmp_ne (tgt := 34) dX10_mostOf_26 (by decide) (q := 29) rfl (fun c7 => ?_) (fun c7 => ?_)
        · rw [if_neg c7] at h
          refine J_bipush (x := 99) dX10_mostOf_34 (by decide) (q := 36) rfl ?_
          have h := Option.some.inj h
          subst h
          exact J_ireturn dX10_mostOf_36 rfl rfl rfl
        · rw [if_pos c7] at h
          refine J_bipush (x := 9) dX10_mostOf_29 (by decide) (q := 31) rfl ?_
          refine J_goto (tgt := 36) dX10_mostOf_31 (by decide) ?_
          have h := Option.some.inj h
          subst h
          exact J_ireturn dX10_mostOf_36 rfl rfl rfl
      · rw [if_pos c6] at h
        refine J_iconst (x := 5) dX10_mostOf_20 (by decide) (q := 21) rfl ?_
        refine J_goto (tgt := 36) dX10_mostOf_21 (by decide) ?_
        have h := Option.some.inj h
        subst h
        exact J_ireturn dX10_mostOf_36 rfl rfl rfl
    · rw [if_pos c5] at h
      refine J_bipush (x := 6) dX10_mostOf_10 (by decide) (q := 12) rfl ?_
      refine J_goto (tgt := 36) dX10_mostOf_12 (by decide) ?_
      have h := Option.some.inj h
      subst h
      exact J_ireturn dX10_mostOf_36 rfl rfl rfl

def fX10_leastOf_b16 (a0 : Int32) (a1 : Int32) (σ : Mm) : Option (Int32) :=
  if a0 = 112 then if a1 = 1 then some 1 else some 0 else some 0
set_option maxRecDepth 20000 in
set_option maxHeartbeats 2000000 in
theorem tX10_leastOf_b16 {X : XS} {n : Nat} {σ : Mm} {a0 : Int32} {a1 : Int32} {res : Int32} (h : fX10_leastOf_b16 a0 a1 σ = some res) : J X mX10_leastOf 1 0 0 (n, some (.int res), σ) 16 [(0, .int a0), (1, .int a1)] [] n σ := by
  unfold fX10_leastOf_b16 at h
  refine J_iload_n (z := 0) dX10_leastOf_16 rfl rfl (q := 17) rfl ?_
  refine J_bipush (x := 112) dX10_leastOf_17 (by decide) (q := 19) rfl ?_
  refine J_icmp_ne (tgt := 31) dX10_leastOf_19 (by decide) (q := 22) rfl (fun c1 => ?_) (fun c1 => ?_)
  · rw [if_neg c1] at h
    refine J_iconst (x := 0) dX10_leastOf_31 (by decide) (q := 32) rfl ?_
    have h := Option.some.inj h
    subst h
    exact J_ireturn dX10_leastOf_32 rfl rfl rfl
  · rw [if_pos c1] at h
    refine J_iload_n (z := 1) dX10_leastOf_22 rfl rfl (q := 23) rfl ?_
    refine J_iconst (x := 1) dX10_leastOf_23 (by decide) (q := 24) rfl ?_
    refine J_icmp_ne (tgt := 31) dX10_leastOf_24 (by decide) (q := 27) rfl (fun c2 => ?_) (fun c2 => ?_)
    · rw [if_neg c2] at h
      refine J_iconst (x := 0) dX10_leastOf_31 (by decide) (q := 32) rfl ?_
      have h := Option.some.inj h
      subst h
      exact J_ireturn dX10_leastOf_32 rfl rfl rfl
    · rw [if_pos c2] at h
      refine J_iconst (x := 1) dX10_leastOf_27 (by decide) (q := 28) rfl ?_
      refine J_goto (tgt := 32) dX10_leastOf_28 (by decide) ?_
      have h := Option.some.inj h
      subst h
      exact J_ireturn dX10_leastOf_32 rfl rfl rfl

def fX10_leastOf (a0 : Int32) (a1 : Int32) (σ : Mm) : Option (Int32) :=
  if a0 = 115 then if a1 < 2 then some 1 else if a1 = 4 then some 1 else fX10_leastOf_b16 a0 a1 σ else fX10_leastOf_b16 a0 a1 σ
set_option maxRecDepth 20000 in
set_option maxHeartbeats 2000000 in
theorem tX10_leastOf {X : XS} {n : Nat} {σ : Mm} {a0 : Int32} {a1 : Int32} {res : Int32} (h : fX10_leastOf a0 a1 σ = some res) : MT X yX10_leastOf mX10_leastOf 1 0 0 [.int a0, .int a1] n σ (n, some (.int res), σ) := by
  unfold fX10_leastOf at h
  refine MT_of (by decide +kernel) rfl (fun h => by cases h) (Nat.le_of_ble_eq_true rfl) ?_
  show J X mX10_leastOf 1 0 0 (n, some (.int res), σ) 0 [(0, .int a0), (1, .int a1)] [] n σ
  refine J_iload_n (z := 0) dX10_leastOf_0 rfl rfl (q := 1) rfl ?_
  refine J_bipush (x := 115) dX10_leastOf_1 (by decide) (q := 3) rfl ?_
  refine J_icmp_ne (tgt := 16) dX10_leastOf_3 (by decide) (q := 6) rfl (fun c0 => ?_) (fun c0 => ?_)
  · rw [if_neg c0] at h
    refine J_pick [0, 1] rfl ?_
    exact tX10_leastOf_b16  h
  · rw [if_pos c0] at h
    refine J_iload_n (z := 1) dX10_leastOf_6 rfl rfl (q := 7) rfl ?_
    refine J_iconst (x := 2) dX10_leastOf_7 (by decide) (q := 8) rfl ?_
    refine J_icmp_lt (tgt := 27) dX10_leastOf_8 (by decide) (q := 11) rfl (fun c3 => ?_) (fun c3 => ?_)
    · rw [if_pos c3] at h
      refine J_iconst (x := 1) dX10_leastOf_27 (by decide) (q := 28) rfl ?_
      refine J_goto (tgt := 32) dX10_leastOf_28 (by decide) ?_
      have h := Option.some.inj h
      subst h
      exact J_ireturn dX10_leastOf_32 rfl rfl rfl
    · rw [if_neg c3] at h
      refine J_iload_n (z := 1) dX10_leastOf_11 rfl rfl (q := 12) rfl ?_
      refine J_iconst (x := 4) dX10_leastOf_12 (by decide) (q := 13) rfl ?_
      refine J_icmp_eq (tgt := 27) dX10_leastOf_13 (by decide) (q := 16) rfl (fun c4 => ?_) (fun c4 => ?_)
      · rw [if_pos c4] at h
        refine J_iconst (x := 1) dX10_leastOf_27 (by decide) (q := 28) rfl ?_
        refine J_goto (tgt := 32) dX10_leastOf_28 (by decide) ?_
        have h := Option.some.inj h
        subst h
        exact J_ireturn dX10_leastOf_32 rfl rfl rfl
      · rw [if_neg c4] at h
        refine J_pick [0, 1] rfl ?_
        exact tX10_leastOf_b16  h

def fX10_usual (a0 : Int32) (a1 : Int32) (σ : Mm) : Option (Int32) :=
  if a0 = 115 then if a1 = 0 then some 5 else if a1 = 1 then some 4 else if a1 = 2 then some 40 else if a1 = 3 then some 1 else some 60 else if a0 = 112 then if a1 = 1 then some 5 else some 0 else if a1 = 1 then some 3 else if a1 = 2 then some 3 else some 0
set_option maxRecDepth 20000 in
set_option maxHeartbeats 2000000 in
theorem tX10_usual {X : XS} {n : Nat} {σ : Mm} {a0 : Int32} {a1 : Int32} {res : Int32} (h : fX10_usual a0 a1 σ = some res) : MT X yX10_usual mX10_usual 1 0 0 [.int a0, .int a1] n σ (n, some (.int res), σ) := by
  unfold fX10_usual at h
  refine MT_of (by decide +kernel) rfl (fun h => by cases h) (Nat.le_of_ble_eq_true rfl) ?_
  show J X mX10_usual 1 0 0 (n, some (.int res), σ) 0 [(0, .int a0), (1, .int a1)] [] n σ
  refine J_iload_n (z := 0) dX10_usual_0 rfl rfl (q := 1) rfl ?_
  refine J_bipush (x := 115) dX10_usual_1 (by decide) (q := 3) rfl ?_
  refine J_icmp_ne (tgt := 45) dX10_usual_3 (by decide) (q := 6) rfl (fun c0 => ?_) (fun c0 => ?_)
  · rw [if_neg c0] at h
    refine J_iload_n (z := 0) dX10_usual_45 rfl rfl (q := 46) rfl ?_
    refine J_bipush (x := 112) dX10_usual_46 (by decide) (q := 48) rfl ?_
    refine J_icmp_ne (tgt := 62) dX10_usual_48 (by decide) (q := 51) rfl (fun c1 => ?_) (fun c1 => ?_)
    · rw [if_neg c1] at h
      refine J_iload_n (z := 1) dX10_usual_62 rfl rfl (q := 63) rfl ?_
      refine J_iconst (x := 1) dX10_usual_63 (by decide) (q := 64) rfl ?_
      refine J_icmp_eq (tgt := 72) dX10_usual_64 (by decide) (q := 67) rfl (fun c2 => ?_) (fun c2 => ?_)
      · rw [if_pos c2] at h
        refine J_iconst (x := 3) dX10_usual_72 (by decide) (q := 73) rfl ?_
        refine J_goto (tgt := 77) dX10_usual_73 (by decide) ?_
        have h := Option.some.inj h
        subst h
        exact J_ireturn dX10_usual_77 rfl rfl rfl
      · rw [if_neg c2] at h
        refine J_iload_n (z := 1) dX10_usual_67 rfl rfl (q := 68) rfl ?_
        refine J_iconst (x := 2) dX10_usual_68 (by decide) (q := 69) rfl ?_
        refine J_icmp_ne (tgt := 76) dX10_usual_69 (by decide) (q := 72) rfl (fun c3 => ?_) (fun c3 => ?_)
        · rw [if_neg c3] at h
          refine J_iconst (x := 0) dX10_usual_76 (by decide) (q := 77) rfl ?_
          have h := Option.some.inj h
          subst h
          exact J_ireturn dX10_usual_77 rfl rfl rfl
        · rw [if_pos c3] at h
          refine J_iconst (x := 3) dX10_usual_72 (by decide) (q := 73) rfl ?_
          refine J_goto (tgt := 77) dX10_usual_73 (by decide) ?_
          have h := Option.some.inj h
          subst h
          exact J_ireturn dX10_usual_77 rfl rfl rfl
    · rw [if_pos c1] at h
      refine J_iload_n (z := 1) dX10_usual_51 rfl rfl (q := 52) rfl ?_
      refine J_iconst (x := 1) dX10_usual_52 (by decide) (q := 53) rfl ?_
      refine J_icmp_ne (tgt := 60) dX10_usual_53 (by decide) (q := 56) rfl (fun c4 => ?_) (fun c4 => ?_)
      · rw [if_neg c4] at h
        refine J_iconst (x := 0) dX10_usual_60 (by decide) (q := 61) rfl ?_
        have h := Option.some.inj h
        subst h
        exact J_ireturn dX10_usual_61 rfl rfl rfl
      · rw [if_pos c4] at h
        refine J_iconst (x := 5) dX10_usual_56 (by decide) (q := 57) rfl ?_
        refine J_goto (tgt := 61) dX10_usual_57 (by decide) ?_
        have h := Option.some.inj h
        subst h
        exact J_ireturn dX10_usual_61 rfl rfl rfl
  · rw [if_pos c0] at h
    refine J_iload_n (z := 1) dX10_usual_6 rfl rfl (q := 7) rfl ?_
    refine J_if_ne (tgt := 14) dX10_usual_7 (by decide) (q := 10) rfl (fun c5 => ?_) (fun c5 => ?_)
    · rw [if_neg c5] at h
      refine J_iload_n (z := 1) dX10_usual_14 rfl rfl (q := 15) rfl ?_
      refine J_iconst (x := 1) dX10_usual_15 (by decide) (q := 16) rfl ?_
      refine J_icmp_ne (tgt := 23) dX10_usual_16 (by decide) (q := 19) rfl (fun c6 => ?_) (fun c6 => ?_)
      · rw [if_neg c6] at h
        refine J_iload_n (z := 1) dX10_usual_23 rfl rfl (q := 24) rfl ?_
        refine J_iconst (x := 2) dX10_usual_24 (by decide) (q := 25) rfl ?_
        refine J_icmp_ne (tgt := 33) dX10_usual_25 (by decide) (q := 28) rfl (fun c7 => ?_) (fun c7 => ?_)
        · rw [if_neg c7] at h
          refine J_iload_n (z := 1) dX10_usual_33 rfl rfl (q := 34) rfl ?_
          refine J_iconst (x := 3) dX10_usual_34 (by decide) (q := 35) rfl ?_
          refine J_icmp_ne (tgt := 42) dX10_usual_35 (by decide) (q := 38) rfl (fun c8 => ?_) (fun c8 => ?_)
          · rw [if_neg c8] at h
            refine J_bipush (x := 60) dX10_usual_42 (by decide) (q := 44) rfl ?_
            have h := Option.some.inj h
            subst h
            exact J_ireturn dX10_usual_44 rfl rfl rfl
          · rw [if_pos c8] at h
            refine J_iconst (x := 1) dX10_usual_38 (by decide) (q := 39) rfl ?_
            refine J_goto (tgt := 44) dX10_usual_39 (by decide) ?_
            have h := Option.some.inj h
            subst h
            exact J_ireturn dX10_usual_44 rfl rfl rfl
        · rw [if_pos c7] at h
          refine J_bipush (x := 40) dX10_usual_28 (by decide) (q := 30) rfl ?_
          refine J_goto (tgt := 44) dX10_usual_30 (by decide) ?_
          have h := Option.some.inj h
          subst h
          exact J_ireturn dX10_usual_44 rfl rfl rfl
      · rw [if_pos c6] at h
        refine J_iconst (x := 4) dX10_usual_19 (by decide) (q := 20) rfl ?_
        refine J_goto (tgt := 44) dX10_usual_20 (by decide) ?_
        have h := Option.some.inj h
        subst h
        exact J_ireturn dX10_usual_44 rfl rfl rfl
    · rw [if_pos c5] at h
      refine J_iconst (x := 5) dX10_usual_10 (by decide) (q := 11) rfl ?_
      refine J_goto (tgt := 44) dX10_usual_11 (by decide) ?_
      have h := Option.some.inj h
      subst h
      exact J_ireturn dX10_usual_44 rfl rfl rfl

def fX10_readItems_l3 (a0 : Nat) (a1 : Int32) (a2 : Nat) (a3 : Int32) (a4 : Nat) (a5 : Int32) (σ : Mm) : Option ((Int32 × Mm) ⊕ (Mm)) :=
  if (slen a4) ≤ a5 then some (Sum.inr σ) else (fX10_usual a1 a5 σ).bind fun vk2 => if ixB (a3 + a5) (ln a2) = true then some (Sum.inl ((a5 + 1), (sI σ a2 (Int32.toNatClampNeg (a3 + a5)) vk2))) else none
set_option maxRecDepth 20000 in
set_option maxHeartbeats 2000000 in
theorem tX10_readItems_l3 {X : XS} {n : Nat} {σ : Mm} {F : Nat × Option Value × Mm} {a0 : Nat} {a1 : Int32} {a2 : Nat} {a3 : Int32} {a4 : Nat} {a5 : Int32} (ha0 : RT n a0 110) (ha2 : RT n a2 200) (ha4 : RT n a4 207) {res : (Int32 × Mm) ⊕ (Mm)} (h : fX10_readItems_l3 a0 a1 a2 a3 a4 a5 σ = some res) (hc : ∀ (b5 : Int32) (s : Mm), res = .inl (b5, s) → J X mX10_readItems 8 0 0 F 3 [(0, .ref a0), (1, .int a1), (2, .ref a2), (3, .int a3), (4, .ref a4), (5, .int b5)] [] n s) (he0 : ∀  (s : Mm), res = .inr s → J X mX10_readItems 8 0 0 F 31 [(0, .ref a0), (1, .int a1), (2, .ref a2), (3, .int a3), (4, .ref a4)] [] n s) : J X mX10_readItems 8 0 0 F 3 [(0, .ref a0), (1, .int a1), (2, .ref a2), (3, .int a3), (4, .ref a4), (5, .int a5)] [] n σ := by
  unfold fX10_readItems_l3 at h
  refine J_iload (z := 5) dX10_readItems_3 rfl (q := 5) rfl ?_
  refine J_aload (z := 4) dX10_readItems_5 rfl (q := 7) rfl ?_
  refine J_strlen dX10_readItems_7 mRX10_99 ha4 (Nat.le_of_ble_eq_true rfl) (Nat.le_of_ble_eq_true rfl) (q := 10) rfl ?_
  refine J_icmp_ge (tgt := 31) dX10_readItems_10 (by decide) (q := 13) rfl (fun c0 => ?_) (fun c0 => ?_)
  · rw [if_pos c0] at h
    have h := Option.some.inj h
    refine J_pick [0, 1, 2, 3, 4] rfl ?_
    exact he0 _ h.symm
  · rw [if_neg c0] at h
    refine J_aload_n (z := 2) dX10_readItems_13 rfl rfl (q := 14) rfl ?_
    refine J_iload_n (z := 3) dX10_readItems_14 rfl rfl (q := 15) rfl ?_
    refine J_iload (z := 5) dX10_readItems_15 rfl (q := 17) rfl ?_
    refine J_iadd dX10_readItems_17  (q := 18) rfl ?_
    refine J_iload_n (z := 1) dX10_readItems_18 rfl rfl (q := 19) rfl ?_
    refine J_iload (z := 5) dX10_readItems_19 rfl (q := 21) rfl ?_
    obtain ⟨vk2, hk2, h⟩ := bindS h
    refine J_cSi (as := [.int a1, .int a5]) dX10_readItems_21 mRX10_221 (tX10_usual  hk2) rfl (Nat.le_of_ble_eq_true rfl) (Nat.le_of_ble_eq_true rfl) (Nat.le_of_ble_eq_true rfl) (q := 24) rfl ?_
    intro bk2
    obtain ⟨g3, h⟩ := iteS h
    refine J_iast dX10_readItems_24 ha2 (ixB_ok g3) (q := 25) rfl ?_
    refine J_iinc (z := 5) (y := (a5 + 1)) (lv' := [(5, .int (a5 + 1)), (0, .ref a0), (1, .int a1), (2, .ref a2), (3, .int a3), (4, .ref a4)]) dX10_readItems_25 rfl rfl (by decide) rfl (q := 28) rfl ?_
    refine J_goto (tgt := 3) dX10_readItems_28 (by decide) ?_
    have h := Option.some.inj h
    refine J_pick [1, 2, 3, 4, 5, 0] rfl ?_
    exact hc _ _ h.symm

def fX10_readItems_w3 (a0 : Nat) (a1 : Int32) (a2 : Nat) (a3 : Int32) (a4 : Nat) (a5 : Int32) (σ : Mm) : Option (Mm) :=
  wh (fun a : Int32 × Mm => fX10_readItems_l3 a0 a1 a2 a3 a4 a.1 a.2) BIG (a5, σ)
set_option maxRecDepth 20000 in
set_option maxHeartbeats 2000000 in
theorem tX10_readItems_w3 {X : XS} {n : Nat} {σ : Mm} {F : Nat × Option Value × Mm} {a0 : Nat} {a1 : Int32} {a2 : Nat} {a3 : Int32} {a4 : Nat} {a5 : Int32} (ha0 : RT n a0 110) (ha2 : RT n a2 200) (ha4 : RT n a4 207) {res : Mm} (h : fX10_readItems_w3 a0 a1 a2 a3 a4 a5 σ = some res) (he0 : ∀  (s : Mm), res = s → J X mX10_readItems 8 0 0 F 31 [(0, .ref a0), (1, .int a1), (2, .ref a2), (3, .int a3), (4, .ref a4)] [] n s) : J X mX10_readItems 8 0 0 F 3 [(0, .ref a0), (1, .int a1), (2, .ref a2), (3, .int a3), (4, .ref a4), (5, .int a5)] [] n σ := by
  unfold fX10_readItems_w3 at h
  refine wh_rule (P := fun a : Int32 × Mm => J X mX10_readItems 8 0 0 F 3 [(0, .ref a0), (1, .int a1), (2, .ref a2), (3, .int a3), (4, .ref a4), (5, .int a.1)] [] n a.2) (K := fun b => b = res) ?_ _ _ _ h rfl
  intro a
  refine ⟨fun a2 hb hP => ?_, fun b hb hK => ?_⟩
  · exact tX10_readItems_l3 ha0 ha2 ha4 hb (fun _ _ e => by cases e; exact hP) (fun _ e => by cases e)
  · subst hK
    exact tX10_readItems_l3 ha0 ha2 ha4 hb (fun _ _ e => by cases e) (fun v0 e => he0 v0 (Sum.inr.inj e))

def fX10_readItems_l45 (a0 : Nat) (a1 : Int32) (a2 : Nat) (a3 : Int32) (a4 : Nat) (a5 : Int32) (a6 : Int32) (σ : Mm) : Option ((Int32 × Int32 × Mm) ⊕ (Mm ⊕ Mm)) :=
  if a6 = (-1) then some (Sum.inr (Sum.inl σ)) else if (gI σ a0 11) = (-1) then (fX10_has a5 a6 σ).bind fun vk9 => if vk9 = 0 then (fX10_leastOf a1 a6 (sI σ a0 10 ((gI σ a0 10) + 1))).bind fun vk11 => (fX10_mostOf a1 a6 (sI σ a0 10 ((gI σ a0 10) + 1))).bind fun vk12 => bnd2 (fX10_number a0 vk11 vk12 (sI σ a0 10 ((gI σ a0 10) + 1))) fun vk13 sk13 => if ixB (a3 + a6) (ln a2) = true then if (gI (sI sk13 a2 (Int32.toNatClampNeg (a3 + a6)) vk13) a0 11) = (-1) then bnd2 (fX10_look a0 (sI sk13 a2 (Int32.toNatClampNeg (a3 + a6)) vk13)) fun vk16 sk16 => (fX10_spotOf a4 vk16 sk16).bind fun vk17 => some (Sum.inl ((a5 ||| (shlI 1 a6)), vk17, sk16)) else some (Sum.inl ((a5 ||| (shlI 1 a6)), a6, (sI sk13 a2 (Int32.toNatClampNeg (a3 + a6)) vk13))) else none else some (Sum.inr (Sum.inr σ)) else some (Sum.inr (Sum.inl σ))
set_option maxRecDepth 20000 in
set_option maxHeartbeats 2000000 in
theorem tX10_readItems_l45 {X : XS} {n : Nat} {σ : Mm} {F : Nat × Option Value × Mm} {a0 : Nat} {a1 : Int32} {a2 : Nat} {a3 : Int32} {a4 : Nat} {a5 : Int32} {a6 : Int32} (ha0 : RT n a0 110) (ha2 : RT n a2 200) (ha4 : RT n a4 207) {res : (Int32 × Int32 × Mm) ⊕ (Mm ⊕ Mm)} (h : fX10_readItems_l45 a0 a1 a2 a3 a4 a5 a6 σ = some res) (hc : ∀ (b5 : Int32) (b6 : Int32) (s : Mm), res = .inl (b5, b6, s) → J X mX10_readItems 8 0 0 F 45 [(0, .ref a0), (1, .int a1), (2, .ref a2), (3, .int a3), (4, .ref a4), (5, .int b5), (6, .int b6)] [] n s) (he0 : ∀  (s : Mm), res = .inr (Sum.inr s) → J X mX10_readItems 8 0 0 F 69 [(0, .ref a0)] [] n s) (hr : ∀ (s : Mm), res = .inr (Sum.inl s) → F = (n, none, s)) : J X mX10_readItems 8 0 0 F 45 [(0, .ref a0), (1, .int a1), (2, .ref a2), (3, .int a3), (4, .ref a4), (5, .int a5), (6, .int a6)] [] n σ := by
  unfold fX10_readItems_l45 at h
  refine J_iload (z := 6) dX10_readItems_45 rfl (q := 47) rfl ?_
  refine J_iconst (x := (-1)) dX10_readItems_47 (by decide) (q := 48) rfl ?_
  refine J_icmp_eq (tgt := 138) dX10_readItems_48 (by decide) (q := 51) rfl (fun c6 => ?_) (fun c6 => ?_)
  · rw [if_pos c6] at h
    have h := Option.some.inj h
    exact J_return dX10_readItems_138 rfl (hr _ h.symm)
  · rw [if_neg c6] at h
    refine J_aload_n (z := 0) dX10_readItems_51 rfl rfl (q := 52) rfl ?_
    refine J_getI dX10_readItems_52 lRX10_128 ha0 rfl (q := 55) rfl ?_
    refine J_iconst (x := (-1)) dX10_readItems_55 (by decide) (q := 56) rfl ?_
    refine J_icmp_ne (tgt := 138) dX10_readItems_56 (by decide) (q := 59) rfl (fun c7 => ?_) (fun c7 => ?_)
    · rw [if_neg c7] at h
      have h := Option.some.inj h
      exact J_return dX10_readItems_138 rfl (hr _ h.symm)
    · rw [if_pos c7] at h
      refine J_iload (z := 5) dX10_readItems_59 rfl (q := 61) rfl ?_
      refine J_iload (z := 6) dX10_readItems_61 rfl (q := 63) rfl ?_
      obtain ⟨vk9, hk9, h⟩ := bindS h
      refine J_cSi (as := [.int a5, .int a6]) dX10_readItems_63 mRX10_229 (tX10_has  hk9) rfl (Nat.le_of_ble_eq_true rfl) (Nat.le_of_ble_eq_true rfl) (Nat.le_of_ble_eq_true rfl) (q := 66) rfl ?_
      intro bk9
      refine J_if_eq (tgt := 75) dX10_readItems_66 (by decide) (q := 69) rfl (fun c9 => ?_) (fun c9 => ?_)
      · rw [if_pos c9] at h
        refine J_iload (z := 5) dX10_readItems_75 rfl (q := 77) rfl ?_
        refine J_iconst (x := 1) dX10_readItems_77 (by decide) (q := 78) rfl ?_
        refine J_iload (z := 6) dX10_readItems_78 rfl (q := 80) rfl ?_
        refine J_ishl dX10_readItems_80  (q := 81) rfl ?_
        refine J_ior dX10_readItems_81  (q := 82) rfl ?_
        refine J_istore (lv' := [(5, .int (a5 ||| (shlI 1 a6))), (0, .ref a0), (1, .int a1), (2, .ref a2), (3, .int a3), (4, .ref a4), (6, .int a6)]) dX10_readItems_82 (by decide) rfl (q := 84) rfl ?_
        refine J_aload_n (z := 1) dX10_readItems_84 rfl rfl (q := 85) rfl ?_
        refine J_dup dX10_readItems_85 rfl (q := 86) rfl ?_
        refine J_getI dX10_readItems_86 lRX10_119 ha0 rfl (q := 89) rfl ?_
        refine J_iconst (x := 1) dX10_readItems_89 (by decide) (q := 90) rfl ?_
        refine J_iadd dX10_readItems_90  (q := 91) rfl ?_
        refine J_putI dX10_readItems_91 lRX10_119 (fun h => by cases h) ha0 rfl (q := 94) rfl ?_
        refine J_aload_n (z := 3) dX10_readItems_94 rfl rfl (q := 95) rfl ?_
        refine J_iload_n (z := 4) dX10_readItems_95 rfl rfl (q := 96) rfl ?_
        refine J_iload (z := 6) dX10_readItems_96 rfl (q := 98) rfl ?_
        refine J_iadd dX10_readItems_98  (q := 99) rfl ?_
        refine J_aload_n (z := 1) dX10_readItems_99 rfl rfl (q := 100) rfl ?_
        refine J_iload_n (z := 2) dX10_readItems_100 rfl rfl (q := 101) rfl ?_
        refine J_iload (z := 6) dX10_readItems_101 rfl (q := 103) rfl ?_
        obtain ⟨vk11, hk11, h⟩ := bindS h
        refine J_cSi (as := [.int a1, .int a6]) dX10_readItems_103 mRX10_233 (tX10_leastOf  hk11) rfl (Nat.le_of_ble_eq_true rfl) (Nat.le_of_ble_eq_true rfl) (Nat.le_of_ble_eq_true rfl) (q := 106) rfl ?_
        intro bk11
        refine J_iload_n (z := 2) dX10_readItems_106 rfl rfl (q := 107) rfl ?_
        refine J_iload (z := 6) dX10_readItems_107 rfl (q := 109) rfl ?_
        obtain ⟨vk12, hk12, h⟩ := bindS h
        refine J_cSi (as := [.int a1, .int a6]) dX10_readItems_109 mRX10_236 (tX10_mostOf  hk12) rfl (Nat.le_of_ble_eq_true rfl) (Nat.le_of_ble_eq_true rfl) (Nat.le_of_ble_eq_true rfl) (q := 112) rfl ?_
        intro bk12
        obtain ⟨vk13, sk13, hk13, h⟩ := bnd2S h
        refine J_cVi (as := [.int vk11, .int vk12]) dX10_readItems_112 mRX10_239 ha0 (tX10_number ha0 hk13) rfl (Nat.le_of_ble_eq_true rfl) (Nat.le_of_ble_eq_true rfl) (Nat.le_of_ble_eq_true rfl) (q := 115) rfl ?_
        intro bk13
        obtain ⟨g14, h⟩ := iteS h
        refine J_iast dX10_readItems_115 ha2 (ixB_ok g14) (q := 116) rfl ?_
        refine J_aload_n (z := 1) dX10_readItems_116 rfl rfl (q := 117) rfl ?_
        refine J_getI dX10_readItems_117 lRX10_128 ha0 rfl (q := 120) rfl ?_
        refine J_iconst (x := (-1)) dX10_readItems_120 (by decide) (q := 121) rfl ?_
        refine J_icmp_ne (tgt := 45) dX10_readItems_121 (by decide) (q := 124) rfl (fun c14 => ?_) (fun c14 => ?_)
        · rw [if_neg c14] at h
          have h := Option.some.inj h
          refine J_pick [1, 2, 3, 4, 5, 0, 6] rfl ?_
          exact hc _ _ _ h.symm
        · rw [if_pos c14] at h
          refine J_aload (z := 5) dX10_readItems_124 rfl (q := 126) rfl ?_
          refine J_aload_n (z := 1) dX10_readItems_126 rfl rfl (q := 127) rfl ?_
          obtain ⟨vk16, sk16, hk16, h⟩ := bnd2S h
          refine J_cVi (as := []) dX10_readItems_127 mRX10_138 ha0 (tX10_look ha0 hk16) rfl (Nat.le_of_ble_eq_true rfl) (Nat.le_of_ble_eq_true rfl) (Nat.le_of_ble_eq_true rfl) (q := 130) rfl ?_
          intro bk16
          obtain ⟨vk17, hk17, h⟩ := bindS h
          refine J_cSi (as := [.ref a4, .int vk16]) dX10_readItems_130 mRX10_225 (tX10_spotOf ha4 hk17) rfl (Nat.le_of_ble_eq_true rfl) (Nat.le_of_ble_eq_true rfl) (Nat.le_of_ble_eq_true rfl) (q := 133) rfl ?_
          intro bk17
          refine J_istore (lv' := [(6, .int vk17), (5, .int (a5 ||| (shlI 1 a6))), (0, .ref a0), (1, .int a1), (2, .ref a2), (3, .int a3), (4, .ref a4)]) dX10_readItems_133 (by decide) rfl (q := 135) rfl ?_
          refine J_goto (tgt := 45) dX10_readItems_135 (by decide) ?_
          have h := Option.some.inj h
          refine J_pick [2, 3, 4, 5, 6, 1, 0] rfl ?_
          exact hc _ _ _ h.symm
      · rw [if_neg c9] at h
        have h := Option.some.inj h
        refine J_pick [0] rfl ?_
        exact he0 _ h.symm

def fX10_readItems_w45 (a0 : Nat) (a1 : Int32) (a2 : Nat) (a3 : Int32) (a4 : Nat) (a5 : Int32) (a6 : Int32) (σ : Mm) : Option (Mm ⊕ Mm) :=
  wh (fun a : Int32 × Int32 × Mm => fX10_readItems_l45 a0 a1 a2 a3 a4 a.1 a.2.1 a.2.2) BIG (a5, a6, σ)
set_option maxRecDepth 20000 in
set_option maxHeartbeats 2000000 in
theorem tX10_readItems_w45 {X : XS} {n : Nat} {σ : Mm} {F : Nat × Option Value × Mm} {a0 : Nat} {a1 : Int32} {a2 : Nat} {a3 : Int32} {a4 : Nat} {a5 : Int32} {a6 : Int32} (ha0 : RT n a0 110) (ha2 : RT n a2 200) (ha4 : RT n a4 207) {res : Mm ⊕ Mm} (h : fX10_readItems_w45 a0 a1 a2 a3 a4 a5 a6 σ = some res) (he0 : ∀  (s : Mm), res = (Sum.inr s) → J X mX10_readItems 8 0 0 F 69 [(0, .ref a0)] [] n s) (hr : ∀ (s : Mm), res = (Sum.inl s) → F = (n, none, s)) : J X mX10_readItems 8 0 0 F 45 [(0, .ref a0), (1, .int a1), (2, .ref a2), (3, .int a3), (4, .ref a4), (5, .int a5), (6, .int a6)] [] n σ := by
  unfold fX10_readItems_w45 at h
  refine wh_rule (P := fun a : Int32 × Int32 × Mm => J X mX10_readItems 8 0 0 F 45 [(0, .ref a0), (1, .int a1), (2, .ref a2), (3, .int a3), (4, .ref a4), (5, .int a.1), (6, .int a.2.1)] [] n a.2.2) (K := fun b => b = res) ?_ _ _ _ h rfl
  intro a
  refine ⟨fun a2 hb hP => ?_, fun b hb hK => ?_⟩
  · exact tX10_readItems_l45 ha0 ha2 ha4 hb (fun _ _ _ e => by cases e; exact hP) (fun _ e => by cases e) (fun _ e => by cases e)
  · subst hK
    exact tX10_readItems_l45 ha0 ha2 ha4 hb (fun _ _ _ e => by cases e) (fun v0 e => he0 v0 (Sum.inr.inj e)) (fun v0 e => hr v0 (Sum.inr.inj e))

def fX10_readItems (a0 : Nat) (a1 : Int32) (a2 : Nat) (a3 : Int32) (a4 : Nat) (σ : Mm) : Option (Mm) :=
  (fX10_readItems_w3 a0 a1 a2 a3 a4 0 σ).bind (fun o4 => (fun so4 => bnd2 (fX10_look a0 so4) fun vk5 sk5 => (fX10_spotOf a4 vk5 sk5).bind fun vk6 => (fX10_readItems_w45 a0 a1 a2 a3 a4 0 vk6 sk5).bind (Sum.elim (fun eo180 => some eo180) (fun eo181 => (fun so18 => bnd2 (fX10_fails a0 so18) fun vk19 sk19 => some sk19) eo181))) o4)
set_option maxRecDepth 20000 in
set_option maxHeartbeats 2000000 in
theorem tX10_readItems {X : XS} {n : Nat} {σ : Mm} {a0 : Nat} {a1 : Int32} {a2 : Nat} {a3 : Int32} {a4 : Nat} (ha0 : RT n a0 110) (ha2 : RT n a2 200) (ha4 : RT n a4 207) {res : Mm} (h : fX10_readItems a0 a1 a2 a3 a4 σ = some res) : MT X yX10_readItems mX10_readItems 8 0 0 [.ref a0, .int a1, .ref a2, .int a3, .ref a4] n σ (n, none, res) := by
  unfold fX10_readItems at h
  refine MT_of (by decide +kernel) rfl (fun h => by cases h) (Nat.le_of_ble_eq_true rfl) ?_
  show J X mX10_readItems 8 0 0 (n, none, res) 0 [(0, .ref a0), (1, .int a1), (2, .ref a2), (3, .int a3), (4, .ref a4)] [] n σ
  refine J_iconst (x := 0) dX10_readItems_0 (by decide) (q := 1) rfl ?_
  refine J_istore (lv' := [(5, .int 0), (0, .ref a0), (1, .int a1), (2, .ref a2), (3, .int a3), (4, .ref a4)]) dX10_readItems_1 (by decide) rfl (q := 3) rfl ?_
  obtain ⟨o4, hlo4, h⟩ := bindS h
  refine J_pick [1, 2, 3, 4, 5, 0] rfl ?_
  refine tX10_readItems_w3 ha0 ha2 ha4 hlo4 ?_
  · intro so4 qo4
    rw [qo4] at h
    try dsimp only [Sum.elim_inl, Sum.elim_inr] at h
    refine J_iconst (x := 0) dX10_readItems_31 (by decide) (q := 32) rfl ?_
    refine J_istore (lv' := [(5, .int 0), (0, .ref a0), (1, .int a1), (2, .ref a2), (3, .int a3), (4, .ref a4)]) dX10_readItems_32 (by decide) rfl (q := 34) rfl ?_
    refine J_aload (z := 5) dX10_readItems_34 rfl (q := 36) rfl ?_
    refine J_aload_n (z := 1) dX10_readItems_36 rfl rfl (q := 37) rfl ?_
    obtain ⟨vk5, sk5, hk5, h⟩ := bnd2S h
    refine J_cVi (as := []) dX10_readItems_37 mRX10_138 ha0 (tX10_look ha0 hk5) rfl (Nat.le_of_ble_eq_true rfl) (Nat.le_of_ble_eq_true rfl) (Nat.le_of_ble_eq_true rfl) (q := 40) rfl ?_
    intro bk5
    obtain ⟨vk6, hk6, h⟩ := bindS h
    refine J_cSi (as := [.ref a4, .int vk5]) dX10_readItems_40 mRX10_225 (tX10_spotOf ha4 hk6) rfl (Nat.le_of_ble_eq_true rfl) (Nat.le_of_ble_eq_true rfl) (Nat.le_of_ble_eq_true rfl) (q := 43) rfl ?_
    intro bk6
    refine J_istore (lv' := [(6, .int vk6), (5, .int 0), (0, .ref a0), (1, .int a1), (2, .ref a2), (3, .int a3), (4, .ref a4)]) dX10_readItems_43 (by decide) rfl (q := 45) rfl ?_
    obtain ⟨o18, hlo18, h⟩ := bindS h
    refine J_pick [2, 3, 4, 5, 6, 1, 0] rfl ?_
    refine tX10_readItems_w45 ha0 ha2 ha4 hlo18 ?_ ?_
    · intro so18 qo18
      rw [qo18] at h
      try dsimp only [Sum.elim_inl, Sum.elim_inr] at h
      refine J_aload_n (z := 0) dX10_readItems_69 rfl rfl (q := 70) rfl ?_
      obtain ⟨vk19, sk19, hk19, h⟩ := bnd2S h
      refine J_cVi (as := []) dX10_readItems_70 mRX10_134 ha0 (tX10_fails ha0 hk19) rfl (Nat.le_of_ble_eq_true rfl) (Nat.le_of_ble_eq_true rfl) (Nat.le_of_ble_eq_true rfl) (q := 73) rfl ?_
      intro bk19
      refine J_pop dX10_readItems_73 rfl (q := 74) rfl ?_
      have h := Option.some.inj h
      subst h
      exact J_return dX10_readItems_74 rfl rfl
    · intro so18 qo18
      rw [qo18] at h
      try dsimp only [Sum.elim_inl, Sum.elim_inr] at h
      have h := Option.some.inj h
      subst h
      rfl

