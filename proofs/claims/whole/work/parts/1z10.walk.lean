def fX10_recuts (a0 : Nat) (a1 : Nat) (a2 : Int32) (a3 : Int32) (σ : Mm) : Option (Mm) :=
  (gR σ a0 20).bind fun r1 => if ixB (4 * a3) (ln r1) = true then (fX10_stands a1 a2 (gI σ r1 (Int32.toNatClampNeg (4 * a3))) σ).bind fun sk3 => if ixB (2 * a3) (ln a1) = true then (fX10_recalls a1 a2 a3 (sI sk3 a1 (Int32.toNatClampNeg (2 * a3)) 9)).bind fun vk5 => if ixB ((2 * a3) + 1) (ln a1) = true then (fX10_writes a1 1 a2 a3 0 (sI (sI sk3 a1 (Int32.toNatClampNeg (2 * a3)) 9) a1 (Int32.toNatClampNeg ((2 * a3) + 1)) vk5)).bind fun sk7 => some sk7 else none else none else none
set_option maxRecDepth 20000 in
set_option maxHeartbeats 2000000 in
theorem tX10_recuts {X : XS} {n : Nat} {σ : Mm} {a0 : Nat} {a1 : Nat} {a2 : Int32} {a3 : Int32} (ha0 : RT n a0 110) (ha1 : RT n a1 200) {res : Mm} (h : fX10_recuts a0 a1 a2 a3 σ = some res) : MT X yX10_recuts mX10_recuts 2 0 0 [.ref a0, .ref a1, .int a2, .int a3] n σ (n, none, res) := by
  unfold fX10_recuts at h
  refine MT_of (by decide +kernel) rfl (fun h => by cases h) (Nat.le_of_ble_eq_true rfl) ?_
  show J X mX10_recuts 2 0 0 (n, none, res) 0 [(0, .ref a0), (1, .ref a1), (2, .int a2), (3, .int a3)] [] n σ
  refine J_aload_n (z := 1) dX10_recuts_0 rfl rfl (q := 1) rfl ?_
  refine J_iload_n (z := 2) dX10_recuts_1 rfl rfl (q := 2) rfl ?_
  refine J_aload_n (z := 0) dX10_recuts_2 rfl rfl (q := 3) rfl ?_
  obtain ⟨r1, er1, h⟩ := bindS h
  refine J_getR dX10_recuts_3 lRX10_43 ha0 rfl (by decide) er1 (q := 6) rfl (fun fr1 => ?_)
  refine J_iconst (x := 4) dX10_recuts_6 (by decide) (q := 7) rfl ?_
  refine J_iload_n (z := 3) dX10_recuts_7 rfl rfl (q := 8) rfl ?_
  refine J_imul dX10_recuts_8  (q := 9) rfl ?_
  obtain ⟨g2, h⟩ := iteS h
  refine J_iald dX10_recuts_9 fr1 (ixB_ok g2) (q := 10) rfl ?_
  obtain ⟨sk3, hk3, h⟩ := bindS h
  refine J_cSv (as := [.ref a1, .int a2, .int (gI σ r1 (Int32.toNatClampNeg (4 * a3)))]) dX10_recuts_10 mRX10_376 (tX10_stands ha1 hk3) rfl (Nat.le_of_ble_eq_true rfl) (Nat.le_of_ble_eq_true rfl) (Nat.le_of_ble_eq_true rfl) (q := 13) rfl ?_
  refine J_aload_n (z := 1) dX10_recuts_13 rfl rfl (q := 14) rfl ?_
  refine J_iconst (x := 2) dX10_recuts_14 (by decide) (q := 15) rfl ?_
  refine J_iload_n (z := 3) dX10_recuts_15 rfl rfl (q := 16) rfl ?_
  refine J_imul dX10_recuts_16  (q := 17) rfl ?_
  refine J_bipush (x := 9) dX10_recuts_17 (by decide) (q := 19) rfl ?_
  obtain ⟨g4, h⟩ := iteS h
  refine J_iast dX10_recuts_19 ha1 (ixB_ok g4) (q := 20) rfl ?_
  refine J_aload_n (z := 1) dX10_recuts_20 rfl rfl (q := 21) rfl ?_
  refine J_iconst (x := 2) dX10_recuts_21 (by decide) (q := 22) rfl ?_
  refine J_iload_n (z := 3) dX10_recuts_22 rfl rfl (q := 23) rfl ?_
  refine J_imul dX10_recuts_23  (q := 24) rfl ?_
  refine J_iconst (x := 1) dX10_recuts_24 (by decide) (q := 25) rfl ?_
  refine J_iadd dX10_recuts_25  (q := 26) rfl ?_
  refine J_aload_n (z := 1) dX10_recuts_26 rfl rfl (q := 27) rfl ?_
  refine J_iload_n (z := 2) dX10_recuts_27 rfl rfl (q := 28) rfl ?_
  refine J_iload_n (z := 3) dX10_recuts_28 rfl rfl (q := 29) rfl ?_
  obtain ⟨vk5, hk5, h⟩ := bindS h
  refine J_cSi (as := [.ref a1, .int a2, .int a3]) dX10_recuts_29 mRX10_358 (tX10_recalls ha1 hk5) rfl (Nat.le_of_ble_eq_true rfl) (Nat.le_of_ble_eq_true rfl) (Nat.le_of_ble_eq_true rfl) (q := 32) rfl ?_
  intro bk5
  obtain ⟨g6, h⟩ := iteS h
  refine J_iast dX10_recuts_32 ha1 (ixB_ok g6) (q := 33) rfl ?_
  refine J_aload_n (z := 1) dX10_recuts_33 rfl rfl (q := 34) rfl ?_
  refine J_iconst (x := 1) dX10_recuts_34 (by decide) (q := 35) rfl ?_
  refine J_iload_n (z := 2) dX10_recuts_35 rfl rfl (q := 36) rfl ?_
  refine J_iload_n (z := 3) dX10_recuts_36 rfl rfl (q := 37) rfl ?_
  refine J_iconst (x := 0) dX10_recuts_37 (by decide) (q := 38) rfl ?_
  obtain ⟨sk7, hk7, h⟩ := bindS h
  refine J_cSv (as := [.ref a1, .int 1, .int a2, .int a3, .int 0]) dX10_recuts_38 mRX10_387 (tX10_writes ha1 hk7) rfl (Nat.le_of_ble_eq_true rfl) (Nat.le_of_ble_eq_true rfl) (Nat.le_of_ble_eq_true rfl) (q := 41) rfl ?_
  have h := Option.some.inj h
  subst h
  exact J_return dX10_recuts_41 rfl rfl

def fX10_recut (a0 : Nat) (a1 : Int32) (a2 : Int32) (σ : Mm) : Option (Int32 × Mm) :=
  (gR σ a0 33).bind fun r1 => (fX10_canRecut a0 r1 a1 a2 (sI σ a0 0 0)).bind fun vk2 => if vk2 = 0 then some ((-1), (sI σ a0 0 0)) else (fX10_remember a0 (sI σ a0 0 0)).bind fun sk4 => (gR sk4 a0 33).bind fun r5 => (fX10_recuts a0 r5 a1 a2 sk4).bind fun sk6 => (gR sk6 a0 33).bind fun r7 => if ixB ((2 * a2) + 1) (ln r7) = true then some ((gI sk6 r7 (Int32.toNatClampNeg ((2 * a2) + 1))), sk6) else none
set_option maxRecDepth 20000 in
set_option maxHeartbeats 2000000 in
theorem tX10_recut {X : XS} {n : Nat} {σ : Mm} {a0 : Nat} {a1 : Int32} {a2 : Int32} (ha0 : RT n a0 110) {res : Int32 × Mm} (h : fX10_recut a0 a1 a2 σ = some res) : MT X yX10_recut mX10_recut 4 0 0 [.ref a0, .int a1, .int a2] n σ (n, some (.int res.1), res.2) := by
  unfold fX10_recut at h
  refine MT_of (by decide +kernel) rfl (fun h => by cases h) (Nat.le_of_ble_eq_true rfl) ?_
  show J X mX10_recut 4 0 0 (n, some (.int res.1), res.2) 0 [(0, .ref a0), (1, .int a1), (2, .int a2)] [] n σ
  refine J_aload_n (z := 0) dX10_recut_0 rfl rfl (q := 1) rfl ?_
  refine J_iconst (x := 0) dX10_recut_1 (by decide) (q := 2) rfl ?_
  refine J_putI dX10_recut_2 lRX10_96 (fun h => by cases h) ha0 rfl (q := 5) rfl ?_
  refine J_aload_n (z := 0) dX10_recut_5 rfl rfl (q := 6) rfl ?_
  refine J_aload_n (z := 0) dX10_recut_6 rfl rfl (q := 7) rfl ?_
  obtain ⟨r1, er1, h⟩ := bindS h
  refine J_getR dX10_recut_7 lRX10_61 ha0 rfl (by decide) er1 (q := 10) rfl (fun fr1 => ?_)
  refine J_iload_n (z := 1) dX10_recut_10 rfl rfl (q := 11) rfl ?_
  refine J_iload_n (z := 2) dX10_recut_11 rfl rfl (q := 12) rfl ?_
  obtain ⟨vk2, hk2, h⟩ := bindS h
  refine J_cVi (as := [.ref r1, .int a1, .int a2]) dX10_recut_12 mRX10_400 ha0 (tX10_canRecut ha0 fr1 hk2) rfl (Nat.le_of_ble_eq_true rfl) (Nat.le_of_ble_eq_true rfl) (Nat.le_of_ble_eq_true rfl) (q := 15) rfl ?_
  intro bk2
  refine J_if_ne (tgt := 20) dX10_recut_15 (by decide) (q := 18) rfl (fun c2 => ?_) (fun c2 => ?_)
  · rw [if_neg c2] at h
    refine J_aload_n (z := 0) dX10_recut_20 rfl rfl (q := 21) rfl ?_
    obtain ⟨sk4, hk4, h⟩ := bindS h
    refine J_cVv (as := []) dX10_recut_21 mRX10_394 ha0 (tX10_remember ha0 hk4) rfl (Nat.le_of_ble_eq_true rfl) (Nat.le_of_ble_eq_true rfl) (Nat.le_of_ble_eq_true rfl) (q := 24) rfl ?_
    refine J_aload_n (z := 0) dX10_recut_24 rfl rfl (q := 25) rfl ?_
    refine J_aload_n (z := 0) dX10_recut_25 rfl rfl (q := 26) rfl ?_
    obtain ⟨r5, er5, h⟩ := bindS h
    refine J_getR dX10_recut_26 lRX10_61 ha0 rfl (by decide) er5 (q := 29) rfl (fun fr5 => ?_)
    refine J_iload_n (z := 1) dX10_recut_29 rfl rfl (q := 30) rfl ?_
    refine J_iload_n (z := 2) dX10_recut_30 rfl rfl (q := 31) rfl ?_
    obtain ⟨sk6, hk6, h⟩ := bindS h
    refine J_cVv (as := [.ref r5, .int a1, .int a2]) dX10_recut_31 mRX10_403 ha0 (tX10_recuts ha0 fr5 hk6) rfl (Nat.le_of_ble_eq_true rfl) (Nat.le_of_ble_eq_true rfl) (Nat.le_of_ble_eq_true rfl) (q := 34) rfl ?_
    refine J_aload_n (z := 0) dX10_recut_34 rfl rfl (q := 35) rfl ?_
    obtain ⟨r7, er7, h⟩ := bindS h
    refine J_getR dX10_recut_35 lRX10_61 ha0 rfl (by decide) er7 (q := 38) rfl (fun fr7 => ?_)
    refine J_iconst (x := 2) dX10_recut_38 (by decide) (q := 39) rfl ?_
    refine J_iload_n (z := 2) dX10_recut_39 rfl rfl (q := 40) rfl ?_
    refine J_imul dX10_recut_40  (q := 41) rfl ?_
    refine J_iconst (x := 1) dX10_recut_41 (by decide) (q := 42) rfl ?_
    refine J_iadd dX10_recut_42  (q := 43) rfl ?_
    obtain ⟨g8, h⟩ := iteS h
    refine J_iald dX10_recut_43 fr7 (ixB_ok g8) (q := 44) rfl ?_
    have h := Option.some.inj h
    subst h
    exact J_ireturn dX10_recut_44 rfl rfl rfl
  · rw [if_pos c2] at h
    refine J_iconst (x := (-1)) dX10_recut_18 (by decide) (q := 19) rfl ?_
    have h := Option.some.inj h
    subst h
    exact J_ireturn dX10_recut_19 rfl rfl rfl

def fX10_canGo (a0 : Nat) (a1 : Nat) (a2 : Int32) (a3 : Int32) (σ : Mm) : Option (Int32) :=
  (fX10_canDo a0 a1 a2 σ).bind fun vk1 => if vk1 = 0 then some 0 else (fX10_isCell a0 a3 σ).bind fun vk3 => if vk3 = 0 then some 0 else (fX10_cellOf a1 a2 σ).bind fun vk5 => if vk5 = a3 then some 0 else (fX10_isNear a0 a1 a2 a3 σ).bind fun vk7 => if vk7 = 0 then some 0 else some 1
set_option maxRecDepth 20000 in
set_option maxHeartbeats 2000000 in
theorem tX10_canGo {X : XS} {n : Nat} {σ : Mm} {a0 : Nat} {a1 : Nat} {a2 : Int32} {a3 : Int32} (ha0 : RT n a0 110) (ha1 : RT n a1 200) {res : Int32} (h : fX10_canGo a0 a1 a2 a3 σ = some res) : MT X yX10_canGo mX10_canGo 3 0 0 [.ref a0, .ref a1, .int a2, .int a3] n σ (n, some (.int res), σ) := by
  unfold fX10_canGo at h
  refine MT_of (by decide +kernel) rfl (fun h => by cases h) (Nat.le_of_ble_eq_true rfl) ?_
  show J X mX10_canGo 3 0 0 (n, some (.int res), σ) 0 [(0, .ref a0), (1, .ref a1), (2, .int a2), (3, .int a3)] [] n σ
  refine J_aload_n (z := 0) dX10_canGo_0 rfl rfl (q := 1) rfl ?_
  refine J_aload_n (z := 1) dX10_canGo_1 rfl rfl (q := 2) rfl ?_
  refine J_iload_n (z := 2) dX10_canGo_2 rfl rfl (q := 3) rfl ?_
  obtain ⟨vk1, hk1, h⟩ := bindS h
  refine J_cVi (as := [.ref a1, .int a2]) dX10_canGo_3 mRX10_369 ha0 (tX10_canDo ha0 ha1 hk1) rfl (Nat.le_of_ble_eq_true rfl) (Nat.le_of_ble_eq_true rfl) (Nat.le_of_ble_eq_true rfl) (q := 6) rfl ?_
  intro bk1
  refine J_if_eq (tgt := 40) dX10_canGo_6 (by decide) (q := 9) rfl (fun c1 => ?_) (fun c1 => ?_)
  · rw [if_pos c1] at h
    refine J_iconst (x := 0) dX10_canGo_40 (by decide) (q := 41) rfl ?_
    have h := Option.some.inj h
    subst h
    exact J_ireturn dX10_canGo_41 rfl rfl rfl
  · rw [if_neg c1] at h
    refine J_aload_n (z := 0) dX10_canGo_9 rfl rfl (q := 10) rfl ?_
    refine J_iload_n (z := 3) dX10_canGo_10 rfl rfl (q := 11) rfl ?_
    obtain ⟨vk3, hk3, h⟩ := bindS h
    refine J_cVi (as := [.int a3]) dX10_canGo_11 mRX10_366 ha0 (tX10_isCell ha0 hk3) rfl (Nat.le_of_ble_eq_true rfl) (Nat.le_of_ble_eq_true rfl) (Nat.le_of_ble_eq_true rfl) (q := 14) rfl ?_
    intro bk3
    refine J_if_eq (tgt := 40) dX10_canGo_14 (by decide) (q := 17) rfl (fun c3 => ?_) (fun c3 => ?_)
    · rw [if_pos c3] at h
      refine J_iconst (x := 0) dX10_canGo_40 (by decide) (q := 41) rfl ?_
      have h := Option.some.inj h
      subst h
      exact J_ireturn dX10_canGo_41 rfl rfl rfl
    · rw [if_neg c3] at h
      refine J_aload_n (z := 1) dX10_canGo_17 rfl rfl (q := 18) rfl ?_
      refine J_iload_n (z := 2) dX10_canGo_18 rfl rfl (q := 19) rfl ?_
      obtain ⟨vk5, hk5, h⟩ := bindS h
      refine J_cSi (as := [.ref a1, .int a2]) dX10_canGo_19 mRX10_312 (tX10_cellOf ha1 hk5) rfl (Nat.le_of_ble_eq_true rfl) (Nat.le_of_ble_eq_true rfl) (Nat.le_of_ble_eq_true rfl) (q := 22) rfl ?_
      intro bk5
      refine J_iload_n (z := 3) dX10_canGo_22 rfl rfl (q := 23) rfl ?_
      refine J_icmp_eq (tgt := 40) dX10_canGo_23 (by decide) (q := 26) rfl (fun c5 => ?_) (fun c5 => ?_)
      · rw [if_pos c5] at h
        refine J_iconst (x := 0) dX10_canGo_40 (by decide) (q := 41) rfl ?_
        have h := Option.some.inj h
        subst h
        exact J_ireturn dX10_canGo_41 rfl rfl rfl
      · rw [if_neg c5] at h
        refine J_aload_n (z := 0) dX10_canGo_26 rfl rfl (q := 27) rfl ?_
        refine J_aload_n (z := 1) dX10_canGo_27 rfl rfl (q := 28) rfl ?_
        refine J_iload_n (z := 2) dX10_canGo_28 rfl rfl (q := 29) rfl ?_
        refine J_iload_n (z := 3) dX10_canGo_29 rfl rfl (q := 30) rfl ?_
        obtain ⟨vk7, hk7, h⟩ := bindS h
        refine J_cVi (as := [.ref a1, .int a2, .int a3]) dX10_canGo_30 mRX10_373 ha0 (tX10_isNear ha0 ha1 hk7) rfl (Nat.le_of_ble_eq_true rfl) (Nat.le_of_ble_eq_true rfl) (Nat.le_of_ble_eq_true rfl) (q := 33) rfl ?_
        intro bk7
        refine J_if_eq (tgt := 40) dX10_canGo_33 (by decide) (q := 36) rfl (fun c7 => ?_) (fun c7 => ?_)
        · rw [if_pos c7] at h
          refine J_iconst (x := 0) dX10_canGo_40 (by decide) (q := 41) rfl ?_
          have h := Option.some.inj h
          subst h
          exact J_ireturn dX10_canGo_41 rfl rfl rfl
        · rw [if_neg c7] at h
          refine J_iconst (x := 1) dX10_canGo_36 (by decide) (q := 37) rfl ?_
          refine J_goto (tgt := 41) dX10_canGo_37 (by decide) ?_
          have h := Option.some.inj h
          subst h
          exact J_ireturn dX10_canGo_41 rfl rfl rfl

def fX10_goes (a0 : Nat) (a1 : Int32) (a2 : Int32) (σ : Mm) : Option (Mm) :=
  (fX10_stands a0 a1 a2 σ).bind fun sk1 => (fX10_writes a0 2 a1 a2 0 sk1).bind fun sk2 => some sk2
set_option maxRecDepth 20000 in
set_option maxHeartbeats 2000000 in
theorem tX10_goes {X : XS} {n : Nat} {σ : Mm} {a0 : Nat} {a1 : Int32} {a2 : Int32} (ha0 : RT n a0 200) {res : Mm} (h : fX10_goes a0 a1 a2 σ = some res) : MT X yX10_goes mX10_goes 2 0 0 [.ref a0, .int a1, .int a2] n σ (n, none, res) := by
  unfold fX10_goes at h
  refine MT_of (by decide +kernel) rfl (fun h => by cases h) (Nat.le_of_ble_eq_true rfl) ?_
  show J X mX10_goes 2 0 0 (n, none, res) 0 [(0, .ref a0), (1, .int a1), (2, .int a2)] [] n σ
  refine J_aload_n (z := 0) dX10_goes_0 rfl rfl (q := 1) rfl ?_
  refine J_iload_n (z := 1) dX10_goes_1 rfl rfl (q := 2) rfl ?_
  refine J_iload_n (z := 2) dX10_goes_2 rfl rfl (q := 3) rfl ?_
  obtain ⟨sk1, hk1, h⟩ := bindS h
  refine J_cSv (as := [.ref a0, .int a1, .int a2]) dX10_goes_3 mRX10_376 (tX10_stands ha0 hk1) rfl (Nat.le_of_ble_eq_true rfl) (Nat.le_of_ble_eq_true rfl) (Nat.le_of_ble_eq_true rfl) (q := 6) rfl ?_
  refine J_aload_n (z := 0) dX10_goes_6 rfl rfl (q := 7) rfl ?_
  refine J_iconst (x := 2) dX10_goes_7 (by decide) (q := 8) rfl ?_
  refine J_iload_n (z := 1) dX10_goes_8 rfl rfl (q := 9) rfl ?_
  refine J_iload_n (z := 2) dX10_goes_9 rfl rfl (q := 10) rfl ?_
  refine J_iconst (x := 0) dX10_goes_10 (by decide) (q := 11) rfl ?_
  obtain ⟨sk2, hk2, h⟩ := bindS h
  refine J_cSv (as := [.ref a0, .int 2, .int a1, .int a2, .int 0]) dX10_goes_11 mRX10_387 (tX10_writes ha0 hk2) rfl (Nat.le_of_ble_eq_true rfl) (Nat.le_of_ble_eq_true rfl) (Nat.le_of_ble_eq_true rfl) (q := 14) rfl ?_
  have h := Option.some.inj h
  subst h
  exact J_return dX10_goes_14 rfl rfl

def fX10_go (a0 : Nat) (a1 : Int32) (a2 : Int32) (σ : Mm) : Option (Int32 × Mm) :=
  (gR σ a0 33).bind fun r1 => (fX10_canGo a0 r1 a1 a2 (sI σ a0 0 0)).bind fun vk2 => if vk2 = 0 then some ((-1), (sI σ a0 0 0)) else (fX10_remember a0 (sI σ a0 0 0)).bind fun sk4 => (gR sk4 a0 33).bind fun r5 => (fX10_cellOf r5 a1 sk4).bind fun vk6 => (fX10_apart a0 vk6 a2 sk4).bind fun vk7 => (fX10_goes r5 a1 a2 sk4).bind fun sk8 => some (vk7, sk8)
set_option maxRecDepth 20000 in
set_option maxHeartbeats 2000000 in
theorem tX10_go {X : XS} {n : Nat} {σ : Mm} {a0 : Nat} {a1 : Int32} {a2 : Int32} (ha0 : RT n a0 110) {res : Int32 × Mm} (h : fX10_go a0 a1 a2 σ = some res) : MT X yX10_go mX10_go 4 0 0 [.ref a0, .int a1, .int a2] n σ (n, some (.int res.1), res.2) := by
  unfold fX10_go at h
  refine MT_of (by decide +kernel) rfl (fun h => by cases h) (Nat.le_of_ble_eq_true rfl) ?_
  show J X mX10_go 4 0 0 (n, some (.int res.1), res.2) 0 [(0, .ref a0), (1, .int a1), (2, .int a2)] [] n σ
  refine J_aload_n (z := 0) dX10_go_0 rfl rfl (q := 1) rfl ?_
  refine J_iconst (x := 0) dX10_go_1 (by decide) (q := 2) rfl ?_
  refine J_putI dX10_go_2 lRX10_96 (fun h => by cases h) ha0 rfl (q := 5) rfl ?_
  refine J_aload_n (z := 0) dX10_go_5 rfl rfl (q := 6) rfl ?_
  refine J_aload_n (z := 0) dX10_go_6 rfl rfl (q := 7) rfl ?_
  obtain ⟨r1, er1, h⟩ := bindS h
  refine J_getR dX10_go_7 lRX10_61 ha0 rfl (by decide) er1 (q := 10) rfl (fun fr1 => ?_)
  refine J_iload_n (z := 1) dX10_go_10 rfl rfl (q := 11) rfl ?_
  refine J_iload_n (z := 2) dX10_go_11 rfl rfl (q := 12) rfl ?_
  obtain ⟨vk2, hk2, h⟩ := bindS h
  refine J_cVi (as := [.ref r1, .int a1, .int a2]) dX10_go_12 mRX10_406 ha0 (tX10_canGo ha0 fr1 hk2) rfl (Nat.le_of_ble_eq_true rfl) (Nat.le_of_ble_eq_true rfl) (Nat.le_of_ble_eq_true rfl) (q := 15) rfl ?_
  intro bk2
  refine J_if_ne (tgt := 20) dX10_go_15 (by decide) (q := 18) rfl (fun c2 => ?_) (fun c2 => ?_)
  · rw [if_neg c2] at h
    refine J_aload_n (z := 0) dX10_go_20 rfl rfl (q := 21) rfl ?_
    obtain ⟨sk4, hk4, h⟩ := bindS h
    refine J_cVv (as := []) dX10_go_21 mRX10_394 ha0 (tX10_remember ha0 hk4) rfl (Nat.le_of_ble_eq_true rfl) (Nat.le_of_ble_eq_true rfl) (Nat.le_of_ble_eq_true rfl) (q := 24) rfl ?_
    refine J_aload_n (z := 0) dX10_go_24 rfl rfl (q := 25) rfl ?_
    refine J_aload_n (z := 0) dX10_go_25 rfl rfl (q := 26) rfl ?_
    obtain ⟨r5, er5, h⟩ := bindS h
    refine J_getR dX10_go_26 lRX10_61 ha0 rfl (by decide) er5 (q := 29) rfl (fun fr5 => ?_)
    refine J_iload_n (z := 1) dX10_go_29 rfl rfl (q := 30) rfl ?_
    obtain ⟨vk6, hk6, h⟩ := bindS h
    refine J_cSi (as := [.ref r5, .int a1]) dX10_go_30 mRX10_312 (tX10_cellOf fr5 hk6) rfl (Nat.le_of_ble_eq_true rfl) (Nat.le_of_ble_eq_true rfl) (Nat.le_of_ble_eq_true rfl) (q := 33) rfl ?_
    intro bk6
    refine J_iload_n (z := 2) dX10_go_33 rfl rfl (q := 34) rfl ?_
    obtain ⟨vk7, hk7, h⟩ := bindS h
    refine J_cVi (as := [.int vk6, .int a2]) dX10_go_34 mRX10_316 ha0 (tX10_apart ha0 hk7) rfl (Nat.le_of_ble_eq_true rfl) (Nat.le_of_ble_eq_true rfl) (Nat.le_of_ble_eq_true rfl) (q := 37) rfl ?_
    intro bk7
    refine J_istore_n (lv' := [(3, .int vk7), (0, .ref a0), (1, .int a1), (2, .int a2)]) dX10_go_37 rfl (by decide) rfl (q := 38) rfl ?_
    refine J_aload_n (z := 1) dX10_go_38 rfl rfl (q := 39) rfl ?_
    refine J_getR dX10_go_39 lRX10_61 ha0 rfl (by decide) er5 (q := 42) rfl (fun _ => ?_)
    refine J_iload_n (z := 2) dX10_go_42 rfl rfl (q := 43) rfl ?_
    refine J_iload_n (z := 3) dX10_go_43 rfl rfl (q := 44) rfl ?_
    obtain ⟨sk8, hk8, h⟩ := bindS h
    refine J_cSv (as := [.ref r5, .int a1, .int a2]) dX10_go_44 mRX10_409 (tX10_goes fr5 hk8) rfl (Nat.le_of_ble_eq_true rfl) (Nat.le_of_ble_eq_true rfl) (Nat.le_of_ble_eq_true rfl) (q := 47) rfl ?_
    refine J_iload_n (z := 0) dX10_go_47 rfl rfl (q := 48) rfl ?_
    have h := Option.some.inj h
    subst h
    exact J_ireturn dX10_go_48 rfl rfl rfl
  · rw [if_pos c2] at h
    refine J_iconst (x := (-1)) dX10_go_18 (by decide) (q := 19) rfl ?_
    have h := Option.some.inj h
    subst h
    exact J_ireturn dX10_go_19 rfl rfl rfl

def fX10_tell_b121 (a0 : Nat) (a1 : Int32) (a2 : Int32) (a3 : Int32) (a4 : Int32) (σ : Mm) : Option ((Int32 × Int32 × Mm) ⊕ (Int32 × Mm)) :=
  some (Sum.inl (a3, (a4 + 1), σ))
set_option maxRecDepth 20000 in
set_option maxHeartbeats 2000000 in
theorem tX10_tell_b121 {X : XS} {n : Nat} {σ : Mm} {F : Nat × Option Value × Mm} {a0 : Nat} {a1 : Int32} {a2 : Int32} {a3 : Int32} {a4 : Int32} (ha0 : RT n a0 110) {res : (Int32 × Int32 × Mm) ⊕ (Int32 × Mm)} (h : fX10_tell_b121 a0 a1 a2 a3 a4 σ = some res) (hc : ∀ (b3 : Int32) (b4 : Int32) (s : Mm), res = .inl (b3, b4, s) → J X mX10_tell 3 0 0 F 60 [(0, .ref a0), (1, .int a1), (2, .int a2), (3, .int b3), (4, .int b4)] [] n s) (he0 : ∀ (b3 : Int32) (s : Mm), res = .inr (b3, s) → J X mX10_tell 3 0 0 F 127 [(0, .ref a0), (1, .int a1), (2, .int a2), (3, .int b3)] [] n s) : J X mX10_tell 3 0 0 F 121 [(0, .ref a0), (1, .int a1), (2, .int a2), (3, .int a3), (4, .int a4)] [] n σ := by
  unfold fX10_tell_b121 at h
  refine J_iinc (z := 4) (y := (a4 + 1)) (lv' := [(4, .int (a4 + 1)), (0, .ref a0), (1, .int a1), (2, .int a2), (3, .int a3)]) dX10_tell_121 rfl rfl (by decide) rfl (q := 124) rfl ?_
  refine J_goto (tgt := 60) dX10_tell_124 (by decide) ?_
  have h := Option.some.inj h
  refine J_pick [1, 2, 3, 4, 0] rfl ?_
  exact hc _ _ _ h.symm

def fX10_tell_l60 (a0 : Nat) (a1 : Int32) (a2 : Int32) (a3 : Int32) (a4 : Int32) (σ : Mm) : Option ((Int32 × Int32 × Mm) ⊕ (Int32 × Mm)) :=
  if (gI σ a0 27) ≤ a4 then some (Sum.inr (a3, σ)) else (gR σ a0 33).bind fun r12 => (fX10_knows r12 a1 a4 σ).bind fun vk13 => if vk13 = 0 then fX10_tell_b121 a0 a1 a2 a3 a4 σ else (fX10_knows r12 a2 a4 σ).bind fun vk15 => if vk15 = 0 then (fX10_recalls r12 a1 a4 σ).bind fun vk17 => (fX10_learns r12 a2 a4 vk17 σ).bind fun sk18 => fX10_tell_b121 a0 a1 a2 (a3 + 1) a4 sk18 else fX10_tell_b121 a0 a1 a2 a3 a4 σ
set_option maxRecDepth 20000 in
set_option maxHeartbeats 2000000 in
theorem tX10_tell_l60 {X : XS} {n : Nat} {σ : Mm} {F : Nat × Option Value × Mm} {a0 : Nat} {a1 : Int32} {a2 : Int32} {a3 : Int32} {a4 : Int32} (ha0 : RT n a0 110) {res : (Int32 × Int32 × Mm) ⊕ (Int32 × Mm)} (h : fX10_tell_l60 a0 a1 a2 a3 a4 σ = some res) (hc : ∀ (b3 : Int32) (b4 : Int32) (s : Mm), res = .inl (b3, b4, s) → J X mX10_tell 3 0 0 F 60 [(0, .ref a0), (1, .int a1), (2, .int a2), (3, .int b3), (4, .int b4)] [] n s) (he0 : ∀ (b3 : Int32) (s : Mm), res = .inr (b3, s) → J X mX10_tell 3 0 0 F 127 [(0, .ref a0), (1, .int a1), (2, .int a2), (3, .int b3)] [] n s) : J X mX10_tell 3 0 0 F 60 [(0, .ref a0), (1, .int a1), (2, .int a2), (3, .int a3), (4, .int a4)] [] n σ := by
  unfold fX10_tell_l60 at h
  refine J_iload (z := 4) dX10_tell_60 rfl (q := 62) rfl ?_
  refine J_aload_n (z := 0) dX10_tell_62 rfl rfl (q := 63) rfl ?_
  refine J_getI dX10_tell_63 lRX10_291 ha0 rfl (q := 66) rfl ?_
  refine J_icmp_ge (tgt := 127) dX10_tell_66 (by decide) (q := 69) rfl (fun c10 => ?_) (fun c10 => ?_)
  · rw [if_pos c10] at h
    have h := Option.some.inj h
    refine J_pick [0, 1, 2, 3] rfl ?_
    exact he0 _ _ h.symm
  · rw [if_neg c10] at h
    refine J_aload_n (z := 0) dX10_tell_69 rfl rfl (q := 70) rfl ?_
    obtain ⟨r12, er12, h⟩ := bindS h
    refine J_getR dX10_tell_70 lRX10_61 ha0 rfl (by decide) er12 (q := 73) rfl (fun fr12 => ?_)
    refine J_iload_n (z := 1) dX10_tell_73 rfl rfl (q := 74) rfl ?_
    refine J_iload (z := 4) dX10_tell_74 rfl (q := 76) rfl ?_
    obtain ⟨vk13, hk13, h⟩ := bindS h
    refine J_cSi (as := [.ref r12, .int a1, .int a4]) dX10_tell_76 mRX10_351 (tX10_knows fr12 hk13) rfl (Nat.le_of_ble_eq_true rfl) (Nat.le_of_ble_eq_true rfl) (Nat.le_of_ble_eq_true rfl) (q := 79) rfl ?_
    intro bk13
    refine J_if_eq (tgt := 121) dX10_tell_79 (by decide) (q := 82) rfl (fun c13 => ?_) (fun c13 => ?_)
    · rw [if_pos c13] at h
      refine J_pick [0, 1, 2, 3, 4] rfl ?_
      exact tX10_tell_b121 ha0 h hc he0
    · rw [if_neg c13] at h
      refine J_aload_n (z := 0) dX10_tell_82 rfl rfl (q := 83) rfl ?_
      refine J_getR dX10_tell_83 lRX10_61 ha0 rfl (by decide) er12 (q := 86) rfl (fun _ => ?_)
      refine J_iload_n (z := 2) dX10_tell_86 rfl rfl (q := 87) rfl ?_
      refine J_iload (z := 4) dX10_tell_87 rfl (q := 89) rfl ?_
      obtain ⟨vk15, hk15, h⟩ := bindS h
      refine J_cSi (as := [.ref r12, .int a2, .int a4]) dX10_tell_89 mRX10_351 (tX10_knows fr12 hk15) rfl (Nat.le_of_ble_eq_true rfl) (Nat.le_of_ble_eq_true rfl) (Nat.le_of_ble_eq_true rfl) (q := 92) rfl ?_
      intro bk15
      refine J_if_eq (tgt := 98) dX10_tell_92 (by decide) (q := 95) rfl (fun c15 => ?_) (fun c15 => ?_)
      · rw [if_pos c15] at h
        refine J_aload_n (z := 0) dX10_tell_98 rfl rfl (q := 99) rfl ?_
        refine J_getR dX10_tell_99 lRX10_61 ha0 rfl (by decide) er12 (q := 102) rfl (fun _ => ?_)
        refine J_iload_n (z := 2) dX10_tell_102 rfl rfl (q := 103) rfl ?_
        refine J_iload (z := 4) dX10_tell_103 rfl (q := 105) rfl ?_
        refine J_aload_n (z := 0) dX10_tell_105 rfl rfl (q := 106) rfl ?_
        refine J_getR dX10_tell_106 lRX10_61 ha0 rfl (by decide) er12 (q := 109) rfl (fun _ => ?_)
        refine J_iload_n (z := 1) dX10_tell_109 rfl rfl (q := 110) rfl ?_
        refine J_iload (z := 4) dX10_tell_110 rfl (q := 112) rfl ?_
        obtain ⟨vk17, hk17, h⟩ := bindS h
        refine J_cSi (as := [.ref r12, .int a1, .int a4]) dX10_tell_112 mRX10_358 (tX10_recalls fr12 hk17) rfl (Nat.le_of_ble_eq_true rfl) (Nat.le_of_ble_eq_true rfl) (Nat.le_of_ble_eq_true rfl) (q := 115) rfl ?_
        intro bk17
        obtain ⟨sk18, hk18, h⟩ := bindS h
        refine J_cSv (as := [.ref r12, .int a2, .int a4, .int vk17]) dX10_tell_115 mRX10_380 (tX10_learns fr12 hk18) rfl (Nat.le_of_ble_eq_true rfl) (Nat.le_of_ble_eq_true rfl) (Nat.le_of_ble_eq_true rfl) (q := 118) rfl ?_
        refine J_iinc (z := 3) (y := (a3 + 1)) (lv' := [(3, .int (a3 + 1)), (0, .ref a0), (1, .int a1), (2, .int a2), (4, .int a4)]) dX10_tell_118 rfl rfl (by decide) rfl (q := 121) rfl ?_
        refine J_pick [1, 2, 3, 0, 4] rfl ?_
        exact tX10_tell_b121 ha0 h hc he0
      · rw [if_neg c15] at h
        refine J_goto (tgt := 121) dX10_tell_95 (by decide) ?_
        refine J_pick [0, 1, 2, 3, 4] rfl ?_
        exact tX10_tell_b121 ha0 h hc he0

def fX10_tell_w60 (a0 : Nat) (a1 : Int32) (a2 : Int32) (a3 : Int32) (a4 : Int32) (σ : Mm) : Option (Int32 × Mm) :=
  wh (fun a : Int32 × Int32 × Mm => fX10_tell_l60 a0 a1 a2 a.1 a.2.1 a.2.2) BIG (a3, a4, σ)
set_option maxRecDepth 20000 in
set_option maxHeartbeats 2000000 in
theorem tX10_tell_w60 {X : XS} {n : Nat} {σ : Mm} {F : Nat × Option Value × Mm} {a0 : Nat} {a1 : Int32} {a2 : Int32} {a3 : Int32} {a4 : Int32} (ha0 : RT n a0 110) {res : Int32 × Mm} (h : fX10_tell_w60 a0 a1 a2 a3 a4 σ = some res) (he0 : ∀ (b3 : Int32) (s : Mm), res = (b3, s) → J X mX10_tell 3 0 0 F 127 [(0, .ref a0), (1, .int a1), (2, .int a2), (3, .int b3)] [] n s) : J X mX10_tell 3 0 0 F 60 [(0, .ref a0), (1, .int a1), (2, .int a2), (3, .int a3), (4, .int a4)] [] n σ := by
  unfold fX10_tell_w60 at h
  refine wh_rule (P := fun a : Int32 × Int32 × Mm => J X mX10_tell 3 0 0 F 60 [(0, .ref a0), (1, .int a1), (2, .int a2), (3, .int a.1), (4, .int a.2.1)] [] n a.2.2) (K := fun b => b = res) ?_ _ _ _ h rfl
  intro a
  refine ⟨fun a2 hb hP => ?_, fun b hb hK => ?_⟩
  · exact tX10_tell_l60 ha0 hb (fun _ _ _ e => by cases e; exact hP) (fun _ _ e => by cases e)
  · subst hK
    exact tX10_tell_l60 ha0 hb (fun _ _ _ e => by cases e) (fun v0 v1 e => he0 v0 v1 (Sum.inr.inj e))

def fX10_tell (a0 : Nat) (a1 : Int32) (a2 : Int32) (σ : Mm) : Option (Int32 × Mm) :=
  (gR σ a0 33).bind fun r1 => (fX10_canDo a0 r1 a1 (sI σ a0 0 0)).bind fun vk2 => if vk2 = 0 then some ((-1), (sI σ a0 0 0)) else (fX10_isReader a0 a2 (sI σ a0 0 0)).bind fun vk4 => if vk4 = 0 then some ((-1), (sI σ a0 0 0)) else if a1 = a2 then some ((-1), (sI σ a0 0 0)) else (fX10_cellOf r1 a1 (sI σ a0 0 0)).bind fun vk7 => (fX10_cellOf r1 a2 (sI σ a0 0 0)).bind fun vk8 => if vk7 = vk8 then (fX10_remember a0 (sI σ a0 0 0)).bind fun sk10 => (fX10_tell_w60 a0 a1 a2 0 0 sk10).bind (fun o19 => (fun xo19_3 so19 => (gR so19 a0 33).bind fun r20 => (fX10_cellOf r20 a1 so19).bind fun vk21 => (fX10_stands r20 a1 vk21 so19).bind fun sk22 => (gR sk22 a0 33).bind fun r23 => (fX10_writes r23 3 a1 a2 0 sk22).bind fun sk24 => some (xo19_3, sk24)) o19.1 o19.2) else some ((-1), (sI σ a0 0 0))
set_option maxRecDepth 20000 in
set_option maxHeartbeats 2000000 in
theorem tX10_tell {X : XS} {n : Nat} {σ : Mm} {a0 : Nat} {a1 : Int32} {a2 : Int32} (ha0 : RT n a0 110) {res : Int32 × Mm} (h : fX10_tell a0 a1 a2 σ = some res) : MT X yX10_tell mX10_tell 3 0 0 [.ref a0, .int a1, .int a2] n σ (n, some (.int res.1), res.2) := by
  unfold fX10_tell at h
  refine MT_of (by decide +kernel) rfl (fun h => by cases h) (Nat.le_of_ble_eq_true rfl) ?_
  show J X mX10_tell 3 0 0 (n, some (.int res.1), res.2) 0 [(0, .ref a0), (1, .int a1), (2, .int a2)] [] n σ
  refine J_aload_n (z := 0) dX10_tell_0 rfl rfl (q := 1) rfl ?_
  refine J_iconst (x := 0) dX10_tell_1 (by decide) (q := 2) rfl ?_
  refine J_putI dX10_tell_2 lRX10_96 (fun h => by cases h) ha0 rfl (q := 5) rfl ?_
  refine J_aload_n (z := 0) dX10_tell_5 rfl rfl (q := 6) rfl ?_
  refine J_aload_n (z := 0) dX10_tell_6 rfl rfl (q := 7) rfl ?_
  obtain ⟨r1, er1, h⟩ := bindS h
  refine J_getR dX10_tell_7 lRX10_61 ha0 rfl (by decide) er1 (q := 10) rfl (fun fr1 => ?_)
  refine J_iload_n (z := 1) dX10_tell_10 rfl rfl (q := 11) rfl ?_
  obtain ⟨vk2, hk2, h⟩ := bindS h
  refine J_cVi (as := [.ref r1, .int a1]) dX10_tell_11 mRX10_369 ha0 (tX10_canDo ha0 fr1 hk2) rfl (Nat.le_of_ble_eq_true rfl) (Nat.le_of_ble_eq_true rfl) (Nat.le_of_ble_eq_true rfl) (q := 14) rfl ?_
  intro bk2
  refine J_if_eq (tgt := 49) dX10_tell_14 (by decide) (q := 17) rfl (fun c2 => ?_) (fun c2 => ?_)
  · rw [if_pos c2] at h
    refine J_iconst (x := (-1)) dX10_tell_49 (by decide) (q := 50) rfl ?_
    have h := Option.some.inj h
    subst h
    exact J_ireturn dX10_tell_50 rfl rfl rfl
  · rw [if_neg c2] at h
    refine J_aload_n (z := 0) dX10_tell_17 rfl rfl (q := 18) rfl ?_
    refine J_iload_n (z := 2) dX10_tell_18 rfl rfl (q := 19) rfl ?_
    obtain ⟨vk4, hk4, h⟩ := bindS h
    refine J_cVi (as := [.int a2]) dX10_tell_19 mRX10_309 ha0 (tX10_isReader ha0 hk4) rfl (Nat.le_of_ble_eq_true rfl) (Nat.le_of_ble_eq_true rfl) (Nat.le_of_ble_eq_true rfl) (q := 22) rfl ?_
    intro bk4
    refine J_if_eq (tgt := 49) dX10_tell_22 (by decide) (q := 25) rfl (fun c4 => ?_) (fun c4 => ?_)
    · rw [if_pos c4] at h
      refine J_iconst (x := (-1)) dX10_tell_49 (by decide) (q := 50) rfl ?_
      have h := Option.some.inj h
      subst h
      exact J_ireturn dX10_tell_50 rfl rfl rfl
    · rw [if_neg c4] at h
      refine J_iload_n (z := 1) dX10_tell_25 rfl rfl (q := 26) rfl ?_
      refine J_iload_n (z := 2) dX10_tell_26 rfl rfl (q := 27) rfl ?_
      refine J_icmp_eq (tgt := 49) dX10_tell_27 (by decide) (q := 30) rfl (fun c5 => ?_) (fun c5 => ?_)
      · rw [if_pos c5] at h
        refine J_iconst (x := (-1)) dX10_tell_49 (by decide) (q := 50) rfl ?_
        have h := Option.some.inj h
        subst h
        exact J_ireturn dX10_tell_50 rfl rfl rfl
      · rw [if_neg c5] at h
        refine J_aload_n (z := 0) dX10_tell_30 rfl rfl (q := 31) rfl ?_
        refine J_getR dX10_tell_31 lRX10_61 ha0 rfl (by decide) er1 (q := 34) rfl (fun _ => ?_)
        refine J_iload_n (z := 1) dX10_tell_34 rfl rfl (q := 35) rfl ?_
        obtain ⟨vk7, hk7, h⟩ := bindS h
        refine J_cSi (as := [.ref r1, .int a1]) dX10_tell_35 mRX10_312 (tX10_cellOf fr1 hk7) rfl (Nat.le_of_ble_eq_true rfl) (Nat.le_of_ble_eq_true rfl) (Nat.le_of_ble_eq_true rfl) (q := 38) rfl ?_
        intro bk7
        refine J_aload_n (z := 0) dX10_tell_38 rfl rfl (q := 39) rfl ?_
        refine J_getR dX10_tell_39 lRX10_61 ha0 rfl (by decide) er1 (q := 42) rfl (fun _ => ?_)
        refine J_iload_n (z := 2) dX10_tell_42 rfl rfl (q := 43) rfl ?_
        obtain ⟨vk8, hk8, h⟩ := bindS h
        refine J_cSi (as := [.ref r1, .int a2]) dX10_tell_43 mRX10_312 (tX10_cellOf fr1 hk8) rfl (Nat.le_of_ble_eq_true rfl) (Nat.le_of_ble_eq_true rfl) (Nat.le_of_ble_eq_true rfl) (q := 46) rfl ?_
        intro bk8
        refine J_icmp_eq (tgt := 51) dX10_tell_46 (by decide) (q := 49) rfl (fun c8 => ?_) (fun c8 => ?_)
        · rw [if_pos c8] at h
          refine J_aload_n (z := 0) dX10_tell_51 rfl rfl (q := 52) rfl ?_
          obtain ⟨sk10, hk10, h⟩ := bindS h
          refine J_cVv (as := []) dX10_tell_52 mRX10_394 ha0 (tX10_remember ha0 hk10) rfl (Nat.le_of_ble_eq_true rfl) (Nat.le_of_ble_eq_true rfl) (Nat.le_of_ble_eq_true rfl) (q := 55) rfl ?_
          refine J_iconst (x := 0) dX10_tell_55 (by decide) (q := 56) rfl ?_
          refine J_istore_n (lv' := [(3, .int 0), (0, .ref a0), (1, .int a1), (2, .int a2)]) dX10_tell_56 rfl (by decide) rfl (q := 57) rfl ?_
          refine J_iconst (x := 0) dX10_tell_57 (by decide) (q := 58) rfl ?_
          refine J_istore (lv' := [(4, .int 0), (3, .int 0), (0, .ref a0), (1, .int a1), (2, .int a2)]) dX10_tell_58 (by decide) rfl (q := 60) rfl ?_
          obtain ⟨o19, hlo19, h⟩ := bindS h
          refine J_pick [2, 3, 4, 1, 0] rfl ?_
          refine tX10_tell_w60 ha0 hlo19 ?_
          · intro xo19_3 so19 qo19
            rw [qo19] at h
            try dsimp only [Sum.elim_inl, Sum.elim_inr] at h
            refine J_aload_n (z := 0) dX10_tell_127 rfl rfl (q := 128) rfl ?_
            obtain ⟨r20, er20, h⟩ := bindS h
            refine J_getR dX10_tell_128 lRX10_61 ha0 rfl (by decide) er20 (q := 131) rfl (fun fr20 => ?_)
            refine J_iload_n (z := 1) dX10_tell_131 rfl rfl (q := 132) rfl ?_
            refine J_aload_n (z := 0) dX10_tell_132 rfl rfl (q := 133) rfl ?_
            refine J_getR dX10_tell_133 lRX10_61 ha0 rfl (by decide) er20 (q := 136) rfl (fun _ => ?_)
            refine J_iload_n (z := 1) dX10_tell_136 rfl rfl (q := 137) rfl ?_
            obtain ⟨vk21, hk21, h⟩ := bindS h
            refine J_cSi (as := [.ref r20, .int a1]) dX10_tell_137 mRX10_312 (tX10_cellOf fr20 hk21) rfl (Nat.le_of_ble_eq_true rfl) (Nat.le_of_ble_eq_true rfl) (Nat.le_of_ble_eq_true rfl) (q := 140) rfl ?_
            intro bk21
            obtain ⟨sk22, hk22, h⟩ := bindS h
            refine J_cSv (as := [.ref r20, .int a1, .int vk21]) dX10_tell_140 mRX10_376 (tX10_stands fr20 hk22) rfl (Nat.le_of_ble_eq_true rfl) (Nat.le_of_ble_eq_true rfl) (Nat.le_of_ble_eq_true rfl) (q := 143) rfl ?_
            refine J_aload_n (z := 0) dX10_tell_143 rfl rfl (q := 144) rfl ?_
            obtain ⟨r23, er23, h⟩ := bindS h
            refine J_getR dX10_tell_144 lRX10_61 ha0 rfl (by decide) er23 (q := 147) rfl (fun fr23 => ?_)
            refine J_iconst (x := 3) dX10_tell_147 (by decide) (q := 148) rfl ?_
            refine J_iload_n (z := 1) dX10_tell_148 rfl rfl (q := 149) rfl ?_
            refine J_iload_n (z := 2) dX10_tell_149 rfl rfl (q := 150) rfl ?_
            refine J_iconst (x := 0) dX10_tell_150 (by decide) (q := 151) rfl ?_
            obtain ⟨sk24, hk24, h⟩ := bindS h
            refine J_cSv (as := [.ref r23, .int 3, .int a1, .int a2, .int 0]) dX10_tell_151 mRX10_387 (tX10_writes fr23 hk24) rfl (Nat.le_of_ble_eq_true rfl) (Nat.le_of_ble_eq_true rfl) (Nat.le_of_ble_eq_true rfl) (q := 154) rfl ?_
            refine J_iload_n (z := 3) dX10_tell_154 rfl rfl (q := 155) rfl ?_
            have h := Option.some.inj h
            subst h
            exact J_ireturn dX10_tell_155 rfl rfl rfl
        · rw [if_neg c8] at h
          refine J_iconst (x := (-1)) dX10_tell_49 (by decide) (q := 50) rfl ?_
          have h := Option.some.inj h
          subst h
          exact J_ireturn dX10_tell_50 rfl rfl rfl

def fX10_goNight_l29 (a0 : Nat) (a1 : Nat) (a2 : Int32) (σ : Mm) : Option ((Int32 × Mm) ⊕ (Mm)) :=
  if (gI σ a0 28) ≤ a2 then some (Sum.inr σ) else if ixB ((24 + (14 * a2)) + 1) (ln a1) = true then some (Sum.inl ((a2 + 1), (sI σ a1 (Int32.toNatClampNeg ((24 + (14 * a2)) + 1)) 0))) else none
set_option maxRecDepth 20000 in
set_option maxHeartbeats 2000000 in
theorem tX10_goNight_l29 {X : XS} {n : Nat} {σ : Mm} {F : Nat × Option Value × Mm} {a0 : Nat} {a1 : Nat} {a2 : Int32} (ha0 : RT n a0 110) (ha1 : RT n a1 200) {res : (Int32 × Mm) ⊕ (Mm)} (h : fX10_goNight_l29 a0 a1 a2 σ = some res) (hc : ∀ (b2 : Int32) (s : Mm), res = .inl (b2, s) → J X mX10_goNight 2 0 0 F 29 [(0, .ref a0), (1, .ref a1), (2, .int b2)] [] n s) (he0 : ∀  (s : Mm), res = .inr s → J X mX10_goNight 2 0 0 F 55 [(0, .ref a0), (1, .ref a1)] [] n s) : J X mX10_goNight 2 0 0 F 29 [(0, .ref a0), (1, .ref a1), (2, .int a2)] [] n σ := by
  unfold fX10_goNight_l29 at h
  refine J_iload_n (z := 2) dX10_goNight_29 rfl rfl (q := 30) rfl ?_
  refine J_aload_n (z := 0) dX10_goNight_30 rfl rfl (q := 31) rfl ?_
  refine J_getI dX10_goNight_31 lRX10_294 ha0 rfl (q := 34) rfl ?_
  refine J_icmp_ge (tgt := 55) dX10_goNight_34 (by decide) (q := 37) rfl (fun c6 => ?_) (fun c6 => ?_)
  · rw [if_pos c6] at h
    have h := Option.some.inj h
    refine J_pick [0, 1] rfl ?_
    exact he0 _ h.symm
  · rw [if_neg c6] at h
    refine J_aload_n (z := 1) dX10_goNight_37 rfl rfl (q := 38) rfl ?_
    refine J_bipush (x := 24) dX10_goNight_38 (by decide) (q := 40) rfl ?_
    refine J_bipush (x := 14) dX10_goNight_40 (by decide) (q := 42) rfl ?_
    refine J_iload_n (z := 2) dX10_goNight_42 rfl rfl (q := 43) rfl ?_
    refine J_imul dX10_goNight_43  (q := 44) rfl ?_
    refine J_iadd dX10_goNight_44  (q := 45) rfl ?_
    refine J_iconst (x := 1) dX10_goNight_45 (by decide) (q := 46) rfl ?_
    refine J_iadd dX10_goNight_46  (q := 47) rfl ?_
    refine J_iconst (x := 0) dX10_goNight_47 (by decide) (q := 48) rfl ?_
    obtain ⟨g8, h⟩ := iteS h
    refine J_iast dX10_goNight_48 ha1 (ixB_ok g8) (q := 49) rfl ?_
    refine J_iinc (z := 2) (y := (a2 + 1)) (lv' := [(2, .int (a2 + 1)), (0, .ref a0), (1, .ref a1)]) dX10_goNight_49 rfl rfl (by decide) rfl (q := 52) rfl ?_
    refine J_goto (tgt := 29) dX10_goNight_52 (by decide) ?_
    have h := Option.some.inj h
    refine J_pick [1, 2, 0] rfl ?_
    exact hc _ _ h.symm

def fX10_goNight_w29 (a0 : Nat) (a1 : Nat) (a2 : Int32) (σ : Mm) : Option (Mm) :=
  wh (fun a : Int32 × Mm => fX10_goNight_l29 a0 a1 a.1 a.2) BIG (a2, σ)
set_option maxRecDepth 20000 in
set_option maxHeartbeats 2000000 in
theorem tX10_goNight_w29 {X : XS} {n : Nat} {σ : Mm} {F : Nat × Option Value × Mm} {a0 : Nat} {a1 : Nat} {a2 : Int32} (ha0 : RT n a0 110) (ha1 : RT n a1 200) {res : Mm} (h : fX10_goNight_w29 a0 a1 a2 σ = some res) (he0 : ∀  (s : Mm), res = s → J X mX10_goNight 2 0 0 F 55 [(0, .ref a0), (1, .ref a1)] [] n s) : J X mX10_goNight 2 0 0 F 29 [(0, .ref a0), (1, .ref a1), (2, .int a2)] [] n σ := by
  unfold fX10_goNight_w29 at h
  refine wh_rule (P := fun a : Int32 × Mm => J X mX10_goNight 2 0 0 F 29 [(0, .ref a0), (1, .ref a1), (2, .int a.1)] [] n a.2) (K := fun b => b = res) ?_ _ _ _ h rfl
  intro a
  refine ⟨fun a2 hb hP => ?_, fun b hb hK => ?_⟩
  · exact tX10_goNight_l29 ha0 ha1 hb (fun _ _ e => by cases e; exact hP) (fun _ e => by cases e)
  · subst hK
    exact tX10_goNight_l29 ha0 ha1 hb (fun _ _ e => by cases e) (fun v0 e => he0 v0 (Sum.inr.inj e))

def fX10_goNight_b110 (a0 : Nat) (a1 : Nat) (a2 : Int32) (a3 : Int32) (σ : Mm) : Option ((Int32 × Int32 × Mm) ⊕ (Int32 × Mm)) :=
  some (Sum.inl (a2, (a3 + 1), σ))
set_option maxRecDepth 20000 in
set_option maxHeartbeats 2000000 in
theorem tX10_goNight_b110 {X : XS} {n : Nat} {σ : Mm} {F : Nat × Option Value × Mm} {a0 : Nat} {a1 : Nat} {a2 : Int32} {a3 : Int32} (ha0 : RT n a0 110) (ha1 : RT n a1 200) {res : (Int32 × Int32 × Mm) ⊕ (Int32 × Mm)} (h : fX10_goNight_b110 a0 a1 a2 a3 σ = some res) (hc : ∀ (b2 : Int32) (b3 : Int32) (s : Mm), res = .inl (b2, b3, s) → J X mX10_goNight 2 0 0 F 79 [(0, .ref a0), (1, .ref a1), (2, .int b2), (3, .int b3)] [] n s) (he0 : ∀ (b2 : Int32) (s : Mm), res = .inr (b2, s) → J X mX10_goNight 2 0 0 F 116 [(1, .ref a1), (2, .int b2)] [] n s) : J X mX10_goNight 2 0 0 F 110 [(0, .ref a0), (1, .ref a1), (2, .int a2), (3, .int a3)] [] n σ := by
  unfold fX10_goNight_b110 at h
  refine J_iinc (z := 3) (y := (a3 + 1)) (lv' := [(3, .int (a3 + 1)), (0, .ref a0), (1, .ref a1), (2, .int a2)]) dX10_goNight_110 rfl rfl (by decide) rfl (q := 113) rfl ?_
  refine J_goto (tgt := 79) dX10_goNight_113 (by decide) ?_
  have h := Option.some.inj h
  refine J_pick [1, 2, 3, 0] rfl ?_
  exact hc _ _ _ h.symm

def fX10_goNight_l79 (a0 : Nat) (a1 : Nat) (a2 : Int32) (a3 : Int32) (σ : Mm) : Option ((Int32 × Int32 × Mm) ⊕ (Int32 × Mm)) :=
  if (gI σ a0 27) ≤ a3 then some (Sum.inr (a2, σ)) else if ixB (2 * a3) (ln a1) = true then if (gI σ a1 (Int32.toNatClampNeg (2 * a3))) = 0 then fX10_goNight_b110 a0 a1 a2 a3 σ else if ixB (2 * a3) (ln a1) = true then if ixB (2 * a3) (ln a1) = true then fX10_goNight_b110 a0 a1 (a2 + 1) a3 (sI σ a1 (Int32.toNatClampNeg (2 * a3)) ((gI σ a1 (Int32.toNatClampNeg (2 * a3))) - 1)) else none else none else none
set_option maxRecDepth 20000 in
set_option maxHeartbeats 2000000 in
theorem tX10_goNight_l79 {X : XS} {n : Nat} {σ : Mm} {F : Nat × Option Value × Mm} {a0 : Nat} {a1 : Nat} {a2 : Int32} {a3 : Int32} (ha0 : RT n a0 110) (ha1 : RT n a1 200) {res : (Int32 × Int32 × Mm) ⊕ (Int32 × Mm)} (h : fX10_goNight_l79 a0 a1 a2 a3 σ = some res) (hc : ∀ (b2 : Int32) (b3 : Int32) (s : Mm), res = .inl (b2, b3, s) → J X mX10_goNight 2 0 0 F 79 [(0, .ref a0), (1, .ref a1), (2, .int b2), (3, .int b3)] [] n s) (he0 : ∀ (b2 : Int32) (s : Mm), res = .inr (b2, s) → J X mX10_goNight 2 0 0 F 116 [(1, .ref a1), (2, .int b2)] [] n s) : J X mX10_goNight 2 0 0 F 79 [(0, .ref a0), (1, .ref a1), (2, .int a2), (3, .int a3)] [] n σ := by
  unfold fX10_goNight_l79 at h
  refine J_iload_n (z := 3) dX10_goNight_79 rfl rfl (q := 80) rfl ?_
  refine J_aload_n (z := 0) dX10_goNight_80 rfl rfl (q := 81) rfl ?_
  refine J_getI dX10_goNight_81 lRX10_291 ha0 rfl (q := 84) rfl ?_
  refine J_icmp_ge (tgt := 116) dX10_goNight_84 (by decide) (q := 87) rfl (fun c11 => ?_) (fun c11 => ?_)
  · rw [if_pos c11] at h
    have h := Option.some.inj h
    refine J_pick [1, 2] rfl ?_
    exact he0 _ _ h.symm
  · rw [if_neg c11] at h
    refine J_aload_n (z := 1) dX10_goNight_87 rfl rfl (q := 88) rfl ?_
    refine J_iconst (x := 2) dX10_goNight_88 (by decide) (q := 89) rfl ?_
    refine J_iload_n (z := 3) dX10_goNight_89 rfl rfl (q := 90) rfl ?_
    refine J_imul dX10_goNight_90  (q := 91) rfl ?_
    obtain ⟨g13, h⟩ := iteS h
    refine J_iald dX10_goNight_91 ha1 (ixB_ok g13) (q := 92) rfl ?_
    refine J_if_ne (tgt := 98) dX10_goNight_92 (by decide) (q := 95) rfl (fun c13 => ?_) (fun c13 => ?_)
    · rw [if_neg c13] at h
      refine J_aload_n (z := 1) dX10_goNight_98 rfl rfl (q := 99) rfl ?_
      refine J_iconst (x := 2) dX10_goNight_99 (by decide) (q := 100) rfl ?_
      refine J_iload_n (z := 3) dX10_goNight_100 rfl rfl (q := 101) rfl ?_
      refine J_imul dX10_goNight_101  (q := 102) rfl ?_
      refine J_dup2 dX10_goNight_102 rfl rfl (q := 103) rfl ?_
      obtain ⟨g15, h⟩ := iteS h
      refine J_iald dX10_goNight_103 ha1 (ixB_ok g15) (q := 104) rfl ?_
      refine J_iconst (x := 1) dX10_goNight_104 (by decide) (q := 105) rfl ?_
      refine J_isub dX10_goNight_105  (q := 106) rfl ?_
      obtain ⟨g16, h⟩ := iteS h
      refine J_iast dX10_goNight_106 ha1 (ixB_ok g16) (q := 107) rfl ?_
      refine J_iinc (z := 2) (y := (a2 + 1)) (lv' := [(2, .int (a2 + 1)), (0, .ref a0), (1, .ref a1), (3, .int a3)]) dX10_goNight_107 rfl rfl (by decide) rfl (q := 110) rfl ?_
      refine J_pick [1, 2, 0, 3] rfl ?_
      exact tX10_goNight_b110 ha0 ha1 h hc he0
    · rw [if_pos c13] at h
      refine J_goto (tgt := 110) dX10_goNight_95 (by decide) ?_
      refine J_pick [0, 1, 2, 3] rfl ?_
      exact tX10_goNight_b110 ha0 ha1 h hc he0

def fX10_goNight_w79 (a0 : Nat) (a1 : Nat) (a2 : Int32) (a3 : Int32) (σ : Mm) : Option (Int32 × Mm) :=
  wh (fun a : Int32 × Int32 × Mm => fX10_goNight_l79 a0 a1 a.1 a.2.1 a.2.2) BIG (a2, a3, σ)
set_option maxRecDepth 20000 in
set_option maxHeartbeats 2000000 in
theorem tX10_goNight_w79 {X : XS} {n : Nat} {σ : Mm} {F : Nat × Option Value × Mm} {a0 : Nat} {a1 : Nat} {a2 : Int32} {a3 : Int32} (ha0 : RT n a0 110) (ha1 : RT n a1 200) {res : Int32 × Mm} (h : fX10_goNight_w79 a0 a1 a2 a3 σ = some res) (he0 : ∀ (b2 : Int32) (s : Mm), res = (b2, s) → J X mX10_goNight 2 0 0 F 116 [(1, .ref a1), (2, .int b2)] [] n s) : J X mX10_goNight 2 0 0 F 79 [(0, .ref a0), (1, .ref a1), (2, .int a2), (3, .int a3)] [] n σ := by
  unfold fX10_goNight_w79 at h
  refine wh_rule (P := fun a : Int32 × Int32 × Mm => J X mX10_goNight 2 0 0 F 79 [(0, .ref a0), (1, .ref a1), (2, .int a.1), (3, .int a.2.1)] [] n a.2.2) (K := fun b => b = res) ?_ _ _ _ h rfl
  intro a
  refine ⟨fun a2 hb hP => ?_, fun b hb hK => ?_⟩
  · exact tX10_goNight_l79 ha0 ha1 hb (fun _ _ _ e => by cases e; exact hP) (fun _ _ e => by cases e)
  · subst hK
    exact tX10_goNight_l79 ha0 ha1 hb (fun _ _ _ e => by cases e) (fun v0 v1 e => he0 v0 v1 (Sum.inr.inj e))

def fX10_goNight_b116 (a1 : Nat) (a2 : Int32) (σ : Mm) : Option (Mm) :=
  (fX10_writes a1 4 (-1) (-1) a2 σ).bind fun sk18 => some sk18
set_option maxRecDepth 20000 in
set_option maxHeartbeats 2000000 in
theorem tX10_goNight_b116 {X : XS} {n : Nat} {σ : Mm} {a1 : Nat} {a2 : Int32} (ha1 : RT n a1 200) {res : Mm} (h : fX10_goNight_b116 a1 a2 σ = some res) : J X mX10_goNight 2 0 0 (n, none, res) 116 [(1, .ref a1), (2, .int a2)] [] n σ := by
  unfold fX10_goNight_b116 at h
  refine J_aload_n (z := 0) dX10_goNight_116 rfl rfl (q := 117) rfl ?_
  refine J_iconst (x := 4) dX10_goNight_117 (by decide) (q := 118) rfl ?_
  refine J_iconst (x := (-1)) dX10_goNight_118 (by decide) (q := 119) rfl ?_
  refine J_iconst (x := (-1)) dX10_goNight_119 (by decide) (q := 120) rfl ?_
  refine J_iload_n (z := 1) dX10_goNight_120 rfl rfl (q := 121) rfl ?_
  obtain ⟨sk18, hk18, h⟩ := bindS h
  refine J_cSv (as := [.ref a1, .int 4, .int (-1), .int (-1), .int a2]) dX10_goNight_121 mRX10_387 (tX10_writes ha1 hk18) rfl (Nat.le_of_ble_eq_true rfl) (Nat.le_of_ble_eq_true rfl) (Nat.le_of_ble_eq_true rfl) (q := 124) rfl ?_
  have h := Option.some.inj h
  subst h
  exact J_return dX10_goNight_124 rfl rfl

def fX10_goNight_b77 (a0 : Nat) (a1 : Nat) (a2 : Int32) (σ : Mm) : Option (Mm) :=
  (fX10_goNight_w79 a0 a1 a2 0 σ).bind (fun o17 => (fun xo17_2 so17 => fX10_goNight_b116 a1 xo17_2 so17) o17.1 o17.2)
set_option maxRecDepth 20000 in
set_option maxHeartbeats 2000000 in
theorem tX10_goNight_b77 {X : XS} {n : Nat} {σ : Mm} {a0 : Nat} {a1 : Nat} {a2 : Int32} (ha0 : RT n a0 110) (ha1 : RT n a1 200) {res : Mm} (h : fX10_goNight_b77 a0 a1 a2 σ = some res) : J X mX10_goNight 2 0 0 (n, none, res) 77 [(0, .ref a0), (1, .ref a1), (2, .int a2)] [] n σ := by
  unfold fX10_goNight_b77 at h
  refine J_iconst (x := 0) dX10_goNight_77 (by decide) (q := 78) rfl ?_
  refine J_istore_n (lv' := [(3, .int 0), (0, .ref a0), (1, .ref a1), (2, .int a2)]) dX10_goNight_78 rfl (by decide) rfl (q := 79) rfl ?_
  obtain ⟨o17, hlo17, h⟩ := bindS h
  refine J_pick [1, 2, 3, 0] rfl ?_
  refine tX10_goNight_w79 ha0 ha1 hlo17 ?_
  · intro xo17_2 so17 qo17
    rw [qo17] at h
    try dsimp only [Sum.elim_inl, Sum.elim_inr] at h
    refine J_pick [0, 1] rfl ?_
    exact tX10_goNight_b116 ha1 h

def fX10_goNight (a0 : Nat) (a1 : Nat) (σ : Mm) : Option (Mm) :=
  if ixB 109 (ln a1) = true then if ixB 109 (ln a1) = true then if ixB 108 (ln a1) = true then (gR σ a0 18).bind fun r4 => if ixB 3 (ln r4) = true then if ixB 108 (ln a1) = true then (fX10_goNight_w29 a0 a1 0 (sI (sI σ a1 (Int32.toNatClampNeg 109) ((gI σ a1 (Int32.toNatClampNeg 109)) + 1)) a1 (Int32.toNatClampNeg 108) (maxI 0 ((gI (sI σ a1 (Int32.toNatClampNeg 109) ((gI σ a1 (Int32.toNatClampNeg 109)) + 1)) a1 (Int32.toNatClampNeg 108)) - (gI (sI σ a1 (Int32.toNatClampNeg 109) ((gI σ a1 (Int32.toNatClampNeg 109)) + 1)) r4 (Int32.toNatClampNeg 3)))))).bind (fun o9 => (fun so9 => if ixB 108 (ln a1) = true then if (gI so9 a1 (Int32.toNatClampNeg 108)) = 0 then fX10_goNight_b77 a0 a1 0 so9 else if ixB 109 (ln a1) = true then (gR so9 a0 18).bind fun r20 => if ixB 4 (ln r20) = true then if (gI so9 a1 (Int32.toNatClampNeg 109)) < (gI so9 r20 (Int32.toNatClampNeg 4)) then fX10_goNight_b116 a1 0 so9 else fX10_goNight_b77 a0 a1 0 so9 else none else none else none) o9) else none else none else none else none else none
set_option maxRecDepth 20000 in
set_option maxHeartbeats 2000000 in
theorem tX10_goNight {X : XS} {n : Nat} {σ : Mm} {a0 : Nat} {a1 : Nat} (ha0 : RT n a0 110) (ha1 : RT n a1 200) {res : Mm} (h : fX10_goNight a0 a1 σ = some res) : MT X yX10_goNight mX10_goNight 2 0 0 [.ref a0, .ref a1] n σ (n, none, res) := by
  unfold fX10_goNight at h
  refine MT_of (by decide +kernel) rfl (fun h => by cases h) (Nat.le_of_ble_eq_true rfl) ?_
  show J X mX10_goNight 2 0 0 (n, none, res) 0 [(0, .ref a0), (1, .ref a1)] [] n σ
  refine J_aload_n (z := 1) dX10_goNight_0 rfl rfl (q := 1) rfl ?_
  refine J_bipush (x := 109) dX10_goNight_1 (by decide) (q := 3) rfl ?_
  refine J_dup2 dX10_goNight_3 rfl rfl (q := 4) rfl ?_
  obtain ⟨g1, h⟩ := iteS h
  refine J_iald dX10_goNight_4 ha1 (ixB_ok g1) (q := 5) rfl ?_
  refine J_iconst (x := 1) dX10_goNight_5 (by decide) (q := 6) rfl ?_
  refine J_iadd dX10_goNight_6  (q := 7) rfl ?_
  obtain ⟨g2, h⟩ := iteS h
  refine J_iast dX10_goNight_7 ha1 (ixB_ok g2) (q := 8) rfl ?_
  refine J_aload_n (z := 1) dX10_goNight_8 rfl rfl (q := 9) rfl ?_
  refine J_bipush (x := 108) dX10_goNight_9 (by decide) (q := 11) rfl ?_
  refine J_iconst (x := 0) dX10_goNight_11 (by decide) (q := 12) rfl ?_
  refine J_aload_n (z := 1) dX10_goNight_12 rfl rfl (q := 13) rfl ?_
  refine J_bipush (x := 108) dX10_goNight_13 (by decide) (q := 15) rfl ?_
  obtain ⟨g3, h⟩ := iteS h
  refine J_iald dX10_goNight_15 ha1 (ixB_ok g3) (q := 16) rfl ?_
  refine J_aload_n (z := 0) dX10_goNight_16 rfl rfl (q := 17) rfl ?_
  obtain ⟨r4, er4, h⟩ := bindS h
  refine J_getR dX10_goNight_17 lRX10_37 ha0 rfl (by decide) er4 (q := 20) rfl (fun fr4 => ?_)
  refine J_iconst (x := 3) dX10_goNight_20 (by decide) (q := 21) rfl ?_
  obtain ⟨g5, h⟩ := iteS h
  refine J_iald dX10_goNight_21 fr4 (ixB_ok g5) (q := 22) rfl ?_
  refine J_isub dX10_goNight_22  (q := 23) rfl ?_
  refine J_mmax dX10_goNight_23 pRX10_324 q_static_mmax q_init_math q_code_mmax (Nat.le_of_ble_eq_true rfl) (Nat.le_of_ble_eq_true rfl) (q := 26) rfl ?_
  obtain ⟨g6, h⟩ := iteS h
  refine J_iast dX10_goNight_26 ha1 (ixB_ok g6) (q := 27) rfl ?_
  refine J_iconst (x := 0) dX10_goNight_27 (by decide) (q := 28) rfl ?_
  refine J_istore_n (lv' := [(2, .int 0), (0, .ref a0), (1, .ref a1)]) dX10_goNight_28 rfl (by decide) rfl (q := 29) rfl ?_
  obtain ⟨o9, hlo9, h⟩ := bindS h
  refine J_pick [1, 2, 0] rfl ?_
  refine tX10_goNight_w29 ha0 ha1 hlo9 ?_
  · intro so9 qo9
    rw [qo9] at h
    try dsimp only [Sum.elim_inl, Sum.elim_inr] at h
    refine J_iconst (x := 0) dX10_goNight_55 (by decide) (q := 56) rfl ?_
    refine J_istore_n (lv' := [(2, .int 0), (0, .ref a0), (1, .ref a1)]) dX10_goNight_56 rfl (by decide) rfl (q := 57) rfl ?_
    refine J_aload_n (z := 2) dX10_goNight_57 rfl rfl (q := 58) rfl ?_
    refine J_bipush (x := 108) dX10_goNight_58 (by decide) (q := 60) rfl ?_
    obtain ⟨g10, h⟩ := iteS h
    refine J_iald dX10_goNight_60 ha1 (ixB_ok g10) (q := 61) rfl ?_
    refine J_if_eq (tgt := 77) dX10_goNight_61 (by decide) (q := 64) rfl (fun c10 => ?_) (fun c10 => ?_)
    · rw [if_pos c10] at h
      refine J_pick [1, 2, 0] rfl ?_
      exact tX10_goNight_b77 ha0 ha1 h
    · rw [if_neg c10] at h
      refine J_aload_n (z := 2) dX10_goNight_64 rfl rfl (q := 65) rfl ?_
      refine J_bipush (x := 109) dX10_goNight_65 (by decide) (q := 67) rfl ?_
      obtain ⟨g19, h⟩ := iteS h
      refine J_iald dX10_goNight_67 ha1 (ixB_ok g19) (q := 68) rfl ?_
      refine J_aload_n (z := 1) dX10_goNight_68 rfl rfl (q := 69) rfl ?_
      obtain ⟨r20, er20, h⟩ := bindS h
      refine J_getR dX10_goNight_69 lRX10_37 ha0 rfl (by decide) er20 (q := 72) rfl (fun fr20 => ?_)
      refine J_iconst (x := 4) dX10_goNight_72 (by decide) (q := 73) rfl ?_
      obtain ⟨g21, h⟩ := iteS h
      refine J_iald dX10_goNight_73 fr20 (ixB_ok g21) (q := 74) rfl ?_
      refine J_icmp_lt (tgt := 116) dX10_goNight_74 (by decide) (q := 77) rfl (fun c21 => ?_) (fun c21 => ?_)
      · rw [if_pos c21] at h
        refine J_pick [2, 0] rfl ?_
        exact tX10_goNight_b116 ha1 h
      · rw [if_neg c21] at h
        refine J_pick [1, 2, 0] rfl ?_
        exact tX10_goNight_b77 ha0 ha1 h

def fX10_night (a0 : Nat) (σ : Mm) : Option (Int32 × Mm) :=
  if (gI (sI σ a0 0 0) a0 27) = 0 then some ((-1), (sI σ a0 0 0)) else (fX10_remember a0 (sI σ a0 0 0)).bind fun sk2 => (gR sk2 a0 33).bind fun r3 => (fX10_goNight a0 r3 sk2).bind fun sk4 => (gR sk4 a0 33).bind fun r5 => if ixB 109 (ln r5) = true then some ((gI sk4 r5 (Int32.toNatClampNeg 109)), sk4) else none
set_option maxRecDepth 20000 in
set_option maxHeartbeats 2000000 in
theorem tX10_night {X : XS} {n : Nat} {σ : Mm} {a0 : Nat} (ha0 : RT n a0 110) {res : Int32 × Mm} (h : fX10_night a0 σ = some res) : MT X yX10_night mX10_night 3 0 0 [.ref a0] n σ (n, some (.int res.1), res.2) := by
  unfold fX10_night at h
  refine MT_of (by decide +kernel) rfl (fun h => by cases h) (Nat.le_of_ble_eq_true rfl) ?_
  show J X mX10_night 3 0 0 (n, some (.int res.1), res.2) 0 [(0, .ref a0)] [] n σ
  refine J_aload_n (z := 0) dX10_night_0 rfl rfl (q := 1) rfl ?_
  refine J_iconst (x := 0) dX10_night_1 (by decide) (q := 2) rfl ?_
  refine J_putI dX10_night_2 lRX10_96 (fun h => by cases h) ha0 rfl (q := 5) rfl ?_
  refine J_aload_n (z := 0) dX10_night_5 rfl rfl (q := 6) rfl ?_
  refine J_getI dX10_night_6 lRX10_291 ha0 rfl (q := 9) rfl ?_
  refine J_if_ne (tgt := 14) dX10_night_9 (by decide) (q := 12) rfl (fun c0 => ?_) (fun c0 => ?_)
  · rw [if_neg c0] at h
    refine J_aload_n (z := 0) dX10_night_14 rfl rfl (q := 15) rfl ?_
    obtain ⟨sk2, hk2, h⟩ := bindS h
    refine J_cVv (as := []) dX10_night_15 mRX10_394 ha0 (tX10_remember ha0 hk2) rfl (Nat.le_of_ble_eq_true rfl) (Nat.le_of_ble_eq_true rfl) (Nat.le_of_ble_eq_true rfl) (q := 18) rfl ?_
    refine J_aload_n (z := 0) dX10_night_18 rfl rfl (q := 19) rfl ?_
    refine J_aload_n (z := 0) dX10_night_19 rfl rfl (q := 20) rfl ?_
    obtain ⟨r3, er3, h⟩ := bindS h
    refine J_getR dX10_night_20 lRX10_61 ha0 rfl (by decide) er3 (q := 23) rfl (fun fr3 => ?_)
    obtain ⟨sk4, hk4, h⟩ := bindS h
    refine J_cVv (as := [.ref r3]) dX10_night_23 mRX10_412 ha0 (tX10_goNight ha0 fr3 hk4) rfl (Nat.le_of_ble_eq_true rfl) (Nat.le_of_ble_eq_true rfl) (Nat.le_of_ble_eq_true rfl) (q := 26) rfl ?_
    refine J_aload_n (z := 0) dX10_night_26 rfl rfl (q := 27) rfl ?_
    obtain ⟨r5, er5, h⟩ := bindS h
    refine J_getR dX10_night_27 lRX10_61 ha0 rfl (by decide) er5 (q := 30) rfl (fun fr5 => ?_)
    refine J_bipush (x := 109) dX10_night_30 (by decide) (q := 32) rfl ?_
    obtain ⟨g6, h⟩ := iteS h
    refine J_iald dX10_night_32 fr5 (ixB_ok g6) (q := 33) rfl ?_
    have h := Option.some.inj h
    subst h
    exact J_ireturn dX10_night_33 rfl rfl rfl
  · rw [if_pos c0] at h
    refine J_iconst (x := (-1)) dX10_night_12 (by decide) (q := 13) rfl ?_
    have h := Option.some.inj h
    subst h
    exact J_ireturn dX10_night_13 rfl rfl rfl

def fX10_hare_b78 (a0 : Nat) (a1 : Int32) (a2 : Int32) (a3 : Int32) (σ : Mm) : Option ((Int32 × Int32 × Mm) ⊕ (Int32 × Mm)) :=
  some (Sum.inl (a2, (a3 + 1), σ))
set_option maxRecDepth 20000 in
set_option maxHeartbeats 2000000 in
theorem tX10_hare_b78 {X : XS} {n : Nat} {σ : Mm} {F : Nat × Option Value × Mm} {a0 : Nat} {a1 : Int32} {a2 : Int32} {a3 : Int32} (ha0 : RT n a0 110) {res : (Int32 × Int32 × Mm) ⊕ (Int32 × Mm)} (h : fX10_hare_b78 a0 a1 a2 a3 σ = some res) (hc : ∀ (b2 : Int32) (b3 : Int32) (s : Mm), res = .inl (b2, b3, s) → J X mX10_hare 2 0 0 F 23 [(0, .ref a0), (1, .int a1), (2, .int b2), (3, .int b3)] [] n s) (he0 : ∀ (b2 : Int32) (s : Mm), res = .inr (b2, s) → J X mX10_hare 2 0 0 F 84 [(0, .ref a0), (1, .int a1), (2, .int b2)] [] n s) : J X mX10_hare 2 0 0 F 78 [(0, .ref a0), (1, .int a1), (2, .int a2), (3, .int a3)] [] n σ := by
  unfold fX10_hare_b78 at h
  refine J_iinc (z := 3) (y := (a3 + 1)) (lv' := [(3, .int (a3 + 1)), (0, .ref a0), (1, .int a1), (2, .int a2)]) dX10_hare_78 rfl rfl (by decide) rfl (q := 81) rfl ?_
  refine J_goto (tgt := 23) dX10_hare_81 (by decide) ?_
  have h := Option.some.inj h
  refine J_pick [1, 2, 3, 0] rfl ?_
  exact hc _ _ _ h.symm

def fX10_hare_l23 (a0 : Nat) (a1 : Int32) (a2 : Int32) (a3 : Int32) (σ : Mm) : Option ((Int32 × Int32 × Mm) ⊕ (Int32 × Mm)) :=
  if (gI σ a0 27) ≤ a3 then some (Sum.inr (a2, σ)) else (gR σ a0 20).bind fun r5 => if ixB (4 * a3) (ln r5) = true then if (gI σ r5 (Int32.toNatClampNeg (4 * a3))) = a1 then (gR σ a0 33).bind fun r8 => if ixB (2 * a3) (ln r8) = true then if ixB (2 * a3) (ln r8) = true then if ixB (2 * a3) (ln r8) = true then fX10_hare_b78 a0 a1 (a2 + (minI 3 (gI σ r8 (Int32.toNatClampNeg (2 * a3))))) a3 (sI σ r8 (Int32.toNatClampNeg (2 * a3)) ((gI σ r8 (Int32.toNatClampNeg (2 * a3))) - (minI 3 (gI σ r8 (Int32.toNatClampNeg (2 * a3)))))) else none else none else none else fX10_hare_b78 a0 a1 a2 a3 σ else none
set_option maxRecDepth 20000 in
set_option maxHeartbeats 2000000 in
theorem tX10_hare_l23 {X : XS} {n : Nat} {σ : Mm} {F : Nat × Option Value × Mm} {a0 : Nat} {a1 : Int32} {a2 : Int32} {a3 : Int32} (ha0 : RT n a0 110) {res : (Int32 × Int32 × Mm) ⊕ (Int32 × Mm)} (h : fX10_hare_l23 a0 a1 a2 a3 σ = some res) (hc : ∀ (b2 : Int32) (b3 : Int32) (s : Mm), res = .inl (b2, b3, s) → J X mX10_hare 2 0 0 F 23 [(0, .ref a0), (1, .int a1), (2, .int b2), (3, .int b3)] [] n s) (he0 : ∀ (b2 : Int32) (s : Mm), res = .inr (b2, s) → J X mX10_hare 2 0 0 F 84 [(0, .ref a0), (1, .int a1), (2, .int b2)] [] n s) : J X mX10_hare 2 0 0 F 23 [(0, .ref a0), (1, .int a1), (2, .int a2), (3, .int a3)] [] n σ := by
  unfold fX10_hare_l23 at h
  refine J_iload_n (z := 3) dX10_hare_23 rfl rfl (q := 24) rfl ?_
  refine J_aload_n (z := 0) dX10_hare_24 rfl rfl (q := 25) rfl ?_
  refine J_getI dX10_hare_25 lRX10_291 ha0 rfl (q := 28) rfl ?_
  refine J_icmp_ge (tgt := 84) dX10_hare_28 (by decide) (q := 31) rfl (fun c3 => ?_) (fun c3 => ?_)
  · rw [if_pos c3] at h
    have h := Option.some.inj h
    refine J_pick [0, 1, 2] rfl ?_
    exact he0 _ _ h.symm
  · rw [if_neg c3] at h
    refine J_aload_n (z := 0) dX10_hare_31 rfl rfl (q := 32) rfl ?_
    obtain ⟨r5, er5, h⟩ := bindS h
    refine J_getR dX10_hare_32 lRX10_43 ha0 rfl (by decide) er5 (q := 35) rfl (fun fr5 => ?_)
    refine J_iconst (x := 4) dX10_hare_35 (by decide) (q := 36) rfl ?_
    refine J_iload_n (z := 3) dX10_hare_36 rfl rfl (q := 37) rfl ?_
    refine J_imul dX10_hare_37  (q := 38) rfl ?_
    obtain ⟨g6, h⟩ := iteS h
    refine J_iald dX10_hare_38 fr5 (ixB_ok g6) (q := 39) rfl ?_
    refine J_iload_n (z := 1) dX10_hare_39 rfl rfl (q := 40) rfl ?_
    refine J_icmp_eq (tgt := 46) dX10_hare_40 (by decide) (q := 43) rfl (fun c6 => ?_) (fun c6 => ?_)
    · rw [if_pos c6] at h
      refine J_iconst (x := 3) dX10_hare_46 (by decide) (q := 47) rfl ?_
      refine J_aload_n (z := 0) dX10_hare_47 rfl rfl (q := 48) rfl ?_
      obtain ⟨r8, er8, h⟩ := bindS h
      refine J_getR dX10_hare_48 lRX10_61 ha0 rfl (by decide) er8 (q := 51) rfl (fun fr8 => ?_)
      refine J_iconst (x := 2) dX10_hare_51 (by decide) (q := 52) rfl ?_
      refine J_iload_n (z := 3) dX10_hare_52 rfl rfl (q := 53) rfl ?_
      refine J_imul dX10_hare_53  (q := 54) rfl ?_
      obtain ⟨g9, h⟩ := iteS h
      refine J_iald dX10_hare_54 fr8 (ixB_ok g9) (q := 55) rfl ?_
      refine J_mmin dX10_hare_55 pRX10_322 q_static_mmin q_init_math q_code_mmin (Nat.le_of_ble_eq_true rfl) (Nat.le_of_ble_eq_true rfl) (q := 58) rfl ?_
      refine J_istore (lv' := [(4, .int (minI 3 (gI σ r8 (Int32.toNatClampNeg (2 * a3))))), (0, .ref a0), (1, .int a1), (2, .int a2), (3, .int a3)]) dX10_hare_58 (by decide) rfl (q := 60) rfl ?_
      refine J_aload_n (z := 1) dX10_hare_60 rfl rfl (q := 61) rfl ?_
      refine J_getR dX10_hare_61 lRX10_61 ha0 rfl (by decide) er8 (q := 64) rfl (fun _ => ?_)
      refine J_iconst (x := 2) dX10_hare_64 (by decide) (q := 65) rfl ?_
      refine J_iload_n (z := 4) dX10_hare_65 rfl rfl (q := 66) rfl ?_
      refine J_imul dX10_hare_66  (q := 67) rfl ?_
      refine J_dup2 dX10_hare_67 rfl rfl (q := 68) rfl ?_
      obtain ⟨g10, h⟩ := iteS h
      refine J_iald dX10_hare_68 fr8 (ixB_ok g10) (q := 69) rfl ?_
      refine J_iload (z := 0) dX10_hare_69 rfl (q := 71) rfl ?_
      refine J_isub dX10_hare_71  (q := 72) rfl ?_
      obtain ⟨g11, h⟩ := iteS h
      refine J_iast dX10_hare_72 fr8 (ixB_ok g11) (q := 73) rfl ?_
      refine J_iload_n (z := 3) dX10_hare_73 rfl rfl (q := 74) rfl ?_
      refine J_iload (z := 0) dX10_hare_74 rfl (q := 76) rfl ?_
      refine J_iadd dX10_hare_76  (q := 77) rfl ?_
      refine J_istore_n (lv' := [(2, .int (a2 + (minI 3 (gI σ r8 (Int32.toNatClampNeg (2 * a3)))))), (4, .int (minI 3 (gI σ r8 (Int32.toNatClampNeg (2 * a3))))), (0, .ref a0), (1, .int a1), (3, .int a3)]) dX10_hare_77 rfl (by decide) rfl (q := 78) rfl ?_
      refine J_pick [2, 3, 0, 4] rfl ?_
      exact tX10_hare_b78 ha0 h hc he0
    · rw [if_neg c6] at h
      refine J_goto (tgt := 78) dX10_hare_43 (by decide) ?_
      refine J_pick [0, 1, 2, 3] rfl ?_
      exact tX10_hare_b78 ha0 h hc he0

def fX10_hare_w23 (a0 : Nat) (a1 : Int32) (a2 : Int32) (a3 : Int32) (σ : Mm) : Option (Int32 × Mm) :=
  wh (fun a : Int32 × Int32 × Mm => fX10_hare_l23 a0 a1 a.1 a.2.1 a.2.2) BIG (a2, a3, σ)
set_option maxRecDepth 20000 in
set_option maxHeartbeats 2000000 in
theorem tX10_hare_w23 {X : XS} {n : Nat} {σ : Mm} {F : Nat × Option Value × Mm} {a0 : Nat} {a1 : Int32} {a2 : Int32} {a3 : Int32} (ha0 : RT n a0 110) {res : Int32 × Mm} (h : fX10_hare_w23 a0 a1 a2 a3 σ = some res) (he0 : ∀ (b2 : Int32) (s : Mm), res = (b2, s) → J X mX10_hare 2 0 0 F 84 [(0, .ref a0), (1, .int a1), (2, .int b2)] [] n s) : J X mX10_hare 2 0 0 F 23 [(0, .ref a0), (1, .int a1), (2, .int a2), (3, .int a3)] [] n σ := by
  unfold fX10_hare_w23 at h
  refine wh_rule (P := fun a : Int32 × Int32 × Mm => J X mX10_hare 2 0 0 F 23 [(0, .ref a0), (1, .int a1), (2, .int a.1), (3, .int a.2.1)] [] n a.2.2) (K := fun b => b = res) ?_ _ _ _ h rfl
  intro a
  refine ⟨fun a2 hb hP => ?_, fun b hb hK => ?_⟩
  · exact tX10_hare_l23 ha0 hb (fun _ _ _ e => by cases e; exact hP) (fun _ _ e => by cases e)
  · subst hK
    exact tX10_hare_l23 ha0 hb (fun _ _ _ e => by cases e) (fun v0 v1 e => he0 v0 v1 (Sum.inr.inj e))

def fX10_hare (a0 : Nat) (a1 : Int32) (σ : Mm) : Option (Int32 × Mm) :=
  (fX10_isCell a0 a1 (sI σ a0 0 0)).bind fun vk1 => if vk1 = 0 then some ((-1), (sI σ a0 0 0)) else (fX10_remember a0 (sI σ a0 0 0)).bind fun sk3 => (fX10_hare_w23 a0 a1 0 0 sk3).bind (fun o12 => (fun xo12_2 so12 => (gR so12 a0 33).bind fun r13 => (fX10_writes r13 5 (-1) a1 xo12_2 so12).bind fun sk14 => some (xo12_2, sk14)) o12.1 o12.2)
set_option maxRecDepth 20000 in
set_option maxHeartbeats 2000000 in
theorem tX10_hare {X : XS} {n : Nat} {σ : Mm} {a0 : Nat} {a1 : Int32} (ha0 : RT n a0 110) {res : Int32 × Mm} (h : fX10_hare a0 a1 σ = some res) : MT X yX10_hare mX10_hare 2 0 0 [.ref a0, .int a1] n σ (n, some (.int res.1), res.2) := by
  unfold fX10_hare at h
  refine MT_of (by decide +kernel) rfl (fun h => by cases h) (Nat.le_of_ble_eq_true rfl) ?_
  show J X mX10_hare 2 0 0 (n, some (.int res.1), res.2) 0 [(0, .ref a0), (1, .int a1)] [] n σ
  refine J_aload_n (z := 0) dX10_hare_0 rfl rfl (q := 1) rfl ?_
  refine J_iconst (x := 0) dX10_hare_1 (by decide) (q := 2) rfl ?_
  refine J_putI dX10_hare_2 lRX10_96 (fun h => by cases h) ha0 rfl (q := 5) rfl ?_
  refine J_aload_n (z := 0) dX10_hare_5 rfl rfl (q := 6) rfl ?_
  refine J_iload_n (z := 1) dX10_hare_6 rfl rfl (q := 7) rfl ?_
  obtain ⟨vk1, hk1, h⟩ := bindS h
  refine J_cVi (as := [.int a1]) dX10_hare_7 mRX10_366 ha0 (tX10_isCell ha0 hk1) rfl (Nat.le_of_ble_eq_true rfl) (Nat.le_of_ble_eq_true rfl) (Nat.le_of_ble_eq_true rfl) (q := 10) rfl ?_
  intro bk1
  refine J_if_ne (tgt := 15) dX10_hare_10 (by decide) (q := 13) rfl (fun c1 => ?_) (fun c1 => ?_)
  · rw [if_neg c1] at h
    refine J_aload_n (z := 0) dX10_hare_15 rfl rfl (q := 16) rfl ?_
    obtain ⟨sk3, hk3, h⟩ := bindS h
    refine J_cVv (as := []) dX10_hare_16 mRX10_394 ha0 (tX10_remember ha0 hk3) rfl (Nat.le_of_ble_eq_true rfl) (Nat.le_of_ble_eq_true rfl) (Nat.le_of_ble_eq_true rfl) (q := 19) rfl ?_
    refine J_iconst (x := 0) dX10_hare_19 (by decide) (q := 20) rfl ?_
    refine J_istore_n (lv' := [(2, .int 0), (0, .ref a0), (1, .int a1)]) dX10_hare_20 rfl (by decide) rfl (q := 21) rfl ?_
    refine J_iconst (x := 0) dX10_hare_21 (by decide) (q := 22) rfl ?_
    refine J_istore_n (lv' := [(3, .int 0), (2, .int 0), (0, .ref a0), (1, .int a1)]) dX10_hare_22 rfl (by decide) rfl (q := 23) rfl ?_
    obtain ⟨o12, hlo12, h⟩ := bindS h
    refine J_pick [2, 3, 1, 0] rfl ?_
    refine tX10_hare_w23 ha0 hlo12 ?_
    · intro xo12_2 so12 qo12
      rw [qo12] at h
      try dsimp only [Sum.elim_inl, Sum.elim_inr] at h
      refine J_aload_n (z := 0) dX10_hare_84 rfl rfl (q := 85) rfl ?_
      obtain ⟨r13, er13, h⟩ := bindS h
      refine J_getR dX10_hare_85 lRX10_61 ha0 rfl (by decide) er13 (q := 88) rfl (fun fr13 => ?_)
      refine J_iconst (x := 5) dX10_hare_88 (by decide) (q := 89) rfl ?_
      refine J_iconst (x := (-1)) dX10_hare_89 (by decide) (q := 90) rfl ?_
      refine J_iload_n (z := 1) dX10_hare_90 rfl rfl (q := 91) rfl ?_
      refine J_iload_n (z := 2) dX10_hare_91 rfl rfl (q := 92) rfl ?_
      obtain ⟨sk14, hk14, h⟩ := bindS h
      refine J_cSv (as := [.ref r13, .int 5, .int (-1), .int a1, .int xo12_2]) dX10_hare_92 mRX10_387 (tX10_writes fr13 hk14) rfl (Nat.le_of_ble_eq_true rfl) (Nat.le_of_ble_eq_true rfl) (Nat.le_of_ble_eq_true rfl) (q := 95) rfl ?_
      refine J_iload_n (z := 2) dX10_hare_95 rfl rfl (q := 96) rfl ?_
      have h := Option.some.inj h
      subst h
      exact J_ireturn dX10_hare_96 rfl rfl rfl
  · rw [if_pos c1] at h
    refine J_iconst (x := (-1)) dX10_hare_13 (by decide) (q := 14) rfl ?_
    have h := Option.some.inj h
    subst h
    exact J_ireturn dX10_hare_14 rfl rfl rfl

def fX10_draw (a0 : Nat) (a1 : Int32) (σ : Mm) : Option (Int32 × Mm) :=
  if (Int32.toInt64 a1) = 0 then none else some ((Int64.toInt32 (remL (ushrL (gL (sL σ a0 43 (((gL σ a0 43) * 6364136223846793005) + 1442695040888963407)) a0 43) 33) (Int32.toInt64 a1))), (sL σ a0 43 (((gL σ a0 43) * 6364136223846793005) + 1442695040888963407)))
set_option maxRecDepth 20000 in
set_option maxHeartbeats 2000000 in
theorem tX10_draw {X : XS} {n : Nat} {σ : Mm} {a0 : Nat} {a1 : Int32} (ha0 : RT n a0 110) {res : Int32 × Mm} (h : fX10_draw a0 a1 σ = some res) : MT X yX10_draw mX10_draw 1 0 0 [.ref a0, .int a1] n σ (n, some (.int res.1), res.2) := by
  unfold fX10_draw at h
  refine MT_of (by decide +kernel) rfl (fun h => by cases h) (Nat.le_of_ble_eq_true rfl) ?_
  show J X mX10_draw 1 0 0 (n, some (.int res.1), res.2) 0 [(0, .ref a0), (1, .int a1)] [] n σ
  refine J_aload_n (z := 0) dX10_draw_0 rfl rfl (q := 1) rfl ?_
  refine J_aload_n (z := 0) dX10_draw_1 rfl rfl (q := 2) rfl ?_
  refine J_getL dX10_draw_2 lRX10_416 ha0 rfl (q := 5) rfl ?_
  refine J_ldc2 (x := 6364136223846793005) dX10_draw_5 kRX10_420 (q := 8) rfl ?_
  refine J_lmul dX10_draw_8  (q := 9) rfl ?_
  refine J_ldc2 (x := 1442695040888963407) dX10_draw_9 kRX10_422 (q := 12) rfl ?_
  refine J_ladd dX10_draw_12  (q := 13) rfl ?_
  refine J_putL dX10_draw_13 lRX10_416 (fun h => by cases h) ha0 rfl (q := 16) rfl ?_
  refine J_aload_n (z := 0) dX10_draw_16 rfl rfl (q := 17) rfl ?_
  refine J_getL dX10_draw_17 lRX10_416 ha0 rfl (q := 20) rfl ?_
  refine J_bipush (x := 33) dX10_draw_20 (by decide) (q := 22) rfl ?_
  refine J_lushr dX10_draw_22  (q := 23) rfl ?_
  refine J_iload_n (z := 1) dX10_draw_23 rfl rfl (q := 24) rfl ?_
  refine J_i2l dX10_draw_24  (q := 25) rfl ?_
  obtain ⟨g1, h⟩ := iteN h
  refine J_lrem dX10_draw_25 g1 (q := 26) rfl ?_
  refine J_l2i dX10_draw_26  (q := 27) rfl ?_
  have h := Option.some.inj h
  subst h
  exact J_ireturn dX10_draw_27 rfl rfl rfl

def fX10_drawn (a0 : Nat) (a1 : Int32) (σ : Mm) : Option (Mm) :=
  bnd2 (fX10_draw a0 (gI σ a0 27) σ) fun vk1 sk1 => (gR sk1 a0 33).bind fun r2 => (fX10_canRead a0 r2 a1 vk1 sk1).bind fun vk3 => if vk3 = 0 then if ixB (2 * vk1) (ln r2) = true then if 0 < (gI sk1 r2 (Int32.toNatClampNeg (2 * vk1))) then some sk1 else (fX10_canRecut a0 r2 a1 vk1 sk1).bind fun vk7 => if vk7 = 0 then some sk1 else (fX10_remember a0 sk1).bind fun sk9 => (gR sk9 a0 33).bind fun r10 => (fX10_recuts a0 r10 a1 vk1 sk9).bind fun sk11 => bnd2 (fX10_draw a0 100 sk11) fun vk12 sk12 => if vk12 < (gI sk12 a0 37) then (gR sk12 a0 33).bind fun r14 => if ixB ((2 * vk1) + 1) (ln r14) = true then if ixB ((2 * vk1) + 1) (ln r14) = true then if ixB ((2 * vk1) + 1) (ln r14) = true then (fX10_learns r14 a1 vk1 (gI (sI sk12 r14 (Int32.toNatClampNeg ((2 * vk1) + 1)) (remI ((gI sk12 r14 (Int32.toNatClampNeg ((2 * vk1) + 1))) + 1) 10)) r14 (Int32.toNatClampNeg ((2 * vk1) + 1))) (sI sk12 r14 (Int32.toNatClampNeg ((2 * vk1) + 1)) (remI ((gI sk12 r14 (Int32.toNatClampNeg ((2 * vk1) + 1))) + 1) 10))).bind fun sk18 => some sk18 else none else none else none else some sk12 else none else (fX10_remember a0 sk1).bind fun sk19 => (gR sk19 a0 33).bind fun r20 => bnd2 (fX10_reads a0 r20 a1 vk1 sk19) fun vk21 sk21 => some sk21
set_option maxRecDepth 20000 in
set_option maxHeartbeats 2000000 in
theorem tX10_drawn {X : XS} {n : Nat} {σ : Mm} {a0 : Nat} {a1 : Int32} (ha0 : RT n a0 110) {res : Mm} (h : fX10_drawn a0 a1 σ = some res) : MT X yX10_drawn mX10_drawn 115 0 0 [.ref a0, .int a1] n σ (n, none, res) := by
  unfold fX10_drawn at h
  refine MT_of (by decide +kernel) rfl (fun h => by cases h) (Nat.le_of_ble_eq_true rfl) ?_
  show J X mX10_drawn 115 0 0 (n, none, res) 0 [(0, .ref a0), (1, .int a1)] [] n σ
  refine J_aload_n (z := 0) dX10_drawn_0 rfl rfl (q := 1) rfl ?_
  refine J_aload_n (z := 0) dX10_drawn_1 rfl rfl (q := 2) rfl ?_
  refine J_getI dX10_drawn_2 lRX10_291 ha0 rfl (q := 5) rfl ?_
  obtain ⟨vk1, sk1, hk1, h⟩ := bnd2S h
  refine J_cVi (as := [.int (gI σ a0 27)]) dX10_drawn_5 mRX10_424 ha0 (tX10_draw ha0 hk1) rfl (Nat.le_of_ble_eq_true rfl) (Nat.le_of_ble_eq_true rfl) (Nat.le_of_ble_eq_true rfl) (q := 8) rfl ?_
  intro bk1
  refine J_istore_n (lv' := [(2, .int vk1), (0, .ref a0), (1, .int a1)]) dX10_drawn_8 rfl (by decide) rfl (q := 9) rfl ?_
  refine J_aload_n (z := 1) dX10_drawn_9 rfl rfl (q := 10) rfl ?_
  refine J_aload_n (z := 1) dX10_drawn_10 rfl rfl (q := 11) rfl ?_
  obtain ⟨r2, er2, h⟩ := bindS h
  refine J_getR dX10_drawn_11 lRX10_61 ha0 rfl (by decide) er2 (q := 14) rfl (fun fr2 => ?_)
  refine J_iload_n (z := 2) dX10_drawn_14 rfl rfl (q := 15) rfl ?_
  refine J_iload_n (z := 0) dX10_drawn_15 rfl rfl (q := 16) rfl ?_
  obtain ⟨vk3, hk3, h⟩ := bindS h
  refine J_cVi (as := [.ref r2, .int a1, .int vk1]) dX10_drawn_16 mRX10_391 ha0 (tX10_canRead ha0 fr2 hk3) rfl (Nat.le_of_ble_eq_true rfl) (Nat.le_of_ble_eq_true rfl) (Nat.le_of_ble_eq_true rfl) (q := 19) rfl ?_
  intro bk3
  refine J_if_eq (tgt := 38) dX10_drawn_19 (by decide) (q := 22) rfl (fun c3 => ?_) (fun c3 => ?_)
  · rw [if_pos c3] at h
    refine J_aload_n (z := 1) dX10_drawn_38 rfl rfl (q := 39) rfl ?_
    refine J_getR dX10_drawn_39 lRX10_61 ha0 rfl (by decide) er2 (q := 42) rfl (fun _ => ?_)
    refine J_iconst (x := 2) dX10_drawn_42 (by decide) (q := 43) rfl ?_
    refine J_iload_n (z := 0) dX10_drawn_43 rfl rfl (q := 44) rfl ?_
    refine J_imul dX10_drawn_44  (q := 45) rfl ?_
    obtain ⟨g5, h⟩ := iteS h
    refine J_iald dX10_drawn_45 fr2 (ixB_ok g5) (q := 46) rfl ?_
    refine J_if_gt (tgt := 62) dX10_drawn_46 (by decide) (q := 49) rfl (fun c5 => ?_) (fun c5 => ?_)
    · rw [if_pos c5] at h
      have h := Option.some.inj h
      subst h
      exact J_return dX10_drawn_62 rfl rfl
    · rw [if_neg c5] at h
      refine J_aload_n (z := 1) dX10_drawn_49 rfl rfl (q := 50) rfl ?_
      refine J_aload_n (z := 1) dX10_drawn_50 rfl rfl (q := 51) rfl ?_
      refine J_getR dX10_drawn_51 lRX10_61 ha0 rfl (by decide) er2 (q := 54) rfl (fun _ => ?_)
      refine J_iload_n (z := 2) dX10_drawn_54 rfl rfl (q := 55) rfl ?_
      refine J_iload_n (z := 0) dX10_drawn_55 rfl rfl (q := 56) rfl ?_
      obtain ⟨vk7, hk7, h⟩ := bindS h
      refine J_cVi (as := [.ref r2, .int a1, .int vk1]) dX10_drawn_56 mRX10_400 ha0 (tX10_canRecut ha0 fr2 hk7) rfl (Nat.le_of_ble_eq_true rfl) (Nat.le_of_ble_eq_true rfl) (Nat.le_of_ble_eq_true rfl) (q := 59) rfl ?_
      intro bk7
      refine J_if_ne (tgt := 63) dX10_drawn_59 (by decide) (q := 62) rfl (fun c7 => ?_) (fun c7 => ?_)
      · rw [if_neg c7] at h
        refine J_aload_n (z := 1) dX10_drawn_63 rfl rfl (q := 64) rfl ?_
        obtain ⟨sk9, hk9, h⟩ := bindS h
        refine J_cVv (as := []) dX10_drawn_64 mRX10_394 ha0 (tX10_remember ha0 hk9) rfl (Nat.le_of_ble_eq_true rfl) (Nat.le_of_ble_eq_true rfl) (Nat.le_of_ble_eq_true rfl) (q := 67) rfl ?_
        refine J_aload_n (z := 1) dX10_drawn_67 rfl rfl (q := 68) rfl ?_
        refine J_aload_n (z := 1) dX10_drawn_68 rfl rfl (q := 69) rfl ?_
        obtain ⟨r10, er10, h⟩ := bindS h
        refine J_getR dX10_drawn_69 lRX10_61 ha0 rfl (by decide) er10 (q := 72) rfl (fun fr10 => ?_)
        refine J_iload_n (z := 2) dX10_drawn_72 rfl rfl (q := 73) rfl ?_
        refine J_iload_n (z := 0) dX10_drawn_73 rfl rfl (q := 74) rfl ?_
        obtain ⟨sk11, hk11, h⟩ := bindS h
        refine J_cVv (as := [.ref r10, .int a1, .int vk1]) dX10_drawn_74 mRX10_403 ha0 (tX10_recuts ha0 fr10 hk11) rfl (Nat.le_of_ble_eq_true rfl) (Nat.le_of_ble_eq_true rfl) (Nat.le_of_ble_eq_true rfl) (q := 77) rfl ?_
        refine J_aload_n (z := 1) dX10_drawn_77 rfl rfl (q := 78) rfl ?_
        refine J_bipush (x := 100) dX10_drawn_78 (by decide) (q := 80) rfl ?_
        obtain ⟨vk12, sk12, hk12, h⟩ := bnd2S h
        refine J_cVi (as := [.int 100]) dX10_drawn_80 mRX10_424 ha0 (tX10_draw ha0 hk12) rfl (Nat.le_of_ble_eq_true rfl) (Nat.le_of_ble_eq_true rfl) (Nat.le_of_ble_eq_true rfl) (q := 83) rfl ?_
        intro bk12
        refine J_aload_n (z := 1) dX10_drawn_83 rfl rfl (q := 84) rfl ?_
        refine J_getI dX10_drawn_84 lRX10_363 ha0 rfl (q := 87) rfl ?_
        refine J_icmp_lt (tgt := 91) dX10_drawn_87 (by decide) (q := 90) rfl (fun c12 => ?_) (fun c12 => ?_)
        · rw [if_pos c12] at h
          refine J_aload_n (z := 1) dX10_drawn_91 rfl rfl (q := 92) rfl ?_
          obtain ⟨r14, er14, h⟩ := bindS h
          refine J_getR dX10_drawn_92 lRX10_61 ha0 rfl (by decide) er14 (q := 95) rfl (fun fr14 => ?_)
          refine J_iconst (x := 2) dX10_drawn_95 (by decide) (q := 96) rfl ?_
          refine J_iload_n (z := 0) dX10_drawn_96 rfl rfl (q := 97) rfl ?_
          refine J_imul dX10_drawn_97  (q := 98) rfl ?_
          refine J_iconst (x := 1) dX10_drawn_98 (by decide) (q := 99) rfl ?_
          refine J_iadd dX10_drawn_99  (q := 100) rfl ?_
          refine J_aload_n (z := 1) dX10_drawn_100 rfl rfl (q := 101) rfl ?_
          refine J_getR dX10_drawn_101 lRX10_61 ha0 rfl (by decide) er14 (q := 104) rfl (fun _ => ?_)
          refine J_iconst (x := 2) dX10_drawn_104 (by decide) (q := 105) rfl ?_
          refine J_iload_n (z := 0) dX10_drawn_105 rfl rfl (q := 106) rfl ?_
          refine J_imul dX10_drawn_106  (q := 107) rfl ?_
          refine J_iconst (x := 1) dX10_drawn_107 (by decide) (q := 108) rfl ?_
          refine J_iadd dX10_drawn_108  (q := 109) rfl ?_
          obtain ⟨g15, h⟩ := iteS h
          refine J_iald dX10_drawn_109 fr14 (ixB_ok g15) (q := 110) rfl ?_
          refine J_iconst (x := 1) dX10_drawn_110 (by decide) (q := 111) rfl ?_
          refine J_iadd dX10_drawn_111  (q := 112) rfl ?_
          refine J_bipush (x := 10) dX10_drawn_112 (by decide) (q := 114) rfl ?_
          refine J_irem dX10_drawn_114 (by decide) (q := 115) rfl ?_
          obtain ⟨g16, h⟩ := iteS h
          refine J_iast dX10_drawn_115 fr14 (ixB_ok g16) (q := 116) rfl ?_
          refine J_aload_n (z := 1) dX10_drawn_116 rfl rfl (q := 117) rfl ?_
          refine J_getR dX10_drawn_117 lRX10_61 ha0 rfl (by decide) er14 (q := 120) rfl (fun _ => ?_)
          refine J_iload_n (z := 2) dX10_drawn_120 rfl rfl (q := 121) rfl ?_
          refine J_iload_n (z := 0) dX10_drawn_121 rfl rfl (q := 122) rfl ?_
          refine J_aload_n (z := 1) dX10_drawn_122 rfl rfl (q := 123) rfl ?_
          refine J_getR dX10_drawn_123 lRX10_61 ha0 rfl (by decide) er14 (q := 126) rfl (fun _ => ?_)
          refine J_iconst (x := 2) dX10_drawn_126 (by decide) (q := 127) rfl ?_
          refine J_iload_n (z := 0) dX10_drawn_127 rfl rfl (q := 128) rfl ?_
          refine J_imul dX10_drawn_128  (q := 129) rfl ?_
          refine J_iconst (x := 1) dX10_drawn_129 (by decide) (q := 130) rfl ?_
          refine J_iadd dX10_drawn_130  (q := 131) rfl ?_
          obtain ⟨g17, h⟩ := iteS h
          refine J_iald dX10_drawn_131 fr14 (ixB_ok g17) (q := 132) rfl ?_
          obtain ⟨sk18, hk18, h⟩ := bindS h
          refine J_cSv (as := [.ref r14, .int a1, .int vk1, .int (gI (sI sk12 r14 (Int32.toNatClampNeg ((2 * vk1) + 1)) (remI ((gI sk12 r14 (Int32.toNatClampNeg ((2 * vk1) + 1))) + 1) 10)) r14 (Int32.toNatClampNeg ((2 * vk1) + 1)))]) dX10_drawn_132 mRX10_380 (tX10_learns fr14 hk18) rfl (Nat.le_of_ble_eq_true rfl) (Nat.le_of_ble_eq_true rfl) (Nat.le_of_ble_eq_true rfl) (q := 135) rfl ?_
          have h := Option.some.inj h
          subst h
          exact J_return dX10_drawn_135 rfl rfl
        · rw [if_neg c12] at h
          have h := Option.some.inj h
          subst h
          exact J_return dX10_drawn_90 rfl rfl
      · rw [if_pos c7] at h
        have h := Option.some.inj h
        subst h
        exact J_return dX10_drawn_62 rfl rfl
  · rw [if_neg c3] at h
    refine J_aload_n (z := 1) dX10_drawn_22 rfl rfl (q := 23) rfl ?_
    obtain ⟨sk19, hk19, h⟩ := bindS h
    refine J_cVv (as := []) dX10_drawn_23 mRX10_394 ha0 (tX10_remember ha0 hk19) rfl (Nat.le_of_ble_eq_true rfl) (Nat.le_of_ble_eq_true rfl) (Nat.le_of_ble_eq_true rfl) (q := 26) rfl ?_
    refine J_aload_n (z := 1) dX10_drawn_26 rfl rfl (q := 27) rfl ?_
    refine J_aload_n (z := 1) dX10_drawn_27 rfl rfl (q := 28) rfl ?_
    obtain ⟨r20, er20, h⟩ := bindS h
    refine J_getR dX10_drawn_28 lRX10_61 ha0 rfl (by decide) er20 (q := 31) rfl (fun fr20 => ?_)
    refine J_iload_n (z := 2) dX10_drawn_31 rfl rfl (q := 32) rfl ?_
    refine J_iload_n (z := 0) dX10_drawn_32 rfl rfl (q := 33) rfl ?_
    obtain ⟨vk21, sk21, hk21, h⟩ := bnd2S h
    refine J_cVi (as := [.ref r20, .int a1, .int vk1]) dX10_drawn_33 mRX10_397 ha0 (tX10_reads ha0 fr20 hk21) rfl (Nat.le_of_ble_eq_true rfl) (Nat.le_of_ble_eq_true rfl) (Nat.le_of_ble_eq_true rfl) (q := 36) rfl ?_
    intro bk21
    refine J_istore_n (lv' := [(3, .int vk21), (2, .int vk1), (0, .ref a0), (1, .int a1)]) dX10_drawn_36 rfl (by decide) rfl (q := 37) rfl ?_
    have h := Option.some.inj h
    subst h
    exact J_return dX10_drawn_37 rfl rfl

def fX10_centuries_b71 (a0 : Nat) (a1 : Int32) (a4 : Int32) (a5 : Int32) (σ : Mm) : Option ((Int32 × Mm) ⊕ (Mm)) :=
  some (Sum.inl ((a5 + 1), σ))
set_option maxRecDepth 20000 in
set_option maxHeartbeats 2000000 in
theorem tX10_centuries_b71 {X : XS} {n : Nat} {σ : Mm} {F : Nat × Option Value × Mm} {a0 : Nat} {a1 : Int32} {a4 : Int32} {a5 : Int32} (ha0 : RT n a0 110) {res : (Int32 × Mm) ⊕ (Mm)} (h : fX10_centuries_b71 a0 a1 a4 a5 σ = some res) (hc : ∀ (b5 : Int32) (s : Mm), res = .inl (b5, s) → J X mX10_centuries 116 0 0 F 43 [(0, .ref a0), (1, .int a1), (4, .int a4), (5, .int b5)] [] n s) (he0 : ∀  (s : Mm), res = .inr s → J X mX10_centuries 116 0 0 F 77 [(0, .ref a0), (1, .int a1), (4, .int a4)] [] n s) : J X mX10_centuries 116 0 0 F 71 [(0, .ref a0), (1, .int a1), (4, .int a4), (5, .int a5)] [] n σ := by
  unfold fX10_centuries_b71 at h
  refine J_iinc (z := 3) (y := (a5 + 1)) (lv' := [(5, .int (a5 + 1)), (0, .ref a0), (1, .int a1), (4, .int a4)]) dX10_centuries_71 rfl rfl (by decide) rfl (q := 74) rfl ?_
  refine J_goto (tgt := 43) dX10_centuries_74 (by decide) ?_
  have h := Option.some.inj h
  refine J_pick [1, 2, 3, 0] rfl ?_
  exact hc _ _ h.symm

def fX10_centuries_l43 (a0 : Nat) (a1 : Int32) (a4 : Int32) (a5 : Int32) (σ : Mm) : Option ((Int32 × Mm) ⊕ (Mm)) :=
  if (gI σ a0 28) ≤ a5 then some (Sum.inr σ) else (gR σ a0 33).bind fun r6 => (fX10_canDo a0 r6 a5 σ).bind fun vk7 => if vk7 = 0 then fX10_centuries_b71 a0 a1 a4 a5 σ else (fX10_drawn a0 a5 σ).bind fun sk9 => fX10_centuries_b71 a0 a1 a4 a5 sk9
set_option maxRecDepth 20000 in
set_option maxHeartbeats 2000000 in
theorem tX10_centuries_l43 {X : XS} {n : Nat} {σ : Mm} {F : Nat × Option Value × Mm} {a0 : Nat} {a1 : Int32} {a4 : Int32} {a5 : Int32} (ha0 : RT n a0 110) {res : (Int32 × Mm) ⊕ (Mm)} (h : fX10_centuries_l43 a0 a1 a4 a5 σ = some res) (hc : ∀ (b5 : Int32) (s : Mm), res = .inl (b5, s) → J X mX10_centuries 116 0 0 F 43 [(0, .ref a0), (1, .int a1), (4, .int a4), (5, .int b5)] [] n s) (he0 : ∀  (s : Mm), res = .inr s → J X mX10_centuries 116 0 0 F 77 [(0, .ref a0), (1, .int a1), (4, .int a4)] [] n s) : J X mX10_centuries 116 0 0 F 43 [(0, .ref a0), (1, .int a1), (4, .int a4), (5, .int a5)] [] n σ := by
  unfold fX10_centuries_l43 at h
  refine J_iload (z := 3) dX10_centuries_43 rfl (q := 45) rfl ?_
  refine J_aload_n (z := 0) dX10_centuries_45 rfl rfl (q := 46) rfl ?_
  refine J_getI dX10_centuries_46 lRX10_294 ha0 rfl (q := 49) rfl ?_
  refine J_icmp_ge (tgt := 77) dX10_centuries_49 (by decide) (q := 52) rfl (fun c4 => ?_) (fun c4 => ?_)
  · rw [if_pos c4] at h
    have h := Option.some.inj h
    refine J_pick [0, 1, 2] rfl ?_
    exact he0 _ h.symm
  · rw [if_neg c4] at h
    refine J_aload_n (z := 0) dX10_centuries_52 rfl rfl (q := 53) rfl ?_
    refine J_aload_n (z := 0) dX10_centuries_53 rfl rfl (q := 54) rfl ?_
    obtain ⟨r6, er6, h⟩ := bindS h
    refine J_getR dX10_centuries_54 lRX10_61 ha0 rfl (by decide) er6 (q := 57) rfl (fun fr6 => ?_)
    refine J_iload (z := 3) dX10_centuries_57 rfl (q := 59) rfl ?_
    obtain ⟨vk7, hk7, h⟩ := bindS h
    refine J_cVi (as := [.ref r6, .int a5]) dX10_centuries_59 mRX10_369 ha0 (tX10_canDo ha0 fr6 hk7) rfl (Nat.le_of_ble_eq_true rfl) (Nat.le_of_ble_eq_true rfl) (Nat.le_of_ble_eq_true rfl) (q := 62) rfl ?_
    intro bk7
    refine J_if_eq (tgt := 71) dX10_centuries_62 (by decide) (q := 65) rfl (fun c7 => ?_) (fun c7 => ?_)
    · rw [if_pos c7] at h
      refine J_pick [0, 1, 2, 3] rfl ?_
      exact tX10_centuries_b71 ha0 h hc he0
    · rw [if_neg c7] at h
      refine J_aload_n (z := 0) dX10_centuries_65 rfl rfl (q := 66) rfl ?_
      refine J_iload (z := 3) dX10_centuries_66 rfl (q := 68) rfl ?_
      obtain ⟨sk9, hk9, h⟩ := bindS h
      refine J_cVv (as := [.int a5]) dX10_centuries_68 mRX10_429 ha0 (tX10_drawn ha0 hk9) rfl (Nat.le_of_ble_eq_true rfl) (Nat.le_of_ble_eq_true rfl) (Nat.le_of_ble_eq_true rfl) (q := 71) rfl ?_
      refine J_pick [0, 1, 2, 3] rfl ?_
      exact tX10_centuries_b71 ha0 h hc he0

def fX10_centuries_w43 (a0 : Nat) (a1 : Int32) (a4 : Int32) (a5 : Int32) (σ : Mm) : Option (Mm) :=
  wh (fun a : Int32 × Mm => fX10_centuries_l43 a0 a1 a4 a.1 a.2) BIG (a5, σ)
set_option maxRecDepth 20000 in
set_option maxHeartbeats 2000000 in
theorem tX10_centuries_w43 {X : XS} {n : Nat} {σ : Mm} {F : Nat × Option Value × Mm} {a0 : Nat} {a1 : Int32} {a4 : Int32} {a5 : Int32} (ha0 : RT n a0 110) {res : Mm} (h : fX10_centuries_w43 a0 a1 a4 a5 σ = some res) (he0 : ∀  (s : Mm), res = s → J X mX10_centuries 116 0 0 F 77 [(0, .ref a0), (1, .int a1), (4, .int a4)] [] n s) : J X mX10_centuries 116 0 0 F 43 [(0, .ref a0), (1, .int a1), (4, .int a4), (5, .int a5)] [] n σ := by
  unfold fX10_centuries_w43 at h
  refine wh_rule (P := fun a : Int32 × Mm => J X mX10_centuries 116 0 0 F 43 [(0, .ref a0), (1, .int a1), (4, .int a4), (5, .int a.1)] [] n a.2) (K := fun b => b = res) ?_ _ _ _ h rfl
  intro a
  refine ⟨fun a2 hb hP => ?_, fun b hb hK => ?_⟩
  · exact tX10_centuries_l43 ha0 hb (fun _ _ e => by cases e; exact hP) (fun _ e => by cases e)
  · subst hK
    exact tX10_centuries_l43 ha0 hb (fun _ _ e => by cases e) (fun v0 e => he0 v0 (Sum.inr.inj e))

def fX10_centuries_l34 (a0 : Nat) (a1 : Int32) (a4 : Int32) (σ : Mm) : Option ((Int32 × Mm) ⊕ (Mm)) :=
  if a1 ≤ a4 then some (Sum.inr σ) else (fX10_centuries_w43 a0 a1 a4 0 σ).bind (fun o10 => (fun so10 => (fX10_remember a0 so10).bind fun sk11 => (gR sk11 a0 33).bind fun r12 => (fX10_goNight a0 r12 sk11).bind fun sk13 => some (Sum.inl ((a4 + 1), sk13))) o10)
set_option maxRecDepth 20000 in
set_option maxHeartbeats 2000000 in
theorem tX10_centuries_l34 {X : XS} {n : Nat} {σ : Mm} {F : Nat × Option Value × Mm} {a0 : Nat} {a1 : Int32} {a4 : Int32} (ha0 : RT n a0 110) {res : (Int32 × Mm) ⊕ (Mm)} (h : fX10_centuries_l34 a0 a1 a4 σ = some res) (hc : ∀ (b4 : Int32) (s : Mm), res = .inl (b4, s) → J X mX10_centuries 116 0 0 F 34 [(0, .ref a0), (1, .int a1), (4, .int b4)] [] n s) (he0 : ∀  (s : Mm), res = .inr s → J X mX10_centuries 116 0 0 F 95 [(0, .ref a0)] [] n s) : J X mX10_centuries 116 0 0 F 34 [(0, .ref a0), (1, .int a1), (4, .int a4)] [] n σ := by
  unfold fX10_centuries_l34 at h
  refine J_iload (z := 2) dX10_centuries_34 rfl (q := 36) rfl ?_
  refine J_iload_n (z := 1) dX10_centuries_36 rfl rfl (q := 37) rfl ?_
  refine J_icmp_ge (tgt := 95) dX10_centuries_37 (by decide) (q := 40) rfl (fun c3 => ?_) (fun c3 => ?_)
  · rw [if_pos c3] at h
    have h := Option.some.inj h
    refine J_pick [0] rfl ?_
    exact he0 _ h.symm
  · rw [if_neg c3] at h
    refine J_iconst (x := 0) dX10_centuries_40 (by decide) (q := 41) rfl ?_
    refine J_istore (lv' := [(5, .int 0), (0, .ref a0), (1, .int a1), (4, .int a4)]) dX10_centuries_41 (by decide) rfl (q := 43) rfl ?_
    obtain ⟨o10, hlo10, h⟩ := bindS h
    refine J_pick [1, 2, 3, 0] rfl ?_
    refine tX10_centuries_w43 ha0 hlo10 ?_
    · intro so10 qo10
      rw [qo10] at h
      try dsimp only [Sum.elim_inl, Sum.elim_inr] at h
      refine J_aload_n (z := 0) dX10_centuries_77 rfl rfl (q := 78) rfl ?_
      obtain ⟨sk11, hk11, h⟩ := bindS h
      refine J_cVv (as := []) dX10_centuries_78 mRX10_394 ha0 (tX10_remember ha0 hk11) rfl (Nat.le_of_ble_eq_true rfl) (Nat.le_of_ble_eq_true rfl) (Nat.le_of_ble_eq_true rfl) (q := 81) rfl ?_
      refine J_aload_n (z := 0) dX10_centuries_81 rfl rfl (q := 82) rfl ?_
      refine J_aload_n (z := 0) dX10_centuries_82 rfl rfl (q := 83) rfl ?_
      obtain ⟨r12, er12, h⟩ := bindS h
      refine J_getR dX10_centuries_83 lRX10_61 ha0 rfl (by decide) er12 (q := 86) rfl (fun fr12 => ?_)
      obtain ⟨sk13, hk13, h⟩ := bindS h
      refine J_cVv (as := [.ref r12]) dX10_centuries_86 mRX10_412 ha0 (tX10_goNight ha0 fr12 hk13) rfl (Nat.le_of_ble_eq_true rfl) (Nat.le_of_ble_eq_true rfl) (Nat.le_of_ble_eq_true rfl) (q := 89) rfl ?_
      refine J_iinc (z := 2) (y := (a4 + 1)) (lv' := [(4, .int (a4 + 1)), (0, .ref a0), (1, .int a1)]) dX10_centuries_89 rfl rfl (by decide) rfl (q := 92) rfl ?_
      refine J_goto (tgt := 34) dX10_centuries_92 (by decide) ?_
      have h := Option.some.inj h
      refine J_pick [1, 2, 0] rfl ?_
      exact hc _ _ h.symm

def fX10_centuries_w34 (a0 : Nat) (a1 : Int32) (a4 : Int32) (σ : Mm) : Option (Mm) :=
  wh (fun a : Int32 × Mm => fX10_centuries_l34 a0 a1 a.1 a.2) BIG (a4, σ)
set_option maxRecDepth 20000 in
set_option maxHeartbeats 2000000 in
theorem tX10_centuries_w34 {X : XS} {n : Nat} {σ : Mm} {F : Nat × Option Value × Mm} {a0 : Nat} {a1 : Int32} {a4 : Int32} (ha0 : RT n a0 110) {res : Mm} (h : fX10_centuries_w34 a0 a1 a4 σ = some res) (he0 : ∀  (s : Mm), res = s → J X mX10_centuries 116 0 0 F 95 [(0, .ref a0)] [] n s) : J X mX10_centuries 116 0 0 F 34 [(0, .ref a0), (1, .int a1), (4, .int a4)] [] n σ := by
  unfold fX10_centuries_w34 at h
  refine wh_rule (P := fun a : Int32 × Mm => J X mX10_centuries 116 0 0 F 34 [(0, .ref a0), (1, .int a1), (4, .int a.1)] [] n a.2) (K := fun b => b = res) ?_ _ _ _ h rfl
  intro a
  refine ⟨fun a2 hb hP => ?_, fun b hb hK => ?_⟩
  · exact tX10_centuries_l34 ha0 hb (fun _ _ e => by cases e; exact hP) (fun _ e => by cases e)
  · subst hK
    exact tX10_centuries_l34 ha0 hb (fun _ _ e => by cases e) (fun v0 e => he0 v0 (Sum.inr.inj e))

def fX10_centuries (a0 : Nat) (a1 : Int32) (a2 : Int64) (σ : Mm) : Option (Int32 × Mm) :=
  if (gI (sI σ a0 0 0) a0 27) = 0 then some ((-1), (sI σ a0 0 0)) else (fX10_isIn (Int32.toInt64 a1) 1 60 (sI σ a0 0 0)).bind fun vk2 => if vk2 = 0 then some ((-1), (sI σ a0 0 0)) else (fX10_centuries_w34 a0 a1 0 (sL (sI σ a0 0 0) a0 43 a2)).bind (fun o14 => (fun so14 => (gR so14 a0 33).bind fun r15 => if ixB 109 (ln r15) = true then some ((gI so14 r15 (Int32.toNatClampNeg 109)), so14) else none) o14)
set_option maxRecDepth 20000 in
set_option maxHeartbeats 2000000 in
theorem tX10_centuries {X : XS} {n : Nat} {σ : Mm} {a0 : Nat} {a1 : Int32} {a2 : Int64} (ha0 : RT n a0 110) {res : Int32 × Mm} (h : fX10_centuries a0 a1 a2 σ = some res) : MT X yX10_centuries mX10_centuries 116 0 0 [.ref a0, .int a1, .long a2] n σ (n, some (.int res.1), res.2) := by
  unfold fX10_centuries at h
  refine MT_of (by decide +kernel) rfl (fun h => by cases h) (Nat.le_of_ble_eq_true rfl) ?_
  show J X mX10_centuries 116 0 0 (n, some (.int res.1), res.2) 0 [(0, .ref a0), (1, .int a1), (2, .long a2)] [] n σ
  refine J_aload_n (z := 0) dX10_centuries_0 rfl rfl (q := 1) rfl ?_
  refine J_iconst (x := 0) dX10_centuries_1 (by decide) (q := 2) rfl ?_
  refine J_putI dX10_centuries_2 lRX10_96 (fun h => by cases h) ha0 rfl (q := 5) rfl ?_
  refine J_aload_n (z := 0) dX10_centuries_5 rfl rfl (q := 6) rfl ?_
  refine J_getI dX10_centuries_6 lRX10_291 ha0 rfl (q := 9) rfl ?_
  refine J_if_eq (tgt := 24) dX10_centuries_9 (by decide) (q := 12) rfl (fun c0 => ?_) (fun c0 => ?_)
  · rw [if_pos c0] at h
    refine J_iconst (x := (-1)) dX10_centuries_24 (by decide) (q := 25) rfl ?_
    have h := Option.some.inj h
    subst h
    exact J_ireturn dX10_centuries_25 rfl rfl rfl
  · rw [if_neg c0] at h
    refine J_iload_n (z := 1) dX10_centuries_12 rfl rfl (q := 13) rfl ?_
    refine J_i2l dX10_centuries_13  (q := 14) rfl ?_
    refine J_lconst (x := 1) dX10_centuries_14 (by decide) (q := 15) rfl ?_
    refine J_ldc2 (x := 60) dX10_centuries_15 kRX10_427 (q := 18) rfl ?_
    obtain ⟨vk2, hk2, h⟩ := bindS h
    refine J_cSi (as := [.long (Int32.toInt64 a1), .long 1, .long 60]) dX10_centuries_18 mRX10_217 (tX10_isIn  hk2) rfl (Nat.le_of_ble_eq_true rfl) (Nat.le_of_ble_eq_true rfl) (Nat.le_of_ble_eq_true rfl) (q := 21) rfl ?_
    intro bk2
    refine J_if_ne (tgt := 26) dX10_centuries_21 (by decide) (q := 24) rfl (fun c2 => ?_) (fun c2 => ?_)
    · rw [if_neg c2] at h
      refine J_aload_n (z := 0) dX10_centuries_26 rfl rfl (q := 27) rfl ?_
      refine J_lload_n (z := 2) dX10_centuries_27 rfl rfl (q := 28) rfl ?_
      refine J_putL dX10_centuries_28 lRX10_416 (fun h => by cases h) ha0 rfl (q := 31) rfl ?_
      refine J_iconst (x := 0) dX10_centuries_31 (by decide) (q := 32) rfl ?_
      refine J_istore (lv' := [(4, .int 0), (0, .ref a0), (1, .int a1), (2, .long a2)]) dX10_centuries_32 (by decide) rfl (q := 34) rfl ?_
      obtain ⟨o14, hlo14, h⟩ := bindS h
      refine J_pick [1, 2, 0] rfl ?_
      refine tX10_centuries_w34 ha0 hlo14 ?_
      · intro so14 qo14
        rw [qo14] at h
        try dsimp only [Sum.elim_inl, Sum.elim_inr] at h
        refine J_aload_n (z := 0) dX10_centuries_95 rfl rfl (q := 96) rfl ?_
        obtain ⟨r15, er15, h⟩ := bindS h
        refine J_getR dX10_centuries_96 lRX10_61 ha0 rfl (by decide) er15 (q := 99) rfl (fun fr15 => ?_)
        refine J_bipush (x := 109) dX10_centuries_99 (by decide) (q := 101) rfl ?_
        obtain ⟨g16, h⟩ := iteS h
        refine J_iald dX10_centuries_101 fr15 (ixB_ok g16) (q := 102) rfl ?_
        have h := Option.some.inj h
        subst h
        exact J_ireturn dX10_centuries_102 rfl rfl rfl
    · rw [if_pos c2] at h
      refine J_iconst (x := (-1)) dX10_centuries_24 (by decide) (q := 25) rfl ?_
      have h := Option.some.inj h
      subst h
      exact J_ireturn dX10_centuries_25 rfl rfl rfl

def fX10_undo_l26 (a0 : Nat) (a1 : Int32) (σ : Mm) : Option ((Int32 × Mm) ⊕ (Mm)) :=
  if 351 ≤ a1 then some (Sum.inr σ) else (gR σ a0 33).bind fun r3 => (gR σ a0 41).bind fun r4 => if ixB ((351 * (gI σ a0 42)) + a1) (ln r4) = true then if ixB a1 (ln r3) = true then some (Sum.inl ((a1 + 1), (sI σ r3 (Int32.toNatClampNeg a1) (gI σ r4 (Int32.toNatClampNeg ((351 * (gI σ a0 42)) + a1)))))) else none else none
set_option maxRecDepth 20000 in
set_option maxHeartbeats 2000000 in
theorem tX10_undo_l26 {X : XS} {n : Nat} {σ : Mm} {F : Nat × Option Value × Mm} {a0 : Nat} {a1 : Int32} (ha0 : RT n a0 110) {res : (Int32 × Mm) ⊕ (Mm)} (h : fX10_undo_l26 a0 a1 σ = some res) (hc : ∀ (b1 : Int32) (s : Mm), res = .inl (b1, s) → J X mX10_undo 1 0 0 F 26 [(0, .ref a0), (1, .int b1)] [] n s) (he0 : ∀  (s : Mm), res = .inr s → J X mX10_undo 1 0 0 F 60 [(0, .ref a0)] [] n s) : J X mX10_undo 1 0 0 F 26 [(0, .ref a0), (1, .int a1)] [] n σ := by
  unfold fX10_undo_l26 at h
  refine J_iload_n (z := 1) dX10_undo_26 rfl rfl (q := 27) rfl ?_
  refine J_sipush (x := 351) dX10_undo_27 (by decide) (q := 30) rfl ?_
  refine J_icmp_ge (tgt := 60) dX10_undo_30 (by decide) (q := 33) rfl (fun c1 => ?_) (fun c1 => ?_)
  · rw [if_pos c1] at h
    have h := Option.some.inj h
    refine J_pick [0] rfl ?_
    exact he0 _ h.symm
  · rw [if_neg c1] at h
    refine J_aload_n (z := 0) dX10_undo_33 rfl rfl (q := 34) rfl ?_
    obtain ⟨r3, er3, h⟩ := bindS h
    refine J_getR dX10_undo_34 lRX10_61 ha0 rfl (by decide) er3 (q := 37) rfl (fun fr3 => ?_)
    refine J_iload_n (z := 1) dX10_undo_37 rfl rfl (q := 38) rfl ?_
    refine J_aload_n (z := 0) dX10_undo_38 rfl rfl (q := 39) rfl ?_
    obtain ⟨r4, er4, h⟩ := bindS h
    refine J_getR dX10_undo_39 lRX10_84 ha0 rfl (by decide) er4 (q := 42) rfl (fun fr4 => ?_)
    refine J_sipush (x := 351) dX10_undo_42 (by decide) (q := 45) rfl ?_
    refine J_aload_n (z := 0) dX10_undo_45 rfl rfl (q := 46) rfl ?_
    refine J_getI dX10_undo_46 lRX10_300 ha0 rfl (q := 49) rfl ?_
    refine J_imul dX10_undo_49  (q := 50) rfl ?_
    refine J_iload_n (z := 1) dX10_undo_50 rfl rfl (q := 51) rfl ?_
    refine J_iadd dX10_undo_51  (q := 52) rfl ?_
    obtain ⟨g5, h⟩ := iteS h
    refine J_iald dX10_undo_52 fr4 (ixB_ok g5) (q := 53) rfl ?_
    obtain ⟨g6, h⟩ := iteS h
    refine J_iast dX10_undo_53 fr3 (ixB_ok g6) (q := 54) rfl ?_
    refine J_iinc (z := 1) (y := (a1 + 1)) (lv' := [(1, .int (a1 + 1)), (0, .ref a0)]) dX10_undo_54 rfl rfl (by decide) rfl (q := 57) rfl ?_
    refine J_goto (tgt := 26) dX10_undo_57 (by decide) ?_
    have h := Option.some.inj h
    refine J_pick [1, 0] rfl ?_
    exact hc _ _ h.symm

def fX10_undo_w26 (a0 : Nat) (a1 : Int32) (σ : Mm) : Option (Mm) :=
  wh (fun a : Int32 × Mm => fX10_undo_l26 a0 a.1 a.2) BIG (a1, σ)
set_option maxRecDepth 20000 in
set_option maxHeartbeats 2000000 in
theorem tX10_undo_w26 {X : XS} {n : Nat} {σ : Mm} {F : Nat × Option Value × Mm} {a0 : Nat} {a1 : Int32} (ha0 : RT n a0 110) {res : Mm} (h : fX10_undo_w26 a0 a1 σ = some res) (he0 : ∀  (s : Mm), res = s → J X mX10_undo 1 0 0 F 60 [(0, .ref a0)] [] n s) : J X mX10_undo 1 0 0 F 26 [(0, .ref a0), (1, .int a1)] [] n σ := by
  unfold fX10_undo_w26 at h
  refine wh_rule (P := fun a : Int32 × Mm => J X mX10_undo 1 0 0 F 26 [(0, .ref a0), (1, .int a.1)] [] n a.2) (K := fun b => b = res) ?_ _ _ _ h rfl
  intro a
  refine ⟨fun a2 hb hP => ?_, fun b hb hK => ?_⟩
  · exact tX10_undo_l26 ha0 hb (fun _ _ e => by cases e; exact hP) (fun _ e => by cases e)
  · subst hK
    exact tX10_undo_l26 ha0 hb (fun _ _ e => by cases e) (fun v0 e => he0 v0 (Sum.inr.inj e))

def fX10_undo (a0 : Nat) (σ : Mm) : Option (Int32 × Mm) :=
  if (gI (sI σ a0 0 0) a0 42) = 0 then some ((-1), (sI σ a0 0 0)) else (fX10_undo_w26 a0 0 (sI (sI σ a0 0 0) a0 42 ((gI (sI σ a0 0 0) a0 42) - 1))).bind (fun o7 => (fun so7 => some ((gI so7 a0 42), so7)) o7)
set_option maxRecDepth 20000 in
set_option maxHeartbeats 2000000 in
theorem tX10_undo {X : XS} {n : Nat} {σ : Mm} {a0 : Nat} (ha0 : RT n a0 110) {res : Int32 × Mm} (h : fX10_undo a0 σ = some res) : MT X yX10_undo mX10_undo 1 0 0 [.ref a0] n σ (n, some (.int res.1), res.2) := by
  unfold fX10_undo at h
  refine MT_of (by decide +kernel) rfl (fun h => by cases h) (Nat.le_of_ble_eq_true rfl) ?_
  show J X mX10_undo 1 0 0 (n, some (.int res.1), res.2) 0 [(0, .ref a0)] [] n σ
  refine J_aload_n (z := 0) dX10_undo_0 rfl rfl (q := 1) rfl ?_
  refine J_iconst (x := 0) dX10_undo_1 (by decide) (q := 2) rfl ?_
  refine J_putI dX10_undo_2 lRX10_96 (fun h => by cases h) ha0 rfl (q := 5) rfl ?_
  refine J_aload_n (z := 0) dX10_undo_5 rfl rfl (q := 6) rfl ?_
  refine J_getI dX10_undo_6 lRX10_300 ha0 rfl (q := 9) rfl ?_
  refine J_if_ne (tgt := 14) dX10_undo_9 (by decide) (q := 12) rfl (fun c0 => ?_) (fun c0 => ?_)
  · rw [if_neg c0] at h
    refine J_aload_n (z := 0) dX10_undo_14 rfl rfl (q := 15) rfl ?_
    refine J_dup dX10_undo_15 rfl (q := 16) rfl ?_
    refine J_getI dX10_undo_16 lRX10_300 ha0 rfl (q := 19) rfl ?_
    refine J_iconst (x := 1) dX10_undo_19 (by decide) (q := 20) rfl ?_
    refine J_isub dX10_undo_20  (q := 21) rfl ?_
    refine J_putI dX10_undo_21 lRX10_300 (fun h => by cases h) ha0 rfl (q := 24) rfl ?_
    refine J_iconst (x := 0) dX10_undo_24 (by decide) (q := 25) rfl ?_
    refine J_istore_n (lv' := [(1, .int 0), (0, .ref a0)]) dX10_undo_25 rfl (by decide) rfl (q := 26) rfl ?_
    obtain ⟨o7, hlo7, h⟩ := bindS h
    refine J_pick [1, 0] rfl ?_
    refine tX10_undo_w26 ha0 hlo7 ?_
    · intro so7 qo7
      rw [qo7] at h
      try dsimp only [Sum.elim_inl, Sum.elim_inr] at h
      refine J_aload_n (z := 0) dX10_undo_60 rfl rfl (q := 61) rfl ?_
      refine J_getI dX10_undo_61 lRX10_300 ha0 rfl (q := 64) rfl ?_
      have h := Option.some.inj h
      subst h
      exact J_ireturn dX10_undo_64 rfl rfl rfl
  · rw [if_pos c0] at h
    refine J_iconst (x := (-1)) dX10_undo_12 (by decide) (q := 13) rfl ?_
    have h := Option.some.inj h
    subst h
    exact J_ireturn dX10_undo_13 rfl rfl rfl

def fX10_log_b62 (σ : Mm) : Option (Int32 × Mm) :=
  some ((-1000000), σ)
set_option maxRecDepth 20000 in
set_option maxHeartbeats 2000000 in
theorem tX10_log_b62 {X : XS} {n : Nat} {σ : Mm} {res : Int32 × Mm} (h : fX10_log_b62  σ = some res) : J X mX10_log 2 0 0 (n, some (.int res.1), res.2) 62 [] [] n σ := by
  unfold fX10_log_b62 at h
  refine J_ldcw (x := (-1000000)) dX10_log_62 kRX10_432 (q := 65) rfl ?_
  have h := Option.some.inj h
  subst h
  exact J_ireturn dX10_log_65 rfl rfl rfl

def fX10_log (a0 : Nat) (a1 : Int32) (a2 : Int32) (σ : Mm) : Option (Int32 × Mm) :=
  (gR σ a0 33).bind fun r1 => if ixB 110 (ln r1) = true then (fX10_isIn (Int32.toInt64 a1) 0 (Int32.toInt64 ((gI (sI σ a0 0 0) r1 (Int32.toNatClampNeg 110)) - 1)) (sI σ a0 0 0)).bind fun vk3 => if vk3 = 0 then fX10_log_b62  (sI σ a0 0 0) else (fX10_isIn (Int32.toInt64 a2) 0 3 (sI σ a0 0 0)).bind fun vk5 => if vk5 = 0 then fX10_log_b62  (sI σ a0 0 0) else if ixB 110 (ln r1) = true then if ixB ((111 + (4 * (((gI (sI σ a0 0 0) r1 (Int32.toNatClampNeg 110)) - 1) - a1))) + a2) (ln r1) = true then some ((gI (sI σ a0 0 0) r1 (Int32.toNatClampNeg ((111 + (4 * (((gI (sI σ a0 0 0) r1 (Int32.toNatClampNeg 110)) - 1) - a1))) + a2))), (sI σ a0 0 0)) else none else none else none
set_option maxRecDepth 20000 in
set_option maxHeartbeats 2000000 in
theorem tX10_log {X : XS} {n : Nat} {σ : Mm} {a0 : Nat} {a1 : Int32} {a2 : Int32} (ha0 : RT n a0 110) {res : Int32 × Mm} (h : fX10_log a0 a1 a2 σ = some res) : MT X yX10_log mX10_log 2 0 0 [.ref a0, .int a1, .int a2] n σ (n, some (.int res.1), res.2) := by
  unfold fX10_log at h
  refine MT_of (by decide +kernel) rfl (fun h => by cases h) (Nat.le_of_ble_eq_true rfl) ?_
  show J X mX10_log 2 0 0 (n, some (.int res.1), res.2) 0 [(0, .ref a0), (1, .int a1), (2, .int a2)] [] n σ
  refine J_aload_n (z := 0) dX10_log_0 rfl rfl (q := 1) rfl ?_
  refine J_iconst (x := 0) dX10_log_1 (by decide) (q := 2) rfl ?_
  refine J_putI dX10_log_2 lRX10_96 (fun h => by cases h) ha0 rfl (q := 5) rfl ?_
  refine J_iload_n (z := 1) dX10_log_5 rfl rfl (q := 6) rfl ?_
  refine J_i2l dX10_log_6  (q := 7) rfl ?_
  refine J_lconst (x := 0) dX10_log_7 (by decide) (q := 8) rfl ?_
  refine J_aload_n (z := 0) dX10_log_8 rfl rfl (q := 9) rfl ?_
  obtain ⟨r1, er1, h⟩ := bindS h
  refine J_getR dX10_log_9 lRX10_61 ha0 rfl (by decide) er1 (q := 12) rfl (fun fr1 => ?_)
  refine J_bipush (x := 110) dX10_log_12 (by decide) (q := 14) rfl ?_
  obtain ⟨g2, h⟩ := iteS h
  refine J_iald dX10_log_14 fr1 (ixB_ok g2) (q := 15) rfl ?_
  refine J_iconst (x := 1) dX10_log_15 (by decide) (q := 16) rfl ?_
  refine J_isub dX10_log_16  (q := 17) rfl ?_
  refine J_i2l dX10_log_17  (q := 18) rfl ?_
  obtain ⟨vk3, hk3, h⟩ := bindS h
  refine J_cSi (as := [.long (Int32.toInt64 a1), .long 0, .long (Int32.toInt64 ((gI (sI σ a0 0 0) r1 (Int32.toNatClampNeg 110)) - 1))]) dX10_log_18 mRX10_217 (tX10_isIn  hk3) rfl (Nat.le_of_ble_eq_true rfl) (Nat.le_of_ble_eq_true rfl) (Nat.le_of_ble_eq_true rfl) (q := 21) rfl ?_
  intro bk3
  refine J_if_eq (tgt := 62) dX10_log_21 (by decide) (q := 24) rfl (fun c3 => ?_) (fun c3 => ?_)
  · rw [if_pos c3] at h
    refine J_pick [] rfl ?_
    exact tX10_log_b62  h
  · rw [if_neg c3] at h
    refine J_iload_n (z := 2) dX10_log_24 rfl rfl (q := 25) rfl ?_
    refine J_i2l dX10_log_25  (q := 26) rfl ?_
    refine J_lconst (x := 0) dX10_log_26 (by decide) (q := 27) rfl ?_
    refine J_ldc2 (x := 3) dX10_log_27 kRX10_349 (q := 30) rfl ?_
    obtain ⟨vk5, hk5, h⟩ := bindS h
    refine J_cSi (as := [.long (Int32.toInt64 a2), .long 0, .long 3]) dX10_log_30 mRX10_217 (tX10_isIn  hk5) rfl (Nat.le_of_ble_eq_true rfl) (Nat.le_of_ble_eq_true rfl) (Nat.le_of_ble_eq_true rfl) (q := 33) rfl ?_
    intro bk5
    refine J_if_eq (tgt := 62) dX10_log_33 (by decide) (q := 36) rfl (fun c5 => ?_) (fun c5 => ?_)
    · rw [if_pos c5] at h
      refine J_pick [] rfl ?_
      exact tX10_log_b62  h
    · rw [if_neg c5] at h
      refine J_aload_n (z := 0) dX10_log_36 rfl rfl (q := 37) rfl ?_
      refine J_getR dX10_log_37 lRX10_61 ha0 rfl (by decide) er1 (q := 40) rfl (fun _ => ?_)
      refine J_bipush (x := 111) dX10_log_40 (by decide) (q := 42) rfl ?_
      refine J_iconst (x := 4) dX10_log_42 (by decide) (q := 43) rfl ?_
      refine J_aload_n (z := 0) dX10_log_43 rfl rfl (q := 44) rfl ?_
      refine J_getR dX10_log_44 lRX10_61 ha0 rfl (by decide) er1 (q := 47) rfl (fun _ => ?_)
      refine J_bipush (x := 110) dX10_log_47 (by decide) (q := 49) rfl ?_
      obtain ⟨g7, h⟩ := iteS h
      refine J_iald dX10_log_49 fr1 (ixB_ok g7) (q := 50) rfl ?_
      refine J_iconst (x := 1) dX10_log_50 (by decide) (q := 51) rfl ?_
      refine J_isub dX10_log_51  (q := 52) rfl ?_
      refine J_iload_n (z := 1) dX10_log_52 rfl rfl (q := 53) rfl ?_
      refine J_isub dX10_log_53  (q := 54) rfl ?_
      refine J_imul dX10_log_54  (q := 55) rfl ?_
      refine J_iadd dX10_log_55  (q := 56) rfl ?_
      refine J_iload_n (z := 2) dX10_log_56 rfl rfl (q := 57) rfl ?_
      refine J_iadd dX10_log_57  (q := 58) rfl ?_
      obtain ⟨g8, h⟩ := iteS h
      refine J_iald dX10_log_58 fr1 (ixB_ok g8) (q := 59) rfl ?_
      refine J_goto (tgt := 65) dX10_log_59 (by decide) ?_
      have h := Option.some.inj h
      subst h
      exact J_ireturn dX10_log_65 rfl rfl rfl

def fX10_isPlan (a0 : Nat) (a1 : Int32) (σ : Mm) : Option (Int32) :=
  if a1 < 0 then some 0 else if (gI σ a0 31) ≤ a1 then some 0 else some 1
set_option maxRecDepth 20000 in
set_option maxHeartbeats 2000000 in
theorem tX10_isPlan {X : XS} {n : Nat} {σ : Mm} {a0 : Nat} {a1 : Int32} (ha0 : RT n a0 110) {res : Int32} (h : fX10_isPlan a0 a1 σ = some res) : MT X yX10_isPlan mX10_isPlan 1 0 0 [.ref a0, .int a1] n σ (n, some (.int res), σ) := by
  unfold fX10_isPlan at h
  refine MT_of (by decide +kernel) rfl (fun h => by cases h) (Nat.le_of_ble_eq_true rfl) ?_
  show J X mX10_isPlan 1 0 0 (n, some (.int res), σ) 0 [(0, .ref a0), (1, .int a1)] [] n σ
  refine J_iload_n (z := 1) dX10_isPlan_0 rfl rfl (q := 1) rfl ?_
  refine J_if_lt (tgt := 16) dX10_isPlan_1 (by decide) (q := 4) rfl (fun c0 => ?_) (fun c0 => ?_)
  · rw [if_pos c0] at h
    refine J_iconst (x := 0) dX10_isPlan_16 (by decide) (q := 17) rfl ?_
    have h := Option.some.inj h
    subst h
    exact J_ireturn dX10_isPlan_17 rfl rfl rfl
  · rw [if_neg c0] at h
    refine J_iload_n (z := 1) dX10_isPlan_4 rfl rfl (q := 5) rfl ?_
    refine J_aload_n (z := 0) dX10_isPlan_5 rfl rfl (q := 6) rfl ?_
    refine J_getI dX10_isPlan_6 lRX10_286 ha0 rfl (q := 9) rfl ?_
    refine J_icmp_ge (tgt := 16) dX10_isPlan_9 (by decide) (q := 12) rfl (fun c1 => ?_) (fun c1 => ?_)
    · rw [if_pos c1] at h
      refine J_iconst (x := 0) dX10_isPlan_16 (by decide) (q := 17) rfl ?_
      have h := Option.some.inj h
      subst h
      exact J_ireturn dX10_isPlan_17 rfl rfl rfl
    · rw [if_neg c1] at h
      refine J_iconst (x := 1) dX10_isPlan_12 (by decide) (q := 13) rfl ?_
      refine J_goto (tgt := 17) dX10_isPlan_13 (by decide) ?_
      have h := Option.some.inj h
      subst h
      exact J_ireturn dX10_isPlan_17 rfl rfl rfl

def fX10_step_b61 (σ : Mm) : Option (Int32 × Mm) :=
  some ((-1000000), σ)
set_option maxRecDepth 20000 in
set_option maxHeartbeats 2000000 in
theorem tX10_step_b61 {X : XS} {n : Nat} {σ : Mm} {res : Int32 × Mm} (h : fX10_step_b61  σ = some res) : J X mX10_step 2 0 0 (n, some (.int res.1), res.2) 61 [] [] n σ := by
  unfold fX10_step_b61 at h
  refine J_ldcw (x := (-1000000)) dX10_step_61 kRX10_432 (q := 64) rfl ?_
  have h := Option.some.inj h
  subst h
  exact J_ireturn dX10_step_64 rfl rfl rfl

def fX10_step (a0 : Nat) (a1 : Int32) (a2 : Int32) (a3 : Int32) (σ : Mm) : Option (Int32 × Mm) :=
  (fX10_isPlan a0 a1 (sI σ a0 0 0)).bind fun vk1 => if vk1 = 0 then fX10_step_b61  (sI σ a0 0 0) else (gR σ a0 25).bind fun r3 => if ixB a1 (ln r3) = true then (fX10_isIn (Int32.toInt64 a2) 0 (Int32.toInt64 ((gI (sI σ a0 0 0) r3 (Int32.toNatClampNeg a1)) - 1)) (sI σ a0 0 0)).bind fun vk5 => if vk5 = 0 then fX10_step_b61  (sI σ a0 0 0) else (fX10_isIn (Int32.toInt64 a3) 0 2 (sI σ a0 0 0)).bind fun vk7 => if vk7 = 0 then fX10_step_b61  (sI σ a0 0 0) else (gR σ a0 24).bind fun r9 => if ixB ((3 * ((16 * a1) + a2)) + a3) (ln r9) = true then some ((gI (sI σ a0 0 0) r9 (Int32.toNatClampNeg ((3 * ((16 * a1) + a2)) + a3))), (sI σ a0 0 0)) else none else none
set_option maxRecDepth 20000 in
set_option maxHeartbeats 2000000 in
theorem tX10_step {X : XS} {n : Nat} {σ : Mm} {a0 : Nat} {a1 : Int32} {a2 : Int32} {a3 : Int32} (ha0 : RT n a0 110) {res : Int32 × Mm} (h : fX10_step a0 a1 a2 a3 σ = some res) : MT X yX10_step mX10_step 2 0 0 [.ref a0, .int a1, .int a2, .int a3] n σ (n, some (.int res.1), res.2) := by
  unfold fX10_step at h
  refine MT_of (by decide +kernel) rfl (fun h => by cases h) (Nat.le_of_ble_eq_true rfl) ?_
  show J X mX10_step 2 0 0 (n, some (.int res.1), res.2) 0 [(0, .ref a0), (1, .int a1), (2, .int a2), (3, .int a3)] [] n σ
  refine J_aload_n (z := 0) dX10_step_0 rfl rfl (q := 1) rfl ?_
  refine J_iconst (x := 0) dX10_step_1 (by decide) (q := 2) rfl ?_
  refine J_putI dX10_step_2 lRX10_96 (fun h => by cases h) ha0 rfl (q := 5) rfl ?_
  refine J_aload_n (z := 0) dX10_step_5 rfl rfl (q := 6) rfl ?_
  refine J_iload_n (z := 1) dX10_step_6 rfl rfl (q := 7) rfl ?_
  obtain ⟨vk1, hk1, h⟩ := bindS h
  refine J_cVi (as := [.int a1]) dX10_step_7 mRX10_433 ha0 (tX10_isPlan ha0 hk1) rfl (Nat.le_of_ble_eq_true rfl) (Nat.le_of_ble_eq_true rfl) (Nat.le_of_ble_eq_true rfl) (q := 10) rfl ?_
  intro bk1
  refine J_if_eq (tgt := 61) dX10_step_10 (by decide) (q := 13) rfl (fun c1 => ?_) (fun c1 => ?_)
  · rw [if_pos c1] at h
    refine J_pick [] rfl ?_
    exact tX10_step_b61  h
  · rw [if_neg c1] at h
    refine J_iload_n (z := 2) dX10_step_13 rfl rfl (q := 14) rfl ?_
    refine J_i2l dX10_step_14  (q := 15) rfl ?_
    refine J_lconst (x := 0) dX10_step_15 (by decide) (q := 16) rfl ?_
    refine J_aload_n (z := 0) dX10_step_16 rfl rfl (q := 17) rfl ?_
    obtain ⟨r3, er3, h⟩ := bindS h
    refine J_getR dX10_step_17 lRX10_58 ha0 rfl (by decide) er3 (q := 20) rfl (fun fr3 => ?_)
    refine J_iload_n (z := 1) dX10_step_20 rfl rfl (q := 21) rfl ?_
    obtain ⟨g4, h⟩ := iteS h
    refine J_iald dX10_step_21 fr3 (ixB_ok g4) (q := 22) rfl ?_
    refine J_iconst (x := 1) dX10_step_22 (by decide) (q := 23) rfl ?_
    refine J_isub dX10_step_23  (q := 24) rfl ?_
    refine J_i2l dX10_step_24  (q := 25) rfl ?_
    obtain ⟨vk5, hk5, h⟩ := bindS h
    refine J_cSi (as := [.long (Int32.toInt64 a2), .long 0, .long (Int32.toInt64 ((gI (sI σ a0 0 0) r3 (Int32.toNatClampNeg a1)) - 1))]) dX10_step_25 mRX10_217 (tX10_isIn  hk5) rfl (Nat.le_of_ble_eq_true rfl) (Nat.le_of_ble_eq_true rfl) (Nat.le_of_ble_eq_true rfl) (q := 28) rfl ?_
    intro bk5
    refine J_if_eq (tgt := 61) dX10_step_28 (by decide) (q := 31) rfl (fun c5 => ?_) (fun c5 => ?_)
    · rw [if_pos c5] at h
      refine J_pick [] rfl ?_
      exact tX10_step_b61  h
    · rw [if_neg c5] at h
      refine J_iload_n (z := 3) dX10_step_31 rfl rfl (q := 32) rfl ?_
      refine J_i2l dX10_step_32  (q := 33) rfl ?_
      refine J_lconst (x := 0) dX10_step_33 (by decide) (q := 34) rfl ?_
      refine J_ldc2 (x := 2) dX10_step_34 kRX10_272 (q := 37) rfl ?_
      obtain ⟨vk7, hk7, h⟩ := bindS h
      refine J_cSi (as := [.long (Int32.toInt64 a3), .long 0, .long 2]) dX10_step_37 mRX10_217 (tX10_isIn  hk7) rfl (Nat.le_of_ble_eq_true rfl) (Nat.le_of_ble_eq_true rfl) (Nat.le_of_ble_eq_true rfl) (q := 40) rfl ?_
      intro bk7
      refine J_if_eq (tgt := 61) dX10_step_40 (by decide) (q := 43) rfl (fun c7 => ?_) (fun c7 => ?_)
      · rw [if_pos c7] at h
        refine J_pick [] rfl ?_
        exact tX10_step_b61  h
      · rw [if_neg c7] at h
        refine J_aload_n (z := 0) dX10_step_43 rfl rfl (q := 44) rfl ?_
        obtain ⟨r9, er9, h⟩ := bindS h
        refine J_getR dX10_step_44 lRX10_55 ha0 rfl (by decide) er9 (q := 47) rfl (fun fr9 => ?_)
        refine J_iconst (x := 3) dX10_step_47 (by decide) (q := 48) rfl ?_
        refine J_bipush (x := 16) dX10_step_48 (by decide) (q := 50) rfl ?_
        refine J_iload_n (z := 1) dX10_step_50 rfl rfl (q := 51) rfl ?_
        refine J_imul dX10_step_51  (q := 52) rfl ?_
        refine J_iload_n (z := 2) dX10_step_52 rfl rfl (q := 53) rfl ?_
        refine J_iadd dX10_step_53  (q := 54) rfl ?_
        refine J_imul dX10_step_54  (q := 55) rfl ?_
        refine J_iload_n (z := 3) dX10_step_55 rfl rfl (q := 56) rfl ?_
        refine J_iadd dX10_step_56  (q := 57) rfl ?_
        obtain ⟨g10, h⟩ := iteS h
        refine J_iald dX10_step_57 fr9 (ixB_ok g10) (q := 58) rfl ?_
        refine J_goto (tgt := 64) dX10_step_58 (by decide) ?_
        have h := Option.some.inj h
        subst h
        exact J_ireturn dX10_step_64 rfl rfl rfl

def fX10_canStep (a0 : Nat) (a1 : Nat) (a2 : Int32) (σ : Mm) : Option (Int32) :=
  (gR σ a0 24).bind fun r1 => if ixB a2 (ln r1) = true then if (gI σ r1 (Int32.toNatClampNeg a2)) = 0 then if ixB (a2 + 1) (ln r1) = true then if ixB (a2 + 2) (ln r1) = true then (fX10_canRead a0 a1 (gI σ r1 (Int32.toNatClampNeg (a2 + 1))) (gI σ r1 (Int32.toNatClampNeg (a2 + 2))) σ).bind fun vk5 => some vk5 else none else none else if (gI σ r1 (Int32.toNatClampNeg a2)) = 1 then if ixB (a2 + 1) (ln r1) = true then if ixB (a2 + 2) (ln r1) = true then (fX10_canRecut a0 a1 (gI σ r1 (Int32.toNatClampNeg (a2 + 1))) (gI σ r1 (Int32.toNatClampNeg (a2 + 2))) σ).bind fun vk8 => some vk8 else none else none else if (gI σ r1 (Int32.toNatClampNeg a2)) = 2 then if ixB (a2 + 1) (ln r1) = true then if ixB (a2 + 2) (ln r1) = true then (fX10_canGo a0 a1 (gI σ r1 (Int32.toNatClampNeg (a2 + 1))) (gI σ r1 (Int32.toNatClampNeg (a2 + 2))) σ).bind fun vk11 => some vk11 else none else none else some 1 else none
set_option maxRecDepth 20000 in
set_option maxHeartbeats 2000000 in
theorem tX10_canStep {X : XS} {n : Nat} {σ : Mm} {a0 : Nat} {a1 : Nat} {a2 : Int32} (ha0 : RT n a0 110) (ha1 : RT n a1 200) {res : Int32} (h : fX10_canStep a0 a1 a2 σ = some res) : MT X yX10_canStep mX10_canStep 4 0 0 [.ref a0, .ref a1, .int a2] n σ (n, some (.int res), σ) := by
  unfold fX10_canStep at h
  refine MT_of (by decide +kernel) rfl (fun h => by cases h) (Nat.le_of_ble_eq_true rfl) ?_
  show J X mX10_canStep 4 0 0 (n, some (.int res), σ) 0 [(0, .ref a0), (1, .ref a1), (2, .int a2)] [] n σ
  refine J_aload_n (z := 0) dX10_canStep_0 rfl rfl (q := 1) rfl ?_
  obtain ⟨r1, er1, h⟩ := bindS h
  refine J_getR dX10_canStep_1 lRX10_55 ha0 rfl (by decide) er1 (q := 4) rfl (fun fr1 => ?_)
  refine J_iload_n (z := 2) dX10_canStep_4 rfl rfl (q := 5) rfl ?_
  obtain ⟨g2, h⟩ := iteS h
  refine J_iald dX10_canStep_5 fr1 (ixB_ok g2) (q := 6) rfl ?_
  refine J_table dX10_canStep_6 [(0, 32), (1, 54), (2, 76)] 98 (by decide) (by decide) (by decide) ?_ ?_
  · refine List.forall_mem_cons.mpr ⟨fun hx => ?_, List.forall_mem_cons.mpr ⟨fun hx => ?_, List.forall_mem_cons.mpr ⟨fun hx => ?_, fun _ hh => absurd hh List.not_mem_nil⟩⟩⟩
    · replace hx : (gI σ r1 (Int32.toNatClampNeg a2)) = 0 := hx
      rw [if_pos hx] at h
      refine J_aload_n (z := 0) dX10_canStep_32 rfl rfl (q := 33) rfl ?_
      refine J_aload_n (z := 1) dX10_canStep_33 rfl rfl (q := 34) rfl ?_
      refine J_aload_n (z := 0) dX10_canStep_34 rfl rfl (q := 35) rfl ?_
      refine J_getR dX10_canStep_35 lRX10_55 ha0 rfl (by decide) er1 (q := 38) rfl (fun _ => ?_)
      refine J_iload_n (z := 2) dX10_canStep_38 rfl rfl (q := 39) rfl ?_
      refine J_iconst (x := 1) dX10_canStep_39 (by decide) (q := 40) rfl ?_
      refine J_iadd dX10_canStep_40  (q := 41) rfl ?_
      obtain ⟨g3, h⟩ := iteS h
      refine J_iald dX10_canStep_41 fr1 (ixB_ok g3) (q := 42) rfl ?_
      refine J_aload_n (z := 0) dX10_canStep_42 rfl rfl (q := 43) rfl ?_
      refine J_getR dX10_canStep_43 lRX10_55 ha0 rfl (by decide) er1 (q := 46) rfl (fun _ => ?_)
      refine J_iload_n (z := 2) dX10_canStep_46 rfl rfl (q := 47) rfl ?_
      refine J_iconst (x := 2) dX10_canStep_47 (by decide) (q := 48) rfl ?_
      refine J_iadd dX10_canStep_48  (q := 49) rfl ?_
      obtain ⟨g4, h⟩ := iteS h
      refine J_iald dX10_canStep_49 fr1 (ixB_ok g4) (q := 50) rfl ?_
      obtain ⟨vk5, hk5, h⟩ := bindS h
      refine J_cVi (as := [.ref a1, .int (gI σ r1 (Int32.toNatClampNeg (a2 + 1))), .int (gI σ r1 (Int32.toNatClampNeg (a2 + 2)))]) dX10_canStep_50 mRX10_391 ha0 (tX10_canRead ha0 ha1 hk5) rfl (Nat.le_of_ble_eq_true rfl) (Nat.le_of_ble_eq_true rfl) (Nat.le_of_ble_eq_true rfl) (q := 53) rfl ?_
      intro bk5
      have h := Option.some.inj h
      subst h
      exact J_ireturn dX10_canStep_53 rfl bk5 rfl
    · replace hx : (gI σ r1 (Int32.toNatClampNeg a2)) = 1 := hx
      rw [if_neg (by rw [hx]; decide), if_pos hx] at h
      refine J_aload_n (z := 0) dX10_canStep_54 rfl rfl (q := 55) rfl ?_
      refine J_aload_n (z := 1) dX10_canStep_55 rfl rfl (q := 56) rfl ?_
      refine J_aload_n (z := 0) dX10_canStep_56 rfl rfl (q := 57) rfl ?_
      refine J_getR dX10_canStep_57 lRX10_55 ha0 rfl (by decide) er1 (q := 60) rfl (fun _ => ?_)
      refine J_iload_n (z := 2) dX10_canStep_60 rfl rfl (q := 61) rfl ?_
      refine J_iconst (x := 1) dX10_canStep_61 (by decide) (q := 62) rfl ?_
      refine J_iadd dX10_canStep_62  (q := 63) rfl ?_
      obtain ⟨g6, h⟩ := iteS h
      refine J_iald dX10_canStep_63 fr1 (ixB_ok g6) (q := 64) rfl ?_
      refine J_aload_n (z := 0) dX10_canStep_64 rfl rfl (q := 65) rfl ?_
      refine J_getR dX10_canStep_65 lRX10_55 ha0 rfl (by decide) er1 (q := 68) rfl (fun _ => ?_)
      refine J_iload_n (z := 2) dX10_canStep_68 rfl rfl (q := 69) rfl ?_
      refine J_iconst (x := 2) dX10_canStep_69 (by decide) (q := 70) rfl ?_
      refine J_iadd dX10_canStep_70  (q := 71) rfl ?_
      obtain ⟨g7, h⟩ := iteS h
      refine J_iald dX10_canStep_71 fr1 (ixB_ok g7) (q := 72) rfl ?_
      obtain ⟨vk8, hk8, h⟩ := bindS h
      refine J_cVi (as := [.ref a1, .int (gI σ r1 (Int32.toNatClampNeg (a2 + 1))), .int (gI σ r1 (Int32.toNatClampNeg (a2 + 2)))]) dX10_canStep_72 mRX10_400 ha0 (tX10_canRecut ha0 ha1 hk8) rfl (Nat.le_of_ble_eq_true rfl) (Nat.le_of_ble_eq_true rfl) (Nat.le_of_ble_eq_true rfl) (q := 75) rfl ?_
      intro bk8
      have h := Option.some.inj h
      subst h
      exact J_ireturn dX10_canStep_75 rfl bk8 rfl
    · replace hx : (gI σ r1 (Int32.toNatClampNeg a2)) = 2 := hx
      rw [if_neg (by rw [hx]; decide), if_neg (by rw [hx]; decide), if_pos hx] at h
      refine J_aload_n (z := 0) dX10_canStep_76 rfl rfl (q := 77) rfl ?_
      refine J_aload_n (z := 1) dX10_canStep_77 rfl rfl (q := 78) rfl ?_
      refine J_aload_n (z := 0) dX10_canStep_78 rfl rfl (q := 79) rfl ?_
      refine J_getR dX10_canStep_79 lRX10_55 ha0 rfl (by decide) er1 (q := 82) rfl (fun _ => ?_)
      refine J_iload_n (z := 2) dX10_canStep_82 rfl rfl (q := 83) rfl ?_
      refine J_iconst (x := 1) dX10_canStep_83 (by decide) (q := 84) rfl ?_
      refine J_iadd dX10_canStep_84  (q := 85) rfl ?_
      obtain ⟨g9, h⟩ := iteS h
      refine J_iald dX10_canStep_85 fr1 (ixB_ok g9) (q := 86) rfl ?_
      refine J_aload_n (z := 0) dX10_canStep_86 rfl rfl (q := 87) rfl ?_
      refine J_getR dX10_canStep_87 lRX10_55 ha0 rfl (by decide) er1 (q := 90) rfl (fun _ => ?_)
      refine J_iload_n (z := 2) dX10_canStep_90 rfl rfl (q := 91) rfl ?_
      refine J_iconst (x := 2) dX10_canStep_91 (by decide) (q := 92) rfl ?_
      refine J_iadd dX10_canStep_92  (q := 93) rfl ?_
      obtain ⟨g10, h⟩ := iteS h
      refine J_iald dX10_canStep_93 fr1 (ixB_ok g10) (q := 94) rfl ?_
      obtain ⟨vk11, hk11, h⟩ := bindS h
      refine J_cVi (as := [.ref a1, .int (gI σ r1 (Int32.toNatClampNeg (a2 + 1))), .int (gI σ r1 (Int32.toNatClampNeg (a2 + 2)))]) dX10_canStep_94 mRX10_406 ha0 (tX10_canGo ha0 ha1 hk11) rfl (Nat.le_of_ble_eq_true rfl) (Nat.le_of_ble_eq_true rfl) (Nat.le_of_ble_eq_true rfl) (q := 97) rfl ?_
      intro bk11
      have h := Option.some.inj h
      subst h
      exact J_ireturn dX10_canStep_97 rfl bk11 rfl
  · intro hx
    rw [if_neg (hx (0, 32) (by decide)), if_neg (hx (1, 54) (by decide)), if_neg (hx (2, 76) (by decide))] at h
    refine J_iconst (x := 1) dX10_canStep_98 (by decide) (q := 99) rfl ?_
    have h := Option.some.inj h
    subst h
    exact J_ireturn dX10_canStep_99 rfl rfl rfl

def fX10_steps (a0 : Nat) (a1 : Nat) (a2 : Int32) (σ : Mm) : Option (Mm) :=
  (gR σ a0 24).bind fun r1 => if ixB a2 (ln r1) = true then if (gI σ r1 (Int32.toNatClampNeg a2)) = 0 then if ixB (a2 + 1) (ln r1) = true then if ixB (a2 + 2) (ln r1) = true then bnd2 (fX10_reads a0 a1 (gI σ r1 (Int32.toNatClampNeg (a2 + 1))) (gI σ r1 (Int32.toNatClampNeg (a2 + 2))) σ) fun vk5 sk5 => some sk5 else none else none else if (gI σ r1 (Int32.toNatClampNeg a2)) = 1 then if ixB (a2 + 1) (ln r1) = true then if ixB (a2 + 2) (ln r1) = true then (fX10_recuts a0 a1 (gI σ r1 (Int32.toNatClampNeg (a2 + 1))) (gI σ r1 (Int32.toNatClampNeg (a2 + 2))) σ).bind fun sk8 => some sk8 else none else none else if (gI σ r1 (Int32.toNatClampNeg a2)) = 2 then if ixB (a2 + 1) (ln r1) = true then if ixB (a2 + 2) (ln r1) = true then (fX10_goes a1 (gI σ r1 (Int32.toNatClampNeg (a2 + 1))) (gI σ r1 (Int32.toNatClampNeg (a2 + 2))) σ).bind fun sk11 => some sk11 else none else none else (fX10_goNight a0 a1 σ).bind fun sk12 => some sk12 else none
set_option maxRecDepth 20000 in
set_option maxHeartbeats 2000000 in
theorem tX10_steps {X : XS} {n : Nat} {σ : Mm} {a0 : Nat} {a1 : Nat} {a2 : Int32} (ha0 : RT n a0 110) (ha1 : RT n a1 200) {res : Mm} (h : fX10_steps a0 a1 a2 σ = some res) : MT X yX10_steps mX10_steps 115 0 0 [.ref a0, .ref a1, .int a2] n σ (n, none, res) := by
  unfold fX10_steps at h
  refine MT_of (by decide +kernel) rfl (fun h => by cases h) (Nat.le_of_ble_eq_true rfl) ?_
  show J X mX10_steps 115 0 0 (n, none, res) 0 [(0, .ref a0), (1, .ref a1), (2, .int a2)] [] n σ
  refine J_aload_n (z := 0) dX10_steps_0 rfl rfl (q := 1) rfl ?_
  obtain ⟨r1, er1, h⟩ := bindS h
  refine J_getR dX10_steps_1 lRX10_55 ha0 rfl (by decide) er1 (q := 4) rfl (fun fr1 => ?_)
  refine J_iload_n (z := 2) dX10_steps_4 rfl rfl (q := 5) rfl ?_
  obtain ⟨g2, h⟩ := iteS h
  refine J_iald dX10_steps_5 fr1 (ixB_ok g2) (q := 6) rfl ?_
  refine J_table dX10_steps_6 [(0, 32), (1, 57), (2, 81)] 104 (by decide) (by decide) (by decide) ?_ ?_
  · refine List.forall_mem_cons.mpr ⟨fun hx => ?_, List.forall_mem_cons.mpr ⟨fun hx => ?_, List.forall_mem_cons.mpr ⟨fun hx => ?_, fun _ hh => absurd hh List.not_mem_nil⟩⟩⟩
    · replace hx : (gI σ r1 (Int32.toNatClampNeg a2)) = 0 := hx
      rw [if_pos hx] at h
      refine J_aload_n (z := 0) dX10_steps_32 rfl rfl (q := 33) rfl ?_
      refine J_aload_n (z := 1) dX10_steps_33 rfl rfl (q := 34) rfl ?_
      refine J_aload_n (z := 0) dX10_steps_34 rfl rfl (q := 35) rfl ?_
      refine J_getR dX10_steps_35 lRX10_55 ha0 rfl (by decide) er1 (q := 38) rfl (fun _ => ?_)
      refine J_iload_n (z := 2) dX10_steps_38 rfl rfl (q := 39) rfl ?_
      refine J_iconst (x := 1) dX10_steps_39 (by decide) (q := 40) rfl ?_
      refine J_iadd dX10_steps_40  (q := 41) rfl ?_
      obtain ⟨g3, h⟩ := iteS h
      refine J_iald dX10_steps_41 fr1 (ixB_ok g3) (q := 42) rfl ?_
      refine J_aload_n (z := 0) dX10_steps_42 rfl rfl (q := 43) rfl ?_
      refine J_getR dX10_steps_43 lRX10_55 ha0 rfl (by decide) er1 (q := 46) rfl (fun _ => ?_)
      refine J_iload_n (z := 2) dX10_steps_46 rfl rfl (q := 47) rfl ?_
      refine J_iconst (x := 2) dX10_steps_47 (by decide) (q := 48) rfl ?_
      refine J_iadd dX10_steps_48  (q := 49) rfl ?_
      obtain ⟨g4, h⟩ := iteS h
      refine J_iald dX10_steps_49 fr1 (ixB_ok g4) (q := 50) rfl ?_
      obtain ⟨vk5, sk5, hk5, h⟩ := bnd2S h
      refine J_cVi (as := [.ref a1, .int (gI σ r1 (Int32.toNatClampNeg (a2 + 1))), .int (gI σ r1 (Int32.toNatClampNeg (a2 + 2)))]) dX10_steps_50 mRX10_397 ha0 (tX10_reads ha0 ha1 hk5) rfl (Nat.le_of_ble_eq_true rfl) (Nat.le_of_ble_eq_true rfl) (Nat.le_of_ble_eq_true rfl) (q := 53) rfl ?_
      intro bk5
      refine J_istore_n (lv' := [(3, .int vk5), (0, .ref a0), (1, .ref a1), (2, .int a2)]) dX10_steps_53 rfl (by decide) rfl (q := 54) rfl ?_
      refine J_goto (tgt := 109) dX10_steps_54 (by decide) ?_
      have h := Option.some.inj h
      subst h
      exact J_return dX10_steps_109 rfl rfl
    · replace hx : (gI σ r1 (Int32.toNatClampNeg a2)) = 1 := hx
      rw [if_neg (by rw [hx]; decide), if_pos hx] at h
      refine J_aload_n (z := 0) dX10_steps_57 rfl rfl (q := 58) rfl ?_
      refine J_aload_n (z := 1) dX10_steps_58 rfl rfl (q := 59) rfl ?_
      refine J_aload_n (z := 0) dX10_steps_59 rfl rfl (q := 60) rfl ?_
      refine J_getR dX10_steps_60 lRX10_55 ha0 rfl (by decide) er1 (q := 63) rfl (fun _ => ?_)
      refine J_iload_n (z := 2) dX10_steps_63 rfl rfl (q := 64) rfl ?_
      refine J_iconst (x := 1) dX10_steps_64 (by decide) (q := 65) rfl ?_
      refine J_iadd dX10_steps_65  (q := 66) rfl ?_
      obtain ⟨g6, h⟩ := iteS h
      refine J_iald dX10_steps_66 fr1 (ixB_ok g6) (q := 67) rfl ?_
      refine J_aload_n (z := 0) dX10_steps_67 rfl rfl (q := 68) rfl ?_
      refine J_getR dX10_steps_68 lRX10_55 ha0 rfl (by decide) er1 (q := 71) rfl (fun _ => ?_)
      refine J_iload_n (z := 2) dX10_steps_71 rfl rfl (q := 72) rfl ?_
      refine J_iconst (x := 2) dX10_steps_72 (by decide) (q := 73) rfl ?_
      refine J_iadd dX10_steps_73  (q := 74) rfl ?_
      obtain ⟨g7, h⟩ := iteS h
      refine J_iald dX10_steps_74 fr1 (ixB_ok g7) (q := 75) rfl ?_
      obtain ⟨sk8, hk8, h⟩ := bindS h
      refine J_cVv (as := [.ref a1, .int (gI σ r1 (Int32.toNatClampNeg (a2 + 1))), .int (gI σ r1 (Int32.toNatClampNeg (a2 + 2)))]) dX10_steps_75 mRX10_403 ha0 (tX10_recuts ha0 ha1 hk8) rfl (Nat.le_of_ble_eq_true rfl) (Nat.le_of_ble_eq_true rfl) (Nat.le_of_ble_eq_true rfl) (q := 78) rfl ?_
      refine J_goto (tgt := 109) dX10_steps_78 (by decide) ?_
      have h := Option.some.inj h
      subst h
      exact J_return dX10_steps_109 rfl rfl
    · replace hx : (gI σ r1 (Int32.toNatClampNeg a2)) = 2 := hx
      rw [if_neg (by rw [hx]; decide), if_neg (by rw [hx]; decide), if_pos hx] at h
      refine J_aload_n (z := 1) dX10_steps_81 rfl rfl (q := 82) rfl ?_
      refine J_aload_n (z := 0) dX10_steps_82 rfl rfl (q := 83) rfl ?_
      refine J_getR dX10_steps_83 lRX10_55 ha0 rfl (by decide) er1 (q := 86) rfl (fun _ => ?_)
      refine J_iload_n (z := 2) dX10_steps_86 rfl rfl (q := 87) rfl ?_
      refine J_iconst (x := 1) dX10_steps_87 (by decide) (q := 88) rfl ?_
      refine J_iadd dX10_steps_88  (q := 89) rfl ?_
      obtain ⟨g9, h⟩ := iteS h
      refine J_iald dX10_steps_89 fr1 (ixB_ok g9) (q := 90) rfl ?_
      refine J_aload_n (z := 0) dX10_steps_90 rfl rfl (q := 91) rfl ?_
      refine J_getR dX10_steps_91 lRX10_55 ha0 rfl (by decide) er1 (q := 94) rfl (fun _ => ?_)
      refine J_iload_n (z := 2) dX10_steps_94 rfl rfl (q := 95) rfl ?_
      refine J_iconst (x := 2) dX10_steps_95 (by decide) (q := 96) rfl ?_
      refine J_iadd dX10_steps_96  (q := 97) rfl ?_
      obtain ⟨g10, h⟩ := iteS h
      refine J_iald dX10_steps_97 fr1 (ixB_ok g10) (q := 98) rfl ?_
      obtain ⟨sk11, hk11, h⟩ := bindS h
      refine J_cSv (as := [.ref a1, .int (gI σ r1 (Int32.toNatClampNeg (a2 + 1))), .int (gI σ r1 (Int32.toNatClampNeg (a2 + 2)))]) dX10_steps_98 mRX10_409 (tX10_goes ha1 hk11) rfl (Nat.le_of_ble_eq_true rfl) (Nat.le_of_ble_eq_true rfl) (Nat.le_of_ble_eq_true rfl) (q := 101) rfl ?_
      refine J_goto (tgt := 109) dX10_steps_101 (by decide) ?_
      have h := Option.some.inj h
      subst h
      exact J_return dX10_steps_109 rfl rfl
  · intro hx
    rw [if_neg (hx (0, 32) (by decide)), if_neg (hx (1, 57) (by decide)), if_neg (hx (2, 81) (by decide))] at h
    refine J_aload_n (z := 0) dX10_steps_104 rfl rfl (q := 105) rfl ?_
    refine J_aload_n (z := 1) dX10_steps_105 rfl rfl (q := 106) rfl ?_
    obtain ⟨sk12, hk12, h⟩ := bindS h
    refine J_cVv (as := [.ref a1]) dX10_steps_106 mRX10_412 ha0 (tX10_goNight ha0 ha1 hk12) rfl (Nat.le_of_ble_eq_true rfl) (Nat.le_of_ble_eq_true rfl) (Nat.le_of_ble_eq_true rfl) (q := 109) rfl ?_
    have h := Option.some.inj h
    subst h
    exact J_return dX10_steps_109 rfl rfl

def fX10_lostIn_b26 (a0 : Nat) (a1 : Nat) (a3 : Int32) (z0 : Int32) (z1 : Int32) (σ : Mm) : Option ((Int32 × Int32) ⊕ (Int32)) :=
  some (Sum.inl ((z0 + z1), (a3 + 1)))
set_option maxRecDepth 20000 in
set_option maxHeartbeats 2000000 in
theorem tX10_lostIn_b26 {X : XS} {n : Nat} {σ : Mm} {F : Nat × Option Value × Mm} {a0 : Nat} {a1 : Nat} {a3 : Int32} {z0 : Int32} {z1 : Int32} (ha0 : RT n a0 110) (ha1 : RT n a1 200) {res : (Int32 × Int32) ⊕ (Int32)} (h : fX10_lostIn_b26 a0 a1 a3 z0 z1 σ = some res) (hc : ∀ (b2 : Int32) (b3 : Int32), res = .inl (b2, b3) → J X mX10_lostIn 1 0 0 F 4 [(0, .ref a0), (1, .ref a1), (2, .int b2), (3, .int b3)] [] n σ) (hr : ∀ (v : Int32), res = .inr v → F = (n, some (.int v), σ)) : J X mX10_lostIn 1 0 0 F 26 [(0, .ref a0), (1, .ref a1), (3, .int a3)] [.int z1, .int z0] n σ := by
  unfold fX10_lostIn_b26 at h
  refine J_iadd dX10_lostIn_26  (q := 27) rfl ?_
  refine J_istore_n (lv' := [(2, .int (z0 + z1)), (0, .ref a0), (1, .ref a1), (3, .int a3)]) dX10_lostIn_27 rfl (by decide) rfl (q := 28) rfl ?_
  refine J_iinc (z := 3) (y := (a3 + 1)) (lv' := [(3, .int (a3 + 1)), (2, .int (z0 + z1)), (0, .ref a0), (1, .ref a1)]) dX10_lostIn_28 rfl rfl (by decide) rfl (q := 31) rfl ?_
  refine J_goto (tgt := 4) dX10_lostIn_31 (by decide) ?_
  have h := Option.some.inj h
  refine J_pick [2, 3, 1, 0] rfl ?_
  exact hc _ _ h.symm

def fX10_lostIn_l4 (a0 : Nat) (a1 : Nat) (a2 : Int32) (a3 : Int32) (σ : Mm) : Option ((Int32 × Int32) ⊕ (Int32)) :=
  if (gI σ a0 27) ≤ a3 then some (Sum.inr a2) else if ixB (2 * a3) (ln a1) = true then if (gI σ a1 (Int32.toNatClampNeg (2 * a3))) = 0 then fX10_lostIn_b26 a0 a1 a3 a2 1 σ else fX10_lostIn_b26 a0 a1 a3 a2 0 σ else none
set_option maxRecDepth 20000 in
set_option maxHeartbeats 2000000 in
theorem tX10_lostIn_l4 {X : XS} {n : Nat} {σ : Mm} {F : Nat × Option Value × Mm} {a0 : Nat} {a1 : Nat} {a2 : Int32} {a3 : Int32} (ha0 : RT n a0 110) (ha1 : RT n a1 200) {res : (Int32 × Int32) ⊕ (Int32)} (h : fX10_lostIn_l4 a0 a1 a2 a3 σ = some res) (hc : ∀ (b2 : Int32) (b3 : Int32), res = .inl (b2, b3) → J X mX10_lostIn 1 0 0 F 4 [(0, .ref a0), (1, .ref a1), (2, .int b2), (3, .int b3)] [] n σ) (hr : ∀ (v : Int32), res = .inr v → F = (n, some (.int v), σ)) : J X mX10_lostIn 1 0 0 F 4 [(0, .ref a0), (1, .ref a1), (2, .int a2), (3, .int a3)] [] n σ := by
  unfold fX10_lostIn_l4 at h
  refine J_iload_n (z := 3) dX10_lostIn_4 rfl rfl (q := 5) rfl ?_
  refine J_aload_n (z := 0) dX10_lostIn_5 rfl rfl (q := 6) rfl ?_
  refine J_getI dX10_lostIn_6 lRX10_291 ha0 rfl (q := 9) rfl ?_
  refine J_icmp_ge (tgt := 34) dX10_lostIn_9 (by decide) (q := 12) rfl (fun c0 => ?_) (fun c0 => ?_)
  · rw [if_pos c0] at h
    refine J_iload_n (z := 2) dX10_lostIn_34 rfl rfl (q := 35) rfl ?_
    have h := Option.some.inj h
    exact J_ireturn dX10_lostIn_35 rfl rfl (hr _ h.symm)
  · rw [if_neg c0] at h
    refine J_iload_n (z := 2) dX10_lostIn_12 rfl rfl (q := 13) rfl ?_
    refine J_aload_n (z := 1) dX10_lostIn_13 rfl rfl (q := 14) rfl ?_
    refine J_iconst (x := 2) dX10_lostIn_14 (by decide) (q := 15) rfl ?_
    refine J_iload_n (z := 3) dX10_lostIn_15 rfl rfl (q := 16) rfl ?_
    refine J_imul dX10_lostIn_16  (q := 17) rfl ?_
    obtain ⟨g2, h⟩ := iteS h
    refine J_iald dX10_lostIn_17 ha1 (ixB_ok g2) (q := 18) rfl ?_
    refine J_if_ne (tgt := 25) dX10_lostIn_18 (by decide) (q := 21) rfl (fun c2 => ?_) (fun c2 => ?_)
    · rw [if_neg c2] at h
      refine J_iconst (x := 0) dX10_lostIn_25 (by decide) (q := 26) rfl ?_
      refine J_pick [0, 1, 3] rfl ?_
      exact tX10_lostIn_b26 ha0 ha1 h hc hr
    · rw [if_pos c2] at h
      refine J_iconst (x := 1) dX10_lostIn_21 (by decide) (q := 22) rfl ?_
      refine J_goto (tgt := 26) dX10_lostIn_22 (by decide) ?_
      refine J_pick [0, 1, 3] rfl ?_
      exact tX10_lostIn_b26 ha0 ha1 h hc hr

def fX10_lostIn_w4 (a0 : Nat) (a1 : Nat) (a2 : Int32) (a3 : Int32) (σ : Mm) : Option (Int32) :=
  wh (fun a : Int32 × Int32 => fX10_lostIn_l4 a0 a1 a.1 a.2 σ) BIG (a2, a3)
set_option maxRecDepth 20000 in
set_option maxHeartbeats 2000000 in
theorem tX10_lostIn_w4 {X : XS} {n : Nat} {σ : Mm} {F : Nat × Option Value × Mm} {a0 : Nat} {a1 : Nat} {a2 : Int32} {a3 : Int32} (ha0 : RT n a0 110) (ha1 : RT n a1 200) {res : Int32} (h : fX10_lostIn_w4 a0 a1 a2 a3 σ = some res) (hr : ∀ (v : Int32), res = v → F = (n, some (.int v), σ)) : J X mX10_lostIn 1 0 0 F 4 [(0, .ref a0), (1, .ref a1), (2, .int a2), (3, .int a3)] [] n σ := by
  unfold fX10_lostIn_w4 at h
  refine wh_rule (P := fun a : Int32 × Int32 => J X mX10_lostIn 1 0 0 F 4 [(0, .ref a0), (1, .ref a1), (2, .int a.1), (3, .int a.2)] [] n σ) (K := fun b => b = res) ?_ _ _ _ h rfl
  intro a
  refine ⟨fun a2 hb hP => ?_, fun b hb hK => ?_⟩
  · exact tX10_lostIn_l4 ha0 ha1 hb (fun _ _ e => by cases e; exact hP) (fun _ e => by cases e)
  · subst hK
    exact tX10_lostIn_l4 ha0 ha1 hb (fun _ _ e => by cases e) (fun v0 e => hr v0 (Sum.inr.inj e))

def fX10_lostIn (a0 : Nat) (a1 : Nat) (σ : Mm) : Option (Int32) :=
  (fX10_lostIn_w4 a0 a1 0 0 σ).bind (fun o4 => some o4)
set_option maxRecDepth 20000 in
set_option maxHeartbeats 2000000 in
theorem tX10_lostIn {X : XS} {n : Nat} {σ : Mm} {a0 : Nat} {a1 : Nat} (ha0 : RT n a0 110) (ha1 : RT n a1 200) {res : Int32} (h : fX10_lostIn a0 a1 σ = some res) : MT X yX10_lostIn mX10_lostIn 1 0 0 [.ref a0, .ref a1] n σ (n, some (.int res), σ) := by
  unfold fX10_lostIn at h
  refine MT_of (by decide +kernel) rfl (fun h => by cases h) (Nat.le_of_ble_eq_true rfl) ?_
  show J X mX10_lostIn 1 0 0 (n, some (.int res), σ) 0 [(0, .ref a0), (1, .ref a1)] [] n σ
  refine J_iconst (x := 0) dX10_lostIn_0 (by decide) (q := 1) rfl ?_
  refine J_istore_n (lv' := [(2, .int 0), (0, .ref a0), (1, .ref a1)]) dX10_lostIn_1 rfl (by decide) rfl (q := 2) rfl ?_
  refine J_iconst (x := 0) dX10_lostIn_2 (by decide) (q := 3) rfl ?_
  refine J_istore_n (lv' := [(3, .int 0), (2, .int 0), (0, .ref a0), (1, .ref a1)]) dX10_lostIn_3 rfl (by decide) rfl (q := 4) rfl ?_
  obtain ⟨o4, hlo4, h⟩ := bindS h
  refine J_pick [2, 3, 1, 0] rfl ?_
  refine tX10_lostIn_w4 ha0 ha1 hlo4 ?_
  · intro vo4 qo4
    rw [qo4] at h
    try dsimp only [Sum.elim_inl, Sum.elim_inr] at h
    have h := Option.some.inj h
    subst h
    rfl

def fX10_run_b30 (σ : Mm) : Option (Int32 × Mm) :=
  some ((-1000000), σ)
set_option maxRecDepth 20000 in
set_option maxHeartbeats 2000000 in
theorem tX10_run_b30 {X : XS} {n : Nat} {σ : Mm} {res : Int32 × Mm} (h : fX10_run_b30  σ = some res) : J X mX10_run 116 0 0 (n, some (.int res.1), res.2) 30 [] [] n σ := by
  unfold fX10_run_b30 at h
  refine J_ldcw (x := (-1000000)) dX10_run_30 kRX10_432 (q := 33) rfl ?_
  have h := Option.some.inj h
  subst h
  exact J_ireturn dX10_run_33 rfl rfl rfl

def fX10_run_l47 (a0 : Nat) (a1 : Int32) (a2 : Int32) (a3 : Int32) (σ : Mm) : Option ((Int32 × Mm) ⊕ (Int32 × Mm)) :=
  (gR σ a0 25).bind fun r9 => if ixB a1 (ln r9) = true then if (gI σ r9 (Int32.toNatClampNeg a1)) ≤ a3 then some (Sum.inr (a3, σ)) else (gR σ a0 34).bind fun r12 => (fX10_canStep a0 r12 (3 * ((16 * a1) + a3)) σ).bind fun vk13 => if vk13 = 0 then some (Sum.inr (a3, σ)) else (fX10_steps a0 r12 (3 * ((16 * a1) + a3)) σ).bind fun sk15 => some (Sum.inl ((a3 + 1), sk15)) else none
set_option maxRecDepth 20000 in
set_option maxHeartbeats 2000000 in
theorem tX10_run_l47 {X : XS} {n : Nat} {σ : Mm} {F : Nat × Option Value × Mm} {a0 : Nat} {a1 : Int32} {a2 : Int32} {a3 : Int32} (ha0 : RT n a0 110) {res : (Int32 × Mm) ⊕ (Int32 × Mm)} (h : fX10_run_l47 a0 a1 a2 a3 σ = some res) (hc : ∀ (b3 : Int32) (s : Mm), res = .inl (b3, s) → J X mX10_run 116 0 0 F 47 [(0, .ref a0), (1, .int a1), (2, .int a2), (3, .int b3)] [] n s) (he0 : ∀ (b3 : Int32) (s : Mm), res = .inr (b3, s) → J X mX10_run 116 0 0 F 98 [(0, .ref a0), (1, .int a1), (2, .int a2), (3, .int b3)] [] n s) : J X mX10_run 116 0 0 F 47 [(0, .ref a0), (1, .int a1), (2, .int a2), (3, .int a3)] [] n σ := by
  unfold fX10_run_l47 at h
  refine J_iload_n (z := 3) dX10_run_47 rfl rfl (q := 48) rfl ?_
  refine J_aload_n (z := 0) dX10_run_48 rfl rfl (q := 49) rfl ?_
  obtain ⟨r9, er9, h⟩ := bindS h
  refine J_getR dX10_run_49 lRX10_58 ha0 rfl (by decide) er9 (q := 52) rfl (fun fr9 => ?_)
  refine J_iload_n (z := 1) dX10_run_52 rfl rfl (q := 53) rfl ?_
  obtain ⟨g10, h⟩ := iteS h
  refine J_iald dX10_run_53 fr9 (ixB_ok g10) (q := 54) rfl ?_
  refine J_icmp_ge (tgt := 98) dX10_run_54 (by decide) (q := 57) rfl (fun c10 => ?_) (fun c10 => ?_)
  · rw [if_pos c10] at h
    have h := Option.some.inj h
    refine J_pick [0, 1, 2, 3] rfl ?_
    exact he0 _ _ h.symm
  · rw [if_neg c10] at h
    refine J_aload_n (z := 0) dX10_run_57 rfl rfl (q := 58) rfl ?_
    refine J_aload_n (z := 0) dX10_run_58 rfl rfl (q := 59) rfl ?_
    obtain ⟨r12, er12, h⟩ := bindS h
    refine J_getR dX10_run_59 lRX10_64 ha0 rfl (by decide) er12 (q := 62) rfl (fun fr12 => ?_)
    refine J_iconst (x := 3) dX10_run_62 (by decide) (q := 63) rfl ?_
    refine J_bipush (x := 16) dX10_run_63 (by decide) (q := 65) rfl ?_
    refine J_iload_n (z := 1) dX10_run_65 rfl rfl (q := 66) rfl ?_
    refine J_imul dX10_run_66  (q := 67) rfl ?_
    refine J_iload_n (z := 3) dX10_run_67 rfl rfl (q := 68) rfl ?_
    refine J_iadd dX10_run_68  (q := 69) rfl ?_
    refine J_imul dX10_run_69  (q := 70) rfl ?_
    obtain ⟨vk13, hk13, h⟩ := bindS h
    refine J_cVi (as := [.ref r12, .int (3 * ((16 * a1) + a3))]) dX10_run_70 mRX10_440 ha0 (tX10_canStep ha0 fr12 hk13) rfl (Nat.le_of_ble_eq_true rfl) (Nat.le_of_ble_eq_true rfl) (Nat.le_of_ble_eq_true rfl) (q := 73) rfl ?_
    intro bk13
    refine J_if_eq (tgt := 98) dX10_run_73 (by decide) (q := 76) rfl (fun c13 => ?_) (fun c13 => ?_)
    · rw [if_pos c13] at h
      have h := Option.some.inj h
      refine J_pick [0, 1, 2, 3] rfl ?_
      exact he0 _ _ h.symm
    · rw [if_neg c13] at h
      refine J_aload_n (z := 0) dX10_run_76 rfl rfl (q := 77) rfl ?_
      refine J_aload_n (z := 0) dX10_run_77 rfl rfl (q := 78) rfl ?_
      refine J_getR dX10_run_78 lRX10_64 ha0 rfl (by decide) er12 (q := 81) rfl (fun _ => ?_)
      refine J_iconst (x := 3) dX10_run_81 (by decide) (q := 82) rfl ?_
      refine J_bipush (x := 16) dX10_run_82 (by decide) (q := 84) rfl ?_
      refine J_iload_n (z := 1) dX10_run_84 rfl rfl (q := 85) rfl ?_
      refine J_imul dX10_run_85  (q := 86) rfl ?_
      refine J_iload_n (z := 3) dX10_run_86 rfl rfl (q := 87) rfl ?_
      refine J_iadd dX10_run_87  (q := 88) rfl ?_
      refine J_imul dX10_run_88  (q := 89) rfl ?_
      obtain ⟨sk15, hk15, h⟩ := bindS h
      refine J_cVv (as := [.ref r12, .int (3 * ((16 * a1) + a3))]) dX10_run_89 mRX10_443 ha0 (tX10_steps ha0 fr12 hk15) rfl (Nat.le_of_ble_eq_true rfl) (Nat.le_of_ble_eq_true rfl) (Nat.le_of_ble_eq_true rfl) (q := 92) rfl ?_
      refine J_iinc (z := 3) (y := (a3 + 1)) (lv' := [(3, .int (a3 + 1)), (0, .ref a0), (1, .int a1), (2, .int a2)]) dX10_run_92 rfl rfl (by decide) rfl (q := 95) rfl ?_
      refine J_goto (tgt := 47) dX10_run_95 (by decide) ?_
      have h := Option.some.inj h
      refine J_pick [1, 2, 3, 0] rfl ?_
      exact hc _ _ h.symm

def fX10_run_w47 (a0 : Nat) (a1 : Int32) (a2 : Int32) (a3 : Int32) (σ : Mm) : Option (Int32 × Mm) :=
  wh (fun a : Int32 × Mm => fX10_run_l47 a0 a1 a2 a.1 a.2) BIG (a3, σ)
set_option maxRecDepth 20000 in
set_option maxHeartbeats 2000000 in
theorem tX10_run_w47 {X : XS} {n : Nat} {σ : Mm} {F : Nat × Option Value × Mm} {a0 : Nat} {a1 : Int32} {a2 : Int32} {a3 : Int32} (ha0 : RT n a0 110) {res : Int32 × Mm} (h : fX10_run_w47 a0 a1 a2 a3 σ = some res) (he0 : ∀ (b3 : Int32) (s : Mm), res = (b3, s) → J X mX10_run 116 0 0 F 98 [(0, .ref a0), (1, .int a1), (2, .int a2), (3, .int b3)] [] n s) : J X mX10_run 116 0 0 F 47 [(0, .ref a0), (1, .int a1), (2, .int a2), (3, .int a3)] [] n σ := by
  unfold fX10_run_w47 at h
  refine wh_rule (P := fun a : Int32 × Mm => J X mX10_run 116 0 0 F 47 [(0, .ref a0), (1, .int a1), (2, .int a2), (3, .int a.1)] [] n a.2) (K := fun b => b = res) ?_ _ _ _ h rfl
  intro a
  refine ⟨fun a2 hb hP => ?_, fun b hb hK => ?_⟩
  · exact tX10_run_l47 ha0 hb (fun _ _ e => by cases e; exact hP) (fun _ _ e => by cases e)
  · subst hK
    exact tX10_run_l47 ha0 hb (fun _ _ e => by cases e) (fun v0 v1 e => he0 v0 v1 (Sum.inr.inj e))

def fX10_run_b98 (a0 : Nat) (a1 : Int32) (a2 : Int32) (a3 : Int32) (σ : Mm) : Option (Int32 × Mm) :=
  if a2 = 1 then (gR σ a0 34).bind fun r21 => (fX10_lostIn a0 r21 σ).bind fun vk22 => some (vk22, σ) else (gR σ a0 25).bind fun r18 => if ixB a1 (ln r18) = true then if a3 = (gI σ r18 (Int32.toNatClampNeg a1)) then some ((-1), σ) else some (a3, σ) else none
set_option maxRecDepth 20000 in
set_option maxHeartbeats 2000000 in
theorem tX10_run_b98 {X : XS} {n : Nat} {σ : Mm} {a0 : Nat} {a1 : Int32} {a2 : Int32} {a3 : Int32} (ha0 : RT n a0 110) {res : Int32 × Mm} (h : fX10_run_b98 a0 a1 a2 a3 σ = some res) : J X mX10_run 116 0 0 (n, some (.int res.1), res.2) 98 [(0, .ref a0), (1, .int a1), (2, .int a2), (3, .int a3)] [] n σ := by
  unfold fX10_run_b98 at h
  refine J_iload_n (z := 2) dX10_run_98 rfl rfl (q := 99) rfl ?_
  refine J_iconst (x := 1) dX10_run_99 (by decide) (q := 100) rfl ?_
  refine J_icmp_ne (tgt := 112) dX10_run_100 (by decide) (q := 103) rfl (fun c16 => ?_) (fun c16 => ?_)
  · rw [if_neg c16] at h
    refine J_iload_n (z := 3) dX10_run_112 rfl rfl (q := 113) rfl ?_
    refine J_aload_n (z := 0) dX10_run_113 rfl rfl (q := 114) rfl ?_
    obtain ⟨r18, er18, h⟩ := bindS h
    refine J_getR dX10_run_114 lRX10_58 ha0 rfl (by decide) er18 (q := 117) rfl (fun fr18 => ?_)
    refine J_iload_n (z := 1) dX10_run_117 rfl rfl (q := 118) rfl ?_
    obtain ⟨g19, h⟩ := iteS h
    refine J_iald dX10_run_118 fr18 (ixB_ok g19) (q := 119) rfl ?_
    refine J_icmp_ne (tgt := 126) dX10_run_119 (by decide) (q := 122) rfl (fun c19 => ?_) (fun c19 => ?_)
    · rw [if_neg c19] at h
      refine J_iload_n (z := 3) dX10_run_126 rfl rfl (q := 127) rfl ?_
      have h := Option.some.inj h
      subst h
      exact J_ireturn dX10_run_127 rfl rfl rfl
    · rw [if_pos c19] at h
      refine J_iconst (x := (-1)) dX10_run_122 (by decide) (q := 123) rfl ?_
      refine J_goto (tgt := 127) dX10_run_123 (by decide) ?_
      have h := Option.some.inj h
      subst h
      exact J_ireturn dX10_run_127 rfl rfl rfl
  · rw [if_pos c16] at h
    refine J_aload_n (z := 0) dX10_run_103 rfl rfl (q := 104) rfl ?_
    refine J_aload_n (z := 0) dX10_run_104 rfl rfl (q := 105) rfl ?_
    obtain ⟨r21, er21, h⟩ := bindS h
    refine J_getR dX10_run_105 lRX10_64 ha0 rfl (by decide) er21 (q := 108) rfl (fun fr21 => ?_)
    obtain ⟨vk22, hk22, h⟩ := bindS h
    refine J_cVi (as := [.ref r21]) dX10_run_108 mRX10_447 ha0 (tX10_lostIn ha0 fr21 hk22) rfl (Nat.le_of_ble_eq_true rfl) (Nat.le_of_ble_eq_true rfl) (Nat.le_of_ble_eq_true rfl) (q := 111) rfl ?_
    intro bk22
    have h := Option.some.inj h
    subst h
    exact J_ireturn dX10_run_111 rfl rfl rfl

def fX10_run (a0 : Nat) (a1 : Int32) (a2 : Int32) (σ : Mm) : Option (Int32 × Mm) :=
  (fX10_isPlan a0 a1 (sI σ a0 0 0)).bind fun vk1 => if vk1 = 0 then fX10_run_b30  (sI σ a0 0 0) else if (gI (sI σ a0 0 0) a0 27) = 0 then fX10_run_b30  (sI σ a0 0 0) else (fX10_isIn (Int32.toInt64 a2) 0 1 (sI σ a0 0 0)).bind fun vk4 => if vk4 = 0 then fX10_run_b30  (sI σ a0 0 0) else (gR σ a0 33).bind fun r6 => (gR σ a0 34).bind fun r7 => (fX10_copy r6 r7 (sI σ a0 0 0)).bind fun sk8 => (fX10_run_w47 a0 a1 a2 0 sk8).bind (fun o16 => (fun xo16_3 so16 => fX10_run_b98 a0 a1 a2 xo16_3 so16) o16.1 o16.2)
set_option maxRecDepth 20000 in
set_option maxHeartbeats 2000000 in
theorem tX10_run {X : XS} {n : Nat} {σ : Mm} {a0 : Nat} {a1 : Int32} {a2 : Int32} (ha0 : RT n a0 110) {res : Int32 × Mm} (h : fX10_run a0 a1 a2 σ = some res) : MT X yX10_run mX10_run 116 0 0 [.ref a0, .int a1, .int a2] n σ (n, some (.int res.1), res.2) := by
  unfold fX10_run at h
  refine MT_of (by decide +kernel) rfl (fun h => by cases h) (Nat.le_of_ble_eq_true rfl) ?_
  show J X mX10_run 116 0 0 (n, some (.int res.1), res.2) 0 [(0, .ref a0), (1, .int a1), (2, .int a2)] [] n σ
  refine J_aload_n (z := 0) dX10_run_0 rfl rfl (q := 1) rfl ?_
  refine J_iconst (x := 0) dX10_run_1 (by decide) (q := 2) rfl ?_
  refine J_putI dX10_run_2 lRX10_96 (fun h => by cases h) ha0 rfl (q := 5) rfl ?_
  refine J_aload_n (z := 0) dX10_run_5 rfl rfl (q := 6) rfl ?_
  refine J_iload_n (z := 1) dX10_run_6 rfl rfl (q := 7) rfl ?_
  obtain ⟨vk1, hk1, h⟩ := bindS h
  refine J_cVi (as := [.int a1]) dX10_run_7 mRX10_433 ha0 (tX10_isPlan ha0 hk1) rfl (Nat.le_of_ble_eq_true rfl) (Nat.le_of_ble_eq_true rfl) (Nat.le_of_ble_eq_true rfl) (q := 10) rfl ?_
  intro bk1
  refine J_if_eq (tgt := 30) dX10_run_10 (by decide) (q := 13) rfl (fun c1 => ?_) (fun c1 => ?_)
  · rw [if_pos c1] at h
    refine J_pick [] rfl ?_
    exact tX10_run_b30  h
  · rw [if_neg c1] at h
    refine J_aload_n (z := 0) dX10_run_13 rfl rfl (q := 14) rfl ?_
    refine J_getI dX10_run_14 lRX10_291 ha0 rfl (q := 17) rfl ?_
    refine J_if_eq (tgt := 30) dX10_run_17 (by decide) (q := 20) rfl (fun c2 => ?_) (fun c2 => ?_)
    · rw [if_pos c2] at h
      refine J_pick [] rfl ?_
      exact tX10_run_b30  h
    · rw [if_neg c2] at h
      refine J_iload_n (z := 2) dX10_run_20 rfl rfl (q := 21) rfl ?_
      refine J_i2l dX10_run_21  (q := 22) rfl ?_
      refine J_lconst (x := 0) dX10_run_22 (by decide) (q := 23) rfl ?_
      refine J_lconst (x := 1) dX10_run_23 (by decide) (q := 24) rfl ?_
      obtain ⟨vk4, hk4, h⟩ := bindS h
      refine J_cSi (as := [.long (Int32.toInt64 a2), .long 0, .long 1]) dX10_run_24 mRX10_217 (tX10_isIn  hk4) rfl (Nat.le_of_ble_eq_true rfl) (Nat.le_of_ble_eq_true rfl) (Nat.le_of_ble_eq_true rfl) (q := 27) rfl ?_
      intro bk4
      refine J_if_ne (tgt := 34) dX10_run_27 (by decide) (q := 30) rfl (fun c4 => ?_) (fun c4 => ?_)
      · rw [if_neg c4] at h
        refine J_aload_n (z := 0) dX10_run_34 rfl rfl (q := 35) rfl ?_
        obtain ⟨r6, er6, h⟩ := bindS h
        refine J_getR dX10_run_35 lRX10_61 ha0 rfl (by decide) er6 (q := 38) rfl (fun fr6 => ?_)
        refine J_aload_n (z := 0) dX10_run_38 rfl rfl (q := 39) rfl ?_
        obtain ⟨r7, er7, h⟩ := bindS h
        refine J_getR dX10_run_39 lRX10_64 ha0 rfl (by decide) er7 (q := 42) rfl (fun fr7 => ?_)
        obtain ⟨sk8, hk8, h⟩ := bindS h
        refine J_cSv (as := [.ref r6, .ref r7]) dX10_run_42 mRX10_436 (tX10_copy fr6 fr7 hk8) rfl (Nat.le_of_ble_eq_true rfl) (Nat.le_of_ble_eq_true rfl) (Nat.le_of_ble_eq_true rfl) (q := 45) rfl ?_
        refine J_iconst (x := 0) dX10_run_45 (by decide) (q := 46) rfl ?_
        refine J_istore_n (lv' := [(3, .int 0), (0, .ref a0), (1, .int a1), (2, .int a2)]) dX10_run_46 rfl (by decide) rfl (q := 47) rfl ?_
        obtain ⟨o16, hlo16, h⟩ := bindS h
        refine J_pick [1, 2, 3, 0] rfl ?_
        refine tX10_run_w47 ha0 hlo16 ?_
        · intro xo16_3 so16 qo16
          rw [qo16] at h
          try dsimp only [Sum.elim_inl, Sum.elim_inr] at h
          refine J_pick [0, 1, 2, 3] rfl ?_
          exact tX10_run_b98 ha0 h
      · rw [if_pos c4] at h
        refine J_pick [] rfl ?_
        exact tX10_run_b30  h

def fX10_perform_l24 (a0 : Nat) (a1 : Int32) (a2 : Int32) (σ : Mm) : Option ((Int32 × Mm) ⊕ (Int32 × Mm)) :=
  (gR σ a0 25).bind fun r4 => if ixB a1 (ln r4) = true then if (gI σ r4 (Int32.toNatClampNeg a1)) ≤ a2 then some (Sum.inr (a2, σ)) else (gR σ a0 33).bind fun r7 => (fX10_canStep a0 r7 (3 * ((16 * a1) + a2)) σ).bind fun vk8 => if vk8 = 0 then some (Sum.inr (a2, σ)) else (fX10_remember a0 σ).bind fun sk10 => (gR sk10 a0 33).bind fun r11 => (fX10_steps a0 r11 (3 * ((16 * a1) + a2)) sk10).bind fun sk12 => some (Sum.inl ((a2 + 1), sk12)) else none
set_option maxRecDepth 20000 in
set_option maxHeartbeats 2000000 in
theorem tX10_perform_l24 {X : XS} {n : Nat} {σ : Mm} {F : Nat × Option Value × Mm} {a0 : Nat} {a1 : Int32} {a2 : Int32} (ha0 : RT n a0 110) {res : (Int32 × Mm) ⊕ (Int32 × Mm)} (h : fX10_perform_l24 a0 a1 a2 σ = some res) (hc : ∀ (b2 : Int32) (s : Mm), res = .inl (b2, s) → J X mX10_perform 116 0 0 F 24 [(0, .ref a0), (1, .int a1), (2, .int b2)] [] n s) (hr : ∀ (v : Int32) (s : Mm), res = .inr (v, s) → F = (n, some (.int v), s)) : J X mX10_perform 116 0 0 F 24 [(0, .ref a0), (1, .int a1), (2, .int a2)] [] n σ := by
  unfold fX10_perform_l24 at h
  refine J_iload_n (z := 2) dX10_perform_24 rfl rfl (q := 25) rfl ?_
  refine J_aload_n (z := 0) dX10_perform_25 rfl rfl (q := 26) rfl ?_
  obtain ⟨r4, er4, h⟩ := bindS h
  refine J_getR dX10_perform_26 lRX10_58 ha0 rfl (by decide) er4 (q := 29) rfl (fun fr4 => ?_)
  refine J_iload_n (z := 1) dX10_perform_29 rfl rfl (q := 30) rfl ?_
  obtain ⟨g5, h⟩ := iteS h
  refine J_iald dX10_perform_30 fr4 (ixB_ok g5) (q := 31) rfl ?_
  refine J_icmp_ge (tgt := 79) dX10_perform_31 (by decide) (q := 34) rfl (fun c5 => ?_) (fun c5 => ?_)
  · rw [if_pos c5] at h
    refine J_iload_n (z := 2) dX10_perform_79 rfl rfl (q := 80) rfl ?_
    have h := Option.some.inj h
    exact J_ireturn dX10_perform_80 rfl rfl (hr _ _ h.symm)
  · rw [if_neg c5] at h
    refine J_aload_n (z := 0) dX10_perform_34 rfl rfl (q := 35) rfl ?_
    refine J_aload_n (z := 0) dX10_perform_35 rfl rfl (q := 36) rfl ?_
    obtain ⟨r7, er7, h⟩ := bindS h
    refine J_getR dX10_perform_36 lRX10_61 ha0 rfl (by decide) er7 (q := 39) rfl (fun fr7 => ?_)
    refine J_iconst (x := 3) dX10_perform_39 (by decide) (q := 40) rfl ?_
    refine J_bipush (x := 16) dX10_perform_40 (by decide) (q := 42) rfl ?_
    refine J_iload_n (z := 1) dX10_perform_42 rfl rfl (q := 43) rfl ?_
    refine J_imul dX10_perform_43  (q := 44) rfl ?_
    refine J_iload_n (z := 2) dX10_perform_44 rfl rfl (q := 45) rfl ?_
    refine J_iadd dX10_perform_45  (q := 46) rfl ?_
    refine J_imul dX10_perform_46  (q := 47) rfl ?_
    obtain ⟨vk8, hk8, h⟩ := bindS h
    refine J_cVi (as := [.ref r7, .int (3 * ((16 * a1) + a2))]) dX10_perform_47 mRX10_440 ha0 (tX10_canStep ha0 fr7 hk8) rfl (Nat.le_of_ble_eq_true rfl) (Nat.le_of_ble_eq_true rfl) (Nat.le_of_ble_eq_true rfl) (q := 50) rfl ?_
    intro bk8
    refine J_if_eq (tgt := 79) dX10_perform_50 (by decide) (q := 53) rfl (fun c8 => ?_) (fun c8 => ?_)
    · rw [if_pos c8] at h
      refine J_iload_n (z := 2) dX10_perform_79 rfl rfl (q := 80) rfl ?_
      have h := Option.some.inj h
      exact J_ireturn dX10_perform_80 rfl rfl (hr _ _ h.symm)
    · rw [if_neg c8] at h
      refine J_aload_n (z := 0) dX10_perform_53 rfl rfl (q := 54) rfl ?_
      obtain ⟨sk10, hk10, h⟩ := bindS h
      refine J_cVv (as := []) dX10_perform_54 mRX10_394 ha0 (tX10_remember ha0 hk10) rfl (Nat.le_of_ble_eq_true rfl) (Nat.le_of_ble_eq_true rfl) (Nat.le_of_ble_eq_true rfl) (q := 57) rfl ?_
      refine J_aload_n (z := 0) dX10_perform_57 rfl rfl (q := 58) rfl ?_
      refine J_aload_n (z := 0) dX10_perform_58 rfl rfl (q := 59) rfl ?_
      obtain ⟨r11, er11, h⟩ := bindS h
      refine J_getR dX10_perform_59 lRX10_61 ha0 rfl (by decide) er11 (q := 62) rfl (fun fr11 => ?_)
      refine J_iconst (x := 3) dX10_perform_62 (by decide) (q := 63) rfl ?_
      refine J_bipush (x := 16) dX10_perform_63 (by decide) (q := 65) rfl ?_
      refine J_iload_n (z := 1) dX10_perform_65 rfl rfl (q := 66) rfl ?_
      refine J_imul dX10_perform_66  (q := 67) rfl ?_
      refine J_iload_n (z := 2) dX10_perform_67 rfl rfl (q := 68) rfl ?_
      refine J_iadd dX10_perform_68  (q := 69) rfl ?_
      refine J_imul dX10_perform_69  (q := 70) rfl ?_
      obtain ⟨sk12, hk12, h⟩ := bindS h
      refine J_cVv (as := [.ref r11, .int (3 * ((16 * a1) + a2))]) dX10_perform_70 mRX10_443 ha0 (tX10_steps ha0 fr11 hk12) rfl (Nat.le_of_ble_eq_true rfl) (Nat.le_of_ble_eq_true rfl) (Nat.le_of_ble_eq_true rfl) (q := 73) rfl ?_
      refine J_iinc (z := 2) (y := (a2 + 1)) (lv' := [(2, .int (a2 + 1)), (0, .ref a0), (1, .int a1)]) dX10_perform_73 rfl rfl (by decide) rfl (q := 76) rfl ?_
      refine J_goto (tgt := 24) dX10_perform_76 (by decide) ?_
      have h := Option.some.inj h
      refine J_pick [1, 2, 0] rfl ?_
      exact hc _ _ h.symm

def fX10_perform_w24 (a0 : Nat) (a1 : Int32) (a2 : Int32) (σ : Mm) : Option (Int32 × Mm) :=
  wh (fun a : Int32 × Mm => fX10_perform_l24 a0 a1 a.1 a.2) BIG (a2, σ)
set_option maxRecDepth 20000 in
set_option maxHeartbeats 2000000 in
theorem tX10_perform_w24 {X : XS} {n : Nat} {σ : Mm} {F : Nat × Option Value × Mm} {a0 : Nat} {a1 : Int32} {a2 : Int32} (ha0 : RT n a0 110) {res : Int32 × Mm} (h : fX10_perform_w24 a0 a1 a2 σ = some res) (hr : ∀ (v : Int32) (s : Mm), res = (v, s) → F = (n, some (.int v), s)) : J X mX10_perform 116 0 0 F 24 [(0, .ref a0), (1, .int a1), (2, .int a2)] [] n σ := by
  unfold fX10_perform_w24 at h
  refine wh_rule (P := fun a : Int32 × Mm => J X mX10_perform 116 0 0 F 24 [(0, .ref a0), (1, .int a1), (2, .int a.1)] [] n a.2) (K := fun b => b = res) ?_ _ _ _ h rfl
  intro a
  refine ⟨fun a2 hb hP => ?_, fun b hb hK => ?_⟩
  · exact tX10_perform_l24 ha0 hb (fun _ _ e => by cases e; exact hP) (fun _ _ e => by cases e)
  · subst hK
    exact tX10_perform_l24 ha0 hb (fun _ _ e => by cases e) (fun v0 v1 e => hr v0 v1 (Sum.inr.inj e))

def fX10_perform (a0 : Nat) (a1 : Int32) (σ : Mm) : Option (Int32 × Mm) :=
  (fX10_isPlan a0 a1 (sI σ a0 0 0)).bind fun vk1 => if vk1 = 0 then some ((-1), (sI σ a0 0 0)) else if (gI (sI σ a0 0 0) a0 27) = 0 then some ((-1), (sI σ a0 0 0)) else (fX10_perform_w24 a0 a1 0 (sI σ a0 0 0)).bind (fun o13 => some o13)
set_option maxRecDepth 20000 in
set_option maxHeartbeats 2000000 in
theorem tX10_perform {X : XS} {n : Nat} {σ : Mm} {a0 : Nat} {a1 : Int32} (ha0 : RT n a0 110) {res : Int32 × Mm} (h : fX10_perform a0 a1 σ = some res) : MT X yX10_perform mX10_perform 116 0 0 [.ref a0, .int a1] n σ (n, some (.int res.1), res.2) := by
  unfold fX10_perform at h
  refine MT_of (by decide +kernel) rfl (fun h => by cases h) (Nat.le_of_ble_eq_true rfl) ?_
  show J X mX10_perform 116 0 0 (n, some (.int res.1), res.2) 0 [(0, .ref a0), (1, .int a1)] [] n σ
  refine J_aload_n (z := 0) dX10_perform_0 rfl rfl (q := 1) rfl ?_
  refine J_iconst (x := 0) dX10_perform_1 (by decide) (q := 2) rfl ?_
  refine J_putI dX10_perform_2 lRX10_96 (fun h => by cases h) ha0 rfl (q := 5) rfl ?_
  refine J_aload_n (z := 0) dX10_perform_5 rfl rfl (q := 6) rfl ?_
  refine J_iload_n (z := 1) dX10_perform_6 rfl rfl (q := 7) rfl ?_
  obtain ⟨vk1, hk1, h⟩ := bindS h
  refine J_cVi (as := [.int a1]) dX10_perform_7 mRX10_433 ha0 (tX10_isPlan ha0 hk1) rfl (Nat.le_of_ble_eq_true rfl) (Nat.le_of_ble_eq_true rfl) (Nat.le_of_ble_eq_true rfl) (q := 10) rfl ?_
  intro bk1
  refine J_if_eq (tgt := 20) dX10_perform_10 (by decide) (q := 13) rfl (fun c1 => ?_) (fun c1 => ?_)
  · rw [if_pos c1] at h
    refine J_iconst (x := (-1)) dX10_perform_20 (by decide) (q := 21) rfl ?_
    have h := Option.some.inj h
    subst h
    exact J_ireturn dX10_perform_21 rfl rfl rfl
  · rw [if_neg c1] at h
    refine J_aload_n (z := 0) dX10_perform_13 rfl rfl (q := 14) rfl ?_
    refine J_getI dX10_perform_14 lRX10_291 ha0 rfl (q := 17) rfl ?_
    refine J_if_ne (tgt := 22) dX10_perform_17 (by decide) (q := 20) rfl (fun c2 => ?_) (fun c2 => ?_)
    · rw [if_neg c2] at h
      refine J_iconst (x := 0) dX10_perform_22 (by decide) (q := 23) rfl ?_
      refine J_istore_n (lv' := [(2, .int 0), (0, .ref a0), (1, .int a1)]) dX10_perform_23 rfl (by decide) rfl (q := 24) rfl ?_
      obtain ⟨o13, hlo13, h⟩ := bindS h
      refine J_pick [1, 2, 0] rfl ?_
      refine tX10_perform_w24 ha0 hlo13 ?_
      · intro vo13 so13 qo13
        rw [qo13] at h
        try dsimp only [Sum.elim_inl, Sum.elim_inr] at h
        have h := Option.some.inj h
        subst h
        rfl
    · rw [if_pos c2] at h
      refine J_iconst (x := (-1)) dX10_perform_20 (by decide) (q := 21) rfl ?_
      have h := Option.some.inj h
      subst h
      exact J_ireturn dX10_perform_21 rfl rfl rfl

