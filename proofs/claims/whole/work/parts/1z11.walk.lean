def fX10_loss (a0 : Nat) (a1 : Int32) (a2 : Int32) (σ : Mm) : Option (Int32 × Mm) :=
  (fX10_isReader a0 a1 (sI σ a0 0 0)).bind fun vk1 => if vk1 = 0 then some ((-1), (sI σ a0 0 0)) else (fX10_isPage a0 a2 (sI σ a0 0 0)).bind fun vk3 => if vk3 = 0 then some ((-1), (sI σ a0 0 0)) else (gR σ a0 33).bind fun r5 => if ixB (2 * a2) (ln r5) = true then if (gI (sI σ a0 0 0) r5 (Int32.toNatClampNeg (2 * a2))) ≤ 0 then some ((-1), (sI σ a0 0 0)) else (gR σ a0 20).bind fun r8 => if ixB (4 * a2) (ln r8) = true then bnd2 (fX10_lossAt a0 r5 a1 (gI (sI σ a0 0 0) r8 (Int32.toNatClampNeg (4 * a2))) (sI σ a0 0 0)) fun vk10 sk10 => some (vk10, sk10) else none else none
set_option maxRecDepth 20000 in
set_option maxHeartbeats 2000000 in
theorem tX10_loss {X : XS} {n : Nat} {σ : Mm} {a0 : Nat} {a1 : Int32} {a2 : Int32} (ha0 : RT n a0 110) {res : Int32 × Mm} (h : fX10_loss a0 a1 a2 σ = some res) : MT X yX10_loss mX10_loss 114 0 0 [.ref a0, .int a1, .int a2] n σ (n, some (.int res.1), res.2) := by
  unfold fX10_loss at h
  refine MT_of (by decide +kernel) rfl (fun h => by cases h) (Nat.le_of_ble_eq_true rfl) ?_
  show J X mX10_loss 114 0 0 (n, some (.int res.1), res.2) 0 [(0, .ref a0), (1, .int a1), (2, .int a2)] [] n σ
  refine J_aload_n (z := 0) dX10_loss_0 rfl rfl (q := 1) rfl ?_
  refine J_iconst (x := 0) dX10_loss_1 (by decide) (q := 2) rfl ?_
  refine J_putI dX10_loss_2 lRX10_96 (fun h => by cases h) ha0 rfl (q := 5) rfl ?_
  refine J_aload_n (z := 0) dX10_loss_5 rfl rfl (q := 6) rfl ?_
  refine J_iload_n (z := 1) dX10_loss_6 rfl rfl (q := 7) rfl ?_
  obtain ⟨vk1, hk1, h⟩ := bindS h
  refine J_cVi (as := [.int a1]) dX10_loss_7 mRX10_309 ha0 (tX10_isReader ha0 hk1) rfl (Nat.le_of_ble_eq_true rfl) (Nat.le_of_ble_eq_true rfl) (Nat.le_of_ble_eq_true rfl) (q := 10) rfl ?_
  intro bk1
  refine J_if_eq (tgt := 52) dX10_loss_10 (by decide) (q := 13) rfl (fun c1 => ?_) (fun c1 => ?_)
  · rw [if_pos c1] at h
    refine J_iconst (x := (-1)) dX10_loss_52 (by decide) (q := 53) rfl ?_
    have h := Option.some.inj h
    subst h
    exact J_ireturn dX10_loss_53 rfl rfl rfl
  · rw [if_neg c1] at h
    refine J_aload_n (z := 0) dX10_loss_13 rfl rfl (q := 14) rfl ?_
    refine J_iload_n (z := 2) dX10_loss_14 rfl rfl (q := 15) rfl ?_
    obtain ⟨vk3, hk3, h⟩ := bindS h
    refine J_cVi (as := [.int a2]) dX10_loss_15 mRX10_346 ha0 (tX10_isPage ha0 hk3) rfl (Nat.le_of_ble_eq_true rfl) (Nat.le_of_ble_eq_true rfl) (Nat.le_of_ble_eq_true rfl) (q := 18) rfl ?_
    intro bk3
    refine J_if_eq (tgt := 52) dX10_loss_18 (by decide) (q := 21) rfl (fun c3 => ?_) (fun c3 => ?_)
    · rw [if_pos c3] at h
      refine J_iconst (x := (-1)) dX10_loss_52 (by decide) (q := 53) rfl ?_
      have h := Option.some.inj h
      subst h
      exact J_ireturn dX10_loss_53 rfl rfl rfl
    · rw [if_neg c3] at h
      refine J_aload_n (z := 0) dX10_loss_21 rfl rfl (q := 22) rfl ?_
      obtain ⟨r5, er5, h⟩ := bindS h
      refine J_getR dX10_loss_22 lRX10_61 ha0 rfl (by decide) er5 (q := 25) rfl (fun fr5 => ?_)
      refine J_iconst (x := 2) dX10_loss_25 (by decide) (q := 26) rfl ?_
      refine J_iload_n (z := 2) dX10_loss_26 rfl rfl (q := 27) rfl ?_
      refine J_imul dX10_loss_27  (q := 28) rfl ?_
      obtain ⟨g6, h⟩ := iteS h
      refine J_iald dX10_loss_28 fr5 (ixB_ok g6) (q := 29) rfl ?_
      refine J_if_le (tgt := 52) dX10_loss_29 (by decide) (q := 32) rfl (fun c6 => ?_) (fun c6 => ?_)
      · rw [if_pos c6] at h
        refine J_iconst (x := (-1)) dX10_loss_52 (by decide) (q := 53) rfl ?_
        have h := Option.some.inj h
        subst h
        exact J_ireturn dX10_loss_53 rfl rfl rfl
      · rw [if_neg c6] at h
        refine J_aload_n (z := 0) dX10_loss_32 rfl rfl (q := 33) rfl ?_
        refine J_aload_n (z := 0) dX10_loss_33 rfl rfl (q := 34) rfl ?_
        refine J_getR dX10_loss_34 lRX10_61 ha0 rfl (by decide) er5 (q := 37) rfl (fun _ => ?_)
        refine J_iload_n (z := 1) dX10_loss_37 rfl rfl (q := 38) rfl ?_
        refine J_aload_n (z := 0) dX10_loss_38 rfl rfl (q := 39) rfl ?_
        obtain ⟨r8, er8, h⟩ := bindS h
        refine J_getR dX10_loss_39 lRX10_43 ha0 rfl (by decide) er8 (q := 42) rfl (fun fr8 => ?_)
        refine J_iconst (x := 4) dX10_loss_42 (by decide) (q := 43) rfl ?_
        refine J_iload_n (z := 2) dX10_loss_43 rfl rfl (q := 44) rfl ?_
        refine J_imul dX10_loss_44  (q := 45) rfl ?_
        obtain ⟨g9, h⟩ := iteS h
        refine J_iald dX10_loss_45 fr8 (ixB_ok g9) (q := 46) rfl ?_
        obtain ⟨vk10, sk10, hk10, h⟩ := bnd2S h
        refine J_cVi (as := [.ref r5, .int a1, .int (gI (sI σ a0 0 0) r8 (Int32.toNatClampNeg (4 * a2)))]) dX10_loss_46 mRX10_451 ha0 (tX10_lossAt ha0 fr5 hk10) rfl (Nat.le_of_ble_eq_true rfl) (Nat.le_of_ble_eq_true rfl) (Nat.le_of_ble_eq_true rfl) (q := 49) rfl ?_
        intro bk10
        refine J_goto (tgt := 53) dX10_loss_49 (by decide) ?_
        have h := Option.some.inj h
        subst h
        exact J_ireturn dX10_loss_53 rfl rfl rfl

def fX10_thereIn_b28 (a0 : Nat) (a1 : Nat) (a3 : Int32) (z0 : Int32) (z1 : Int32) (σ : Mm) : Option ((Int32 × Int32) ⊕ (Int32)) :=
  some (Sum.inl ((z0 ||| z1), (a3 + 1)))
set_option maxRecDepth 20000 in
set_option maxHeartbeats 2000000 in
theorem tX10_thereIn_b28 {X : XS} {n : Nat} {σ : Mm} {F : Nat × Option Value × Mm} {a0 : Nat} {a1 : Nat} {a3 : Int32} {z0 : Int32} {z1 : Int32} (ha0 : RT n a0 110) (ha1 : RT n a1 200) {res : (Int32 × Int32) ⊕ (Int32)} (h : fX10_thereIn_b28 a0 a1 a3 z0 z1 σ = some res) (hc : ∀ (b2 : Int32) (b3 : Int32), res = .inl (b2, b3) → J X mX10_thereIn 1 0 0 F 4 [(0, .ref a0), (1, .ref a1), (2, .int b2), (3, .int b3)] [] n σ) (hr : ∀ (v : Int32), res = .inr v → F = (n, some (.int v), σ)) : J X mX10_thereIn 1 0 0 F 28 [(0, .ref a0), (1, .ref a1), (3, .int a3)] [.int z1, .int z0] n σ := by
  unfold fX10_thereIn_b28 at h
  refine J_ior dX10_thereIn_28  (q := 29) rfl ?_
  refine J_istore_n (lv' := [(2, .int (z0 ||| z1)), (0, .ref a0), (1, .ref a1), (3, .int a3)]) dX10_thereIn_29 rfl (by decide) rfl (q := 30) rfl ?_
  refine J_iinc (z := 3) (y := (a3 + 1)) (lv' := [(3, .int (a3 + 1)), (2, .int (z0 ||| z1)), (0, .ref a0), (1, .ref a1)]) dX10_thereIn_30 rfl rfl (by decide) rfl (q := 33) rfl ?_
  refine J_goto (tgt := 4) dX10_thereIn_33 (by decide) ?_
  have h := Option.some.inj h
  refine J_pick [2, 3, 1, 0] rfl ?_
  exact hc _ _ h.symm

def fX10_thereIn_l4 (a0 : Nat) (a1 : Nat) (a2 : Int32) (a3 : Int32) (σ : Mm) : Option ((Int32 × Int32) ⊕ (Int32)) :=
  if (gI σ a0 27) ≤ a3 then some (Sum.inr a2) else if ixB (2 * a3) (ln a1) = true then if (gI σ a1 (Int32.toNatClampNeg (2 * a3))) ≤ 0 then fX10_thereIn_b28 a0 a1 a3 a2 0 σ else fX10_thereIn_b28 a0 a1 a3 a2 (shlI 1 a3) σ else none
set_option maxRecDepth 20000 in
set_option maxHeartbeats 2000000 in
theorem tX10_thereIn_l4 {X : XS} {n : Nat} {σ : Mm} {F : Nat × Option Value × Mm} {a0 : Nat} {a1 : Nat} {a2 : Int32} {a3 : Int32} (ha0 : RT n a0 110) (ha1 : RT n a1 200) {res : (Int32 × Int32) ⊕ (Int32)} (h : fX10_thereIn_l4 a0 a1 a2 a3 σ = some res) (hc : ∀ (b2 : Int32) (b3 : Int32), res = .inl (b2, b3) → J X mX10_thereIn 1 0 0 F 4 [(0, .ref a0), (1, .ref a1), (2, .int b2), (3, .int b3)] [] n σ) (hr : ∀ (v : Int32), res = .inr v → F = (n, some (.int v), σ)) : J X mX10_thereIn 1 0 0 F 4 [(0, .ref a0), (1, .ref a1), (2, .int a2), (3, .int a3)] [] n σ := by
  unfold fX10_thereIn_l4 at h
  refine J_iload_n (z := 3) dX10_thereIn_4 rfl rfl (q := 5) rfl ?_
  refine J_aload_n (z := 0) dX10_thereIn_5 rfl rfl (q := 6) rfl ?_
  refine J_getI dX10_thereIn_6 lRX10_291 ha0 rfl (q := 9) rfl ?_
  refine J_icmp_ge (tgt := 36) dX10_thereIn_9 (by decide) (q := 12) rfl (fun c0 => ?_) (fun c0 => ?_)
  · rw [if_pos c0] at h
    refine J_iload_n (z := 2) dX10_thereIn_36 rfl rfl (q := 37) rfl ?_
    have h := Option.some.inj h
    exact J_ireturn dX10_thereIn_37 rfl rfl (hr _ h.symm)
  · rw [if_neg c0] at h
    refine J_iload_n (z := 2) dX10_thereIn_12 rfl rfl (q := 13) rfl ?_
    refine J_aload_n (z := 1) dX10_thereIn_13 rfl rfl (q := 14) rfl ?_
    refine J_iconst (x := 2) dX10_thereIn_14 (by decide) (q := 15) rfl ?_
    refine J_iload_n (z := 3) dX10_thereIn_15 rfl rfl (q := 16) rfl ?_
    refine J_imul dX10_thereIn_16  (q := 17) rfl ?_
    obtain ⟨g2, h⟩ := iteS h
    refine J_iald dX10_thereIn_17 ha1 (ixB_ok g2) (q := 18) rfl ?_
    refine J_if_le (tgt := 27) dX10_thereIn_18 (by decide) (q := 21) rfl (fun c2 => ?_) (fun c2 => ?_)
    · rw [if_pos c2] at h
      refine J_iconst (x := 0) dX10_thereIn_27 (by decide) (q := 28) rfl ?_
      refine J_pick [0, 1, 3] rfl ?_
      exact tX10_thereIn_b28 ha0 ha1 h hc hr
    · rw [if_neg c2] at h
      refine J_iconst (x := 1) dX10_thereIn_21 (by decide) (q := 22) rfl ?_
      refine J_iload_n (z := 3) dX10_thereIn_22 rfl rfl (q := 23) rfl ?_
      refine J_ishl dX10_thereIn_23  (q := 24) rfl ?_
      refine J_goto (tgt := 28) dX10_thereIn_24 (by decide) ?_
      refine J_pick [0, 1, 3] rfl ?_
      exact tX10_thereIn_b28 ha0 ha1 h hc hr

def fX10_thereIn_w4 (a0 : Nat) (a1 : Nat) (a2 : Int32) (a3 : Int32) (σ : Mm) : Option (Int32) :=
  wh (fun a : Int32 × Int32 => fX10_thereIn_l4 a0 a1 a.1 a.2 σ) BIG (a2, a3)
set_option maxRecDepth 20000 in
set_option maxHeartbeats 2000000 in
theorem tX10_thereIn_w4 {X : XS} {n : Nat} {σ : Mm} {F : Nat × Option Value × Mm} {a0 : Nat} {a1 : Nat} {a2 : Int32} {a3 : Int32} (ha0 : RT n a0 110) (ha1 : RT n a1 200) {res : Int32} (h : fX10_thereIn_w4 a0 a1 a2 a3 σ = some res) (hr : ∀ (v : Int32), res = v → F = (n, some (.int v), σ)) : J X mX10_thereIn 1 0 0 F 4 [(0, .ref a0), (1, .ref a1), (2, .int a2), (3, .int a3)] [] n σ := by
  unfold fX10_thereIn_w4 at h
  refine wh_rule (P := fun a : Int32 × Int32 => J X mX10_thereIn 1 0 0 F 4 [(0, .ref a0), (1, .ref a1), (2, .int a.1), (3, .int a.2)] [] n σ) (K := fun b => b = res) ?_ _ _ _ h rfl
  intro a
  refine ⟨fun a2 hb hP => ?_, fun b hb hK => ?_⟩
  · exact tX10_thereIn_l4 ha0 ha1 hb (fun _ _ e => by cases e; exact hP) (fun _ e => by cases e)
  · subst hK
    exact tX10_thereIn_l4 ha0 ha1 hb (fun _ _ e => by cases e) (fun v0 e => hr v0 (Sum.inr.inj e))

def fX10_thereIn (a0 : Nat) (a1 : Nat) (σ : Mm) : Option (Int32) :=
  (fX10_thereIn_w4 a0 a1 0 0 σ).bind (fun o4 => some o4)
set_option maxRecDepth 20000 in
set_option maxHeartbeats 2000000 in
theorem tX10_thereIn {X : XS} {n : Nat} {σ : Mm} {a0 : Nat} {a1 : Nat} (ha0 : RT n a0 110) (ha1 : RT n a1 200) {res : Int32} (h : fX10_thereIn a0 a1 σ = some res) : MT X yX10_thereIn mX10_thereIn 1 0 0 [.ref a0, .ref a1] n σ (n, some (.int res), σ) := by
  unfold fX10_thereIn at h
  refine MT_of (by decide +kernel) rfl (fun h => by cases h) (Nat.le_of_ble_eq_true rfl) ?_
  show J X mX10_thereIn 1 0 0 (n, some (.int res), σ) 0 [(0, .ref a0), (1, .ref a1)] [] n σ
  refine J_iconst (x := 0) dX10_thereIn_0 (by decide) (q := 1) rfl ?_
  refine J_istore_n (lv' := [(2, .int 0), (0, .ref a0), (1, .ref a1)]) dX10_thereIn_1 rfl (by decide) rfl (q := 2) rfl ?_
  refine J_iconst (x := 0) dX10_thereIn_2 (by decide) (q := 3) rfl ?_
  refine J_istore_n (lv' := [(3, .int 0), (2, .int 0), (0, .ref a0), (1, .ref a1)]) dX10_thereIn_3 rfl (by decide) rfl (q := 4) rfl ?_
  obtain ⟨o4, hlo4, h⟩ := bindS h
  refine J_pick [2, 3, 1, 0] rfl ?_
  refine tX10_thereIn_w4 ha0 ha1 hlo4 ?_
  · intro vo4 qo4
    rw [qo4] at h
    try dsimp only [Sum.elim_inl, Sum.elim_inr] at h
    have h := Option.some.inj h
    subst h
    rfl

def fX10_left_l39 (a0 : Nat) (a1 : Int32) (a2 : Int32) (σ : Mm) : Option ((Int32 × Mm) ⊕ (Mm)) :=
  if a1 ≤ a2 then some (Sum.inr σ) else (gR σ a0 34).bind fun r8 => (fX10_goNight a0 r8 σ).bind fun sk9 => some (Sum.inl ((a2 + 1), sk9))
set_option maxRecDepth 20000 in
set_option maxHeartbeats 2000000 in
theorem tX10_left_l39 {X : XS} {n : Nat} {σ : Mm} {F : Nat × Option Value × Mm} {a0 : Nat} {a1 : Int32} {a2 : Int32} (ha0 : RT n a0 110) {res : (Int32 × Mm) ⊕ (Mm)} (h : fX10_left_l39 a0 a1 a2 σ = some res) (hc : ∀ (b2 : Int32) (s : Mm), res = .inl (b2, s) → J X mX10_left 3 0 0 F 39 [(0, .ref a0), (1, .int a1), (2, .int b2)] [] n s) (he0 : ∀  (s : Mm), res = .inr s → J X mX10_left 3 0 0 F 58 [(0, .ref a0)] [] n s) : J X mX10_left 3 0 0 F 39 [(0, .ref a0), (1, .int a1), (2, .int a2)] [] n σ := by
  unfold fX10_left_l39 at h
  refine J_iload_n (z := 2) dX10_left_39 rfl rfl (q := 40) rfl ?_
  refine J_iload_n (z := 1) dX10_left_40 rfl rfl (q := 41) rfl ?_
  refine J_icmp_ge (tgt := 58) dX10_left_41 (by decide) (q := 44) rfl (fun c6 => ?_) (fun c6 => ?_)
  · rw [if_pos c6] at h
    have h := Option.some.inj h
    refine J_pick [0] rfl ?_
    exact he0 _ h.symm
  · rw [if_neg c6] at h
    refine J_aload_n (z := 0) dX10_left_44 rfl rfl (q := 45) rfl ?_
    refine J_aload_n (z := 0) dX10_left_45 rfl rfl (q := 46) rfl ?_
    obtain ⟨r8, er8, h⟩ := bindS h
    refine J_getR dX10_left_46 lRX10_64 ha0 rfl (by decide) er8 (q := 49) rfl (fun fr8 => ?_)
    obtain ⟨sk9, hk9, h⟩ := bindS h
    refine J_cVv (as := [.ref r8]) dX10_left_49 mRX10_412 ha0 (tX10_goNight ha0 fr8 hk9) rfl (Nat.le_of_ble_eq_true rfl) (Nat.le_of_ble_eq_true rfl) (Nat.le_of_ble_eq_true rfl) (q := 52) rfl ?_
    refine J_iinc (z := 2) (y := (a2 + 1)) (lv' := [(2, .int (a2 + 1)), (0, .ref a0), (1, .int a1)]) dX10_left_52 rfl rfl (by decide) rfl (q := 55) rfl ?_
    refine J_goto (tgt := 39) dX10_left_55 (by decide) ?_
    have h := Option.some.inj h
    refine J_pick [1, 2, 0] rfl ?_
    exact hc _ _ h.symm

def fX10_left_w39 (a0 : Nat) (a1 : Int32) (a2 : Int32) (σ : Mm) : Option (Mm) :=
  wh (fun a : Int32 × Mm => fX10_left_l39 a0 a1 a.1 a.2) BIG (a2, σ)
set_option maxRecDepth 20000 in
set_option maxHeartbeats 2000000 in
theorem tX10_left_w39 {X : XS} {n : Nat} {σ : Mm} {F : Nat × Option Value × Mm} {a0 : Nat} {a1 : Int32} {a2 : Int32} (ha0 : RT n a0 110) {res : Mm} (h : fX10_left_w39 a0 a1 a2 σ = some res) (he0 : ∀  (s : Mm), res = s → J X mX10_left 3 0 0 F 58 [(0, .ref a0)] [] n s) : J X mX10_left 3 0 0 F 39 [(0, .ref a0), (1, .int a1), (2, .int a2)] [] n σ := by
  unfold fX10_left_w39 at h
  refine wh_rule (P := fun a : Int32 × Mm => J X mX10_left 3 0 0 F 39 [(0, .ref a0), (1, .int a1), (2, .int a.1)] [] n a.2) (K := fun b => b = res) ?_ _ _ _ h rfl
  intro a
  refine ⟨fun a2 hb hP => ?_, fun b hb hK => ?_⟩
  · exact tX10_left_l39 ha0 hb (fun _ _ e => by cases e; exact hP) (fun _ e => by cases e)
  · subst hK
    exact tX10_left_l39 ha0 hb (fun _ _ e => by cases e) (fun v0 e => he0 v0 (Sum.inr.inj e))

def fX10_left (a0 : Nat) (a1 : Int32) (σ : Mm) : Option (Int32 × Mm) :=
  if (gI (sI σ a0 0 0) a0 27) = 0 then some ((-1), (sI σ a0 0 0)) else (fX10_isIn (Int32.toInt64 a1) 0 99 (sI σ a0 0 0)).bind fun vk2 => if vk2 = 0 then some ((-1), (sI σ a0 0 0)) else (gR σ a0 33).bind fun r4 => (gR σ a0 34).bind fun r5 => (fX10_copy r4 r5 (sI σ a0 0 0)).bind fun sk6 => (fX10_left_w39 a0 a1 0 sk6).bind (fun o10 => (fun so10 => (gR so10 a0 34).bind fun r11 => (fX10_thereIn a0 r11 so10).bind fun vk12 => some (vk12, so10)) o10)
set_option maxRecDepth 20000 in
set_option maxHeartbeats 2000000 in
theorem tX10_left {X : XS} {n : Nat} {σ : Mm} {a0 : Nat} {a1 : Int32} (ha0 : RT n a0 110) {res : Int32 × Mm} (h : fX10_left a0 a1 σ = some res) : MT X yX10_left mX10_left 3 0 0 [.ref a0, .int a1] n σ (n, some (.int res.1), res.2) := by
  unfold fX10_left at h
  refine MT_of (by decide +kernel) rfl (fun h => by cases h) (Nat.le_of_ble_eq_true rfl) ?_
  show J X mX10_left 3 0 0 (n, some (.int res.1), res.2) 0 [(0, .ref a0), (1, .int a1)] [] n σ
  refine J_aload_n (z := 0) dX10_left_0 rfl rfl (q := 1) rfl ?_
  refine J_iconst (x := 0) dX10_left_1 (by decide) (q := 2) rfl ?_
  refine J_putI dX10_left_2 lRX10_96 (fun h => by cases h) ha0 rfl (q := 5) rfl ?_
  refine J_aload_n (z := 0) dX10_left_5 rfl rfl (q := 6) rfl ?_
  refine J_getI dX10_left_6 lRX10_291 ha0 rfl (q := 9) rfl ?_
  refine J_if_eq (tgt := 24) dX10_left_9 (by decide) (q := 12) rfl (fun c0 => ?_) (fun c0 => ?_)
  · rw [if_pos c0] at h
    refine J_iconst (x := (-1)) dX10_left_24 (by decide) (q := 25) rfl ?_
    have h := Option.some.inj h
    subst h
    exact J_ireturn dX10_left_25 rfl rfl rfl
  · rw [if_neg c0] at h
    refine J_iload_n (z := 1) dX10_left_12 rfl rfl (q := 13) rfl ?_
    refine J_i2l dX10_left_13  (q := 14) rfl ?_
    refine J_lconst (x := 0) dX10_left_14 (by decide) (q := 15) rfl ?_
    refine J_ldc2 (x := 99) dX10_left_15 kRX10_361 (q := 18) rfl ?_
    obtain ⟨vk2, hk2, h⟩ := bindS h
    refine J_cSi (as := [.long (Int32.toInt64 a1), .long 0, .long 99]) dX10_left_18 mRX10_217 (tX10_isIn  hk2) rfl (Nat.le_of_ble_eq_true rfl) (Nat.le_of_ble_eq_true rfl) (Nat.le_of_ble_eq_true rfl) (q := 21) rfl ?_
    intro bk2
    refine J_if_ne (tgt := 26) dX10_left_21 (by decide) (q := 24) rfl (fun c2 => ?_) (fun c2 => ?_)
    · rw [if_neg c2] at h
      refine J_aload_n (z := 0) dX10_left_26 rfl rfl (q := 27) rfl ?_
      obtain ⟨r4, er4, h⟩ := bindS h
      refine J_getR dX10_left_27 lRX10_61 ha0 rfl (by decide) er4 (q := 30) rfl (fun fr4 => ?_)
      refine J_aload_n (z := 0) dX10_left_30 rfl rfl (q := 31) rfl ?_
      obtain ⟨r5, er5, h⟩ := bindS h
      refine J_getR dX10_left_31 lRX10_64 ha0 rfl (by decide) er5 (q := 34) rfl (fun fr5 => ?_)
      obtain ⟨sk6, hk6, h⟩ := bindS h
      refine J_cSv (as := [.ref r4, .ref r5]) dX10_left_34 mRX10_436 (tX10_copy fr4 fr5 hk6) rfl (Nat.le_of_ble_eq_true rfl) (Nat.le_of_ble_eq_true rfl) (Nat.le_of_ble_eq_true rfl) (q := 37) rfl ?_
      refine J_iconst (x := 0) dX10_left_37 (by decide) (q := 38) rfl ?_
      refine J_istore_n (lv' := [(2, .int 0), (0, .ref a0), (1, .int a1)]) dX10_left_38 rfl (by decide) rfl (q := 39) rfl ?_
      obtain ⟨o10, hlo10, h⟩ := bindS h
      refine J_pick [1, 2, 0] rfl ?_
      refine tX10_left_w39 ha0 hlo10 ?_
      · intro so10 qo10
        rw [qo10] at h
        try dsimp only [Sum.elim_inl, Sum.elim_inr] at h
        refine J_aload_n (z := 0) dX10_left_58 rfl rfl (q := 59) rfl ?_
        refine J_aload_n (z := 0) dX10_left_59 rfl rfl (q := 60) rfl ?_
        obtain ⟨r11, er11, h⟩ := bindS h
        refine J_getR dX10_left_60 lRX10_64 ha0 rfl (by decide) er11 (q := 63) rfl (fun fr11 => ?_)
        obtain ⟨vk12, hk12, h⟩ := bindS h
        refine J_cVi (as := [.ref r11]) dX10_left_63 mRX10_454 ha0 (tX10_thereIn ha0 fr11 hk12) rfl (Nat.le_of_ble_eq_true rfl) (Nat.le_of_ble_eq_true rfl) (Nat.le_of_ble_eq_true rfl) (q := 66) rfl ?_
        intro bk12
        have h := Option.some.inj h
        subst h
        exact J_ireturn dX10_left_66 rfl rfl rfl
    · rw [if_pos c2] at h
      refine J_iconst (x := (-1)) dX10_left_24 (by decide) (q := 25) rfl ?_
      have h := Option.some.inj h
      subst h
      exact J_ireturn dX10_left_25 rfl rfl rfl

def fX10_last_l28 (a0 : Nat) (a1 : Int32) (a2 : Int32) (σ : Mm) : Option ((Int32 × Mm) ⊕ (Int32 × Mm)) :=
  if 99 < a2 then some (Sum.inr ((-1), σ)) else (gR σ a0 34).bind fun r7 => if ixB (2 * a1) (ln r7) = true then if (gI σ r7 (Int32.toNatClampNeg (2 * a1))) = 0 then some (Sum.inr (a2, σ)) else (fX10_goNight a0 r7 σ).bind fun sk10 => some (Sum.inl ((a2 + 1), sk10)) else none
set_option maxRecDepth 20000 in
set_option maxHeartbeats 2000000 in
theorem tX10_last_l28 {X : XS} {n : Nat} {σ : Mm} {F : Nat × Option Value × Mm} {a0 : Nat} {a1 : Int32} {a2 : Int32} (ha0 : RT n a0 110) {res : (Int32 × Mm) ⊕ (Int32 × Mm)} (h : fX10_last_l28 a0 a1 a2 σ = some res) (hc : ∀ (b2 : Int32) (s : Mm), res = .inl (b2, s) → J X mX10_last 3 0 0 F 28 [(0, .ref a0), (1, .int a1), (2, .int b2)] [] n s) (hr : ∀ (v : Int32) (s : Mm), res = .inr (v, s) → F = (n, some (.int v), s)) : J X mX10_last 3 0 0 F 28 [(0, .ref a0), (1, .int a1), (2, .int a2)] [] n σ := by
  unfold fX10_last_l28 at h
  refine J_iload_n (z := 2) dX10_last_28 rfl rfl (q := 29) rfl ?_
  refine J_bipush (x := 99) dX10_last_29 (by decide) (q := 31) rfl ?_
  refine J_icmp_gt (tgt := 61) dX10_last_31 (by decide) (q := 34) rfl (fun c5 => ?_) (fun c5 => ?_)
  · rw [if_pos c5] at h
    refine J_iconst (x := (-1)) dX10_last_61 (by decide) (q := 62) rfl ?_
    have h := Option.some.inj h
    exact J_ireturn dX10_last_62 rfl rfl (hr _ _ h.symm)
  · rw [if_neg c5] at h
    refine J_aload_n (z := 0) dX10_last_34 rfl rfl (q := 35) rfl ?_
    obtain ⟨r7, er7, h⟩ := bindS h
    refine J_getR dX10_last_35 lRX10_64 ha0 rfl (by decide) er7 (q := 38) rfl (fun fr7 => ?_)
    refine J_iconst (x := 2) dX10_last_38 (by decide) (q := 39) rfl ?_
    refine J_iload_n (z := 1) dX10_last_39 rfl rfl (q := 40) rfl ?_
    refine J_imul dX10_last_40  (q := 41) rfl ?_
    obtain ⟨g8, h⟩ := iteS h
    refine J_iald dX10_last_41 fr7 (ixB_ok g8) (q := 42) rfl ?_
    refine J_if_ne (tgt := 47) dX10_last_42 (by decide) (q := 45) rfl (fun c8 => ?_) (fun c8 => ?_)
    · rw [if_neg c8] at h
      refine J_aload_n (z := 0) dX10_last_47 rfl rfl (q := 48) rfl ?_
      refine J_aload_n (z := 0) dX10_last_48 rfl rfl (q := 49) rfl ?_
      refine J_getR dX10_last_49 lRX10_64 ha0 rfl (by decide) er7 (q := 52) rfl (fun _ => ?_)
      obtain ⟨sk10, hk10, h⟩ := bindS h
      refine J_cVv (as := [.ref r7]) dX10_last_52 mRX10_412 ha0 (tX10_goNight ha0 fr7 hk10) rfl (Nat.le_of_ble_eq_true rfl) (Nat.le_of_ble_eq_true rfl) (Nat.le_of_ble_eq_true rfl) (q := 55) rfl ?_
      refine J_iinc (z := 2) (y := (a2 + 1)) (lv' := [(2, .int (a2 + 1)), (0, .ref a0), (1, .int a1)]) dX10_last_55 rfl rfl (by decide) rfl (q := 58) rfl ?_
      refine J_goto (tgt := 28) dX10_last_58 (by decide) ?_
      have h := Option.some.inj h
      refine J_pick [1, 2, 0] rfl ?_
      exact hc _ _ h.symm
    · rw [if_pos c8] at h
      refine J_iload_n (z := 2) dX10_last_45 rfl rfl (q := 46) rfl ?_
      have h := Option.some.inj h
      exact J_ireturn dX10_last_46 rfl rfl (hr _ _ h.symm)

def fX10_last_w28 (a0 : Nat) (a1 : Int32) (a2 : Int32) (σ : Mm) : Option (Int32 × Mm) :=
  wh (fun a : Int32 × Mm => fX10_last_l28 a0 a1 a.1 a.2) BIG (a2, σ)
set_option maxRecDepth 20000 in
set_option maxHeartbeats 2000000 in
theorem tX10_last_w28 {X : XS} {n : Nat} {σ : Mm} {F : Nat × Option Value × Mm} {a0 : Nat} {a1 : Int32} {a2 : Int32} (ha0 : RT n a0 110) {res : Int32 × Mm} (h : fX10_last_w28 a0 a1 a2 σ = some res) (hr : ∀ (v : Int32) (s : Mm), res = (v, s) → F = (n, some (.int v), s)) : J X mX10_last 3 0 0 F 28 [(0, .ref a0), (1, .int a1), (2, .int a2)] [] n σ := by
  unfold fX10_last_w28 at h
  refine wh_rule (P := fun a : Int32 × Mm => J X mX10_last 3 0 0 F 28 [(0, .ref a0), (1, .int a1), (2, .int a.1)] [] n a.2) (K := fun b => b = res) ?_ _ _ _ h rfl
  intro a
  refine ⟨fun a2 hb hP => ?_, fun b hb hK => ?_⟩
  · exact tX10_last_l28 ha0 hb (fun _ _ e => by cases e; exact hP) (fun _ _ e => by cases e)
  · subst hK
    exact tX10_last_l28 ha0 hb (fun _ _ e => by cases e) (fun v0 v1 e => hr v0 v1 (Sum.inr.inj e))

def fX10_last (a0 : Nat) (a1 : Int32) (σ : Mm) : Option (Int32 × Mm) :=
  (fX10_isPage a0 a1 (sI σ a0 0 0)).bind fun vk1 => if vk1 = 0 then some ((-1), (sI σ a0 0 0)) else (gR σ a0 33).bind fun r3 => (gR σ a0 34).bind fun r4 => (fX10_copy r3 r4 (sI σ a0 0 0)).bind fun sk5 => (fX10_last_w28 a0 a1 0 sk5).bind (fun o11 => some o11)
set_option maxRecDepth 20000 in
set_option maxHeartbeats 2000000 in
theorem tX10_last {X : XS} {n : Nat} {σ : Mm} {a0 : Nat} {a1 : Int32} (ha0 : RT n a0 110) {res : Int32 × Mm} (h : fX10_last a0 a1 σ = some res) : MT X yX10_last mX10_last 3 0 0 [.ref a0, .int a1] n σ (n, some (.int res.1), res.2) := by
  unfold fX10_last at h
  refine MT_of (by decide +kernel) rfl (fun h => by cases h) (Nat.le_of_ble_eq_true rfl) ?_
  show J X mX10_last 3 0 0 (n, some (.int res.1), res.2) 0 [(0, .ref a0), (1, .int a1)] [] n σ
  refine J_aload_n (z := 0) dX10_last_0 rfl rfl (q := 1) rfl ?_
  refine J_iconst (x := 0) dX10_last_1 (by decide) (q := 2) rfl ?_
  refine J_putI dX10_last_2 lRX10_96 (fun h => by cases h) ha0 rfl (q := 5) rfl ?_
  refine J_aload_n (z := 0) dX10_last_5 rfl rfl (q := 6) rfl ?_
  refine J_iload_n (z := 1) dX10_last_6 rfl rfl (q := 7) rfl ?_
  obtain ⟨vk1, hk1, h⟩ := bindS h
  refine J_cVi (as := [.int a1]) dX10_last_7 mRX10_346 ha0 (tX10_isPage ha0 hk1) rfl (Nat.le_of_ble_eq_true rfl) (Nat.le_of_ble_eq_true rfl) (Nat.le_of_ble_eq_true rfl) (q := 10) rfl ?_
  intro bk1
  refine J_if_ne (tgt := 15) dX10_last_10 (by decide) (q := 13) rfl (fun c1 => ?_) (fun c1 => ?_)
  · rw [if_neg c1] at h
    refine J_aload_n (z := 0) dX10_last_15 rfl rfl (q := 16) rfl ?_
    obtain ⟨r3, er3, h⟩ := bindS h
    refine J_getR dX10_last_16 lRX10_61 ha0 rfl (by decide) er3 (q := 19) rfl (fun fr3 => ?_)
    refine J_aload_n (z := 0) dX10_last_19 rfl rfl (q := 20) rfl ?_
    obtain ⟨r4, er4, h⟩ := bindS h
    refine J_getR dX10_last_20 lRX10_64 ha0 rfl (by decide) er4 (q := 23) rfl (fun fr4 => ?_)
    obtain ⟨sk5, hk5, h⟩ := bindS h
    refine J_cSv (as := [.ref r3, .ref r4]) dX10_last_23 mRX10_436 (tX10_copy fr3 fr4 hk5) rfl (Nat.le_of_ble_eq_true rfl) (Nat.le_of_ble_eq_true rfl) (Nat.le_of_ble_eq_true rfl) (q := 26) rfl ?_
    refine J_iconst (x := 0) dX10_last_26 (by decide) (q := 27) rfl ?_
    refine J_istore_n (lv' := [(2, .int 0), (0, .ref a0), (1, .int a1)]) dX10_last_27 rfl (by decide) rfl (q := 28) rfl ?_
    obtain ⟨o11, hlo11, h⟩ := bindS h
    refine J_pick [1, 2, 0] rfl ?_
    refine tX10_last_w28 ha0 hlo11 ?_
    · intro vo11 so11 qo11
      rw [qo11] at h
      try dsimp only [Sum.elim_inl, Sum.elim_inr] at h
      have h := Option.some.inj h
      subst h
      rfl
  · rw [if_pos c1] at h
    refine J_iconst (x := (-1)) dX10_last_13 (by decide) (q := 14) rfl ?_
    have h := Option.some.inj h
    subst h
    exact J_ireturn dX10_last_14 rfl rfl rfl

def fX10_isOf (a0 : Nat) (a1 : Int32) (a2 : Int32) (σ : Mm) : Option (Int32) :=
  (gR σ a0 20).bind fun r1 => if ixB ((4 * a1) + 2) (ln r1) = true then if (gI σ r1 (Int32.toNatClampNeg ((4 * a1) + 2))) = a2 then some 1 else some 0 else none
set_option maxRecDepth 20000 in
set_option maxHeartbeats 2000000 in
theorem tX10_isOf {X : XS} {n : Nat} {σ : Mm} {a0 : Nat} {a1 : Int32} {a2 : Int32} (ha0 : RT n a0 110) {res : Int32} (h : fX10_isOf a0 a1 a2 σ = some res) : MT X yX10_isOf mX10_isOf 1 0 0 [.ref a0, .int a1, .int a2] n σ (n, some (.int res), σ) := by
  unfold fX10_isOf at h
  refine MT_of (by decide +kernel) rfl (fun h => by cases h) (Nat.le_of_ble_eq_true rfl) ?_
  show J X mX10_isOf 1 0 0 (n, some (.int res), σ) 0 [(0, .ref a0), (1, .int a1), (2, .int a2)] [] n σ
  refine J_aload_n (z := 0) dX10_isOf_0 rfl rfl (q := 1) rfl ?_
  obtain ⟨r1, er1, h⟩ := bindS h
  refine J_getR dX10_isOf_1 lRX10_43 ha0 rfl (by decide) er1 (q := 4) rfl (fun fr1 => ?_)
  refine J_iconst (x := 4) dX10_isOf_4 (by decide) (q := 5) rfl ?_
  refine J_iload_n (z := 1) dX10_isOf_5 rfl rfl (q := 6) rfl ?_
  refine J_imul dX10_isOf_6  (q := 7) rfl ?_
  refine J_iconst (x := 2) dX10_isOf_7 (by decide) (q := 8) rfl ?_
  refine J_iadd dX10_isOf_8  (q := 9) rfl ?_
  obtain ⟨g2, h⟩ := iteS h
  refine J_iald dX10_isOf_9 fr1 (ixB_ok g2) (q := 10) rfl ?_
  refine J_iload_n (z := 2) dX10_isOf_10 rfl rfl (q := 11) rfl ?_
  refine J_icmp_ne (tgt := 18) dX10_isOf_11 (by decide) (q := 14) rfl (fun c2 => ?_) (fun c2 => ?_)
  · rw [if_neg c2] at h
    refine J_iconst (x := 0) dX10_isOf_18 (by decide) (q := 19) rfl ?_
    have h := Option.some.inj h
    subst h
    exact J_ireturn dX10_isOf_19 rfl rfl rfl
  · rw [if_pos c2] at h
    refine J_iconst (x := 1) dX10_isOf_14 (by decide) (q := 15) rfl ?_
    refine J_goto (tgt := 19) dX10_isOf_15 (by decide) ?_
    have h := Option.some.inj h
    subst h
    exact J_ireturn dX10_isOf_19 rfl rfl rfl

def fX10_load_l2 (a0 : Nat) (a1 : Int32) (a2 : Nat) (a3 : Int32) (σ : Mm) : Option ((Int32 × Mm) ⊕ (Mm)) :=
  if 351 ≤ a3 then some (Sum.inr σ) else (gR σ a0 35).bind fun r2 => if ixB ((351 * a1) + a3) (ln r2) = true then if ixB a3 (ln a2) = true then some (Sum.inl ((a3 + 1), (sI σ a2 (Int32.toNatClampNeg a3) (gI σ r2 (Int32.toNatClampNeg ((351 * a1) + a3)))))) else none else none
set_option maxRecDepth 20000 in
set_option maxHeartbeats 2000000 in
theorem tX10_load_l2 {X : XS} {n : Nat} {σ : Mm} {F : Nat × Option Value × Mm} {a0 : Nat} {a1 : Int32} {a2 : Nat} {a3 : Int32} (ha0 : RT n a0 110) (ha2 : RT n a2 200) {res : (Int32 × Mm) ⊕ (Mm)} (h : fX10_load_l2 a0 a1 a2 a3 σ = some res) (hc : ∀ (b3 : Int32) (s : Mm), res = .inl (b3, s) → J X mX10_load 1 0 0 F 2 [(0, .ref a0), (1, .int a1), (2, .ref a2), (3, .int b3)] [] n s) (hr : ∀ (s : Mm), res = .inr s → F = (n, none, s)) : J X mX10_load 1 0 0 F 2 [(0, .ref a0), (1, .int a1), (2, .ref a2), (3, .int a3)] [] n σ := by
  unfold fX10_load_l2 at h
  refine J_iload_n (z := 3) dX10_load_2 rfl rfl (q := 3) rfl ?_
  refine J_sipush (x := 351) dX10_load_3 (by decide) (q := 6) rfl ?_
  refine J_icmp_ge (tgt := 30) dX10_load_6 (by decide) (q := 9) rfl (fun c0 => ?_) (fun c0 => ?_)
  · rw [if_pos c0] at h
    have h := Option.some.inj h
    exact J_return dX10_load_30 rfl (hr _ h.symm)
  · rw [if_neg c0] at h
    refine J_aload_n (z := 2) dX10_load_9 rfl rfl (q := 10) rfl ?_
    refine J_iload_n (z := 3) dX10_load_10 rfl rfl (q := 11) rfl ?_
    refine J_aload_n (z := 0) dX10_load_11 rfl rfl (q := 12) rfl ?_
    obtain ⟨r2, er2, h⟩ := bindS h
    refine J_getR dX10_load_12 lRX10_67 ha0 rfl (by decide) er2 (q := 15) rfl (fun fr2 => ?_)
    refine J_sipush (x := 351) dX10_load_15 (by decide) (q := 18) rfl ?_
    refine J_iload_n (z := 1) dX10_load_18 rfl rfl (q := 19) rfl ?_
    refine J_imul dX10_load_19  (q := 20) rfl ?_
    refine J_iload_n (z := 3) dX10_load_20 rfl rfl (q := 21) rfl ?_
    refine J_iadd dX10_load_21  (q := 22) rfl ?_
    obtain ⟨g3, h⟩ := iteS h
    refine J_iald dX10_load_22 fr2 (ixB_ok g3) (q := 23) rfl ?_
    obtain ⟨g4, h⟩ := iteS h
    refine J_iast dX10_load_23 ha2 (ixB_ok g4) (q := 24) rfl ?_
    refine J_iinc (z := 3) (y := (a3 + 1)) (lv' := [(3, .int (a3 + 1)), (0, .ref a0), (1, .int a1), (2, .ref a2)]) dX10_load_24 rfl rfl (by decide) rfl (q := 27) rfl ?_
    refine J_goto (tgt := 2) dX10_load_27 (by decide) ?_
    have h := Option.some.inj h
    refine J_pick [1, 2, 3, 0] rfl ?_
    exact hc _ _ h.symm

def fX10_load_w2 (a0 : Nat) (a1 : Int32) (a2 : Nat) (a3 : Int32) (σ : Mm) : Option (Mm) :=
  wh (fun a : Int32 × Mm => fX10_load_l2 a0 a1 a2 a.1 a.2) BIG (a3, σ)
set_option maxRecDepth 20000 in
set_option maxHeartbeats 2000000 in
theorem tX10_load_w2 {X : XS} {n : Nat} {σ : Mm} {F : Nat × Option Value × Mm} {a0 : Nat} {a1 : Int32} {a2 : Nat} {a3 : Int32} (ha0 : RT n a0 110) (ha2 : RT n a2 200) {res : Mm} (h : fX10_load_w2 a0 a1 a2 a3 σ = some res) (hr : ∀ (s : Mm), res = s → F = (n, none, s)) : J X mX10_load 1 0 0 F 2 [(0, .ref a0), (1, .int a1), (2, .ref a2), (3, .int a3)] [] n σ := by
  unfold fX10_load_w2 at h
  refine wh_rule (P := fun a : Int32 × Mm => J X mX10_load 1 0 0 F 2 [(0, .ref a0), (1, .int a1), (2, .ref a2), (3, .int a.1)] [] n a.2) (K := fun b => b = res) ?_ _ _ _ h rfl
  intro a
  refine ⟨fun a2 hb hP => ?_, fun b hb hK => ?_⟩
  · exact tX10_load_l2 ha0 ha2 hb (fun _ _ e => by cases e; exact hP) (fun _ e => by cases e)
  · subst hK
    exact tX10_load_l2 ha0 ha2 hb (fun _ _ e => by cases e) (fun v0 e => hr v0 (Sum.inr.inj e))

def fX10_load (a0 : Nat) (a1 : Int32) (a2 : Nat) (σ : Mm) : Option (Mm) :=
  (fX10_load_w2 a0 a1 a2 0 σ).bind (fun o5 => some o5)
set_option maxRecDepth 20000 in
set_option maxHeartbeats 2000000 in
theorem tX10_load {X : XS} {n : Nat} {σ : Mm} {a0 : Nat} {a1 : Int32} {a2 : Nat} (ha0 : RT n a0 110) (ha2 : RT n a2 200) {res : Mm} (h : fX10_load a0 a1 a2 σ = some res) : MT X yX10_load mX10_load 1 0 0 [.ref a0, .int a1, .ref a2] n σ (n, none, res) := by
  unfold fX10_load at h
  refine MT_of (by decide +kernel) rfl (fun h => by cases h) (Nat.le_of_ble_eq_true rfl) ?_
  show J X mX10_load 1 0 0 (n, none, res) 0 [(0, .ref a0), (1, .int a1), (2, .ref a2)] [] n σ
  refine J_iconst (x := 0) dX10_load_0 (by decide) (q := 1) rfl ?_
  refine J_istore_n (lv' := [(3, .int 0), (0, .ref a0), (1, .int a1), (2, .ref a2)]) dX10_load_1 rfl (by decide) rfl (q := 2) rfl ?_
  obtain ⟨o5, hlo5, h⟩ := bindS h
  refine J_pick [1, 2, 3, 0] rfl ?_
  refine tX10_load_w2 ha0 ha2 hlo5 ?_
  · intro so5 qo5
    rw [qo5] at h
    try dsimp only [Sum.elim_inl, Sum.elim_inr] at h
    have h := Option.some.inj h
    subst h
    rfl

def fX10_save_l2 (a0 : Nat) (a1 : Int32) (a2 : Nat) (a3 : Int32) (σ : Mm) : Option ((Int32 × Mm) ⊕ (Mm)) :=
  if 351 ≤ a3 then some (Sum.inr σ) else (gR σ a0 35).bind fun r2 => if ixB a3 (ln a2) = true then if ixB ((351 * a1) + a3) (ln r2) = true then some (Sum.inl ((a3 + 1), (sI σ r2 (Int32.toNatClampNeg ((351 * a1) + a3)) (gI σ a2 (Int32.toNatClampNeg a3))))) else none else none
set_option maxRecDepth 20000 in
set_option maxHeartbeats 2000000 in
theorem tX10_save_l2 {X : XS} {n : Nat} {σ : Mm} {F : Nat × Option Value × Mm} {a0 : Nat} {a1 : Int32} {a2 : Nat} {a3 : Int32} (ha0 : RT n a0 110) (ha2 : RT n a2 200) {res : (Int32 × Mm) ⊕ (Mm)} (h : fX10_save_l2 a0 a1 a2 a3 σ = some res) (hc : ∀ (b3 : Int32) (s : Mm), res = .inl (b3, s) → J X mX10_save 1 0 0 F 2 [(0, .ref a0), (1, .int a1), (2, .ref a2), (3, .int b3)] [] n s) (hr : ∀ (s : Mm), res = .inr s → F = (n, none, s)) : J X mX10_save 1 0 0 F 2 [(0, .ref a0), (1, .int a1), (2, .ref a2), (3, .int a3)] [] n σ := by
  unfold fX10_save_l2 at h
  refine J_iload_n (z := 3) dX10_save_2 rfl rfl (q := 3) rfl ?_
  refine J_sipush (x := 351) dX10_save_3 (by decide) (q := 6) rfl ?_
  refine J_icmp_ge (tgt := 30) dX10_save_6 (by decide) (q := 9) rfl (fun c0 => ?_) (fun c0 => ?_)
  · rw [if_pos c0] at h
    have h := Option.some.inj h
    exact J_return dX10_save_30 rfl (hr _ h.symm)
  · rw [if_neg c0] at h
    refine J_aload_n (z := 0) dX10_save_9 rfl rfl (q := 10) rfl ?_
    obtain ⟨r2, er2, h⟩ := bindS h
    refine J_getR dX10_save_10 lRX10_67 ha0 rfl (by decide) er2 (q := 13) rfl (fun fr2 => ?_)
    refine J_sipush (x := 351) dX10_save_13 (by decide) (q := 16) rfl ?_
    refine J_iload_n (z := 1) dX10_save_16 rfl rfl (q := 17) rfl ?_
    refine J_imul dX10_save_17  (q := 18) rfl ?_
    refine J_iload_n (z := 3) dX10_save_18 rfl rfl (q := 19) rfl ?_
    refine J_iadd dX10_save_19  (q := 20) rfl ?_
    refine J_aload_n (z := 2) dX10_save_20 rfl rfl (q := 21) rfl ?_
    refine J_iload_n (z := 3) dX10_save_21 rfl rfl (q := 22) rfl ?_
    obtain ⟨g3, h⟩ := iteS h
    refine J_iald dX10_save_22 ha2 (ixB_ok g3) (q := 23) rfl ?_
    obtain ⟨g4, h⟩ := iteS h
    refine J_iast dX10_save_23 fr2 (ixB_ok g4) (q := 24) rfl ?_
    refine J_iinc (z := 3) (y := (a3 + 1)) (lv' := [(3, .int (a3 + 1)), (0, .ref a0), (1, .int a1), (2, .ref a2)]) dX10_save_24 rfl rfl (by decide) rfl (q := 27) rfl ?_
    refine J_goto (tgt := 2) dX10_save_27 (by decide) ?_
    have h := Option.some.inj h
    refine J_pick [1, 2, 3, 0] rfl ?_
    exact hc _ _ h.symm

def fX10_save_w2 (a0 : Nat) (a1 : Int32) (a2 : Nat) (a3 : Int32) (σ : Mm) : Option (Mm) :=
  wh (fun a : Int32 × Mm => fX10_save_l2 a0 a1 a2 a.1 a.2) BIG (a3, σ)
set_option maxRecDepth 20000 in
set_option maxHeartbeats 2000000 in
theorem tX10_save_w2 {X : XS} {n : Nat} {σ : Mm} {F : Nat × Option Value × Mm} {a0 : Nat} {a1 : Int32} {a2 : Nat} {a3 : Int32} (ha0 : RT n a0 110) (ha2 : RT n a2 200) {res : Mm} (h : fX10_save_w2 a0 a1 a2 a3 σ = some res) (hr : ∀ (s : Mm), res = s → F = (n, none, s)) : J X mX10_save 1 0 0 F 2 [(0, .ref a0), (1, .int a1), (2, .ref a2), (3, .int a3)] [] n σ := by
  unfold fX10_save_w2 at h
  refine wh_rule (P := fun a : Int32 × Mm => J X mX10_save 1 0 0 F 2 [(0, .ref a0), (1, .int a1), (2, .ref a2), (3, .int a.1)] [] n a.2) (K := fun b => b = res) ?_ _ _ _ h rfl
  intro a
  refine ⟨fun a2 hb hP => ?_, fun b hb hK => ?_⟩
  · exact tX10_save_l2 ha0 ha2 hb (fun _ _ e => by cases e; exact hP) (fun _ e => by cases e)
  · subst hK
    exact tX10_save_l2 ha0 ha2 hb (fun _ _ e => by cases e) (fun v0 e => hr v0 (Sum.inr.inj e))

def fX10_save (a0 : Nat) (a1 : Int32) (a2 : Nat) (σ : Mm) : Option (Mm) :=
  (fX10_save_w2 a0 a1 a2 0 σ).bind (fun o5 => some o5)
set_option maxRecDepth 20000 in
set_option maxHeartbeats 2000000 in
theorem tX10_save {X : XS} {n : Nat} {σ : Mm} {a0 : Nat} {a1 : Int32} {a2 : Nat} (ha0 : RT n a0 110) (ha2 : RT n a2 200) {res : Mm} (h : fX10_save a0 a1 a2 σ = some res) : MT X yX10_save mX10_save 1 0 0 [.ref a0, .int a1, .ref a2] n σ (n, none, res) := by
  unfold fX10_save at h
  refine MT_of (by decide +kernel) rfl (fun h => by cases h) (Nat.le_of_ble_eq_true rfl) ?_
  show J X mX10_save 1 0 0 (n, none, res) 0 [(0, .ref a0), (1, .int a1), (2, .ref a2)] [] n σ
  refine J_iconst (x := 0) dX10_save_0 (by decide) (q := 1) rfl ?_
  refine J_istore_n (lv' := [(3, .int 0), (0, .ref a0), (1, .int a1), (2, .ref a2)]) dX10_save_1 rfl (by decide) rfl (q := 2) rfl ?_
  obtain ⟨o5, hlo5, h⟩ := bindS h
  refine J_pick [1, 2, 3, 0] rfl ?_
  refine tX10_save_w2 ha0 ha2 hlo5 ?_
  · intro so5 qo5
    rw [qo5] at h
    try dsimp only [Sum.elim_inl, Sum.elim_inr] at h
    have h := Option.some.inj h
    subst h
    rfl

def RECX10o (X : XS) (dr n : Nat) (rec : Nat → Int32 → Int32 → Int32 → Int32 → Int32 → Mm → Option Mm) : Prop :=
  (∀ {a0 : Nat} {a1 : Int32} {a2 : Int32} {a3 : Int32} {a4 : Int32} {a5 : Int32} {σ : Mm} {res : Mm}, RT n a0 110 → rec a0 a1 a2 a3 a4 a5 σ = some res → MT X yX10_goOrder mX10_goOrder dr 0 0 [.ref a0, .int a1, .int a2, .int a3, .int a4, .int a5] n σ (n, none, res))
def fX10_goOrder_b148 (rec : Nat → Int32 → Int32 → Int32 → Int32 → Int32 → Mm → Option Mm) (a0 : Nat) (a1 : Int32) (a2 : Int32) (a3 : Int32) (a4 : Int32) (a5 : Int32) (a6 : Int32) (σ : Mm) : Option ((Int32 × Mm) ⊕ (Mm)) :=
  some (Sum.inl ((a6 + 1), σ))
set_option maxRecDepth 20000 in
set_option maxHeartbeats 2000000 in
theorem tX10_goOrder_b148 {X : XS} {n : Nat} {σ : Mm} {F : Nat × Option Value × Mm} {dr : Nat} {rec : Nat → Int32 → Int32 → Int32 → Int32 → Int32 → Mm → Option Mm} (hD : 115 ≤ dr) (hrec : RECX10o X dr n rec) {a0 : Nat} {a1 : Int32} {a2 : Int32} {a3 : Int32} {a4 : Int32} {a5 : Int32} {a6 : Int32} (ha0 : RT n a0 110) {res : (Int32 × Mm) ⊕ (Mm)} (h : fX10_goOrder_b148 rec a0 a1 a2 a3 a4 a5 a6 σ = some res) (hc : ∀ (b6 : Int32) (s : Mm), res = .inl (b6, s) → J X mX10_goOrder (dr + 1) 0 0 F 59 [(0, .ref a0), (1, .int a1), (2, .int a2), (3, .int a3), (4, .int a4), (5, .int a5), (6, .int b6)] [] n s) (hr : ∀ (s : Mm), res = .inr s → F = (n, none, s)) : J X mX10_goOrder (dr + 1) 0 0 F 148 [(0, .ref a0), (1, .int a1), (2, .int a2), (3, .int a3), (4, .int a4), (5, .int a5), (6, .int a6)] [] n σ := by
  unfold fX10_goOrder_b148 at h
  refine J_iinc (z := 6) (y := (a6 + 1)) (lv' := [(6, .int (a6 + 1)), (0, .ref a0), (1, .int a1), (2, .int a2), (3, .int a3), (4, .int a4), (5, .int a5)]) dX10_goOrder_148 rfl rfl (by decide) rfl (q := 151) rfl ?_
  refine J_goto (tgt := 59) dX10_goOrder_151 (by decide) ?_
  have h := Option.some.inj h
  refine J_pick [1, 2, 3, 4, 5, 6, 0] rfl ?_
  exact hc _ _ h.symm

def fX10_goOrder_l59 (rec : Nat → Int32 → Int32 → Int32 → Int32 → Int32 → Mm → Option Mm) (a0 : Nat) (a1 : Int32) (a2 : Int32) (a3 : Int32) (a4 : Int32) (a5 : Int32) (a6 : Int32) (σ : Mm) : Option ((Int32 × Mm) ⊕ (Mm)) :=
  if (gI σ a0 27) ≤ a6 then some (Sum.inr σ) else (fX10_has a2 a6 σ).bind fun vk7 => if vk7 = 0 then fX10_goOrder_b148 rec a0 a1 a2 a3 a4 a5 a6 σ else (gR σ a0 34).bind fun r9 => (fX10_load a0 a3 r9 σ).bind fun sk10 => (gR sk10 a0 34).bind fun r11 => (fX10_canRead a0 r11 a1 a6 sk10).bind fun vk12 => if vk12 = 0 then fX10_goOrder_b148 rec a0 a1 a2 a3 a4 a5 a6 sk10 else bnd2 (fX10_reads a0 r11 a1 a6 sk10) fun vk14 sk14 => (rec a0 a1 (a2 &&& ((shlI 1 a6) ^^^ (-1))) (a3 + 1) ((a4 * 12) + a6) (a5 + vk14) sk14).bind fun sk15 => fX10_goOrder_b148 rec a0 a1 a2 a3 a4 a5 a6 sk15
set_option maxRecDepth 20000 in
set_option maxHeartbeats 2000000 in
theorem tX10_goOrder_l59 {X : XS} {n : Nat} {σ : Mm} {F : Nat × Option Value × Mm} {dr : Nat} {rec : Nat → Int32 → Int32 → Int32 → Int32 → Int32 → Mm → Option Mm} (hD : 115 ≤ dr) (hrec : RECX10o X dr n rec) {a0 : Nat} {a1 : Int32} {a2 : Int32} {a3 : Int32} {a4 : Int32} {a5 : Int32} {a6 : Int32} (ha0 : RT n a0 110) {res : (Int32 × Mm) ⊕ (Mm)} (h : fX10_goOrder_l59 rec a0 a1 a2 a3 a4 a5 a6 σ = some res) (hc : ∀ (b6 : Int32) (s : Mm), res = .inl (b6, s) → J X mX10_goOrder (dr + 1) 0 0 F 59 [(0, .ref a0), (1, .int a1), (2, .int a2), (3, .int a3), (4, .int a4), (5, .int a5), (6, .int b6)] [] n s) (hr : ∀ (s : Mm), res = .inr s → F = (n, none, s)) : J X mX10_goOrder (dr + 1) 0 0 F 59 [(0, .ref a0), (1, .int a1), (2, .int a2), (3, .int a3), (4, .int a4), (5, .int a5), (6, .int a6)] [] n σ := by
  unfold fX10_goOrder_l59 at h
  refine J_iload (z := 6) dX10_goOrder_59 rfl (q := 61) rfl ?_
  refine J_aload_n (z := 0) dX10_goOrder_61 rfl rfl (q := 62) rfl ?_
  refine J_getI dX10_goOrder_62 lRX10_291 ha0 rfl (q := 65) rfl ?_
  refine J_icmp_ge (tgt := 154) dX10_goOrder_65 (by decide) (q := 68) rfl (fun c5 => ?_) (fun c5 => ?_)
  · rw [if_pos c5] at h
    have h := Option.some.inj h
    exact J_return dX10_goOrder_154 rfl (hr _ h.symm)
  · rw [if_neg c5] at h
    refine J_iload_n (z := 2) dX10_goOrder_68 rfl rfl (q := 69) rfl ?_
    refine J_iload (z := 6) dX10_goOrder_69 rfl (q := 71) rfl ?_
    obtain ⟨vk7, hk7, h⟩ := bindS h
    refine J_cSi (as := [.int a2, .int a6]) dX10_goOrder_71 mRX10_229 (tX10_has  hk7) rfl (by omega) (Nat.le_of_ble_eq_true rfl) (Nat.le_of_ble_eq_true rfl) (q := 74) rfl ?_
    intro bk7
    refine J_if_ne (tgt := 80) dX10_goOrder_74 (by decide) (q := 77) rfl (fun c7 => ?_) (fun c7 => ?_)
    · rw [if_neg c7] at h
      refine J_aload_n (z := 0) dX10_goOrder_80 rfl rfl (q := 81) rfl ?_
      refine J_iload_n (z := 3) dX10_goOrder_81 rfl rfl (q := 82) rfl ?_
      refine J_aload_n (z := 0) dX10_goOrder_82 rfl rfl (q := 83) rfl ?_
      obtain ⟨r9, er9, h⟩ := bindS h
      refine J_getR dX10_goOrder_83 lRX10_64 ha0 rfl (by decide) er9 (q := 86) rfl (fun fr9 => ?_)
      obtain ⟨sk10, hk10, h⟩ := bindS h
      refine J_cVv (as := [.int a3, .ref r9]) dX10_goOrder_86 mRX10_467 ha0 (tX10_load ha0 fr9 hk10) rfl (by omega) (Nat.le_of_ble_eq_true rfl) (Nat.le_of_ble_eq_true rfl) (q := 89) rfl ?_
      refine J_aload_n (z := 0) dX10_goOrder_89 rfl rfl (q := 90) rfl ?_
      refine J_aload_n (z := 0) dX10_goOrder_90 rfl rfl (q := 91) rfl ?_
      obtain ⟨r11, er11, h⟩ := bindS h
      refine J_getR dX10_goOrder_91 lRX10_64 ha0 rfl (by decide) er11 (q := 94) rfl (fun fr11 => ?_)
      refine J_iload_n (z := 1) dX10_goOrder_94 rfl rfl (q := 95) rfl ?_
      refine J_iload (z := 6) dX10_goOrder_95 rfl (q := 97) rfl ?_
      obtain ⟨vk12, hk12, h⟩ := bindS h
      refine J_cVi (as := [.ref r11, .int a1, .int a6]) dX10_goOrder_97 mRX10_391 ha0 (tX10_canRead ha0 fr11 hk12) rfl (by omega) (Nat.le_of_ble_eq_true rfl) (Nat.le_of_ble_eq_true rfl) (q := 100) rfl ?_
      intro bk12
      refine J_if_ne (tgt := 106) dX10_goOrder_100 (by decide) (q := 103) rfl (fun c12 => ?_) (fun c12 => ?_)
      · rw [if_neg c12] at h
        refine J_aload_n (z := 0) dX10_goOrder_106 rfl rfl (q := 107) rfl ?_
        refine J_aload_n (z := 0) dX10_goOrder_107 rfl rfl (q := 108) rfl ?_
        refine J_getR dX10_goOrder_108 lRX10_64 ha0 rfl (by decide) er11 (q := 111) rfl (fun _ => ?_)
        refine J_iload_n (z := 1) dX10_goOrder_111 rfl rfl (q := 112) rfl ?_
        refine J_iload (z := 6) dX10_goOrder_112 rfl (q := 114) rfl ?_
        obtain ⟨vk14, sk14, hk14, h⟩ := bnd2S h
        refine J_cVi (as := [.ref r11, .int a1, .int a6]) dX10_goOrder_114 mRX10_397 ha0 (tX10_reads ha0 fr11 hk14) rfl (by omega) (Nat.le_of_ble_eq_true rfl) (Nat.le_of_ble_eq_true rfl) (q := 117) rfl ?_
        intro bk14
        refine J_istore (lv' := [(7, .int vk14), (0, .ref a0), (1, .int a1), (2, .int a2), (3, .int a3), (4, .int a4), (5, .int a5), (6, .int a6)]) dX10_goOrder_117 (by decide) rfl (q := 119) rfl ?_
        refine J_aload_n (z := 1) dX10_goOrder_119 rfl rfl (q := 120) rfl ?_
        refine J_iload_n (z := 2) dX10_goOrder_120 rfl rfl (q := 121) rfl ?_
        refine J_iload_n (z := 3) dX10_goOrder_121 rfl rfl (q := 122) rfl ?_
        refine J_iconst (x := 1) dX10_goOrder_122 (by decide) (q := 123) rfl ?_
        refine J_iload (z := 7) dX10_goOrder_123 rfl (q := 125) rfl ?_
        refine J_ishl dX10_goOrder_125  (q := 126) rfl ?_
        refine J_iconst (x := (-1)) dX10_goOrder_126 (by decide) (q := 127) rfl ?_
        refine J_ixor dX10_goOrder_127  (q := 128) rfl ?_
        refine J_iand dX10_goOrder_128  (q := 129) rfl ?_
        refine J_iload_n (z := 4) dX10_goOrder_129 rfl rfl (q := 130) rfl ?_
        refine J_iconst (x := 1) dX10_goOrder_130 (by decide) (q := 131) rfl ?_
        refine J_iadd dX10_goOrder_131  (q := 132) rfl ?_
        refine J_iload (z := 5) dX10_goOrder_132 rfl (q := 134) rfl ?_
        refine J_bipush (x := 12) dX10_goOrder_134 (by decide) (q := 136) rfl ?_
        refine J_imul dX10_goOrder_136  (q := 137) rfl ?_
        refine J_iload (z := 7) dX10_goOrder_137 rfl (q := 139) rfl ?_
        refine J_iadd dX10_goOrder_139  (q := 140) rfl ?_
        refine J_iload (z := 6) dX10_goOrder_140 rfl (q := 142) rfl ?_
        refine J_iload (z := 0) dX10_goOrder_142 rfl (q := 144) rfl ?_
        refine J_iadd dX10_goOrder_144  (q := 145) rfl ?_
        obtain ⟨sk15, hk15, h⟩ := bindS h
        refine J_cVv (as := [.int a1, .int (a2 &&& ((shlI 1 a6) ^^^ (-1))), .int (a3 + 1), .int ((a4 * 12) + a6), .int (a5 + vk14)]) dX10_goOrder_145 mRX10_470 ha0 (hrec ha0 hk15) rfl (Nat.le_refl _) (Nat.le_of_ble_eq_true rfl) (Nat.le_of_ble_eq_true rfl) (q := 148) rfl ?_
        refine J_pick [1, 2, 3, 4, 5, 6, 7] rfl ?_
        exact tX10_goOrder_b148 hD hrec ha0 h hc hr
      · rw [if_pos c12] at h
        refine J_goto (tgt := 148) dX10_goOrder_103 (by decide) ?_
        refine J_pick [0, 1, 2, 3, 4, 5, 6] rfl ?_
        exact tX10_goOrder_b148 hD hrec ha0 h hc hr
    · rw [if_pos c7] at h
      refine J_goto (tgt := 148) dX10_goOrder_77 (by decide) ?_
      refine J_pick [0, 1, 2, 3, 4, 5, 6] rfl ?_
      exact tX10_goOrder_b148 hD hrec ha0 h hc hr

def fX10_goOrder_w59 (rec : Nat → Int32 → Int32 → Int32 → Int32 → Int32 → Mm → Option Mm) (a0 : Nat) (a1 : Int32) (a2 : Int32) (a3 : Int32) (a4 : Int32) (a5 : Int32) (a6 : Int32) (σ : Mm) : Option (Mm) :=
  wh (fun a : Int32 × Mm => fX10_goOrder_l59 rec a0 a1 a2 a3 a4 a5 a.1 a.2) BIG (a6, σ)
set_option maxRecDepth 20000 in
set_option maxHeartbeats 2000000 in
theorem tX10_goOrder_w59 {X : XS} {n : Nat} {σ : Mm} {F : Nat × Option Value × Mm} {dr : Nat} {rec : Nat → Int32 → Int32 → Int32 → Int32 → Int32 → Mm → Option Mm} (hD : 115 ≤ dr) (hrec : RECX10o X dr n rec) {a0 : Nat} {a1 : Int32} {a2 : Int32} {a3 : Int32} {a4 : Int32} {a5 : Int32} {a6 : Int32} (ha0 : RT n a0 110) {res : Mm} (h : fX10_goOrder_w59 rec a0 a1 a2 a3 a4 a5 a6 σ = some res) (hr : ∀ (s : Mm), res = s → F = (n, none, s)) : J X mX10_goOrder (dr + 1) 0 0 F 59 [(0, .ref a0), (1, .int a1), (2, .int a2), (3, .int a3), (4, .int a4), (5, .int a5), (6, .int a6)] [] n σ := by
  unfold fX10_goOrder_w59 at h
  refine wh_rule (P := fun a : Int32 × Mm => J X mX10_goOrder (dr + 1) 0 0 F 59 [(0, .ref a0), (1, .int a1), (2, .int a2), (3, .int a3), (4, .int a4), (5, .int a5), (6, .int a.1)] [] n a.2) (K := fun b => b = res) ?_ _ _ _ h rfl
  intro a
  refine ⟨fun a2 hb hP => ?_, fun b hb hK => ?_⟩
  · exact tX10_goOrder_l59 hD hrec ha0 hb (fun _ _ e => by cases e; exact hP) (fun _ e => by cases e)
  · subst hK
    exact tX10_goOrder_l59 hD hrec ha0 hb (fun _ _ e => by cases e) (fun v0 e => hr v0 (Sum.inr.inj e))

def fX10_goOrder_b47 (rec : Nat → Int32 → Int32 → Int32 → Int32 → Int32 → Mm → Option Mm) (a0 : Nat) (a1 : Int32) (a2 : Int32) (a3 : Int32) (a4 : Int32) (a5 : Int32) (σ : Mm) : Option (Mm) :=
  (gR σ a0 34).bind fun r4 => (fX10_save a0 a3 r4 σ).bind fun sk5 => (fX10_goOrder_w59 rec a0 a1 a2 a3 a4 a5 0 sk5).bind (fun o16 => some o16)
set_option maxRecDepth 20000 in
set_option maxHeartbeats 2000000 in
theorem tX10_goOrder_b47 {X : XS} {n : Nat} {σ : Mm} {dr : Nat} {rec : Nat → Int32 → Int32 → Int32 → Int32 → Int32 → Mm → Option Mm} (hD : 115 ≤ dr) (hrec : RECX10o X dr n rec) {a0 : Nat} {a1 : Int32} {a2 : Int32} {a3 : Int32} {a4 : Int32} {a5 : Int32} (ha0 : RT n a0 110) {res : Mm} (h : fX10_goOrder_b47 rec a0 a1 a2 a3 a4 a5 σ = some res) : J X mX10_goOrder (dr + 1) 0 0 (n, none, res) 47 [(0, .ref a0), (1, .int a1), (2, .int a2), (3, .int a3), (4, .int a4), (5, .int a5)] [] n σ := by
  unfold fX10_goOrder_b47 at h
  refine J_aload_n (z := 0) dX10_goOrder_47 rfl rfl (q := 48) rfl ?_
  refine J_iload_n (z := 3) dX10_goOrder_48 rfl rfl (q := 49) rfl ?_
  refine J_aload_n (z := 0) dX10_goOrder_49 rfl rfl (q := 50) rfl ?_
  obtain ⟨r4, er4, h⟩ := bindS h
  refine J_getR dX10_goOrder_50 lRX10_64 ha0 rfl (by decide) er4 (q := 53) rfl (fun fr4 => ?_)
  obtain ⟨sk5, hk5, h⟩ := bindS h
  refine J_cVv (as := [.int a3, .ref r4]) dX10_goOrder_53 mRX10_463 ha0 (tX10_save ha0 fr4 hk5) rfl (by omega) (Nat.le_of_ble_eq_true rfl) (Nat.le_of_ble_eq_true rfl) (q := 56) rfl ?_
  refine J_iconst (x := 0) dX10_goOrder_56 (by decide) (q := 57) rfl ?_
  refine J_istore (lv' := [(6, .int 0), (0, .ref a0), (1, .int a1), (2, .int a2), (3, .int a3), (4, .int a4), (5, .int a5)]) dX10_goOrder_57 (by decide) rfl (q := 59) rfl ?_
  obtain ⟨o16, hlo16, h⟩ := bindS h
  refine J_pick [1, 2, 3, 4, 5, 6, 0] rfl ?_
  refine tX10_goOrder_w59 hD hrec ha0 hlo16 ?_
  · intro so16 qo16
    rw [qo16] at h
    try dsimp only [Sum.elim_inl, Sum.elim_inr] at h
    have h := Option.some.inj h
    subst h
    rfl

def fX10_goOrder_b18 (rec : Nat → Int32 → Int32 → Int32 → Int32 → Int32 → Mm → Option Mm) (a0 : Nat) (a1 : Int32) (a2 : Int32) (a3 : Int32) (a4 : Int32) (a5 : Int32) (σ : Mm) : Option (Mm) :=
  if a2 = 0 then some (sI (sI σ a0 44 a5) a0 45 a4) else if a3 ≤ 0 then fX10_goOrder_b47 rec a0 a1 a2 a3 a4 a5 σ else (gR σ a0 34).bind fun r17 => (fX10_goNight a0 r17 σ).bind fun sk18 => fX10_goOrder_b47 rec a0 a1 a2 a3 a4 a5 sk18
set_option maxRecDepth 20000 in
set_option maxHeartbeats 2000000 in
theorem tX10_goOrder_b18 {X : XS} {n : Nat} {σ : Mm} {dr : Nat} {rec : Nat → Int32 → Int32 → Int32 → Int32 → Int32 → Mm → Option Mm} (hD : 115 ≤ dr) (hrec : RECX10o X dr n rec) {a0 : Nat} {a1 : Int32} {a2 : Int32} {a3 : Int32} {a4 : Int32} {a5 : Int32} (ha0 : RT n a0 110) {res : Mm} (h : fX10_goOrder_b18 rec a0 a1 a2 a3 a4 a5 σ = some res) : J X mX10_goOrder (dr + 1) 0 0 (n, none, res) 18 [(0, .ref a0), (1, .int a1), (2, .int a2), (3, .int a3), (4, .int a4), (5, .int a5)] [] n σ := by
  unfold fX10_goOrder_b18 at h
  refine J_iload_n (z := 2) dX10_goOrder_18 rfl rfl (q := 19) rfl ?_
  refine J_if_ne (tgt := 35) dX10_goOrder_19 (by decide) (q := 22) rfl (fun c1 => ?_) (fun c1 => ?_)
  · rw [if_neg c1] at h
    refine J_iload_n (z := 3) dX10_goOrder_35 rfl rfl (q := 36) rfl ?_
    refine J_if_le (tgt := 47) dX10_goOrder_36 (by decide) (q := 39) rfl (fun c2 => ?_) (fun c2 => ?_)
    · rw [if_pos c2] at h
      refine J_pick [0, 1, 2, 3, 4, 5] rfl ?_
      exact tX10_goOrder_b47 hD hrec ha0 h
    · rw [if_neg c2] at h
      refine J_aload_n (z := 0) dX10_goOrder_39 rfl rfl (q := 40) rfl ?_
      refine J_aload_n (z := 0) dX10_goOrder_40 rfl rfl (q := 41) rfl ?_
      obtain ⟨r17, er17, h⟩ := bindS h
      refine J_getR dX10_goOrder_41 lRX10_64 ha0 rfl (by decide) er17 (q := 44) rfl (fun fr17 => ?_)
      obtain ⟨sk18, hk18, h⟩ := bindS h
      refine J_cVv (as := [.ref r17]) dX10_goOrder_44 mRX10_412 ha0 (tX10_goNight ha0 fr17 hk18) rfl (by omega) (Nat.le_of_ble_eq_true rfl) (Nat.le_of_ble_eq_true rfl) (q := 47) rfl ?_
      refine J_pick [0, 1, 2, 3, 4, 5] rfl ?_
      exact tX10_goOrder_b47 hD hrec ha0 h
  · rw [if_pos c1] at h
    refine J_aload_n (z := 0) dX10_goOrder_22 rfl rfl (q := 23) rfl ?_
    refine J_iload (z := 5) dX10_goOrder_23 rfl (q := 25) rfl ?_
    refine J_putI dX10_goOrder_25 lRX10_457 (fun h => by cases h) ha0 rfl (q := 28) rfl ?_
    refine J_aload_n (z := 0) dX10_goOrder_28 rfl rfl (q := 29) rfl ?_
    refine J_iload (z := 4) dX10_goOrder_29 rfl (q := 31) rfl ?_
    refine J_putI dX10_goOrder_31 lRX10_460 (fun h => by cases h) ha0 rfl (q := 34) rfl ?_
    have h := Option.some.inj h
    subst h
    exact J_return dX10_goOrder_34 rfl rfl

def fX10_goOrder (rec : Nat → Int32 → Int32 → Int32 → Int32 → Int32 → Mm → Option Mm) (a0 : Nat) (a1 : Int32) (a2 : Int32) (a3 : Int32) (a4 : Int32) (a5 : Int32) (σ : Mm) : Option (Mm) :=
  if (gI σ a0 44) = (-1) then fX10_goOrder_b18 rec a0 a1 a2 a3 a4 a5 σ else if a5 < (gI σ a0 44) then fX10_goOrder_b18 rec a0 a1 a2 a3 a4 a5 σ else some σ
set_option maxRecDepth 20000 in
set_option maxHeartbeats 2000000 in
theorem tX10_goOrder {X : XS} {n : Nat} {σ : Mm} {dr : Nat} {rec : Nat → Int32 → Int32 → Int32 → Int32 → Int32 → Mm → Option Mm} (hD : 115 ≤ dr) (hrec : RECX10o X dr n rec) {a0 : Nat} {a1 : Int32} {a2 : Int32} {a3 : Int32} {a4 : Int32} {a5 : Int32} (ha0 : RT n a0 110) {res : Mm} (h : fX10_goOrder rec a0 a1 a2 a3 a4 a5 σ = some res) : MT X yX10_goOrder mX10_goOrder (dr + 1) 0 0 [.ref a0, .int a1, .int a2, .int a3, .int a4, .int a5] n σ (n, none, res) := by
  unfold fX10_goOrder at h
  refine MT_of (by decide +kernel) rfl (fun h => by cases h) (Nat.le_of_ble_eq_true rfl) ?_
  show J X mX10_goOrder (dr + 1) 0 0 (n, none, res) 0 [(0, .ref a0), (1, .int a1), (2, .int a2), (3, .int a3), (4, .int a4), (5, .int a5)] [] n σ
  refine J_aload_n (z := 0) dX10_goOrder_0 rfl rfl (q := 1) rfl ?_
  refine J_getI dX10_goOrder_1 lRX10_457 ha0 rfl (q := 4) rfl ?_
  refine J_iconst (x := (-1)) dX10_goOrder_4 (by decide) (q := 5) rfl ?_
  refine J_icmp_eq (tgt := 18) dX10_goOrder_5 (by decide) (q := 8) rfl (fun c0 => ?_) (fun c0 => ?_)
  · rw [if_pos c0] at h
    refine J_pick [0, 1, 2, 3, 4, 5] rfl ?_
    exact tX10_goOrder_b18 hD hrec ha0 h
  · rw [if_neg c0] at h
    refine J_iload (z := 5) dX10_goOrder_8 rfl (q := 10) rfl ?_
    refine J_aload_n (z := 0) dX10_goOrder_10 rfl rfl (q := 11) rfl ?_
    refine J_getI dX10_goOrder_11 lRX10_457 ha0 rfl (q := 14) rfl ?_
    refine J_icmp_lt (tgt := 18) dX10_goOrder_14 (by decide) (q := 17) rfl (fun c18 => ?_) (fun c18 => ?_)
    · rw [if_pos c18] at h
      refine J_pick [0, 1, 2, 3, 4, 5] rfl ?_
      exact tX10_goOrder_b18 hD hrec ha0 h
    · rw [if_neg c18] at h
      have h := Option.some.inj h
      subst h
      exact J_return dX10_goOrder_17 rfl rfl

def gX10o : Nat → Nat → Int32 → Int32 → Int32 → Int32 → Int32 → Mm → Option Mm
  | 0, _, _, _, _, _, _, _ => none
  | k + 1, a0, a1, a2, a3, a4, a5, σ => fX10_goOrder (gX10o k) a0 a1 a2 a3 a4 a5 σ
theorem tgX10o {X : XS} {n : Nat} : ∀ k : Nat, RECX10o X (115 + k) n (gX10o k) := by
  intro k
  induction k with
  | zero =>
    unfold RECX10o
    exact fun _ h => (by cases h)
  | succ k ih =>
    unfold RECX10o
    exact fun h0 h => tX10_goOrder (Nat.le_add_right 115 k) ih h0 h
def fX10_order_b35 (σ : Mm) : Option (Int32 × Mm) :=
  some ((-1000000), σ)
set_option maxRecDepth 20000 in
set_option maxHeartbeats 2000000 in
theorem tX10_order_b35 {X : XS} {n : Nat} {σ : Mm} {res : Int32 × Mm} (h : fX10_order_b35  σ = some res) : J X mX10_order 216 0 0 (n, some (.int res.1), res.2) 35 [] [] n σ := by
  unfold fX10_order_b35 at h
  refine J_ldcw (x := (-1000000)) dX10_order_35 kRX10_432 (q := 38) rfl ?_
  have h := Option.some.inj h
  subst h
  exact J_ireturn dX10_order_38 rfl rfl rfl

def fX10_order_b86 (a0 : Nat) (a1 : Int32) (a2 : Int32) (a3 : Int32) (a5 : Int32) (z0 : Int32) (z1 : Int32) (σ : Mm) : Option ((Int32 × Int32) ⊕ (Int32)) :=
  some (Sum.inl ((z0 ||| z1), (a5 + 1)))
set_option maxRecDepth 20000 in
set_option maxHeartbeats 2000000 in
theorem tX10_order_b86 {X : XS} {n : Nat} {σ : Mm} {F : Nat × Option Value × Mm} {a0 : Nat} {a1 : Int32} {a2 : Int32} {a3 : Int32} {a5 : Int32} {z0 : Int32} {z1 : Int32} (ha0 : RT n a0 110) {res : (Int32 × Int32) ⊕ (Int32)} (h : fX10_order_b86 a0 a1 a2 a3 a5 z0 z1 σ = some res) (hc : ∀ (b4 : Int32) (b5 : Int32), res = .inl (b4, b5) → J X mX10_order 216 0 0 F 45 [(0, .ref a0), (1, .int a1), (2, .int a2), (3, .int a3), (4, .int b4), (5, .int b5)] [] n σ) (he0 : ∀ (b4 : Int32), res = .inr b4 → J X mX10_order 216 0 0 F 95 [(0, .ref a0), (1, .int a1), (3, .int a3), (4, .int b4)] [] n σ) : J X mX10_order 216 0 0 F 86 [(0, .ref a0), (1, .int a1), (2, .int a2), (3, .int a3), (5, .int a5)] [.int z1, .int z0] n σ := by
  unfold fX10_order_b86 at h
  refine J_ior dX10_order_86  (q := 87) rfl ?_
  refine J_istore (lv' := [(4, .int (z0 ||| z1)), (0, .ref a0), (1, .int a1), (2, .int a2), (3, .int a3), (5, .int a5)]) dX10_order_87 (by decide) rfl (q := 89) rfl ?_
  refine J_iinc (z := 5) (y := (a5 + 1)) (lv' := [(5, .int (a5 + 1)), (4, .int (z0 ||| z1)), (0, .ref a0), (1, .int a1), (2, .int a2), (3, .int a3)]) dX10_order_89 rfl rfl (by decide) rfl (q := 92) rfl ?_
  refine J_goto (tgt := 45) dX10_order_92 (by decide) ?_
  have h := Option.some.inj h
  refine J_pick [2, 3, 4, 5, 1, 0] rfl ?_
  exact hc _ _ h.symm

def fX10_order_b85 (a0 : Nat) (a1 : Int32) (a2 : Int32) (a3 : Int32) (a5 : Int32) (z0 : Int32) (σ : Mm) : Option ((Int32 × Int32) ⊕ (Int32)) :=
  fX10_order_b86 a0 a1 a2 a3 a5 z0 0 σ
set_option maxRecDepth 20000 in
set_option maxHeartbeats 2000000 in
theorem tX10_order_b85 {X : XS} {n : Nat} {σ : Mm} {F : Nat × Option Value × Mm} {a0 : Nat} {a1 : Int32} {a2 : Int32} {a3 : Int32} {a5 : Int32} {z0 : Int32} (ha0 : RT n a0 110) {res : (Int32 × Int32) ⊕ (Int32)} (h : fX10_order_b85 a0 a1 a2 a3 a5 z0 σ = some res) (hc : ∀ (b4 : Int32) (b5 : Int32), res = .inl (b4, b5) → J X mX10_order 216 0 0 F 45 [(0, .ref a0), (1, .int a1), (2, .int a2), (3, .int a3), (4, .int b4), (5, .int b5)] [] n σ) (he0 : ∀ (b4 : Int32), res = .inr b4 → J X mX10_order 216 0 0 F 95 [(0, .ref a0), (1, .int a1), (3, .int a3), (4, .int b4)] [] n σ) : J X mX10_order 216 0 0 F 85 [(0, .ref a0), (1, .int a1), (2, .int a2), (3, .int a3), (5, .int a5)] [.int z0] n σ := by
  unfold fX10_order_b85 at h
  refine J_iconst (x := 0) dX10_order_85 (by decide) (q := 86) rfl ?_
  refine J_pick [0, 1, 2, 3, 4] rfl ?_
  exact tX10_order_b86 ha0 h hc he0

def fX10_order_l45 (a0 : Nat) (a1 : Int32) (a2 : Int32) (a3 : Int32) (a4 : Int32) (a5 : Int32) (σ : Mm) : Option ((Int32 × Int32) ⊕ (Int32)) :=
  if (gI σ a0 27) ≤ a5 then some (Sum.inr a4) else (fX10_isOf a0 a5 a2 σ).bind fun vk8 => if vk8 = 0 then fX10_order_b85 a0 a1 a2 a3 a5 a4 σ else (gR σ a0 33).bind fun r10 => if ixB (2 * a5) (ln r10) = true then if (gI σ r10 (Int32.toNatClampNeg (2 * a5))) ≤ 0 then fX10_order_b85 a0 a1 a2 a3 a5 a4 σ else fX10_order_b86 a0 a1 a2 a3 a5 a4 (shlI 1 a5) σ else none
set_option maxRecDepth 20000 in
set_option maxHeartbeats 2000000 in
theorem tX10_order_l45 {X : XS} {n : Nat} {σ : Mm} {F : Nat × Option Value × Mm} {a0 : Nat} {a1 : Int32} {a2 : Int32} {a3 : Int32} {a4 : Int32} {a5 : Int32} (ha0 : RT n a0 110) {res : (Int32 × Int32) ⊕ (Int32)} (h : fX10_order_l45 a0 a1 a2 a3 a4 a5 σ = some res) (hc : ∀ (b4 : Int32) (b5 : Int32), res = .inl (b4, b5) → J X mX10_order 216 0 0 F 45 [(0, .ref a0), (1, .int a1), (2, .int a2), (3, .int a3), (4, .int b4), (5, .int b5)] [] n σ) (he0 : ∀ (b4 : Int32), res = .inr b4 → J X mX10_order 216 0 0 F 95 [(0, .ref a0), (1, .int a1), (3, .int a3), (4, .int b4)] [] n σ) : J X mX10_order 216 0 0 F 45 [(0, .ref a0), (1, .int a1), (2, .int a2), (3, .int a3), (4, .int a4), (5, .int a5)] [] n σ := by
  unfold fX10_order_l45 at h
  refine J_iload (z := 5) dX10_order_45 rfl (q := 47) rfl ?_
  refine J_aload_n (z := 0) dX10_order_47 rfl rfl (q := 48) rfl ?_
  refine J_getI dX10_order_48 lRX10_291 ha0 rfl (q := 51) rfl ?_
  refine J_icmp_ge (tgt := 95) dX10_order_51 (by decide) (q := 54) rfl (fun c6 => ?_) (fun c6 => ?_)
  · rw [if_pos c6] at h
    have h := Option.some.inj h
    refine J_pick [0, 1, 3, 4] rfl ?_
    exact he0 _ h.symm
  · rw [if_neg c6] at h
    refine J_iload (z := 4) dX10_order_54 rfl (q := 56) rfl ?_
    refine J_aload_n (z := 0) dX10_order_56 rfl rfl (q := 57) rfl ?_
    refine J_iload (z := 5) dX10_order_57 rfl (q := 59) rfl ?_
    refine J_iload_n (z := 2) dX10_order_59 rfl rfl (q := 60) rfl ?_
    obtain ⟨vk8, hk8, h⟩ := bindS h
    refine J_cVi (as := [.int a5, .int a2]) dX10_order_60 mRX10_474 ha0 (tX10_isOf ha0 hk8) rfl (Nat.le_of_ble_eq_true rfl) (Nat.le_of_ble_eq_true rfl) (Nat.le_of_ble_eq_true rfl) (q := 63) rfl ?_
    intro bk8
    refine J_if_eq (tgt := 85) dX10_order_63 (by decide) (q := 66) rfl (fun c8 => ?_) (fun c8 => ?_)
    · rw [if_pos c8] at h
      refine J_pick [0, 1, 2, 3, 5] rfl ?_
      exact tX10_order_b85 ha0 h hc he0
    · rw [if_neg c8] at h
      refine J_aload_n (z := 0) dX10_order_66 rfl rfl (q := 67) rfl ?_
      obtain ⟨r10, er10, h⟩ := bindS h
      refine J_getR dX10_order_67 lRX10_61 ha0 rfl (by decide) er10 (q := 70) rfl (fun fr10 => ?_)
      refine J_iconst (x := 2) dX10_order_70 (by decide) (q := 71) rfl ?_
      refine J_iload (z := 5) dX10_order_71 rfl (q := 73) rfl ?_
      refine J_imul dX10_order_73  (q := 74) rfl ?_
      obtain ⟨g11, h⟩ := iteS h
      refine J_iald dX10_order_74 fr10 (ixB_ok g11) (q := 75) rfl ?_
      refine J_if_le (tgt := 85) dX10_order_75 (by decide) (q := 78) rfl (fun c11 => ?_) (fun c11 => ?_)
      · rw [if_pos c11] at h
        refine J_pick [0, 1, 2, 3, 5] rfl ?_
        exact tX10_order_b85 ha0 h hc he0
      · rw [if_neg c11] at h
        refine J_iconst (x := 1) dX10_order_78 (by decide) (q := 79) rfl ?_
        refine J_iload (z := 5) dX10_order_79 rfl (q := 81) rfl ?_
        refine J_ishl dX10_order_81  (q := 82) rfl ?_
        refine J_goto (tgt := 86) dX10_order_82 (by decide) ?_
        refine J_pick [0, 1, 2, 3, 5] rfl ?_
        exact tX10_order_b86 ha0 h hc he0

def fX10_order_w45 (a0 : Nat) (a1 : Int32) (a2 : Int32) (a3 : Int32) (a4 : Int32) (a5 : Int32) (σ : Mm) : Option (Int32) :=
  wh (fun a : Int32 × Int32 => fX10_order_l45 a0 a1 a2 a3 a.1 a.2 σ) BIG (a4, a5)
set_option maxRecDepth 20000 in
set_option maxHeartbeats 2000000 in
theorem tX10_order_w45 {X : XS} {n : Nat} {σ : Mm} {F : Nat × Option Value × Mm} {a0 : Nat} {a1 : Int32} {a2 : Int32} {a3 : Int32} {a4 : Int32} {a5 : Int32} (ha0 : RT n a0 110) {res : Int32} (h : fX10_order_w45 a0 a1 a2 a3 a4 a5 σ = some res) (he0 : ∀ (b4 : Int32), res = b4 → J X mX10_order 216 0 0 F 95 [(0, .ref a0), (1, .int a1), (3, .int a3), (4, .int b4)] [] n σ) : J X mX10_order 216 0 0 F 45 [(0, .ref a0), (1, .int a1), (2, .int a2), (3, .int a3), (4, .int a4), (5, .int a5)] [] n σ := by
  unfold fX10_order_w45 at h
  refine wh_rule (P := fun a : Int32 × Int32 => J X mX10_order 216 0 0 F 45 [(0, .ref a0), (1, .int a1), (2, .int a2), (3, .int a3), (4, .int a.1), (5, .int a.2)] [] n σ) (K := fun b => b = res) ?_ _ _ _ h rfl
  intro a
  refine ⟨fun a2 hb hP => ?_, fun b hb hK => ?_⟩
  · exact tX10_order_l45 ha0 hb (fun _ _ e => by cases e; exact hP) (fun _ e => by cases e)
  · subst hK
    exact tX10_order_l45 ha0 hb (fun _ _ e => by cases e) (fun v0 e => he0 v0 (Sum.inr.inj e))

def fX10_order_b109 (σ : Mm) : Option (Int32 × Mm) :=
  some ((-1000000), σ)
set_option maxRecDepth 20000 in
set_option maxHeartbeats 2000000 in
theorem tX10_order_b109 {X : XS} {n : Nat} {σ : Mm} {res : Int32 × Mm} (h : fX10_order_b109  σ = some res) : J X mX10_order 216 0 0 (n, some (.int res.1), res.2) 109 [] [] n σ := by
  unfold fX10_order_b109 at h
  refine J_ldcw (x := (-1000000)) dX10_order_109 kRX10_432 (q := 112) rfl ?_
  have h := Option.some.inj h
  subst h
  exact J_ireturn dX10_order_112 rfl rfl rfl

def fX10_order_b144 (a0 : Nat) (a1 : Int32) (a3 : Int32) (a4 : Int32) (σ : Mm) : Option (Int32 × Mm) :=
  (gX10o 100 a0 a1 a4 0 0 0 (sI σ a0 44 (-1))).bind fun sk23 => if (gI sk23 a0 44) = (-1) then some ((-1000000), sk23) else if a3 = 0 then some ((gI sk23 a0 45), sk23) else some ((gI sk23 a0 44), sk23)
set_option maxRecDepth 20000 in
set_option maxHeartbeats 2000000 in
theorem tX10_order_b144 {X : XS} {n : Nat} {σ : Mm} {a0 : Nat} {a1 : Int32} {a3 : Int32} {a4 : Int32} (ha0 : RT n a0 110) {res : Int32 × Mm} (h : fX10_order_b144 a0 a1 a3 a4 σ = some res) : J X mX10_order 216 0 0 (n, some (.int res.1), res.2) 144 [(0, .ref a0), (1, .int a1), (3, .int a3), (4, .int a4)] [] n σ := by
  unfold fX10_order_b144 at h
  refine J_aload_n (z := 0) dX10_order_144 rfl rfl (q := 145) rfl ?_
  refine J_iconst (x := (-1)) dX10_order_145 (by decide) (q := 146) rfl ?_
  refine J_putI dX10_order_146 lRX10_457 (fun h => by cases h) ha0 rfl (q := 149) rfl ?_
  refine J_aload_n (z := 0) dX10_order_149 rfl rfl (q := 150) rfl ?_
  refine J_iload_n (z := 1) dX10_order_150 rfl rfl (q := 151) rfl ?_
  refine J_iload (z := 3) dX10_order_151 rfl (q := 153) rfl ?_
  refine J_iconst (x := 0) dX10_order_153 (by decide) (q := 154) rfl ?_
  refine J_iconst (x := 0) dX10_order_154 (by decide) (q := 155) rfl ?_
  refine J_iconst (x := 0) dX10_order_155 (by decide) (q := 156) rfl ?_
  obtain ⟨sk23, hk23, h⟩ := bindS h
  refine J_cVv (as := [.int a1, .int a4, .int 0, .int 0, .int 0]) dX10_order_156 mRX10_470 ha0 ((tgX10o 100) ha0 hk23) rfl (Nat.le_of_ble_eq_true rfl) (Nat.le_of_ble_eq_true rfl) (Nat.le_of_ble_eq_true rfl) (q := 159) rfl ?_
  refine J_aload_n (z := 0) dX10_order_159 rfl rfl (q := 160) rfl ?_
  refine J_getI dX10_order_160 lRX10_457 ha0 rfl (q := 163) rfl ?_
  refine J_iconst (x := (-1)) dX10_order_163 (by decide) (q := 164) rfl ?_
  refine J_icmp_ne (tgt := 173) dX10_order_164 (by decide) (q := 167) rfl (fun c23 => ?_) (fun c23 => ?_)
  · rw [if_neg c23] at h
    refine J_iload_n (z := 2) dX10_order_173 rfl rfl (q := 174) rfl ?_
    refine J_if_ne (tgt := 184) dX10_order_174 (by decide) (q := 177) rfl (fun c24 => ?_) (fun c24 => ?_)
    · rw [if_neg c24] at h
      refine J_aload_n (z := 0) dX10_order_184 rfl rfl (q := 185) rfl ?_
      refine J_getI dX10_order_185 lRX10_457 ha0 rfl (q := 188) rfl ?_
      have h := Option.some.inj h
      subst h
      exact J_ireturn dX10_order_188 rfl rfl rfl
    · rw [if_pos c24] at h
      refine J_aload_n (z := 0) dX10_order_177 rfl rfl (q := 178) rfl ?_
      refine J_getI dX10_order_178 lRX10_460 ha0 rfl (q := 181) rfl ?_
      refine J_goto (tgt := 188) dX10_order_181 (by decide) ?_
      have h := Option.some.inj h
      subst h
      exact J_ireturn dX10_order_188 rfl rfl rfl
  · rw [if_pos c23] at h
    refine J_ldcw (x := (-1000000)) dX10_order_167 kRX10_432 (q := 170) rfl ?_
    refine J_goto (tgt := 188) dX10_order_170 (by decide) ?_
    have h := Option.some.inj h
    subst h
    exact J_ireturn dX10_order_188 rfl rfl rfl

def fX10_order (a0 : Nat) (a1 : Int32) (a2 : Int32) (a3 : Int32) (σ : Mm) : Option (Int32 × Mm) :=
  (fX10_isReader a0 a1 (sI σ a0 0 0)).bind fun vk1 => if vk1 = 0 then fX10_order_b35  (sI σ a0 0 0) else (fX10_isIn (Int32.toInt64 a2) 0 4 (sI σ a0 0 0)).bind fun vk3 => if vk3 = 0 then fX10_order_b35  (sI σ a0 0 0) else (fX10_isIn (Int32.toInt64 a3) 0 1 (sI σ a0 0 0)).bind fun vk5 => if vk5 = 0 then fX10_order_b35  (sI σ a0 0 0) else (fX10_order_w45 a0 a1 a2 a3 0 0 (sI σ a0 0 0)).bind (fun o13 => (fun xo13_4 => if xo13_4 = 0 then fX10_order_b109  (sI σ a0 0 0) else (fJ6_bitCount_0f7a4 xo13_4 (sI σ a0 0 0)).bind fun vk15 => if vk15 ≤ 5 then (gR σ a0 33).bind fun r17 => (gR σ a0 34).bind fun r18 => (fX10_copy r17 r18 (sI σ a0 0 0)).bind fun sk19 => (gR sk19 a0 34).bind fun r20 => (fX10_canDo a0 r20 a1 sk19).bind fun vk21 => if vk21 = 0 then (fX10_goNight a0 r20 sk19).bind fun sk26 => fX10_order_b144 a0 a1 a3 xo13_4 sk26 else fX10_order_b144 a0 a1 a3 xo13_4 sk19 else fX10_order_b109  (sI σ a0 0 0)) o13)
set_option maxRecDepth 20000 in
set_option maxHeartbeats 2000000 in
theorem tX10_order {X : XS} {n : Nat} {σ : Mm} {a0 : Nat} {a1 : Int32} {a2 : Int32} {a3 : Int32} (ha0 : RT n a0 110) {res : Int32 × Mm} (h : fX10_order a0 a1 a2 a3 σ = some res) : MT X yX10_order mX10_order 216 0 0 [.ref a0, .int a1, .int a2, .int a3] n σ (n, some (.int res.1), res.2) := by
  unfold fX10_order at h
  refine MT_of (by decide +kernel) rfl (fun h => by cases h) (Nat.le_of_ble_eq_true rfl) ?_
  show J X mX10_order 216 0 0 (n, some (.int res.1), res.2) 0 [(0, .ref a0), (1, .int a1), (2, .int a2), (3, .int a3)] [] n σ
  refine J_aload_n (z := 0) dX10_order_0 rfl rfl (q := 1) rfl ?_
  refine J_iconst (x := 0) dX10_order_1 (by decide) (q := 2) rfl ?_
  refine J_putI dX10_order_2 lRX10_96 (fun h => by cases h) ha0 rfl (q := 5) rfl ?_
  refine J_aload_n (z := 0) dX10_order_5 rfl rfl (q := 6) rfl ?_
  refine J_iload_n (z := 1) dX10_order_6 rfl rfl (q := 7) rfl ?_
  obtain ⟨vk1, hk1, h⟩ := bindS h
  refine J_cVi (as := [.int a1]) dX10_order_7 mRX10_309 ha0 (tX10_isReader ha0 hk1) rfl (Nat.le_of_ble_eq_true rfl) (Nat.le_of_ble_eq_true rfl) (Nat.le_of_ble_eq_true rfl) (q := 10) rfl ?_
  intro bk1
  refine J_if_eq (tgt := 35) dX10_order_10 (by decide) (q := 13) rfl (fun c1 => ?_) (fun c1 => ?_)
  · rw [if_pos c1] at h
    refine J_pick [] rfl ?_
    exact tX10_order_b35  h
  · rw [if_neg c1] at h
    refine J_iload_n (z := 2) dX10_order_13 rfl rfl (q := 14) rfl ?_
    refine J_i2l dX10_order_14  (q := 15) rfl ?_
    refine J_lconst (x := 0) dX10_order_15 (by decide) (q := 16) rfl ?_
    refine J_ldc2 (x := 4) dX10_order_16 kRX10_344 (q := 19) rfl ?_
    obtain ⟨vk3, hk3, h⟩ := bindS h
    refine J_cSi (as := [.long (Int32.toInt64 a2), .long 0, .long 4]) dX10_order_19 mRX10_217 (tX10_isIn  hk3) rfl (Nat.le_of_ble_eq_true rfl) (Nat.le_of_ble_eq_true rfl) (Nat.le_of_ble_eq_true rfl) (q := 22) rfl ?_
    intro bk3
    refine J_if_eq (tgt := 35) dX10_order_22 (by decide) (q := 25) rfl (fun c3 => ?_) (fun c3 => ?_)
    · rw [if_pos c3] at h
      refine J_pick [] rfl ?_
      exact tX10_order_b35  h
    · rw [if_neg c3] at h
      refine J_iload_n (z := 3) dX10_order_25 rfl rfl (q := 26) rfl ?_
      refine J_i2l dX10_order_26  (q := 27) rfl ?_
      refine J_lconst (x := 0) dX10_order_27 (by decide) (q := 28) rfl ?_
      refine J_lconst (x := 1) dX10_order_28 (by decide) (q := 29) rfl ?_
      obtain ⟨vk5, hk5, h⟩ := bindS h
      refine J_cSi (as := [.long (Int32.toInt64 a3), .long 0, .long 1]) dX10_order_29 mRX10_217 (tX10_isIn  hk5) rfl (Nat.le_of_ble_eq_true rfl) (Nat.le_of_ble_eq_true rfl) (Nat.le_of_ble_eq_true rfl) (q := 32) rfl ?_
      intro bk5
      refine J_if_ne (tgt := 39) dX10_order_32 (by decide) (q := 35) rfl (fun c5 => ?_) (fun c5 => ?_)
      · rw [if_neg c5] at h
        refine J_iconst (x := 0) dX10_order_39 (by decide) (q := 40) rfl ?_
        refine J_istore (lv' := [(4, .int 0), (0, .ref a0), (1, .int a1), (2, .int a2), (3, .int a3)]) dX10_order_40 (by decide) rfl (q := 42) rfl ?_
        refine J_iconst (x := 0) dX10_order_42 (by decide) (q := 43) rfl ?_
        refine J_istore (lv' := [(5, .int 0), (4, .int 0), (0, .ref a0), (1, .int a1), (2, .int a2), (3, .int a3)]) dX10_order_43 (by decide) rfl (q := 45) rfl ?_
        obtain ⟨o13, hlo13, h⟩ := bindS h
        refine J_pick [2, 3, 4, 5, 1, 0] rfl ?_
        refine tX10_order_w45 ha0 hlo13 ?_
        · intro xo13_4 qo13
          rw [qo13] at h
          try dsimp only [Sum.elim_inl, Sum.elim_inr] at h
          refine J_iload (z := 3) dX10_order_95 rfl (q := 97) rfl ?_
          refine J_if_eq (tgt := 109) dX10_order_97 (by decide) (q := 100) rfl (fun c13 => ?_) (fun c13 => ?_)
          · rw [if_pos c13] at h
            refine J_pick [] rfl ?_
            exact tX10_order_b109  h
          · rw [if_neg c13] at h
            refine J_iload (z := 3) dX10_order_100 rfl (q := 102) rfl ?_
            obtain ⟨vk15, hk15, h⟩ := bindS h
            refine J_cSi (as := [.int xo13_4]) dX10_order_102 mRX10_477 (tJ6_bitCount_0f7a4  hk15) rfl (Nat.le_of_ble_eq_true rfl) (Nat.le_of_ble_eq_true rfl) (Nat.le_of_ble_eq_true rfl) (q := 105) rfl ?_
            intro bk15
            refine J_iconst (x := 5) dX10_order_105 (by decide) (q := 106) rfl ?_
            refine J_icmp_le (tgt := 113) dX10_order_106 (by decide) (q := 109) rfl (fun c15 => ?_) (fun c15 => ?_)
            · rw [if_pos c15] at h
              refine J_aload_n (z := 0) dX10_order_113 rfl rfl (q := 114) rfl ?_
              obtain ⟨r17, er17, h⟩ := bindS h
              refine J_getR dX10_order_114 lRX10_61 ha0 rfl (by decide) er17 (q := 117) rfl (fun fr17 => ?_)
              refine J_aload_n (z := 0) dX10_order_117 rfl rfl (q := 118) rfl ?_
              obtain ⟨r18, er18, h⟩ := bindS h
              refine J_getR dX10_order_118 lRX10_64 ha0 rfl (by decide) er18 (q := 121) rfl (fun fr18 => ?_)
              obtain ⟨sk19, hk19, h⟩ := bindS h
              refine J_cSv (as := [.ref r17, .ref r18]) dX10_order_121 mRX10_436 (tX10_copy fr17 fr18 hk19) rfl (Nat.le_of_ble_eq_true rfl) (Nat.le_of_ble_eq_true rfl) (Nat.le_of_ble_eq_true rfl) (q := 124) rfl ?_
              refine J_aload_n (z := 0) dX10_order_124 rfl rfl (q := 125) rfl ?_
              refine J_aload_n (z := 0) dX10_order_125 rfl rfl (q := 126) rfl ?_
              obtain ⟨r20, er20, h⟩ := bindS h
              refine J_getR dX10_order_126 lRX10_64 ha0 rfl (by decide) er20 (q := 129) rfl (fun fr20 => ?_)
              refine J_iload_n (z := 1) dX10_order_129 rfl rfl (q := 130) rfl ?_
              obtain ⟨vk21, hk21, h⟩ := bindS h
              refine J_cVi (as := [.ref r20, .int a1]) dX10_order_130 mRX10_369 ha0 (tX10_canDo ha0 fr20 hk21) rfl (Nat.le_of_ble_eq_true rfl) (Nat.le_of_ble_eq_true rfl) (Nat.le_of_ble_eq_true rfl) (q := 133) rfl ?_
              intro bk21
              refine J_if_ne (tgt := 144) dX10_order_133 (by decide) (q := 136) rfl (fun c21 => ?_) (fun c21 => ?_)
              · rw [if_neg c21] at h
                refine J_pick [0, 1, 2, 3] rfl ?_
                exact tX10_order_b144 ha0 h
              · rw [if_pos c21] at h
                refine J_aload_n (z := 0) dX10_order_136 rfl rfl (q := 137) rfl ?_
                refine J_aload_n (z := 0) dX10_order_137 rfl rfl (q := 138) rfl ?_
                refine J_getR dX10_order_138 lRX10_64 ha0 rfl (by decide) er20 (q := 141) rfl (fun _ => ?_)
                obtain ⟨sk26, hk26, h⟩ := bindS h
                refine J_cVv (as := [.ref r20]) dX10_order_141 mRX10_412 ha0 (tX10_goNight ha0 fr20 hk26) rfl (Nat.le_of_ble_eq_true rfl) (Nat.le_of_ble_eq_true rfl) (Nat.le_of_ble_eq_true rfl) (q := 144) rfl ?_
                refine J_pick [0, 1, 2, 3] rfl ?_
                exact tX10_order_b144 ha0 h
            · rw [if_neg c15] at h
              refine J_pick [] rfl ?_
              exact tX10_order_b109  h
      · rw [if_pos c5] at h
        refine J_pick [] rfl ?_
        exact tX10_order_b35  h

def RECX10s (X : XS) (dr n : Nat) (rec : Nat → Int32 → Int32 → Int32 → Int32 → Int32 → Mm → Option Mm) : Prop :=
  (∀ {a0 : Nat} {a1 : Int32} {a2 : Int32} {a3 : Int32} {a4 : Int32} {a5 : Int32} {σ : Mm} {res : Mm}, RT n a0 110 → rec a0 a1 a2 a3 a4 a5 σ = some res → MT X yX10_goShare mX10_goShare dr 0 0 [.ref a0, .int a1, .int a2, .int a3, .int a4, .int a5] n σ (n, none, res))
def fX10_goShare_b162 (rec : Nat → Int32 → Int32 → Int32 → Int32 → Int32 → Mm → Option Mm) (a0 : Nat) (a1 : Int32) (a2 : Int32) (a3 : Int32) (a4 : Int32) (a5 : Int32) (a6 : Int32) (σ : Mm) : Option ((Int32 × Mm) ⊕ (Mm)) :=
  some (Sum.inl ((a6 + 1), σ))
set_option maxRecDepth 20000 in
set_option maxHeartbeats 2000000 in
theorem tX10_goShare_b162 {X : XS} {n : Nat} {σ : Mm} {F : Nat × Option Value × Mm} {dr : Nat} {rec : Nat → Int32 → Int32 → Int32 → Int32 → Int32 → Mm → Option Mm} (hD : 3 ≤ dr) (hrec : RECX10s X dr n rec) {a0 : Nat} {a1 : Int32} {a2 : Int32} {a3 : Int32} {a4 : Int32} {a5 : Int32} {a6 : Int32} (ha0 : RT n a0 110) {res : (Int32 × Mm) ⊕ (Mm)} (h : fX10_goShare_b162 rec a0 a1 a2 a3 a4 a5 a6 σ = some res) (hc : ∀ (b6 : Int32) (s : Mm), res = .inl (b6, s) → J X mX10_goShare (dr + 1) 0 0 F 65 [(0, .ref a0), (1, .int a1), (2, .int a2), (3, .int a3), (4, .int a4), (5, .int a5), (6, .int b6)] [] n s) (hr : ∀ (s : Mm), res = .inr s → F = (n, none, s)) : J X mX10_goShare (dr + 1) 0 0 F 162 [(0, .ref a0), (1, .int a1), (2, .int a2), (3, .int a3), (4, .int a4), (5, .int a5), (6, .int a6)] [] n σ := by
  unfold fX10_goShare_b162 at h
  refine J_iinc (z := 6) (y := (a6 + 1)) (lv' := [(6, .int (a6 + 1)), (0, .ref a0), (1, .int a1), (2, .int a2), (3, .int a3), (4, .int a4), (5, .int a5)]) dX10_goShare_162 rfl rfl (by decide) rfl (q := 165) rfl ?_
  refine J_goto (tgt := 65) dX10_goShare_165 (by decide) ?_
  have h := Option.some.inj h
  refine J_pick [1, 2, 3, 4, 5, 6, 0] rfl ?_
  exact hc _ _ h.symm

def fX10_goShare_l65 (rec : Nat → Int32 → Int32 → Int32 → Int32 → Int32 → Mm → Option Mm) (a0 : Nat) (a1 : Int32) (a2 : Int32) (a3 : Int32) (a4 : Int32) (a5 : Int32) (a6 : Int32) (σ : Mm) : Option ((Int32 × Mm) ⊕ (Mm)) :=
  if (gI σ a0 27) ≤ a6 then some (Sum.inr σ) else (fX10_isOf a0 a6 a1 σ).bind fun vk4 => if vk4 = 0 then fX10_goShare_b162 rec a0 a1 a2 a3 a4 a5 a6 σ else (fX10_has a3 a6 σ).bind fun vk6 => if vk6 = 0 then (gR σ a0 33).bind fun r8 => if ixB (2 * a6) (ln r8) = true then if (gI σ r8 (Int32.toNatClampNeg (2 * a6))) = 0 then fX10_goShare_b162 rec a0 a1 a2 a3 a4 a5 a6 σ else (gR σ a0 20).bind fun r11 => if ixB (4 * a6) (ln r11) = true then (fX10_isNear a0 r8 a2 (gI σ r11 (Int32.toNatClampNeg (4 * a6))) σ).bind fun vk13 => if vk13 = 0 then fX10_goShare_b162 rec a0 a1 a2 a3 a4 a5 a6 σ else (gR σ a0 48).bind fun r15 => if ixB ((12 * a2) + a6) (ln r15) = true then (rec a0 a1 (a2 + 1) (a3 ||| (shlI 1 a6)) (a4 + 1) (a5 + (gI σ r15 (Int32.toNatClampNeg ((12 * a2) + a6)))) σ).bind fun sk17 => fX10_goShare_b162 rec a0 a1 a2 a3 a4 a5 a6 sk17 else none else none else none else fX10_goShare_b162 rec a0 a1 a2 a3 a4 a5 a6 σ
set_option maxRecDepth 20000 in
set_option maxHeartbeats 2000000 in
theorem tX10_goShare_l65 {X : XS} {n : Nat} {σ : Mm} {F : Nat × Option Value × Mm} {dr : Nat} {rec : Nat → Int32 → Int32 → Int32 → Int32 → Int32 → Mm → Option Mm} (hD : 3 ≤ dr) (hrec : RECX10s X dr n rec) {a0 : Nat} {a1 : Int32} {a2 : Int32} {a3 : Int32} {a4 : Int32} {a5 : Int32} {a6 : Int32} (ha0 : RT n a0 110) {res : (Int32 × Mm) ⊕ (Mm)} (h : fX10_goShare_l65 rec a0 a1 a2 a3 a4 a5 a6 σ = some res) (hc : ∀ (b6 : Int32) (s : Mm), res = .inl (b6, s) → J X mX10_goShare (dr + 1) 0 0 F 65 [(0, .ref a0), (1, .int a1), (2, .int a2), (3, .int a3), (4, .int a4), (5, .int a5), (6, .int b6)] [] n s) (hr : ∀ (s : Mm), res = .inr s → F = (n, none, s)) : J X mX10_goShare (dr + 1) 0 0 F 65 [(0, .ref a0), (1, .int a1), (2, .int a2), (3, .int a3), (4, .int a4), (5, .int a5), (6, .int a6)] [] n σ := by
  unfold fX10_goShare_l65 at h
  refine J_iload (z := 6) dX10_goShare_65 rfl (q := 67) rfl ?_
  refine J_aload_n (z := 0) dX10_goShare_67 rfl rfl (q := 68) rfl ?_
  refine J_getI dX10_goShare_68 lRX10_291 ha0 rfl (q := 71) rfl ?_
  refine J_icmp_ge (tgt := 168) dX10_goShare_71 (by decide) (q := 74) rfl (fun c2 => ?_) (fun c2 => ?_)
  · rw [if_pos c2] at h
    have h := Option.some.inj h
    exact J_return dX10_goShare_168 rfl (hr _ h.symm)
  · rw [if_neg c2] at h
    refine J_aload_n (z := 0) dX10_goShare_74 rfl rfl (q := 75) rfl ?_
    refine J_iload (z := 6) dX10_goShare_75 rfl (q := 77) rfl ?_
    refine J_iload_n (z := 1) dX10_goShare_77 rfl rfl (q := 78) rfl ?_
    obtain ⟨vk4, hk4, h⟩ := bindS h
    refine J_cVi (as := [.int a6, .int a1]) dX10_goShare_78 mRX10_474 ha0 (tX10_isOf ha0 hk4) rfl (by omega) (Nat.le_of_ble_eq_true rfl) (Nat.le_of_ble_eq_true rfl) (q := 81) rfl ?_
    intro bk4
    refine J_if_eq (tgt := 162) dX10_goShare_81 (by decide) (q := 84) rfl (fun c4 => ?_) (fun c4 => ?_)
    · rw [if_pos c4] at h
      refine J_pick [0, 1, 2, 3, 4, 5, 6] rfl ?_
      exact tX10_goShare_b162 hD hrec ha0 h hc hr
    · rw [if_neg c4] at h
      refine J_iload_n (z := 3) dX10_goShare_84 rfl rfl (q := 85) rfl ?_
      refine J_iload (z := 6) dX10_goShare_85 rfl (q := 87) rfl ?_
      obtain ⟨vk6, hk6, h⟩ := bindS h
      refine J_cSi (as := [.int a3, .int a6]) dX10_goShare_87 mRX10_229 (tX10_has  hk6) rfl (by omega) (Nat.le_of_ble_eq_true rfl) (Nat.le_of_ble_eq_true rfl) (q := 90) rfl ?_
      intro bk6
      refine J_if_ne (tgt := 162) dX10_goShare_90 (by decide) (q := 93) rfl (fun c6 => ?_) (fun c6 => ?_)
      · rw [if_neg c6] at h
        refine J_pick [0, 1, 2, 3, 4, 5, 6] rfl ?_
        exact tX10_goShare_b162 hD hrec ha0 h hc hr
      · rw [if_pos c6] at h
        refine J_aload_n (z := 0) dX10_goShare_93 rfl rfl (q := 94) rfl ?_
        obtain ⟨r8, er8, h⟩ := bindS h
        refine J_getR dX10_goShare_94 lRX10_61 ha0 rfl (by decide) er8 (q := 97) rfl (fun fr8 => ?_)
        refine J_iconst (x := 2) dX10_goShare_97 (by decide) (q := 98) rfl ?_
        refine J_iload (z := 6) dX10_goShare_98 rfl (q := 100) rfl ?_
        refine J_imul dX10_goShare_100  (q := 101) rfl ?_
        obtain ⟨g9, h⟩ := iteS h
        refine J_iald dX10_goShare_101 fr8 (ixB_ok g9) (q := 102) rfl ?_
        refine J_if_eq (tgt := 162) dX10_goShare_102 (by decide) (q := 105) rfl (fun c9 => ?_) (fun c9 => ?_)
        · rw [if_pos c9] at h
          refine J_pick [0, 1, 2, 3, 4, 5, 6] rfl ?_
          exact tX10_goShare_b162 hD hrec ha0 h hc hr
        · rw [if_neg c9] at h
          refine J_aload_n (z := 0) dX10_goShare_105 rfl rfl (q := 106) rfl ?_
          refine J_aload_n (z := 0) dX10_goShare_106 rfl rfl (q := 107) rfl ?_
          refine J_getR dX10_goShare_107 lRX10_61 ha0 rfl (by decide) er8 (q := 110) rfl (fun _ => ?_)
          refine J_iload_n (z := 2) dX10_goShare_110 rfl rfl (q := 111) rfl ?_
          refine J_aload_n (z := 0) dX10_goShare_111 rfl rfl (q := 112) rfl ?_
          obtain ⟨r11, er11, h⟩ := bindS h
          refine J_getR dX10_goShare_112 lRX10_43 ha0 rfl (by decide) er11 (q := 115) rfl (fun fr11 => ?_)
          refine J_iconst (x := 4) dX10_goShare_115 (by decide) (q := 116) rfl ?_
          refine J_iload (z := 6) dX10_goShare_116 rfl (q := 118) rfl ?_
          refine J_imul dX10_goShare_118  (q := 119) rfl ?_
          obtain ⟨g12, h⟩ := iteS h
          refine J_iald dX10_goShare_119 fr11 (ixB_ok g12) (q := 120) rfl ?_
          obtain ⟨vk13, hk13, h⟩ := bindS h
          refine J_cVi (as := [.ref r8, .int a2, .int (gI σ r11 (Int32.toNatClampNeg (4 * a6)))]) dX10_goShare_120 mRX10_373 ha0 (tX10_isNear ha0 fr8 hk13) rfl (by omega) (Nat.le_of_ble_eq_true rfl) (Nat.le_of_ble_eq_true rfl) (q := 123) rfl ?_
          intro bk13
          refine J_if_ne (tgt := 129) dX10_goShare_123 (by decide) (q := 126) rfl (fun c13 => ?_) (fun c13 => ?_)
          · rw [if_neg c13] at h
            refine J_aload_n (z := 0) dX10_goShare_129 rfl rfl (q := 130) rfl ?_
            refine J_iload_n (z := 1) dX10_goShare_130 rfl rfl (q := 131) rfl ?_
            refine J_iload_n (z := 2) dX10_goShare_131 rfl rfl (q := 132) rfl ?_
            refine J_iconst (x := 1) dX10_goShare_132 (by decide) (q := 133) rfl ?_
            refine J_iadd dX10_goShare_133  (q := 134) rfl ?_
            refine J_iload_n (z := 3) dX10_goShare_134 rfl rfl (q := 135) rfl ?_
            refine J_iconst (x := 1) dX10_goShare_135 (by decide) (q := 136) rfl ?_
            refine J_iload (z := 6) dX10_goShare_136 rfl (q := 138) rfl ?_
            refine J_ishl dX10_goShare_138  (q := 139) rfl ?_
            refine J_ior dX10_goShare_139  (q := 140) rfl ?_
            refine J_iload (z := 4) dX10_goShare_140 rfl (q := 142) rfl ?_
            refine J_iconst (x := 1) dX10_goShare_142 (by decide) (q := 143) rfl ?_
            refine J_iadd dX10_goShare_143  (q := 144) rfl ?_
            refine J_iload (z := 5) dX10_goShare_144 rfl (q := 146) rfl ?_
            refine J_aload_n (z := 0) dX10_goShare_146 rfl rfl (q := 147) rfl ?_
            obtain ⟨r15, er15, h⟩ := bindS h
            refine J_getR dX10_goShare_147 lRX10_87 ha0 rfl (by decide) er15 (q := 150) rfl (fun fr15 => ?_)
            refine J_bipush (x := 12) dX10_goShare_150 (by decide) (q := 152) rfl ?_
            refine J_iload_n (z := 2) dX10_goShare_152 rfl rfl (q := 153) rfl ?_
            refine J_imul dX10_goShare_153  (q := 154) rfl ?_
            refine J_iload (z := 6) dX10_goShare_154 rfl (q := 156) rfl ?_
            refine J_iadd dX10_goShare_156  (q := 157) rfl ?_
            obtain ⟨g16, h⟩ := iteS h
            refine J_iald dX10_goShare_157 fr15 (ixB_ok g16) (q := 158) rfl ?_
            refine J_iadd dX10_goShare_158  (q := 159) rfl ?_
            obtain ⟨sk17, hk17, h⟩ := bindS h
            refine J_cVv (as := [.int a1, .int (a2 + 1), .int (a3 ||| (shlI 1 a6)), .int (a4 + 1), .int (a5 + (gI σ r15 (Int32.toNatClampNeg ((12 * a2) + a6))))]) dX10_goShare_159 mRX10_488 ha0 (hrec ha0 hk17) rfl (Nat.le_refl _) (Nat.le_of_ble_eq_true rfl) (Nat.le_of_ble_eq_true rfl) (q := 162) rfl ?_
            refine J_pick [0, 1, 2, 3, 4, 5, 6] rfl ?_
            exact tX10_goShare_b162 hD hrec ha0 h hc hr
          · rw [if_pos c13] at h
            refine J_goto (tgt := 162) dX10_goShare_126 (by decide) ?_
            refine J_pick [0, 1, 2, 3, 4, 5, 6] rfl ?_
            exact tX10_goShare_b162 hD hrec ha0 h hc hr

def fX10_goShare_w65 (rec : Nat → Int32 → Int32 → Int32 → Int32 → Int32 → Mm → Option Mm) (a0 : Nat) (a1 : Int32) (a2 : Int32) (a3 : Int32) (a4 : Int32) (a5 : Int32) (a6 : Int32) (σ : Mm) : Option (Mm) :=
  wh (fun a : Int32 × Mm => fX10_goShare_l65 rec a0 a1 a2 a3 a4 a5 a.1 a.2) BIG (a6, σ)
set_option maxRecDepth 20000 in
set_option maxHeartbeats 2000000 in
theorem tX10_goShare_w65 {X : XS} {n : Nat} {σ : Mm} {F : Nat × Option Value × Mm} {dr : Nat} {rec : Nat → Int32 → Int32 → Int32 → Int32 → Int32 → Mm → Option Mm} (hD : 3 ≤ dr) (hrec : RECX10s X dr n rec) {a0 : Nat} {a1 : Int32} {a2 : Int32} {a3 : Int32} {a4 : Int32} {a5 : Int32} {a6 : Int32} (ha0 : RT n a0 110) {res : Mm} (h : fX10_goShare_w65 rec a0 a1 a2 a3 a4 a5 a6 σ = some res) (hr : ∀ (s : Mm), res = s → F = (n, none, s)) : J X mX10_goShare (dr + 1) 0 0 F 65 [(0, .ref a0), (1, .int a1), (2, .int a2), (3, .int a3), (4, .int a4), (5, .int a5), (6, .int a6)] [] n σ := by
  unfold fX10_goShare_w65 at h
  refine wh_rule (P := fun a : Int32 × Mm => J X mX10_goShare (dr + 1) 0 0 F 65 [(0, .ref a0), (1, .int a1), (2, .int a2), (3, .int a3), (4, .int a4), (5, .int a5), (6, .int a.1)] [] n a.2) (K := fun b => b = res) ?_ _ _ _ h rfl
  intro a
  refine ⟨fun a2 hb hP => ?_, fun b hb hK => ?_⟩
  · exact tX10_goShare_l65 hD hrec ha0 hb (fun _ _ e => by cases e; exact hP) (fun _ e => by cases e)
  · subst hK
    exact tX10_goShare_l65 hD hrec ha0 hb (fun _ _ e => by cases e) (fun v0 e => hr v0 (Sum.inr.inj e))

def fX10_goShare_b36 (rec : Nat → Int32 → Int32 → Int32 → Int32 → Int32 → Mm → Option Mm) (a0 : Nat) (a4 : Int32) (a5 : Int32) (σ : Mm) : Option (Mm) :=
  some (sI (sI σ a0 46 a4) a0 47 a5)
set_option maxRecDepth 20000 in
set_option maxHeartbeats 2000000 in
theorem tX10_goShare_b36 {X : XS} {n : Nat} {σ : Mm} {dr : Nat} {rec : Nat → Int32 → Int32 → Int32 → Int32 → Int32 → Mm → Option Mm} (hD : 3 ≤ dr) (hrec : RECX10s X dr n rec) {a0 : Nat} {a4 : Int32} {a5 : Int32} (ha0 : RT n a0 110) {res : Mm} (h : fX10_goShare_b36 rec a0 a4 a5 σ = some res) : J X mX10_goShare (dr + 1) 0 0 (n, none, res) 36 [(0, .ref a0), (4, .int a4), (5, .int a5)] [] n σ := by
  unfold fX10_goShare_b36 at h
  refine J_aload_n (z := 0) dX10_goShare_36 rfl rfl (q := 37) rfl ?_
  refine J_iload (z := 1) dX10_goShare_37 rfl (q := 39) rfl ?_
  refine J_putI dX10_goShare_39 lRX10_482 (fun h => by cases h) ha0 rfl (q := 42) rfl ?_
  refine J_aload_n (z := 0) dX10_goShare_42 rfl rfl (q := 43) rfl ?_
  refine J_iload (z := 2) dX10_goShare_43 rfl (q := 45) rfl ?_
  refine J_putI dX10_goShare_45 lRX10_485 (fun h => by cases h) ha0 rfl (q := 48) rfl ?_
  have h := Option.some.inj h
  subst h
  exact J_return dX10_goShare_48 rfl rfl

def fX10_goShare (rec : Nat → Int32 → Int32 → Int32 → Int32 → Int32 → Mm → Option Mm) (a0 : Nat) (a1 : Int32) (a2 : Int32) (a3 : Int32) (a4 : Int32) (a5 : Int32) (σ : Mm) : Option (Mm) :=
  if a2 = (gI σ a0 28) then if a4 < (gI σ a0 46) then some σ else if a4 = (gI σ a0 46) then if a5 < (gI σ a0 47) then fX10_goShare_b36 rec a0 a4 a5 σ else some σ else fX10_goShare_b36 rec a0 a4 a5 σ else (rec a0 a1 (a2 + 1) a3 a4 a5 σ).bind fun sk2 => (fX10_goShare_w65 rec a0 a1 a2 a3 a4 a5 0 sk2).bind (fun o18 => some o18)
set_option maxRecDepth 20000 in
set_option maxHeartbeats 2000000 in
theorem tX10_goShare {X : XS} {n : Nat} {σ : Mm} {dr : Nat} {rec : Nat → Int32 → Int32 → Int32 → Int32 → Int32 → Mm → Option Mm} (hD : 3 ≤ dr) (hrec : RECX10s X dr n rec) {a0 : Nat} {a1 : Int32} {a2 : Int32} {a3 : Int32} {a4 : Int32} {a5 : Int32} (ha0 : RT n a0 110) {res : Mm} (h : fX10_goShare rec a0 a1 a2 a3 a4 a5 σ = some res) : MT X yX10_goShare mX10_goShare (dr + 1) 0 0 [.ref a0, .int a1, .int a2, .int a3, .int a4, .int a5] n σ (n, none, res) := by
  unfold fX10_goShare at h
  refine MT_of (by decide +kernel) rfl (fun h => by cases h) (Nat.le_of_ble_eq_true rfl) ?_
  show J X mX10_goShare (dr + 1) 0 0 (n, none, res) 0 [(0, .ref a0), (1, .int a1), (2, .int a2), (3, .int a3), (4, .int a4), (5, .int a5)] [] n σ
  refine J_iload_n (z := 2) dX10_goShare_0 rfl rfl (q := 1) rfl ?_
  refine J_aload_n (z := 0) dX10_goShare_1 rfl rfl (q := 2) rfl ?_
  refine J_getI dX10_goShare_2 lRX10_294 ha0 rfl (q := 5) rfl ?_
  refine J_icmp_ne (tgt := 49) dX10_goShare_5 (by decide) (q := 8) rfl (fun c0 => ?_) (fun c0 => ?_)
  · rw [if_neg c0] at h
    refine J_aload_n (z := 0) dX10_goShare_49 rfl rfl (q := 50) rfl ?_
    refine J_iload_n (z := 1) dX10_goShare_50 rfl rfl (q := 51) rfl ?_
    refine J_iload_n (z := 2) dX10_goShare_51 rfl rfl (q := 52) rfl ?_
    refine J_iconst (x := 1) dX10_goShare_52 (by decide) (q := 53) rfl ?_
    refine J_iadd dX10_goShare_53  (q := 54) rfl ?_
    refine J_iload_n (z := 3) dX10_goShare_54 rfl rfl (q := 55) rfl ?_
    refine J_iload (z := 4) dX10_goShare_55 rfl (q := 57) rfl ?_
    refine J_iload (z := 5) dX10_goShare_57 rfl (q := 59) rfl ?_
    obtain ⟨sk2, hk2, h⟩ := bindS h
    refine J_cVv (as := [.int a1, .int (a2 + 1), .int a3, .int a4, .int a5]) dX10_goShare_59 mRX10_488 ha0 (hrec ha0 hk2) rfl (Nat.le_refl _) (Nat.le_of_ble_eq_true rfl) (Nat.le_of_ble_eq_true rfl) (q := 62) rfl ?_
    refine J_iconst (x := 0) dX10_goShare_62 (by decide) (q := 63) rfl ?_
    refine J_istore (lv' := [(6, .int 0), (0, .ref a0), (1, .int a1), (2, .int a2), (3, .int a3), (4, .int a4), (5, .int a5)]) dX10_goShare_63 (by decide) rfl (q := 65) rfl ?_
    obtain ⟨o18, hlo18, h⟩ := bindS h
    refine J_pick [1, 2, 3, 4, 5, 6, 0] rfl ?_
    refine tX10_goShare_w65 hD hrec ha0 hlo18 ?_
    · intro so18 qo18
      rw [qo18] at h
      try dsimp only [Sum.elim_inl, Sum.elim_inr] at h
      have h := Option.some.inj h
      subst h
      rfl
  · rw [if_pos c0] at h
    refine J_iload (z := 4) dX10_goShare_8 rfl (q := 10) rfl ?_
    refine J_aload_n (z := 0) dX10_goShare_10 rfl rfl (q := 11) rfl ?_
    refine J_getI dX10_goShare_11 lRX10_482 ha0 rfl (q := 14) rfl ?_
    refine J_icmp_lt (tgt := 35) dX10_goShare_14 (by decide) (q := 17) rfl (fun c18 => ?_) (fun c18 => ?_)
    · rw [if_pos c18] at h
      have h := Option.some.inj h
      subst h
      exact J_return dX10_goShare_35 rfl rfl
    · rw [if_neg c18] at h
      refine J_iload (z := 4) dX10_goShare_17 rfl (q := 19) rfl ?_
      refine J_aload_n (z := 0) dX10_goShare_19 rfl rfl (q := 20) rfl ?_
      refine J_getI dX10_goShare_20 lRX10_482 ha0 rfl (q := 23) rfl ?_
      refine J_icmp_ne (tgt := 36) dX10_goShare_23 (by decide) (q := 26) rfl (fun c19 => ?_) (fun c19 => ?_)
      · rw [if_neg c19] at h
        refine J_pick [0, 4, 5] rfl ?_
        exact tX10_goShare_b36 hD hrec ha0 h
      · rw [if_pos c19] at h
        refine J_iload (z := 5) dX10_goShare_26 rfl (q := 28) rfl ?_
        refine J_aload_n (z := 0) dX10_goShare_28 rfl rfl (q := 29) rfl ?_
        refine J_getI dX10_goShare_29 lRX10_485 ha0 rfl (q := 32) rfl ?_
        refine J_icmp_lt (tgt := 36) dX10_goShare_32 (by decide) (q := 35) rfl (fun c20 => ?_) (fun c20 => ?_)
        · rw [if_pos c20] at h
          refine J_pick [0, 4, 5] rfl ?_
          exact tX10_goShare_b36 hD hrec ha0 h
        · rw [if_neg c20] at h
          have h := Option.some.inj h
          subst h
          exact J_return dX10_goShare_35 rfl rfl

def gX10s : Nat → Nat → Int32 → Int32 → Int32 → Int32 → Int32 → Mm → Option Mm
  | 0, _, _, _, _, _, _, _ => none
  | k + 1, a0, a1, a2, a3, a4, a5, σ => fX10_goShare (gX10s k) a0 a1 a2 a3 a4 a5 σ
theorem tgX10s {X : XS} {n : Nat} : ∀ k : Nat, RECX10s X (3 + k) n (gX10s k) := by
  intro k
  induction k with
  | zero =>
    unfold RECX10s
    exact fun _ h => (by cases h)
  | succ k ih =>
    unfold RECX10s
    exact fun h0 h => tX10_goShare (Nat.le_add_right 3 k) ih h0 h
def fX10_share_b113 (a0 : Nat) (a1 : Int32) (a2 : Int32) (a3 : Int32) (a4 : Int32) (z0 : Nat) (z1 : Int32) (z2 : Int32) (σ : Mm) : Option ((Int32 × Mm) ⊕ (Mm)) :=
  if ixB z1 (ln z0) = true then some (Sum.inl ((a4 + 1), (sI σ z0 (Int32.toNatClampNeg z1) z2))) else none
set_option maxRecDepth 20000 in
set_option maxHeartbeats 2000000 in
theorem tX10_share_b113 {X : XS} {n : Nat} {σ : Mm} {F : Nat × Option Value × Mm} {a0 : Nat} {a1 : Int32} {a2 : Int32} {a3 : Int32} {a4 : Int32} {z0 : Nat} {z1 : Int32} {z2 : Int32} (ha0 : RT n a0 110) (hz0 : RT n z0 200) {res : (Int32 × Mm) ⊕ (Mm)} (h : fX10_share_b113 a0 a1 a2 a3 a4 z0 z1 z2 σ = some res) (hc : ∀ (b4 : Int32) (s : Mm), res = .inl (b4, s) → J X mX10_share 114 0 0 F 49 [(0, .ref a0), (1, .int a1), (2, .int a2), (3, .int a3), (4, .int b4)] [] n s) (he0 : ∀  (s : Mm), res = .inr s → J X mX10_share 114 0 0 F 120 [(0, .ref a0), (1, .int a1), (2, .int a2), (3, .int a3)] [] n s) : J X mX10_share 114 0 0 F 113 [(0, .ref a0), (1, .int a1), (2, .int a2), (3, .int a3), (4, .int a4)] [.int z2, .int z1, .ref z0] n σ := by
  unfold fX10_share_b113 at h
  obtain ⟨g11, h⟩ := iteS h
  refine J_iast dX10_share_113 hz0 (ixB_ok g11) (q := 114) rfl ?_
  refine J_iinc (z := 4) (y := (a4 + 1)) (lv' := [(4, .int (a4 + 1)), (0, .ref a0), (1, .int a1), (2, .int a2), (3, .int a3)]) dX10_share_114 rfl rfl (by decide) rfl (q := 117) rfl ?_
  refine J_goto (tgt := 49) dX10_share_117 (by decide) ?_
  have h := Option.some.inj h
  refine J_pick [1, 2, 3, 4, 0] rfl ?_
  exact hc _ _ h.symm

def fX10_share_b112 (a0 : Nat) (a1 : Int32) (a2 : Int32) (a3 : Int32) (a4 : Int32) (z0 : Nat) (z1 : Int32) (σ : Mm) : Option ((Int32 × Mm) ⊕ (Mm)) :=
  fX10_share_b113 a0 a1 a2 a3 a4 z0 z1 0 σ
set_option maxRecDepth 20000 in
set_option maxHeartbeats 2000000 in
theorem tX10_share_b112 {X : XS} {n : Nat} {σ : Mm} {F : Nat × Option Value × Mm} {a0 : Nat} {a1 : Int32} {a2 : Int32} {a3 : Int32} {a4 : Int32} {z0 : Nat} {z1 : Int32} (ha0 : RT n a0 110) (hz0 : RT n z0 200) {res : (Int32 × Mm) ⊕ (Mm)} (h : fX10_share_b112 a0 a1 a2 a3 a4 z0 z1 σ = some res) (hc : ∀ (b4 : Int32) (s : Mm), res = .inl (b4, s) → J X mX10_share 114 0 0 F 49 [(0, .ref a0), (1, .int a1), (2, .int a2), (3, .int a3), (4, .int b4)] [] n s) (he0 : ∀  (s : Mm), res = .inr s → J X mX10_share 114 0 0 F 120 [(0, .ref a0), (1, .int a1), (2, .int a2), (3, .int a3)] [] n s) : J X mX10_share 114 0 0 F 112 [(0, .ref a0), (1, .int a1), (2, .int a2), (3, .int a3), (4, .int a4)] [.int z1, .ref z0] n σ := by
  unfold fX10_share_b112 at h
  refine J_iconst (x := 0) dX10_share_112 (by decide) (q := 113) rfl ?_
  refine J_pick [0, 1, 2, 3, 4] rfl ?_
  exact tX10_share_b113 ha0 hz0 h hc he0

def fX10_share_l49 (a0 : Nat) (a1 : Int32) (a2 : Int32) (a3 : Int32) (a4 : Int32) (σ : Mm) : Option ((Int32 × Mm) ⊕ (Mm)) :=
  if (gI σ a0 27) ≤ a4 then some (Sum.inr σ) else (gR σ a0 48).bind fun r8 => (fX10_isOf a0 a4 a1 σ).bind fun vk9 => if vk9 = 0 then fX10_share_b112 a0 a1 a2 a3 a4 r8 ((12 * a3) + a4) σ else (gR σ a0 33).bind fun r12 => if ixB (2 * a4) (ln r12) = true then if (gI σ r12 (Int32.toNatClampNeg (2 * a4))) ≤ 0 then fX10_share_b112 a0 a1 a2 a3 a4 r8 ((12 * a3) + a4) σ else (gR σ a0 20).bind fun r15 => if ixB (4 * a4) (ln r15) = true then bnd2 (fX10_lossAt a0 r12 a3 (gI σ r15 (Int32.toNatClampNeg (4 * a4))) σ) fun vk17 sk17 => fX10_share_b113 a0 a1 a2 a3 a4 r8 ((12 * a3) + a4) vk17 sk17 else none else none
set_option maxRecDepth 20000 in
set_option maxHeartbeats 2000000 in
theorem tX10_share_l49 {X : XS} {n : Nat} {σ : Mm} {F : Nat × Option Value × Mm} {a0 : Nat} {a1 : Int32} {a2 : Int32} {a3 : Int32} {a4 : Int32} (ha0 : RT n a0 110) {res : (Int32 × Mm) ⊕ (Mm)} (h : fX10_share_l49 a0 a1 a2 a3 a4 σ = some res) (hc : ∀ (b4 : Int32) (s : Mm), res = .inl (b4, s) → J X mX10_share 114 0 0 F 49 [(0, .ref a0), (1, .int a1), (2, .int a2), (3, .int a3), (4, .int b4)] [] n s) (he0 : ∀  (s : Mm), res = .inr s → J X mX10_share 114 0 0 F 120 [(0, .ref a0), (1, .int a1), (2, .int a2), (3, .int a3)] [] n s) : J X mX10_share 114 0 0 F 49 [(0, .ref a0), (1, .int a1), (2, .int a2), (3, .int a3), (4, .int a4)] [] n σ := by
  unfold fX10_share_l49 at h
  refine J_iload (z := 4) dX10_share_49 rfl (q := 51) rfl ?_
  refine J_aload_n (z := 0) dX10_share_51 rfl rfl (q := 52) rfl ?_
  refine J_getI dX10_share_52 lRX10_291 ha0 rfl (q := 55) rfl ?_
  refine J_icmp_ge (tgt := 120) dX10_share_55 (by decide) (q := 58) rfl (fun c6 => ?_) (fun c6 => ?_)
  · rw [if_pos c6] at h
    have h := Option.some.inj h
    refine J_pick [0, 1, 2, 3] rfl ?_
    exact he0 _ h.symm
  · rw [if_neg c6] at h
    refine J_aload_n (z := 0) dX10_share_58 rfl rfl (q := 59) rfl ?_
    obtain ⟨r8, er8, h⟩ := bindS h
    refine J_getR dX10_share_59 lRX10_87 ha0 rfl (by decide) er8 (q := 62) rfl (fun fr8 => ?_)
    refine J_bipush (x := 12) dX10_share_62 (by decide) (q := 64) rfl ?_
    refine J_iload_n (z := 3) dX10_share_64 rfl rfl (q := 65) rfl ?_
    refine J_imul dX10_share_65  (q := 66) rfl ?_
    refine J_iload (z := 4) dX10_share_66 rfl (q := 68) rfl ?_
    refine J_iadd dX10_share_68  (q := 69) rfl ?_
    refine J_aload_n (z := 0) dX10_share_69 rfl rfl (q := 70) rfl ?_
    refine J_iload (z := 4) dX10_share_70 rfl (q := 72) rfl ?_
    refine J_iload_n (z := 1) dX10_share_72 rfl rfl (q := 73) rfl ?_
    obtain ⟨vk9, hk9, h⟩ := bindS h
    refine J_cVi (as := [.int a4, .int a1]) dX10_share_73 mRX10_474 ha0 (tX10_isOf ha0 hk9) rfl (Nat.le_of_ble_eq_true rfl) (Nat.le_of_ble_eq_true rfl) (Nat.le_of_ble_eq_true rfl) (q := 76) rfl ?_
    intro bk9
    refine J_if_eq (tgt := 112) dX10_share_76 (by decide) (q := 79) rfl (fun c9 => ?_) (fun c9 => ?_)
    · rw [if_pos c9] at h
      refine J_pick [0, 1, 2, 3, 4] rfl ?_
      exact tX10_share_b112 ha0 fr8 h hc he0
    · rw [if_neg c9] at h
      refine J_aload_n (z := 0) dX10_share_79 rfl rfl (q := 80) rfl ?_
      obtain ⟨r12, er12, h⟩ := bindS h
      refine J_getR dX10_share_80 lRX10_61 ha0 rfl (by decide) er12 (q := 83) rfl (fun fr12 => ?_)
      refine J_iconst (x := 2) dX10_share_83 (by decide) (q := 84) rfl ?_
      refine J_iload (z := 4) dX10_share_84 rfl (q := 86) rfl ?_
      refine J_imul dX10_share_86  (q := 87) rfl ?_
      obtain ⟨g13, h⟩ := iteS h
      refine J_iald dX10_share_87 fr12 (ixB_ok g13) (q := 88) rfl ?_
      refine J_if_le (tgt := 112) dX10_share_88 (by decide) (q := 91) rfl (fun c13 => ?_) (fun c13 => ?_)
      · rw [if_pos c13] at h
        refine J_pick [0, 1, 2, 3, 4] rfl ?_
        exact tX10_share_b112 ha0 fr8 h hc he0
      · rw [if_neg c13] at h
        refine J_aload_n (z := 0) dX10_share_91 rfl rfl (q := 92) rfl ?_
        refine J_aload_n (z := 0) dX10_share_92 rfl rfl (q := 93) rfl ?_
        refine J_getR dX10_share_93 lRX10_61 ha0 rfl (by decide) er12 (q := 96) rfl (fun _ => ?_)
        refine J_iload_n (z := 3) dX10_share_96 rfl rfl (q := 97) rfl ?_
        refine J_aload_n (z := 0) dX10_share_97 rfl rfl (q := 98) rfl ?_
        obtain ⟨r15, er15, h⟩ := bindS h
        refine J_getR dX10_share_98 lRX10_43 ha0 rfl (by decide) er15 (q := 101) rfl (fun fr15 => ?_)
        refine J_iconst (x := 4) dX10_share_101 (by decide) (q := 102) rfl ?_
        refine J_iload (z := 4) dX10_share_102 rfl (q := 104) rfl ?_
        refine J_imul dX10_share_104  (q := 105) rfl ?_
        obtain ⟨g16, h⟩ := iteS h
        refine J_iald dX10_share_105 fr15 (ixB_ok g16) (q := 106) rfl ?_
        obtain ⟨vk17, sk17, hk17, h⟩ := bnd2S h
        refine J_cVi (as := [.ref r12, .int a3, .int (gI σ r15 (Int32.toNatClampNeg (4 * a4)))]) dX10_share_106 mRX10_451 ha0 (tX10_lossAt ha0 fr12 hk17) rfl (Nat.le_of_ble_eq_true rfl) (Nat.le_of_ble_eq_true rfl) (Nat.le_of_ble_eq_true rfl) (q := 109) rfl ?_
        intro bk17
        refine J_goto (tgt := 113) dX10_share_109 (by decide) ?_
        refine J_pick [0, 1, 2, 3, 4] rfl ?_
        exact tX10_share_b113 ha0 fr8 h hc he0

def fX10_share_w49 (a0 : Nat) (a1 : Int32) (a2 : Int32) (a3 : Int32) (a4 : Int32) (σ : Mm) : Option (Mm) :=
  wh (fun a : Int32 × Mm => fX10_share_l49 a0 a1 a2 a3 a.1 a.2) BIG (a4, σ)
set_option maxRecDepth 20000 in
set_option maxHeartbeats 2000000 in
theorem tX10_share_w49 {X : XS} {n : Nat} {σ : Mm} {F : Nat × Option Value × Mm} {a0 : Nat} {a1 : Int32} {a2 : Int32} {a3 : Int32} {a4 : Int32} (ha0 : RT n a0 110) {res : Mm} (h : fX10_share_w49 a0 a1 a2 a3 a4 σ = some res) (he0 : ∀  (s : Mm), res = s → J X mX10_share 114 0 0 F 120 [(0, .ref a0), (1, .int a1), (2, .int a2), (3, .int a3)] [] n s) : J X mX10_share 114 0 0 F 49 [(0, .ref a0), (1, .int a1), (2, .int a2), (3, .int a3), (4, .int a4)] [] n σ := by
  unfold fX10_share_w49 at h
  refine wh_rule (P := fun a : Int32 × Mm => J X mX10_share 114 0 0 F 49 [(0, .ref a0), (1, .int a1), (2, .int a2), (3, .int a3), (4, .int a.1)] [] n a.2) (K := fun b => b = res) ?_ _ _ _ h rfl
  intro a
  refine ⟨fun a2 hb hP => ?_, fun b hb hK => ?_⟩
  · exact tX10_share_l49 ha0 hb (fun _ _ e => by cases e; exact hP) (fun _ e => by cases e)
  · subst hK
    exact tX10_share_l49 ha0 hb (fun _ _ e => by cases e) (fun v0 e => he0 v0 (Sum.inr.inj e))

def fX10_share_l38 (a0 : Nat) (a1 : Int32) (a2 : Int32) (a3 : Int32) (σ : Mm) : Option ((Int32 × Mm) ⊕ (Mm)) :=
  if (gI σ a0 28) ≤ a3 then some (Sum.inr σ) else (fX10_share_w49 a0 a1 a2 a3 0 σ).bind (fun o18 => (fun so18 => some (Sum.inl ((a3 + 1), so18))) o18)
set_option maxRecDepth 20000 in
set_option maxHeartbeats 2000000 in
theorem tX10_share_l38 {X : XS} {n : Nat} {σ : Mm} {F : Nat × Option Value × Mm} {a0 : Nat} {a1 : Int32} {a2 : Int32} {a3 : Int32} (ha0 : RT n a0 110) {res : (Int32 × Mm) ⊕ (Mm)} (h : fX10_share_l38 a0 a1 a2 a3 σ = some res) (hc : ∀ (b3 : Int32) (s : Mm), res = .inl (b3, s) → J X mX10_share 114 0 0 F 38 [(0, .ref a0), (1, .int a1), (2, .int a2), (3, .int b3)] [] n s) (he0 : ∀  (s : Mm), res = .inr s → J X mX10_share 114 0 0 F 126 [(0, .ref a0), (1, .int a1), (2, .int a2)] [] n s) : J X mX10_share 114 0 0 F 38 [(0, .ref a0), (1, .int a1), (2, .int a2), (3, .int a3)] [] n σ := by
  unfold fX10_share_l38 at h
  refine J_iload_n (z := 3) dX10_share_38 rfl rfl (q := 39) rfl ?_
  refine J_aload_n (z := 0) dX10_share_39 rfl rfl (q := 40) rfl ?_
  refine J_getI dX10_share_40 lRX10_294 ha0 rfl (q := 43) rfl ?_
  refine J_icmp_ge (tgt := 126) dX10_share_43 (by decide) (q := 46) rfl (fun c5 => ?_) (fun c5 => ?_)
  · rw [if_pos c5] at h
    have h := Option.some.inj h
    refine J_pick [0, 1, 2] rfl ?_
    exact he0 _ h.symm
  · rw [if_neg c5] at h
    refine J_iconst (x := 0) dX10_share_46 (by decide) (q := 47) rfl ?_
    refine J_istore (lv' := [(4, .int 0), (0, .ref a0), (1, .int a1), (2, .int a2), (3, .int a3)]) dX10_share_47 (by decide) rfl (q := 49) rfl ?_
    obtain ⟨o18, hlo18, h⟩ := bindS h
    refine J_pick [1, 2, 3, 4, 0] rfl ?_
    refine tX10_share_w49 ha0 hlo18 ?_
    · intro so18 qo18
      rw [qo18] at h
      try dsimp only [Sum.elim_inl, Sum.elim_inr] at h
      refine J_iinc (z := 3) (y := (a3 + 1)) (lv' := [(3, .int (a3 + 1)), (0, .ref a0), (1, .int a1), (2, .int a2)]) dX10_share_120 rfl rfl (by decide) rfl (q := 123) rfl ?_
      refine J_goto (tgt := 38) dX10_share_123 (by decide) ?_
      have h := Option.some.inj h
      refine J_pick [1, 2, 3, 0] rfl ?_
      exact hc _ _ h.symm

def fX10_share_w38 (a0 : Nat) (a1 : Int32) (a2 : Int32) (a3 : Int32) (σ : Mm) : Option (Mm) :=
  wh (fun a : Int32 × Mm => fX10_share_l38 a0 a1 a2 a.1 a.2) BIG (a3, σ)
set_option maxRecDepth 20000 in
set_option maxHeartbeats 2000000 in
theorem tX10_share_w38 {X : XS} {n : Nat} {σ : Mm} {F : Nat × Option Value × Mm} {a0 : Nat} {a1 : Int32} {a2 : Int32} {a3 : Int32} (ha0 : RT n a0 110) {res : Mm} (h : fX10_share_w38 a0 a1 a2 a3 σ = some res) (he0 : ∀  (s : Mm), res = s → J X mX10_share 114 0 0 F 126 [(0, .ref a0), (1, .int a1), (2, .int a2)] [] n s) : J X mX10_share 114 0 0 F 38 [(0, .ref a0), (1, .int a1), (2, .int a2), (3, .int a3)] [] n σ := by
  unfold fX10_share_w38 at h
  refine wh_rule (P := fun a : Int32 × Mm => J X mX10_share 114 0 0 F 38 [(0, .ref a0), (1, .int a1), (2, .int a2), (3, .int a.1)] [] n a.2) (K := fun b => b = res) ?_ _ _ _ h rfl
  intro a
  refine ⟨fun a2 hb hP => ?_, fun b hb hK => ?_⟩
  · exact tX10_share_l38 ha0 hb (fun _ _ e => by cases e; exact hP) (fun _ e => by cases e)
  · subst hK
    exact tX10_share_l38 ha0 hb (fun _ _ e => by cases e) (fun v0 e => he0 v0 (Sum.inr.inj e))

def fX10_share (a0 : Nat) (a1 : Int32) (a2 : Int32) (σ : Mm) : Option (Int32 × Mm) :=
  if (gI (sI σ a0 0 0) a0 27) = 0 then some ((-1), (sI σ a0 0 0)) else (fX10_isIn (Int32.toInt64 a1) 0 4 (sI σ a0 0 0)).bind fun vk2 => if vk2 = 0 then some ((-1), (sI σ a0 0 0)) else (fX10_isIn (Int32.toInt64 a2) 0 1 (sI σ a0 0 0)).bind fun vk4 => if vk4 = 0 then some ((-1), (sI σ a0 0 0)) else (fX10_share_w38 a0 a1 a2 0 (sI σ a0 0 0)).bind (fun o19 => (fun so19 => (gX10s 100 a0 a1 0 0 0 0 (sI (sI so19 a0 46 0) a0 47 1000000)).bind fun sk20 => if a2 = 0 then some ((gI sk20 a0 46), sk20) else some ((gI sk20 a0 47), sk20)) o19)
set_option maxRecDepth 20000 in
set_option maxHeartbeats 2000000 in
theorem tX10_share {X : XS} {n : Nat} {σ : Mm} {a0 : Nat} {a1 : Int32} {a2 : Int32} (ha0 : RT n a0 110) {res : Int32 × Mm} (h : fX10_share a0 a1 a2 σ = some res) : MT X yX10_share mX10_share 114 0 0 [.ref a0, .int a1, .int a2] n σ (n, some (.int res.1), res.2) := by
  unfold fX10_share at h
  refine MT_of (by decide +kernel) rfl (fun h => by cases h) (Nat.le_of_ble_eq_true rfl) ?_
  show J X mX10_share 114 0 0 (n, some (.int res.1), res.2) 0 [(0, .ref a0), (1, .int a1), (2, .int a2)] [] n σ
  refine J_aload_n (z := 0) dX10_share_0 rfl rfl (q := 1) rfl ?_
  refine J_iconst (x := 0) dX10_share_1 (by decide) (q := 2) rfl ?_
  refine J_putI dX10_share_2 lRX10_96 (fun h => by cases h) ha0 rfl (q := 5) rfl ?_
  refine J_aload_n (z := 0) dX10_share_5 rfl rfl (q := 6) rfl ?_
  refine J_getI dX10_share_6 lRX10_291 ha0 rfl (q := 9) rfl ?_
  refine J_if_eq (tgt := 34) dX10_share_9 (by decide) (q := 12) rfl (fun c0 => ?_) (fun c0 => ?_)
  · rw [if_pos c0] at h
    refine J_iconst (x := (-1)) dX10_share_34 (by decide) (q := 35) rfl ?_
    have h := Option.some.inj h
    subst h
    exact J_ireturn dX10_share_35 rfl rfl rfl
  · rw [if_neg c0] at h
    refine J_iload_n (z := 1) dX10_share_12 rfl rfl (q := 13) rfl ?_
    refine J_i2l dX10_share_13  (q := 14) rfl ?_
    refine J_lconst (x := 0) dX10_share_14 (by decide) (q := 15) rfl ?_
    refine J_ldc2 (x := 4) dX10_share_15 kRX10_344 (q := 18) rfl ?_
    obtain ⟨vk2, hk2, h⟩ := bindS h
    refine J_cSi (as := [.long (Int32.toInt64 a1), .long 0, .long 4]) dX10_share_18 mRX10_217 (tX10_isIn  hk2) rfl (Nat.le_of_ble_eq_true rfl) (Nat.le_of_ble_eq_true rfl) (Nat.le_of_ble_eq_true rfl) (q := 21) rfl ?_
    intro bk2
    refine J_if_eq (tgt := 34) dX10_share_21 (by decide) (q := 24) rfl (fun c2 => ?_) (fun c2 => ?_)
    · rw [if_pos c2] at h
      refine J_iconst (x := (-1)) dX10_share_34 (by decide) (q := 35) rfl ?_
      have h := Option.some.inj h
      subst h
      exact J_ireturn dX10_share_35 rfl rfl rfl
    · rw [if_neg c2] at h
      refine J_iload_n (z := 2) dX10_share_24 rfl rfl (q := 25) rfl ?_
      refine J_i2l dX10_share_25  (q := 26) rfl ?_
      refine J_lconst (x := 0) dX10_share_26 (by decide) (q := 27) rfl ?_
      refine J_lconst (x := 1) dX10_share_27 (by decide) (q := 28) rfl ?_
      obtain ⟨vk4, hk4, h⟩ := bindS h
      refine J_cSi (as := [.long (Int32.toInt64 a2), .long 0, .long 1]) dX10_share_28 mRX10_217 (tX10_isIn  hk4) rfl (Nat.le_of_ble_eq_true rfl) (Nat.le_of_ble_eq_true rfl) (Nat.le_of_ble_eq_true rfl) (q := 31) rfl ?_
      intro bk4
      refine J_if_ne (tgt := 36) dX10_share_31 (by decide) (q := 34) rfl (fun c4 => ?_) (fun c4 => ?_)
      · rw [if_neg c4] at h
        refine J_iconst (x := 0) dX10_share_36 (by decide) (q := 37) rfl ?_
        refine J_istore_n (lv' := [(3, .int 0), (0, .ref a0), (1, .int a1), (2, .int a2)]) dX10_share_37 rfl (by decide) rfl (q := 38) rfl ?_
        obtain ⟨o19, hlo19, h⟩ := bindS h
        refine J_pick [1, 2, 3, 0] rfl ?_
        refine tX10_share_w38 ha0 hlo19 ?_
        · intro so19 qo19
          rw [qo19] at h
          try dsimp only [Sum.elim_inl, Sum.elim_inr] at h
          refine J_aload_n (z := 0) dX10_share_126 rfl rfl (q := 127) rfl ?_
          refine J_iconst (x := 0) dX10_share_127 (by decide) (q := 128) rfl ?_
          refine J_putI dX10_share_128 lRX10_482 (fun h => by cases h) ha0 rfl (q := 131) rfl ?_
          refine J_aload_n (z := 0) dX10_share_131 rfl rfl (q := 132) rfl ?_
          refine J_ldcw (x := 1000000) dX10_share_132 kRX10_491 (q := 135) rfl ?_
          refine J_putI dX10_share_135 lRX10_485 (fun h => by cases h) ha0 rfl (q := 138) rfl ?_
          refine J_aload_n (z := 0) dX10_share_138 rfl rfl (q := 139) rfl ?_
          refine J_iload_n (z := 1) dX10_share_139 rfl rfl (q := 140) rfl ?_
          refine J_iconst (x := 0) dX10_share_140 (by decide) (q := 141) rfl ?_
          refine J_iconst (x := 0) dX10_share_141 (by decide) (q := 142) rfl ?_
          refine J_iconst (x := 0) dX10_share_142 (by decide) (q := 143) rfl ?_
          refine J_iconst (x := 0) dX10_share_143 (by decide) (q := 144) rfl ?_
          obtain ⟨sk20, hk20, h⟩ := bindS h
          refine J_cVv (as := [.int a1, .int 0, .int 0, .int 0, .int 0]) dX10_share_144 mRX10_488 ha0 ((tgX10s 100) ha0 hk20) rfl (Nat.le_of_ble_eq_true rfl) (Nat.le_of_ble_eq_true rfl) (Nat.le_of_ble_eq_true rfl) (q := 147) rfl ?_
          refine J_iload_n (z := 2) dX10_share_147 rfl rfl (q := 148) rfl ?_
          refine J_if_ne (tgt := 158) dX10_share_148 (by decide) (q := 151) rfl (fun c20 => ?_) (fun c20 => ?_)
          · rw [if_neg c20] at h
            refine J_aload_n (z := 0) dX10_share_158 rfl rfl (q := 159) rfl ?_
            refine J_getI dX10_share_159 lRX10_485 ha0 rfl (q := 162) rfl ?_
            have h := Option.some.inj h
            subst h
            exact J_ireturn dX10_share_162 rfl rfl rfl
          · rw [if_pos c20] at h
            refine J_aload_n (z := 0) dX10_share_151 rfl rfl (q := 152) rfl ?_
            refine J_getI dX10_share_152 lRX10_482 ha0 rfl (q := 155) rfl ?_
            refine J_goto (tgt := 162) dX10_share_155 (by decide) ?_
            have h := Option.some.inj h
            subst h
            exact J_ireturn dX10_share_162 rfl rfl rfl
      · rw [if_pos c4] at h
        refine J_iconst (x := (-1)) dX10_share_34 (by decide) (q := 35) rfl ?_
        have h := Option.some.inj h
        subst h
        exact J_ireturn dX10_share_35 rfl rfl rfl

def fX10_bookBits_b29 (a0 : Nat) (a1 : Int32) (a3 : Int32) (z0 : Int32) (z1 : Int32) (σ : Mm) : Option ((Int32 × Int32) ⊕ (Int32)) :=
  some (Sum.inl ((z0 ||| z1), (a3 + 1)))
set_option maxRecDepth 20000 in
set_option maxHeartbeats 2000000 in
theorem tX10_bookBits_b29 {X : XS} {n : Nat} {σ : Mm} {F : Nat × Option Value × Mm} {a0 : Nat} {a1 : Int32} {a3 : Int32} {z0 : Int32} {z1 : Int32} (ha0 : RT n a0 110) {res : (Int32 × Int32) ⊕ (Int32)} (h : fX10_bookBits_b29 a0 a1 a3 z0 z1 σ = some res) (hc : ∀ (b2 : Int32) (b3 : Int32), res = .inl (b2, b3) → J X mX10_bookBits 2 0 0 F 4 [(0, .ref a0), (1, .int a1), (2, .int b2), (3, .int b3)] [] n σ) (hr : ∀ (v : Int32), res = .inr v → F = (n, some (.int v), σ)) : J X mX10_bookBits 2 0 0 F 29 [(0, .ref a0), (1, .int a1), (3, .int a3)] [.int z1, .int z0] n σ := by
  unfold fX10_bookBits_b29 at h
  refine J_ior dX10_bookBits_29  (q := 30) rfl ?_
  refine J_istore_n (lv' := [(2, .int (z0 ||| z1)), (0, .ref a0), (1, .int a1), (3, .int a3)]) dX10_bookBits_30 rfl (by decide) rfl (q := 31) rfl ?_
  refine J_iinc (z := 3) (y := (a3 + 1)) (lv' := [(3, .int (a3 + 1)), (2, .int (z0 ||| z1)), (0, .ref a0), (1, .int a1)]) dX10_bookBits_31 rfl rfl (by decide) rfl (q := 34) rfl ?_
  refine J_goto (tgt := 4) dX10_bookBits_34 (by decide) ?_
  have h := Option.some.inj h
  refine J_pick [2, 3, 1, 0] rfl ?_
  exact hc _ _ h.symm

def fX10_bookBits_l4 (a0 : Nat) (a1 : Int32) (a2 : Int32) (a3 : Int32) (σ : Mm) : Option ((Int32 × Int32) ⊕ (Int32)) :=
  if (gI σ a0 27) ≤ a3 then some (Sum.inr a2) else (fX10_isOf a0 a3 a1 σ).bind fun vk2 => if vk2 = 0 then fX10_bookBits_b29 a0 a1 a3 a2 0 σ else fX10_bookBits_b29 a0 a1 a3 a2 (shlI 1 a3) σ
set_option maxRecDepth 20000 in
set_option maxHeartbeats 2000000 in
theorem tX10_bookBits_l4 {X : XS} {n : Nat} {σ : Mm} {F : Nat × Option Value × Mm} {a0 : Nat} {a1 : Int32} {a2 : Int32} {a3 : Int32} (ha0 : RT n a0 110) {res : (Int32 × Int32) ⊕ (Int32)} (h : fX10_bookBits_l4 a0 a1 a2 a3 σ = some res) (hc : ∀ (b2 : Int32) (b3 : Int32), res = .inl (b2, b3) → J X mX10_bookBits 2 0 0 F 4 [(0, .ref a0), (1, .int a1), (2, .int b2), (3, .int b3)] [] n σ) (hr : ∀ (v : Int32), res = .inr v → F = (n, some (.int v), σ)) : J X mX10_bookBits 2 0 0 F 4 [(0, .ref a0), (1, .int a1), (2, .int a2), (3, .int a3)] [] n σ := by
  unfold fX10_bookBits_l4 at h
  refine J_iload_n (z := 3) dX10_bookBits_4 rfl rfl (q := 5) rfl ?_
  refine J_aload_n (z := 0) dX10_bookBits_5 rfl rfl (q := 6) rfl ?_
  refine J_getI dX10_bookBits_6 lRX10_291 ha0 rfl (q := 9) rfl ?_
  refine J_icmp_ge (tgt := 37) dX10_bookBits_9 (by decide) (q := 12) rfl (fun c0 => ?_) (fun c0 => ?_)
  · rw [if_pos c0] at h
    refine J_iload_n (z := 2) dX10_bookBits_37 rfl rfl (q := 38) rfl ?_
    have h := Option.some.inj h
    exact J_ireturn dX10_bookBits_38 rfl rfl (hr _ h.symm)
  · rw [if_neg c0] at h
    refine J_iload_n (z := 2) dX10_bookBits_12 rfl rfl (q := 13) rfl ?_
    refine J_aload_n (z := 0) dX10_bookBits_13 rfl rfl (q := 14) rfl ?_
    refine J_iload_n (z := 3) dX10_bookBits_14 rfl rfl (q := 15) rfl ?_
    refine J_iload_n (z := 1) dX10_bookBits_15 rfl rfl (q := 16) rfl ?_
    obtain ⟨vk2, hk2, h⟩ := bindS h
    refine J_cVi (as := [.int a3, .int a1]) dX10_bookBits_16 mRX10_474 ha0 (tX10_isOf ha0 hk2) rfl (Nat.le_of_ble_eq_true rfl) (Nat.le_of_ble_eq_true rfl) (Nat.le_of_ble_eq_true rfl) (q := 19) rfl ?_
    intro bk2
    refine J_if_eq (tgt := 28) dX10_bookBits_19 (by decide) (q := 22) rfl (fun c2 => ?_) (fun c2 => ?_)
    · rw [if_pos c2] at h
      refine J_iconst (x := 0) dX10_bookBits_28 (by decide) (q := 29) rfl ?_
      refine J_pick [0, 1, 3] rfl ?_
      exact tX10_bookBits_b29 ha0 h hc hr
    · rw [if_neg c2] at h
      refine J_iconst (x := 1) dX10_bookBits_22 (by decide) (q := 23) rfl ?_
      refine J_iload_n (z := 3) dX10_bookBits_23 rfl rfl (q := 24) rfl ?_
      refine J_ishl dX10_bookBits_24  (q := 25) rfl ?_
      refine J_goto (tgt := 29) dX10_bookBits_25 (by decide) ?_
      refine J_pick [0, 1, 3] rfl ?_
      exact tX10_bookBits_b29 ha0 h hc hr

def fX10_bookBits_w4 (a0 : Nat) (a1 : Int32) (a2 : Int32) (a3 : Int32) (σ : Mm) : Option (Int32) :=
  wh (fun a : Int32 × Int32 => fX10_bookBits_l4 a0 a1 a.1 a.2 σ) BIG (a2, a3)
set_option maxRecDepth 20000 in
set_option maxHeartbeats 2000000 in
theorem tX10_bookBits_w4 {X : XS} {n : Nat} {σ : Mm} {F : Nat × Option Value × Mm} {a0 : Nat} {a1 : Int32} {a2 : Int32} {a3 : Int32} (ha0 : RT n a0 110) {res : Int32} (h : fX10_bookBits_w4 a0 a1 a2 a3 σ = some res) (hr : ∀ (v : Int32), res = v → F = (n, some (.int v), σ)) : J X mX10_bookBits 2 0 0 F 4 [(0, .ref a0), (1, .int a1), (2, .int a2), (3, .int a3)] [] n σ := by
  unfold fX10_bookBits_w4 at h
  refine wh_rule (P := fun a : Int32 × Int32 => J X mX10_bookBits 2 0 0 F 4 [(0, .ref a0), (1, .int a1), (2, .int a.1), (3, .int a.2)] [] n σ) (K := fun b => b = res) ?_ _ _ _ h rfl
  intro a
  refine ⟨fun a2 hb hP => ?_, fun b hb hK => ?_⟩
  · exact tX10_bookBits_l4 ha0 hb (fun _ _ e => by cases e; exact hP) (fun _ e => by cases e)
  · subst hK
    exact tX10_bookBits_l4 ha0 hb (fun _ _ e => by cases e) (fun v0 e => hr v0 (Sum.inr.inj e))

def fX10_bookBits (a0 : Nat) (a1 : Int32) (σ : Mm) : Option (Int32) :=
  (fX10_bookBits_w4 a0 a1 0 0 σ).bind (fun o4 => some o4)
set_option maxRecDepth 20000 in
set_option maxHeartbeats 2000000 in
theorem tX10_bookBits {X : XS} {n : Nat} {σ : Mm} {a0 : Nat} {a1 : Int32} (ha0 : RT n a0 110) {res : Int32} (h : fX10_bookBits a0 a1 σ = some res) : MT X yX10_bookBits mX10_bookBits 2 0 0 [.ref a0, .int a1] n σ (n, some (.int res), σ) := by
  unfold fX10_bookBits at h
  refine MT_of (by decide +kernel) rfl (fun h => by cases h) (Nat.le_of_ble_eq_true rfl) ?_
  show J X mX10_bookBits 2 0 0 (n, some (.int res), σ) 0 [(0, .ref a0), (1, .int a1)] [] n σ
  refine J_iconst (x := 0) dX10_bookBits_0 (by decide) (q := 1) rfl ?_
  refine J_istore_n (lv' := [(2, .int 0), (0, .ref a0), (1, .int a1)]) dX10_bookBits_1 rfl (by decide) rfl (q := 2) rfl ?_
  refine J_iconst (x := 0) dX10_bookBits_2 (by decide) (q := 3) rfl ?_
  refine J_istore_n (lv' := [(3, .int 0), (2, .int 0), (0, .ref a0), (1, .int a1)]) dX10_bookBits_3 rfl (by decide) rfl (q := 4) rfl ?_
  obtain ⟨o4, hlo4, h⟩ := bindS h
  refine J_pick [2, 3, 1, 0] rfl ?_
  refine tX10_bookBits_w4 ha0 hlo4 ?_
  · intro vo4 qo4
    rw [qo4] at h
    try dsimp only [Sum.elim_inl, Sum.elim_inr] at h
    have h := Option.some.inj h
    subst h
    rfl

def fX10_who_b88 (a0 : Nat) (a2 : Int32) (a3 : Int32) (a4 : Int32) (a6 : Int32) (z0 : Int32) (z1 : Int32) (σ : Mm) : Option ((Int32 × Int32) ⊕ (Int32)) :=
  some (Sum.inl ((z0 ||| z1), (a6 + 1)))
set_option maxRecDepth 20000 in
set_option maxHeartbeats 2000000 in
theorem tX10_who_b88 {X : XS} {n : Nat} {σ : Mm} {F : Nat × Option Value × Mm} {a0 : Nat} {a2 : Int32} {a3 : Int32} {a4 : Int32} {a6 : Int32} {z0 : Int32} {z1 : Int32} (ha0 : RT n a0 110) {res : (Int32 × Int32) ⊕ (Int32)} (h : fX10_who_b88 a0 a2 a3 a4 a6 z0 z1 σ = some res) (hc : ∀ (b5 : Int32) (b6 : Int32), res = .inl (b5, b6) → J X mX10_who 3 0 0 F 54 [(0, .ref a0), (2, .int a2), (3, .int a3), (4, .int a4), (5, .int b5), (6, .int b6)] [] n σ) (he0 : ∀ (b5 : Int32), res = .inr b5 → J X mX10_who 3 0 0 F 97 [(0, .ref a0), (2, .int a2), (3, .int a3), (4, .int a4), (5, .int b5)] [] n σ) : J X mX10_who 3 0 0 F 88 [(0, .ref a0), (2, .int a2), (3, .int a3), (4, .int a4), (6, .int a6)] [.int z1, .int z0] n σ := by
  unfold fX10_who_b88 at h
  refine J_ior dX10_who_88  (q := 89) rfl ?_
  refine J_istore (lv' := [(5, .int (z0 ||| z1)), (0, .ref a0), (2, .int a2), (3, .int a3), (4, .int a4), (6, .int a6)]) dX10_who_89 (by decide) rfl (q := 91) rfl ?_
  refine J_iinc (z := 5) (y := (a6 + 1)) (lv' := [(6, .int (a6 + 1)), (5, .int (z0 ||| z1)), (0, .ref a0), (2, .int a2), (3, .int a3), (4, .int a4)]) dX10_who_91 rfl rfl (by decide) rfl (q := 94) rfl ?_
  refine J_goto (tgt := 54) dX10_who_94 (by decide) ?_
  have h := Option.some.inj h
  refine J_pick [2, 3, 4, 5, 1, 0] rfl ?_
  exact hc _ _ h.symm

def fX10_who_l54 (a0 : Nat) (a2 : Int32) (a3 : Int32) (a4 : Int32) (a5 : Int32) (a6 : Int32) (σ : Mm) : Option ((Int32 × Int32) ⊕ (Int32)) :=
  if (gI σ a0 28) ≤ a6 then some (Sum.inr a5) else (fX10_has a4 a6 σ).bind fun vk7 => if vk7 = 0 then fX10_who_b88 a0 a2 a3 a4 a6 a5 0 σ else (gR σ a0 33).bind fun r9 => (fX10_knownBits r9 a6 σ).bind fun vk10 => fX10_who_b88 a0 a2 a3 a4 a6 a5 vk10 σ
set_option maxRecDepth 20000 in
set_option maxHeartbeats 2000000 in
theorem tX10_who_l54 {X : XS} {n : Nat} {σ : Mm} {F : Nat × Option Value × Mm} {a0 : Nat} {a2 : Int32} {a3 : Int32} {a4 : Int32} {a5 : Int32} {a6 : Int32} (ha0 : RT n a0 110) {res : (Int32 × Int32) ⊕ (Int32)} (h : fX10_who_l54 a0 a2 a3 a4 a5 a6 σ = some res) (hc : ∀ (b5 : Int32) (b6 : Int32), res = .inl (b5, b6) → J X mX10_who 3 0 0 F 54 [(0, .ref a0), (2, .int a2), (3, .int a3), (4, .int a4), (5, .int b5), (6, .int b6)] [] n σ) (he0 : ∀ (b5 : Int32), res = .inr b5 → J X mX10_who 3 0 0 F 97 [(0, .ref a0), (2, .int a2), (3, .int a3), (4, .int a4), (5, .int b5)] [] n σ) : J X mX10_who 3 0 0 F 54 [(0, .ref a0), (2, .int a2), (3, .int a3), (4, .int a4), (5, .int a5), (6, .int a6)] [] n σ := by
  unfold fX10_who_l54 at h
  refine J_iload (z := 5) dX10_who_54 rfl (q := 56) rfl ?_
  refine J_aload_n (z := 0) dX10_who_56 rfl rfl (q := 57) rfl ?_
  refine J_getI dX10_who_57 lRX10_294 ha0 rfl (q := 60) rfl ?_
  refine J_icmp_ge (tgt := 97) dX10_who_60 (by decide) (q := 63) rfl (fun c5 => ?_) (fun c5 => ?_)
  · rw [if_pos c5] at h
    have h := Option.some.inj h
    refine J_pick [0, 1, 2, 3, 4] rfl ?_
    exact he0 _ h.symm
  · rw [if_neg c5] at h
    refine J_iload (z := 4) dX10_who_63 rfl (q := 65) rfl ?_
    refine J_iload (z := 3) dX10_who_65 rfl (q := 67) rfl ?_
    refine J_iload (z := 5) dX10_who_67 rfl (q := 69) rfl ?_
    obtain ⟨vk7, hk7, h⟩ := bindS h
    refine J_cSi (as := [.int a4, .int a6]) dX10_who_69 mRX10_229 (tX10_has  hk7) rfl (Nat.le_of_ble_eq_true rfl) (Nat.le_of_ble_eq_true rfl) (Nat.le_of_ble_eq_true rfl) (q := 72) rfl ?_
    intro bk7
    refine J_if_eq (tgt := 87) dX10_who_72 (by decide) (q := 75) rfl (fun c7 => ?_) (fun c7 => ?_)
    · rw [if_pos c7] at h
      refine J_iconst (x := 0) dX10_who_87 (by decide) (q := 88) rfl ?_
      refine J_pick [0, 1, 2, 3, 5] rfl ?_
      exact tX10_who_b88 ha0 h hc he0
    · rw [if_neg c7] at h
      refine J_aload_n (z := 0) dX10_who_75 rfl rfl (q := 76) rfl ?_
      obtain ⟨r9, er9, h⟩ := bindS h
      refine J_getR dX10_who_76 lRX10_61 ha0 rfl (by decide) er9 (q := 79) rfl (fun fr9 => ?_)
      refine J_iload (z := 5) dX10_who_79 rfl (q := 81) rfl ?_
      obtain ⟨vk10, hk10, h⟩ := bindS h
      refine J_cSi (as := [.ref r9, .int a6]) dX10_who_81 mRX10_355 (tX10_knownBits fr9 hk10) rfl (Nat.le_of_ble_eq_true rfl) (Nat.le_of_ble_eq_true rfl) (Nat.le_of_ble_eq_true rfl) (q := 84) rfl ?_
      intro bk10
      refine J_goto (tgt := 88) dX10_who_84 (by decide) ?_
      refine J_pick [0, 1, 2, 3, 5] rfl ?_
      exact tX10_who_b88 ha0 h hc he0

def fX10_who_w54 (a0 : Nat) (a2 : Int32) (a3 : Int32) (a4 : Int32) (a5 : Int32) (a6 : Int32) (σ : Mm) : Option (Int32) :=
  wh (fun a : Int32 × Int32 => fX10_who_l54 a0 a2 a3 a4 a.1 a.2 σ) BIG (a5, a6)
set_option maxRecDepth 20000 in
set_option maxHeartbeats 2000000 in
theorem tX10_who_w54 {X : XS} {n : Nat} {σ : Mm} {F : Nat × Option Value × Mm} {a0 : Nat} {a2 : Int32} {a3 : Int32} {a4 : Int32} {a5 : Int32} {a6 : Int32} (ha0 : RT n a0 110) {res : Int32} (h : fX10_who_w54 a0 a2 a3 a4 a5 a6 σ = some res) (he0 : ∀ (b5 : Int32), res = b5 → J X mX10_who 3 0 0 F 97 [(0, .ref a0), (2, .int a2), (3, .int a3), (4, .int a4), (5, .int b5)] [] n σ) : J X mX10_who 3 0 0 F 54 [(0, .ref a0), (2, .int a2), (3, .int a3), (4, .int a4), (5, .int a5), (6, .int a6)] [] n σ := by
  unfold fX10_who_w54 at h
  refine wh_rule (P := fun a : Int32 × Int32 => J X mX10_who 3 0 0 F 54 [(0, .ref a0), (2, .int a2), (3, .int a3), (4, .int a4), (5, .int a.1), (6, .int a.2)] [] n σ) (K := fun b => b = res) ?_ _ _ _ h rfl
  intro a
  refine ⟨fun a2 hb hP => ?_, fun b hb hK => ?_⟩
  · exact tX10_who_l54 ha0 hb (fun _ _ e => by cases e; exact hP) (fun _ e => by cases e)
  · subst hK
    exact tX10_who_l54 ha0 hb (fun _ _ e => by cases e) (fun v0 e => he0 v0 (Sum.inr.inj e))

def fX10_who_b126 (a0 : Nat) (a2 : Int32) (a3 : Int32) (a4 : Int32) (σ : Mm) : Option ((Int32 × Int32) ⊕ (Int32 × Mm)) :=
  some (Sum.inl (a3, (a4 + 1)))
set_option maxRecDepth 20000 in
set_option maxHeartbeats 2000000 in
theorem tX10_who_b126 {X : XS} {n : Nat} {σ : Mm} {F : Nat × Option Value × Mm} {a0 : Nat} {a2 : Int32} {a3 : Int32} {a4 : Int32} (ha0 : RT n a0 110) {res : (Int32 × Int32) ⊕ (Int32 × Mm)} (h : fX10_who_b126 a0 a2 a3 a4 σ = some res) (hc : ∀ (b3 : Int32) (b4 : Int32), res = .inl (b3, b4) → J X mX10_who 3 0 0 F 37 [(0, .ref a0), (2, .int a2), (3, .int b3), (4, .int b4)] [] n σ) (hr : ∀ (v : Int32) (s : Mm), res = .inr (v, s) → F = (n, some (.int v), s)) : J X mX10_who 3 0 0 F 126 [(0, .ref a0), (2, .int a2), (3, .int a3), (4, .int a4)] [] n σ := by
  unfold fX10_who_b126 at h
  refine J_iinc (z := 3) (y := (a4 + 1)) (lv' := [(4, .int (a4 + 1)), (0, .ref a0), (2, .int a2), (3, .int a3)]) dX10_who_126 rfl rfl (by decide) rfl (q := 129) rfl ?_
  refine J_goto (tgt := 37) dX10_who_129 (by decide) ?_
  have h := Option.some.inj h
  refine J_pick [1, 2, 3, 0] rfl ?_
  exact hc _ _ h.symm

def fX10_who_b123 (a0 : Nat) (a2 : Int32) (a4 : Int32) (σ : Mm) : Option ((Int32 × Int32) ⊕ (Int32 × Mm)) :=
  fX10_who_b126 a0 a2 a4 a4 σ
set_option maxRecDepth 20000 in
set_option maxHeartbeats 2000000 in
theorem tX10_who_b123 {X : XS} {n : Nat} {σ : Mm} {F : Nat × Option Value × Mm} {a0 : Nat} {a2 : Int32} {a4 : Int32} (ha0 : RT n a0 110) {res : (Int32 × Int32) ⊕ (Int32 × Mm)} (h : fX10_who_b123 a0 a2 a4 σ = some res) (hc : ∀ (b3 : Int32) (b4 : Int32), res = .inl (b3, b4) → J X mX10_who 3 0 0 F 37 [(0, .ref a0), (2, .int a2), (3, .int b3), (4, .int b4)] [] n σ) (hr : ∀ (v : Int32) (s : Mm), res = .inr (v, s) → F = (n, some (.int v), s)) : J X mX10_who 3 0 0 F 123 [(0, .ref a0), (2, .int a2), (4, .int a4)] [] n σ := by
  unfold fX10_who_b123 at h
  refine J_iload (z := 2) dX10_who_123 rfl (q := 125) rfl ?_
  refine J_istore_n (lv' := [(3, .int a4), (0, .ref a0), (2, .int a2), (4, .int a4)]) dX10_who_125 rfl (by decide) rfl (q := 126) rfl ?_
  refine J_pick [1, 2, 0, 3] rfl ?_
  exact tX10_who_b126 ha0 h hc hr

def fX10_who_l37 (a0 : Nat) (a2 : Int32) (a3 : Int32) (a4 : Int32) (σ : Mm) : Option ((Int32 × Int32) ⊕ (Int32 × Mm)) :=
  if (shlI 1 (gI σ a0 28)) ≤ a4 then some (Sum.inr (a3, σ)) else (fX10_who_w54 a0 a2 a3 a4 0 0 σ).bind (fun o11 => (fun xo11_5 => if (a2 &&& (xo11_5 ^^^ (-1))) = 0 then if a3 = (-1) then fX10_who_b123 a0 a2 a4 σ else (fJ6_bitCount_0f7a4 a4 σ).bind fun vk14 => (fJ6_bitCount_0f7a4 a3 σ).bind fun vk15 => if vk15 ≤ vk14 then fX10_who_b126 a0 a2 a3 a4 σ else fX10_who_b123 a0 a2 a4 σ else fX10_who_b126 a0 a2 a3 a4 σ) o11)
set_option maxRecDepth 20000 in
set_option maxHeartbeats 2000000 in
theorem tX10_who_l37 {X : XS} {n : Nat} {σ : Mm} {F : Nat × Option Value × Mm} {a0 : Nat} {a2 : Int32} {a3 : Int32} {a4 : Int32} (ha0 : RT n a0 110) {res : (Int32 × Int32) ⊕ (Int32 × Mm)} (h : fX10_who_l37 a0 a2 a3 a4 σ = some res) (hc : ∀ (b3 : Int32) (b4 : Int32), res = .inl (b3, b4) → J X mX10_who 3 0 0 F 37 [(0, .ref a0), (2, .int a2), (3, .int b3), (4, .int b4)] [] n σ) (hr : ∀ (v : Int32) (s : Mm), res = .inr (v, s) → F = (n, some (.int v), s)) : J X mX10_who 3 0 0 F 37 [(0, .ref a0), (2, .int a2), (3, .int a3), (4, .int a4)] [] n σ := by
  unfold fX10_who_l37 at h
  refine J_iload (z := 3) dX10_who_37 rfl (q := 39) rfl ?_
  refine J_iconst (x := 1) dX10_who_39 (by decide) (q := 40) rfl ?_
  refine J_aload_n (z := 0) dX10_who_40 rfl rfl (q := 41) rfl ?_
  refine J_getI dX10_who_41 lRX10_294 ha0 rfl (q := 44) rfl ?_
  refine J_ishl dX10_who_44  (q := 45) rfl ?_
  refine J_icmp_ge (tgt := 132) dX10_who_45 (by decide) (q := 48) rfl (fun c4 => ?_) (fun c4 => ?_)
  · rw [if_pos c4] at h
    refine J_iload_n (z := 2) dX10_who_132 rfl rfl (q := 133) rfl ?_
    have h := Option.some.inj h
    exact J_ireturn dX10_who_133 rfl rfl (hr _ _ h.symm)
  · rw [if_neg c4] at h
    refine J_iconst (x := 0) dX10_who_48 (by decide) (q := 49) rfl ?_
    refine J_istore (lv' := [(5, .int 0), (0, .ref a0), (2, .int a2), (3, .int a3), (4, .int a4)]) dX10_who_49 (by decide) rfl (q := 51) rfl ?_
    refine J_iconst (x := 0) dX10_who_51 (by decide) (q := 52) rfl ?_
    refine J_istore (lv' := [(6, .int 0), (5, .int 0), (0, .ref a0), (2, .int a2), (3, .int a3), (4, .int a4)]) dX10_who_52 (by decide) rfl (q := 54) rfl ?_
    obtain ⟨o11, hlo11, h⟩ := bindS h
    refine J_pick [2, 3, 4, 5, 1, 0] rfl ?_
    refine tX10_who_w54 ha0 hlo11 ?_
    · intro xo11_5 qo11
      rw [qo11] at h
      try dsimp only [Sum.elim_inl, Sum.elim_inr] at h
      refine J_iload_n (z := 1) dX10_who_97 rfl rfl (q := 98) rfl ?_
      refine J_iload (z := 4) dX10_who_98 rfl (q := 100) rfl ?_
      refine J_iconst (x := (-1)) dX10_who_100 (by decide) (q := 101) rfl ?_
      refine J_ixor dX10_who_101  (q := 102) rfl ?_
      refine J_iand dX10_who_102  (q := 103) rfl ?_
      refine J_if_ne (tgt := 126) dX10_who_103 (by decide) (q := 106) rfl (fun c11 => ?_) (fun c11 => ?_)
      · rw [if_neg c11] at h
        refine J_pick [0, 1, 2, 3] rfl ?_
        exact tX10_who_b126 ha0 h hc hr
      · rw [if_pos c11] at h
        refine J_iload_n (z := 2) dX10_who_106 rfl rfl (q := 107) rfl ?_
        refine J_iconst (x := (-1)) dX10_who_107 (by decide) (q := 108) rfl ?_
        refine J_icmp_eq (tgt := 123) dX10_who_108 (by decide) (q := 111) rfl (fun c12 => ?_) (fun c12 => ?_)
        · rw [if_pos c12] at h
          refine J_pick [0, 1, 3] rfl ?_
          exact tX10_who_b123 ha0 h hc hr
        · rw [if_neg c12] at h
          refine J_iload (z := 3) dX10_who_111 rfl (q := 113) rfl ?_
          obtain ⟨vk14, hk14, h⟩ := bindS h
          refine J_cSi (as := [.int a4]) dX10_who_113 mRX10_477 (tJ6_bitCount_0f7a4  hk14) rfl (Nat.le_of_ble_eq_true rfl) (Nat.le_of_ble_eq_true rfl) (Nat.le_of_ble_eq_true rfl) (q := 116) rfl ?_
          intro bk14
          refine J_iload_n (z := 2) dX10_who_116 rfl rfl (q := 117) rfl ?_
          obtain ⟨vk15, hk15, h⟩ := bindS h
          refine J_cSi (as := [.int a3]) dX10_who_117 mRX10_477 (tJ6_bitCount_0f7a4  hk15) rfl (Nat.le_of_ble_eq_true rfl) (Nat.le_of_ble_eq_true rfl) (Nat.le_of_ble_eq_true rfl) (q := 120) rfl ?_
          intro bk15
          refine J_icmp_ge (tgt := 126) dX10_who_120 (by decide) (q := 123) rfl (fun c15 => ?_) (fun c15 => ?_)
          · rw [if_pos c15] at h
            refine J_pick [0, 1, 2, 3] rfl ?_
            exact tX10_who_b126 ha0 h hc hr
          · rw [if_neg c15] at h
            refine J_pick [0, 1, 3] rfl ?_
            exact tX10_who_b123 ha0 h hc hr

def fX10_who_w37 (a0 : Nat) (a2 : Int32) (a3 : Int32) (a4 : Int32) (σ : Mm) : Option (Int32 × Mm) :=
  wh (fun a : Int32 × Int32 => fX10_who_l37 a0 a2 a.1 a.2 σ) BIG (a3, a4)
set_option maxRecDepth 20000 in
set_option maxHeartbeats 2000000 in
theorem tX10_who_w37 {X : XS} {n : Nat} {σ : Mm} {F : Nat × Option Value × Mm} {a0 : Nat} {a2 : Int32} {a3 : Int32} {a4 : Int32} (ha0 : RT n a0 110) {res : Int32 × Mm} (h : fX10_who_w37 a0 a2 a3 a4 σ = some res) (hr : ∀ (v : Int32) (s : Mm), res = (v, s) → F = (n, some (.int v), s)) : J X mX10_who 3 0 0 F 37 [(0, .ref a0), (2, .int a2), (3, .int a3), (4, .int a4)] [] n σ := by
  unfold fX10_who_w37 at h
  refine wh_rule (P := fun a : Int32 × Int32 => J X mX10_who 3 0 0 F 37 [(0, .ref a0), (2, .int a2), (3, .int a.1), (4, .int a.2)] [] n σ) (K := fun b => b = res) ?_ _ _ _ h rfl
  intro a
  refine ⟨fun a2 hb hP => ?_, fun b hb hK => ?_⟩
  · exact tX10_who_l37 ha0 hb (fun _ _ e => by cases e; exact hP) (fun _ _ e => by cases e)
  · subst hK
    exact tX10_who_l37 ha0 hb (fun _ _ e => by cases e) (fun v0 v1 e => hr v0 v1 (Sum.inr.inj e))

def fX10_who (a0 : Nat) (a1 : Int32) (σ : Mm) : Option (Int32 × Mm) :=
  if (gI (sI σ a0 0 0) a0 27) = 0 then some ((-1), (sI σ a0 0 0)) else (fX10_isIn (Int32.toInt64 a1) 0 4 (sI σ a0 0 0)).bind fun vk2 => if vk2 = 0 then some ((-1), (sI σ a0 0 0)) else (fX10_bookBits a0 a1 (sI σ a0 0 0)).bind fun vk4 => (fX10_who_w37 a0 vk4 (-1) 0 (sI σ a0 0 0)).bind (fun o17 => some o17)
set_option maxRecDepth 20000 in
set_option maxHeartbeats 2000000 in
theorem tX10_who {X : XS} {n : Nat} {σ : Mm} {a0 : Nat} {a1 : Int32} (ha0 : RT n a0 110) {res : Int32 × Mm} (h : fX10_who a0 a1 σ = some res) : MT X yX10_who mX10_who 3 0 0 [.ref a0, .int a1] n σ (n, some (.int res.1), res.2) := by
  unfold fX10_who at h
  refine MT_of (by decide +kernel) rfl (fun h => by cases h) (Nat.le_of_ble_eq_true rfl) ?_
  show J X mX10_who 3 0 0 (n, some (.int res.1), res.2) 0 [(0, .ref a0), (1, .int a1)] [] n σ
  refine J_aload_n (z := 0) dX10_who_0 rfl rfl (q := 1) rfl ?_
  refine J_iconst (x := 0) dX10_who_1 (by decide) (q := 2) rfl ?_
  refine J_putI dX10_who_2 lRX10_96 (fun h => by cases h) ha0 rfl (q := 5) rfl ?_
  refine J_aload_n (z := 0) dX10_who_5 rfl rfl (q := 6) rfl ?_
  refine J_getI dX10_who_6 lRX10_291 ha0 rfl (q := 9) rfl ?_
  refine J_if_eq (tgt := 24) dX10_who_9 (by decide) (q := 12) rfl (fun c0 => ?_) (fun c0 => ?_)
  · rw [if_pos c0] at h
    refine J_iconst (x := (-1)) dX10_who_24 (by decide) (q := 25) rfl ?_
    have h := Option.some.inj h
    subst h
    exact J_ireturn dX10_who_25 rfl rfl rfl
  · rw [if_neg c0] at h
    refine J_iload_n (z := 1) dX10_who_12 rfl rfl (q := 13) rfl ?_
    refine J_i2l dX10_who_13  (q := 14) rfl ?_
    refine J_lconst (x := 0) dX10_who_14 (by decide) (q := 15) rfl ?_
    refine J_ldc2 (x := 4) dX10_who_15 kRX10_344 (q := 18) rfl ?_
    obtain ⟨vk2, hk2, h⟩ := bindS h
    refine J_cSi (as := [.long (Int32.toInt64 a1), .long 0, .long 4]) dX10_who_18 mRX10_217 (tX10_isIn  hk2) rfl (Nat.le_of_ble_eq_true rfl) (Nat.le_of_ble_eq_true rfl) (Nat.le_of_ble_eq_true rfl) (q := 21) rfl ?_
    intro bk2
    refine J_if_ne (tgt := 26) dX10_who_21 (by decide) (q := 24) rfl (fun c2 => ?_) (fun c2 => ?_)
    · rw [if_neg c2] at h
      refine J_aload_n (z := 0) dX10_who_26 rfl rfl (q := 27) rfl ?_
      refine J_iload_n (z := 1) dX10_who_27 rfl rfl (q := 28) rfl ?_
      obtain ⟨vk4, hk4, h⟩ := bindS h
      refine J_cVi (as := [.int a1]) dX10_who_28 mRX10_492 ha0 (tX10_bookBits ha0 hk4) rfl (Nat.le_of_ble_eq_true rfl) (Nat.le_of_ble_eq_true rfl) (Nat.le_of_ble_eq_true rfl) (q := 31) rfl ?_
      intro bk4
      refine J_istore_n (lv' := [(2, .int vk4), (0, .ref a0), (1, .int a1)]) dX10_who_31 rfl (by decide) rfl (q := 32) rfl ?_
      refine J_iconst (x := (-1)) dX10_who_32 (by decide) (q := 33) rfl ?_
      refine J_istore_n (lv' := [(3, .int (-1)), (2, .int vk4), (0, .ref a0), (1, .int a1)]) dX10_who_33 rfl (by decide) rfl (q := 34) rfl ?_
      refine J_iconst (x := 0) dX10_who_34 (by decide) (q := 35) rfl ?_
      refine J_istore (lv' := [(4, .int 0), (3, .int (-1)), (2, .int vk4), (0, .ref a0), (1, .int a1)]) dX10_who_35 (by decide) rfl (q := 37) rfl ?_
      obtain ⟨o17, hlo17, h⟩ := bindS h
      refine J_pick [3, 2, 1, 0] rfl ?_
      refine tX10_who_w37 ha0 hlo17 ?_
      · intro vo17 so17 qo17
        rw [qo17] at h
        try dsimp only [Sum.elim_inl, Sum.elim_inr] at h
        have h := Option.some.inj h
        subst h
        rfl
    · rw [if_pos c2] at h
      refine J_iconst (x := (-1)) dX10_who_24 (by decide) (q := 25) rfl ?_
      have h := Option.some.inj h
      subst h
      exact J_ireturn dX10_who_25 rfl rfl rfl

def fX10_knowers_b30 (a0 : Nat) (a1 : Int32) (a3 : Int32) (z0 : Int32) (z1 : Int32) (σ : Mm) : Option ((Int32 × Int32) ⊕ (Int32)) :=
  some (Sum.inl ((z0 + z1), (a3 + 1)))
set_option maxRecDepth 20000 in
set_option maxHeartbeats 2000000 in
theorem tX10_knowers_b30 {X : XS} {n : Nat} {σ : Mm} {F : Nat × Option Value × Mm} {a0 : Nat} {a1 : Int32} {a3 : Int32} {z0 : Int32} {z1 : Int32} (ha0 : RT n a0 110) {res : (Int32 × Int32) ⊕ (Int32)} (h : fX10_knowers_b30 a0 a1 a3 z0 z1 σ = some res) (hc : ∀ (b2 : Int32) (b3 : Int32), res = .inl (b2, b3) → J X mX10_knowers 2 0 0 F 4 [(0, .ref a0), (1, .int a1), (2, .int b2), (3, .int b3)] [] n σ) (hr : ∀ (v : Int32), res = .inr v → F = (n, some (.int v), σ)) : J X mX10_knowers 2 0 0 F 30 [(0, .ref a0), (1, .int a1), (3, .int a3)] [.int z1, .int z0] n σ := by
  unfold fX10_knowers_b30 at h
  refine J_iadd dX10_knowers_30  (q := 31) rfl ?_
  refine J_istore_n (lv' := [(2, .int (z0 + z1)), (0, .ref a0), (1, .int a1), (3, .int a3)]) dX10_knowers_31 rfl (by decide) rfl (q := 32) rfl ?_
  refine J_iinc (z := 3) (y := (a3 + 1)) (lv' := [(3, .int (a3 + 1)), (2, .int (z0 + z1)), (0, .ref a0), (1, .int a1)]) dX10_knowers_32 rfl rfl (by decide) rfl (q := 35) rfl ?_
  refine J_goto (tgt := 4) dX10_knowers_35 (by decide) ?_
  have h := Option.some.inj h
  refine J_pick [2, 3, 1, 0] rfl ?_
  exact hc _ _ h.symm

def fX10_knowers_l4 (a0 : Nat) (a1 : Int32) (a2 : Int32) (a3 : Int32) (σ : Mm) : Option ((Int32 × Int32) ⊕ (Int32)) :=
  if (gI σ a0 28) ≤ a3 then some (Sum.inr a2) else (gR σ a0 33).bind fun r2 => (fX10_knows r2 a3 a1 σ).bind fun vk3 => if vk3 = 0 then fX10_knowers_b30 a0 a1 a3 a2 0 σ else fX10_knowers_b30 a0 a1 a3 a2 1 σ
set_option maxRecDepth 20000 in
set_option maxHeartbeats 2000000 in
theorem tX10_knowers_l4 {X : XS} {n : Nat} {σ : Mm} {F : Nat × Option Value × Mm} {a0 : Nat} {a1 : Int32} {a2 : Int32} {a3 : Int32} (ha0 : RT n a0 110) {res : (Int32 × Int32) ⊕ (Int32)} (h : fX10_knowers_l4 a0 a1 a2 a3 σ = some res) (hc : ∀ (b2 : Int32) (b3 : Int32), res = .inl (b2, b3) → J X mX10_knowers 2 0 0 F 4 [(0, .ref a0), (1, .int a1), (2, .int b2), (3, .int b3)] [] n σ) (hr : ∀ (v : Int32), res = .inr v → F = (n, some (.int v), σ)) : J X mX10_knowers 2 0 0 F 4 [(0, .ref a0), (1, .int a1), (2, .int a2), (3, .int a3)] [] n σ := by
  unfold fX10_knowers_l4 at h
  refine J_iload_n (z := 3) dX10_knowers_4 rfl rfl (q := 5) rfl ?_
  refine J_aload_n (z := 0) dX10_knowers_5 rfl rfl (q := 6) rfl ?_
  refine J_getI dX10_knowers_6 lRX10_294 ha0 rfl (q := 9) rfl ?_
  refine J_icmp_ge (tgt := 38) dX10_knowers_9 (by decide) (q := 12) rfl (fun c0 => ?_) (fun c0 => ?_)
  · rw [if_pos c0] at h
    refine J_iload_n (z := 2) dX10_knowers_38 rfl rfl (q := 39) rfl ?_
    have h := Option.some.inj h
    exact J_ireturn dX10_knowers_39 rfl rfl (hr _ h.symm)
  · rw [if_neg c0] at h
    refine J_iload_n (z := 2) dX10_knowers_12 rfl rfl (q := 13) rfl ?_
    refine J_aload_n (z := 0) dX10_knowers_13 rfl rfl (q := 14) rfl ?_
    obtain ⟨r2, er2, h⟩ := bindS h
    refine J_getR dX10_knowers_14 lRX10_61 ha0 rfl (by decide) er2 (q := 17) rfl (fun fr2 => ?_)
    refine J_iload_n (z := 3) dX10_knowers_17 rfl rfl (q := 18) rfl ?_
    refine J_iload_n (z := 1) dX10_knowers_18 rfl rfl (q := 19) rfl ?_
    obtain ⟨vk3, hk3, h⟩ := bindS h
    refine J_cSi (as := [.ref r2, .int a3, .int a1]) dX10_knowers_19 mRX10_351 (tX10_knows fr2 hk3) rfl (Nat.le_of_ble_eq_true rfl) (Nat.le_of_ble_eq_true rfl) (Nat.le_of_ble_eq_true rfl) (q := 22) rfl ?_
    intro bk3
    refine J_if_eq (tgt := 29) dX10_knowers_22 (by decide) (q := 25) rfl (fun c3 => ?_) (fun c3 => ?_)
    · rw [if_pos c3] at h
      refine J_iconst (x := 0) dX10_knowers_29 (by decide) (q := 30) rfl ?_
      refine J_pick [0, 1, 3] rfl ?_
      exact tX10_knowers_b30 ha0 h hc hr
    · rw [if_neg c3] at h
      refine J_iconst (x := 1) dX10_knowers_25 (by decide) (q := 26) rfl ?_
      refine J_goto (tgt := 30) dX10_knowers_26 (by decide) ?_
      refine J_pick [0, 1, 3] rfl ?_
      exact tX10_knowers_b30 ha0 h hc hr

def fX10_knowers_w4 (a0 : Nat) (a1 : Int32) (a2 : Int32) (a3 : Int32) (σ : Mm) : Option (Int32) :=
  wh (fun a : Int32 × Int32 => fX10_knowers_l4 a0 a1 a.1 a.2 σ) BIG (a2, a3)
set_option maxRecDepth 20000 in
set_option maxHeartbeats 2000000 in
theorem tX10_knowers_w4 {X : XS} {n : Nat} {σ : Mm} {F : Nat × Option Value × Mm} {a0 : Nat} {a1 : Int32} {a2 : Int32} {a3 : Int32} (ha0 : RT n a0 110) {res : Int32} (h : fX10_knowers_w4 a0 a1 a2 a3 σ = some res) (hr : ∀ (v : Int32), res = v → F = (n, some (.int v), σ)) : J X mX10_knowers 2 0 0 F 4 [(0, .ref a0), (1, .int a1), (2, .int a2), (3, .int a3)] [] n σ := by
  unfold fX10_knowers_w4 at h
  refine wh_rule (P := fun a : Int32 × Int32 => J X mX10_knowers 2 0 0 F 4 [(0, .ref a0), (1, .int a1), (2, .int a.1), (3, .int a.2)] [] n σ) (K := fun b => b = res) ?_ _ _ _ h rfl
  intro a
  refine ⟨fun a2 hb hP => ?_, fun b hb hK => ?_⟩
  · exact tX10_knowers_l4 ha0 hb (fun _ _ e => by cases e; exact hP) (fun _ e => by cases e)
  · subst hK
    exact tX10_knowers_l4 ha0 hb (fun _ _ e => by cases e) (fun v0 e => hr v0 (Sum.inr.inj e))

def fX10_knowers (a0 : Nat) (a1 : Int32) (σ : Mm) : Option (Int32) :=
  (fX10_knowers_w4 a0 a1 0 0 σ).bind (fun o5 => some o5)
set_option maxRecDepth 20000 in
set_option maxHeartbeats 2000000 in
theorem tX10_knowers {X : XS} {n : Nat} {σ : Mm} {a0 : Nat} {a1 : Int32} (ha0 : RT n a0 110) {res : Int32} (h : fX10_knowers a0 a1 σ = some res) : MT X yX10_knowers mX10_knowers 2 0 0 [.ref a0, .int a1] n σ (n, some (.int res), σ) := by
  unfold fX10_knowers at h
  refine MT_of (by decide +kernel) rfl (fun h => by cases h) (Nat.le_of_ble_eq_true rfl) ?_
  show J X mX10_knowers 2 0 0 (n, some (.int res), σ) 0 [(0, .ref a0), (1, .int a1)] [] n σ
  refine J_iconst (x := 0) dX10_knowers_0 (by decide) (q := 1) rfl ?_
  refine J_istore_n (lv' := [(2, .int 0), (0, .ref a0), (1, .int a1)]) dX10_knowers_1 rfl (by decide) rfl (q := 2) rfl ?_
  refine J_iconst (x := 0) dX10_knowers_2 (by decide) (q := 3) rfl ?_
  refine J_istore_n (lv' := [(3, .int 0), (2, .int 0), (0, .ref a0), (1, .int a1)]) dX10_knowers_3 rfl (by decide) rfl (q := 4) rfl ?_
  obtain ⟨o5, hlo5, h⟩ := bindS h
  refine J_pick [2, 3, 1, 0] rfl ?_
  refine tX10_knowers_w4 ha0 hlo5 ?_
  · intro vo5 qo5
    rw [qo5] at h
    try dsimp only [Sum.elim_inl, Sum.elim_inr] at h
    have h := Option.some.inj h
    subst h
    rfl

def fX10_first_b62 (a0 : Nat) (a1 : Int32) (a2 : Int32) (σ : Mm) : Option ((Int32 × Int32) ⊕ (Int32 × Mm)) :=
  some (Sum.inl (a1, (a2 + 1)))
set_option maxRecDepth 20000 in
set_option maxHeartbeats 2000000 in
theorem tX10_first_b62 {X : XS} {n : Nat} {σ : Mm} {F : Nat × Option Value × Mm} {a0 : Nat} {a1 : Int32} {a2 : Int32} (ha0 : RT n a0 110) {res : (Int32 × Int32) ⊕ (Int32 × Mm)} (h : fX10_first_b62 a0 a1 a2 σ = some res) (hc : ∀ (b1 : Int32) (b2 : Int32), res = .inl (b1, b2) → J X mX10_first 3 0 0 F 9 [(0, .ref a0), (1, .int b1), (2, .int b2)] [] n σ) (hr : ∀ (v : Int32) (s : Mm), res = .inr (v, s) → F = (n, some (.int v), s)) : J X mX10_first 3 0 0 F 62 [(0, .ref a0), (1, .int a1), (2, .int a2)] [] n σ := by
  unfold fX10_first_b62 at h
  refine J_iinc (z := 2) (y := (a2 + 1)) (lv' := [(2, .int (a2 + 1)), (0, .ref a0), (1, .int a1)]) dX10_first_62 rfl rfl (by decide) rfl (q := 65) rfl ?_
  refine J_goto (tgt := 9) dX10_first_65 (by decide) ?_
  have h := Option.some.inj h
  refine J_pick [1, 2, 0] rfl ?_
  exact hc _ _ h.symm

def fX10_first_b60 (a0 : Nat) (a2 : Int32) (σ : Mm) : Option ((Int32 × Int32) ⊕ (Int32 × Mm)) :=
  fX10_first_b62 a0 a2 a2 σ
set_option maxRecDepth 20000 in
set_option maxHeartbeats 2000000 in
theorem tX10_first_b60 {X : XS} {n : Nat} {σ : Mm} {F : Nat × Option Value × Mm} {a0 : Nat} {a2 : Int32} (ha0 : RT n a0 110) {res : (Int32 × Int32) ⊕ (Int32 × Mm)} (h : fX10_first_b60 a0 a2 σ = some res) (hc : ∀ (b1 : Int32) (b2 : Int32), res = .inl (b1, b2) → J X mX10_first 3 0 0 F 9 [(0, .ref a0), (1, .int b1), (2, .int b2)] [] n σ) (hr : ∀ (v : Int32) (s : Mm), res = .inr (v, s) → F = (n, some (.int v), s)) : J X mX10_first 3 0 0 F 60 [(0, .ref a0), (2, .int a2)] [] n σ := by
  unfold fX10_first_b60 at h
  refine J_iload_n (z := 1) dX10_first_60 rfl rfl (q := 61) rfl ?_
  refine J_istore_n (lv' := [(1, .int a2), (0, .ref a0), (2, .int a2)]) dX10_first_61 rfl (by decide) rfl (q := 62) rfl ?_
  refine J_pick [1, 0, 2] rfl ?_
  exact tX10_first_b62 ha0 h hc hr

def fX10_first_l9 (a0 : Nat) (a1 : Int32) (a2 : Int32) (σ : Mm) : Option ((Int32 × Int32) ⊕ (Int32 × Mm)) :=
  if (gI σ a0 27) ≤ a2 then some (Sum.inr (a1, σ)) else (gR σ a0 33).bind fun r2 => if ixB (2 * a2) (ln r2) = true then if (gI σ r2 (Int32.toNatClampNeg (2 * a2))) ≤ 0 then fX10_first_b62 a0 a1 a2 σ else (fX10_knowers a0 a2 σ).bind fun vk5 => if vk5 ≤ 0 then fX10_first_b62 a0 a1 a2 σ else if a1 = (-1) then fX10_first_b60 a0 a2 σ else if ixB (2 * a2) (ln r2) = true then if ixB (2 * a1) (ln r2) = true then if (gI σ r2 (Int32.toNatClampNeg (2 * a1))) ≤ (gI σ r2 (Int32.toNatClampNeg (2 * a2))) then fX10_first_b62 a0 a1 a2 σ else fX10_first_b60 a0 a2 σ else none else none else none
set_option maxRecDepth 20000 in
set_option maxHeartbeats 2000000 in
theorem tX10_first_l9 {X : XS} {n : Nat} {σ : Mm} {F : Nat × Option Value × Mm} {a0 : Nat} {a1 : Int32} {a2 : Int32} (ha0 : RT n a0 110) {res : (Int32 × Int32) ⊕ (Int32 × Mm)} (h : fX10_first_l9 a0 a1 a2 σ = some res) (hc : ∀ (b1 : Int32) (b2 : Int32), res = .inl (b1, b2) → J X mX10_first 3 0 0 F 9 [(0, .ref a0), (1, .int b1), (2, .int b2)] [] n σ) (hr : ∀ (v : Int32) (s : Mm), res = .inr (v, s) → F = (n, some (.int v), s)) : J X mX10_first 3 0 0 F 9 [(0, .ref a0), (1, .int a1), (2, .int a2)] [] n σ := by
  unfold fX10_first_l9 at h
  refine J_iload_n (z := 2) dX10_first_9 rfl rfl (q := 10) rfl ?_
  refine J_aload_n (z := 0) dX10_first_10 rfl rfl (q := 11) rfl ?_
  refine J_getI dX10_first_11 lRX10_291 ha0 rfl (q := 14) rfl ?_
  refine J_icmp_ge (tgt := 68) dX10_first_14 (by decide) (q := 17) rfl (fun c0 => ?_) (fun c0 => ?_)
  · rw [if_pos c0] at h
    refine J_iload_n (z := 1) dX10_first_68 rfl rfl (q := 69) rfl ?_
    have h := Option.some.inj h
    exact J_ireturn dX10_first_69 rfl rfl (hr _ _ h.symm)
  · rw [if_neg c0] at h
    refine J_aload_n (z := 0) dX10_first_17 rfl rfl (q := 18) rfl ?_
    obtain ⟨r2, er2, h⟩ := bindS h
    refine J_getR dX10_first_18 lRX10_61 ha0 rfl (by decide) er2 (q := 21) rfl (fun fr2 => ?_)
    refine J_iconst (x := 2) dX10_first_21 (by decide) (q := 22) rfl ?_
    refine J_iload_n (z := 2) dX10_first_22 rfl rfl (q := 23) rfl ?_
    refine J_imul dX10_first_23  (q := 24) rfl ?_
    obtain ⟨g3, h⟩ := iteS h
    refine J_iald dX10_first_24 fr2 (ixB_ok g3) (q := 25) rfl ?_
    refine J_if_le (tgt := 62) dX10_first_25 (by decide) (q := 28) rfl (fun c3 => ?_) (fun c3 => ?_)
    · rw [if_pos c3] at h
      refine J_pick [0, 1, 2] rfl ?_
      exact tX10_first_b62 ha0 h hc hr
    · rw [if_neg c3] at h
      refine J_aload_n (z := 0) dX10_first_28 rfl rfl (q := 29) rfl ?_
      refine J_iload_n (z := 2) dX10_first_29 rfl rfl (q := 30) rfl ?_
      obtain ⟨vk5, hk5, h⟩ := bindS h
      refine J_cVi (as := [.int a2]) dX10_first_30 mRX10_495 ha0 (tX10_knowers ha0 hk5) rfl (Nat.le_of_ble_eq_true rfl) (Nat.le_of_ble_eq_true rfl) (Nat.le_of_ble_eq_true rfl) (q := 33) rfl ?_
      intro bk5
      refine J_if_le (tgt := 62) dX10_first_33 (by decide) (q := 36) rfl (fun c5 => ?_) (fun c5 => ?_)
      · rw [if_pos c5] at h
        refine J_pick [0, 1, 2] rfl ?_
        exact tX10_first_b62 ha0 h hc hr
      · rw [if_neg c5] at h
        refine J_iload_n (z := 1) dX10_first_36 rfl rfl (q := 37) rfl ?_
        refine J_iconst (x := (-1)) dX10_first_37 (by decide) (q := 38) rfl ?_
        refine J_icmp_eq (tgt := 60) dX10_first_38 (by decide) (q := 41) rfl (fun c6 => ?_) (fun c6 => ?_)
        · rw [if_pos c6] at h
          refine J_pick [0, 2] rfl ?_
          exact tX10_first_b60 ha0 h hc hr
        · rw [if_neg c6] at h
          refine J_aload_n (z := 0) dX10_first_41 rfl rfl (q := 42) rfl ?_
          refine J_getR dX10_first_42 lRX10_61 ha0 rfl (by decide) er2 (q := 45) rfl (fun _ => ?_)
          refine J_iconst (x := 2) dX10_first_45 (by decide) (q := 46) rfl ?_
          refine J_iload_n (z := 2) dX10_first_46 rfl rfl (q := 47) rfl ?_
          refine J_imul dX10_first_47  (q := 48) rfl ?_
          obtain ⟨g8, h⟩ := iteS h
          refine J_iald dX10_first_48 fr2 (ixB_ok g8) (q := 49) rfl ?_
          refine J_aload_n (z := 0) dX10_first_49 rfl rfl (q := 50) rfl ?_
          refine J_getR dX10_first_50 lRX10_61 ha0 rfl (by decide) er2 (q := 53) rfl (fun _ => ?_)
          refine J_iconst (x := 2) dX10_first_53 (by decide) (q := 54) rfl ?_
          refine J_iload_n (z := 1) dX10_first_54 rfl rfl (q := 55) rfl ?_
          refine J_imul dX10_first_55  (q := 56) rfl ?_
          obtain ⟨g9, h⟩ := iteS h
          refine J_iald dX10_first_56 fr2 (ixB_ok g9) (q := 57) rfl ?_
          refine J_icmp_ge (tgt := 62) dX10_first_57 (by decide) (q := 60) rfl (fun c9 => ?_) (fun c9 => ?_)
          · rw [if_pos c9] at h
            refine J_pick [0, 1, 2] rfl ?_
            exact tX10_first_b62 ha0 h hc hr
          · rw [if_neg c9] at h
            refine J_pick [0, 2] rfl ?_
            exact tX10_first_b60 ha0 h hc hr

def fX10_first_w9 (a0 : Nat) (a1 : Int32) (a2 : Int32) (σ : Mm) : Option (Int32 × Mm) :=
  wh (fun a : Int32 × Int32 => fX10_first_l9 a0 a.1 a.2 σ) BIG (a1, a2)
set_option maxRecDepth 20000 in
set_option maxHeartbeats 2000000 in
theorem tX10_first_w9 {X : XS} {n : Nat} {σ : Mm} {F : Nat × Option Value × Mm} {a0 : Nat} {a1 : Int32} {a2 : Int32} (ha0 : RT n a0 110) {res : Int32 × Mm} (h : fX10_first_w9 a0 a1 a2 σ = some res) (hr : ∀ (v : Int32) (s : Mm), res = (v, s) → F = (n, some (.int v), s)) : J X mX10_first 3 0 0 F 9 [(0, .ref a0), (1, .int a1), (2, .int a2)] [] n σ := by
  unfold fX10_first_w9 at h
  refine wh_rule (P := fun a : Int32 × Int32 => J X mX10_first 3 0 0 F 9 [(0, .ref a0), (1, .int a.1), (2, .int a.2)] [] n σ) (K := fun b => b = res) ?_ _ _ _ h rfl
  intro a
  refine ⟨fun a2 hb hP => ?_, fun b hb hK => ?_⟩
  · exact tX10_first_l9 ha0 hb (fun _ _ e => by cases e; exact hP) (fun _ _ e => by cases e)
  · subst hK
    exact tX10_first_l9 ha0 hb (fun _ _ e => by cases e) (fun v0 v1 e => hr v0 v1 (Sum.inr.inj e))

def fX10_first (a0 : Nat) (σ : Mm) : Option (Int32 × Mm) :=
  (fX10_first_w9 a0 (-1) 0 (sI σ a0 0 0)).bind (fun o11 => some o11)
set_option maxRecDepth 20000 in
set_option maxHeartbeats 2000000 in
theorem tX10_first {X : XS} {n : Nat} {σ : Mm} {a0 : Nat} (ha0 : RT n a0 110) {res : Int32 × Mm} (h : fX10_first a0 σ = some res) : MT X yX10_first mX10_first 3 0 0 [.ref a0] n σ (n, some (.int res.1), res.2) := by
  unfold fX10_first at h
  refine MT_of (by decide +kernel) rfl (fun h => by cases h) (Nat.le_of_ble_eq_true rfl) ?_
  show J X mX10_first 3 0 0 (n, some (.int res.1), res.2) 0 [(0, .ref a0)] [] n σ
  refine J_aload_n (z := 0) dX10_first_0 rfl rfl (q := 1) rfl ?_
  refine J_iconst (x := 0) dX10_first_1 (by decide) (q := 2) rfl ?_
  refine J_putI dX10_first_2 lRX10_96 (fun h => by cases h) ha0 rfl (q := 5) rfl ?_
  refine J_iconst (x := (-1)) dX10_first_5 (by decide) (q := 6) rfl ?_
  refine J_istore_n (lv' := [(1, .int (-1)), (0, .ref a0)]) dX10_first_6 rfl (by decide) rfl (q := 7) rfl ?_
  refine J_iconst (x := 0) dX10_first_7 (by decide) (q := 8) rfl ?_
  refine J_istore_n (lv' := [(2, .int 0), (1, .int (-1)), (0, .ref a0)]) dX10_first_8 rfl (by decide) rfl (q := 9) rfl ?_
  obtain ⟨o11, hlo11, h⟩ := bindS h
  refine J_pick [2, 1, 0] rfl ?_
  refine tX10_first_w9 ha0 hlo11 ?_
  · intro vo11 so11 qo11
    rw [qo11] at h
    try dsimp only [Sum.elim_inl, Sum.elim_inr] at h
    have h := Option.some.inj h
    subst h
    rfl

