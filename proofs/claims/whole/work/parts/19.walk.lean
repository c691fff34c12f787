def fX10_isNear (a0 : Nat) (a1 : Nat) (a2 : Int32) (a3 : Int32) (σ : Mm) : Option (Int32) :=
  (fX10_cellOf a1 a2 σ).bind fun vk1 => (fX10_apart a0 vk1 a3 σ).bind fun vk2 => (gR σ a0 22).bind fun r3 => if ixB ((4 * a2) + 2) (ln r3) = true then if (gI σ r3 (Int32.toNatClampNeg ((4 * a2) + 2))) < vk2 then some 0 else some 1 else none
set_option maxRecDepth 20000 in
set_option maxHeartbeats 2000000 in
theorem tX10_isNear {X : XS} {n : Nat} {σ : Mm} {a0 : Nat} {a1 : Nat} {a2 : Int32} {a3 : Int32} (ha0 : RT n a0 110) (ha1 : RT n a1 200) {res : Int32} (h : fX10_isNear a0 a1 a2 a3 σ = some res) : MT X yX10_isNear mX10_isNear 2 0 0 [.ref a0, .ref a1, .int a2, .int a3] n σ (n, some (.int res), σ) := by
  unfold fX10_isNear at h
  refine MT_of (by decide +kernel) rfl (fun h => by cases h) (Nat.le_of_ble_eq_true rfl) ?_
  show J X mX10_isNear 2 0 0 (n, some (.int res), σ) 0 [(0, .ref a0), (1, .ref a1), (2, .int a2), (3, .int a3)] [] n σ
  refine J_aload_n (z := 0) dX10_isNear_0 rfl rfl (q := 1) rfl ?_
  refine J_aload_n (z := 1) dX10_isNear_1 rfl rfl (q := 2) rfl ?_
  refine J_iload_n (z := 2) dX10_isNear_2 rfl rfl (q := 3) rfl ?_
  obtain ⟨vk1, hk1, h⟩ := bindS h
  refine J_cSi (as := [.ref a1, .int a2]) dX10_isNear_3 mRX10_312 (tX10_cellOf ha1 hk1) rfl (Nat.le_of_ble_eq_true rfl) (Nat.le_of_ble_eq_true rfl) (Nat.le_of_ble_eq_true rfl) (q := 6) rfl ?_
  intro bk1
  refine J_iload_n (z := 3) dX10_isNear_6 rfl rfl (q := 7) rfl ?_
  obtain ⟨vk2, hk2, h⟩ := bindS h
  refine J_cVi (as := [.int vk1, .int a3]) dX10_isNear_7 mRX10_316 ha0 (tX10_apart ha0 hk2) rfl (Nat.le_of_ble_eq_true rfl) (Nat.le_of_ble_eq_true rfl) (Nat.le_of_ble_eq_true rfl) (q := 10) rfl ?_
  intro bk2
  refine J_aload_n (z := 0) dX10_isNear_10 rfl rfl (q := 11) rfl ?_
  obtain ⟨r3, er3, h⟩ := bindS h
  refine J_getR dX10_isNear_11 lRX10_49 ha0 rfl (by decide) er3 (q := 14) rfl (fun fr3 => ?_)
  refine J_iconst (x := 4) dX10_isNear_14 (by decide) (q := 15) rfl ?_
  refine J_iload_n (z := 2) dX10_isNear_15 rfl rfl (q := 16) rfl ?_
  refine J_imul dX10_isNear_16  (q := 17) rfl ?_
  refine J_iconst (x := 2) dX10_isNear_17 (by decide) (q := 18) rfl ?_
  refine J_iadd dX10_isNear_18  (q := 19) rfl ?_
  obtain ⟨g4, h⟩ := iteS h
  refine J_iald dX10_isNear_19 fr3 (ixB_ok g4) (q := 20) rfl ?_
  refine J_icmp_gt (tgt := 27) dX10_isNear_20 (by decide) (q := 23) rfl (fun c4 => ?_) (fun c4 => ?_)
  · rw [if_pos c4] at h
    refine J_iconst (x := 0) dX10_isNear_27 (by decide) (q := 28) rfl ?_
    have h := Option.some.inj h
    subst h
    exact J_ireturn dX10_isNear_28 rfl rfl rfl
  · rw [if_neg c4] at h
    refine J_iconst (x := 1) dX10_isNear_23 (by decide) (q := 24) rfl ?_
    refine J_goto (tgt := 28) dX10_isNear_24 (by decide) ?_
    have h := Option.some.inj h
    subst h
    exact J_ireturn dX10_isNear_28 rfl rfl rfl

def fX10_others_b38 (a0 : Nat) (a1 : Nat) (a2 : Int32) (a3 : Int32) (a5 : Int32) (z0 : Int32) (z1 : Int32) (σ : Mm) : Option ((Int32 × Int32) ⊕ (Int32)) :=
  some (Sum.inl ((z0 + z1), (a5 + 1)))
set_option maxRecDepth 20000 in
set_option maxHeartbeats 2000000 in
theorem tX10_others_b38 {X : XS} {n : Nat} {σ : Mm} {F : Nat × Option Value × Mm} {a0 : Nat} {a1 : Nat} {a2 : Int32} {a3 : Int32} {a5 : Int32} {z0 : Int32} {z1 : Int32} (ha0 : RT n a0 110) (ha1 : RT n a1 200) {res : (Int32 × Int32) ⊕ (Int32)} (h : fX10_others_b38 a0 a1 a2 a3 a5 z0 z1 σ = some res) (hc : ∀ (b4 : Int32) (b5 : Int32), res = .inl (b4, b5) → J X mX10_others 2 0 0 F 6 [(0, .ref a0), (1, .ref a1), (2, .int a2), (3, .int a3), (4, .int b4), (5, .int b5)] [] n σ) (hr : ∀ (v : Int32), res = .inr v → F = (n, some (.int v), σ)) : J X mX10_others 2 0 0 F 38 [(0, .ref a0), (1, .ref a1), (2, .int a2), (3, .int a3), (5, .int a5)] [.int z1, .int z0] n σ := by
  unfold fX10_others_b38 at h
  refine J_iadd dX10_others_38  (q := 39) rfl ?_
  refine J_istore (lv' := [(4, .int (z0 + z1)), (0, .ref a0), (1, .ref a1), (2, .int a2), (3, .int a3), (5, .int a5)]) dX10_others_39 (by decide) rfl (q := 41) rfl ?_
  refine J_iinc (z := 5) (y := (a5 + 1)) (lv' := [(5, .int (a5 + 1)), (4, .int (z0 + z1)), (0, .ref a0), (1, .ref a1), (2, .int a2), (3, .int a3)]) dX10_others_41 rfl rfl (by decide) rfl (q := 44) rfl ?_
  refine J_goto (tgt := 6) dX10_others_44 (by decide) ?_
  have h := Option.some.inj h
  refine J_pick [2, 3, 4, 5, 1, 0] rfl ?_
  exact hc _ _ h.symm

def fX10_others_b37 (a0 : Nat) (a1 : Nat) (a2 : Int32) (a3 : Int32) (a5 : Int32) (z0 : Int32) (σ : Mm) : Option ((Int32 × Int32) ⊕ (Int32)) :=
  fX10_others_b38 a0 a1 a2 a3 a5 z0 0 σ
set_option maxRecDepth 20000 in
set_option maxHeartbeats 2000000 in
theorem tX10_others_b37 {X : XS} {n : Nat} {σ : Mm} {F : Nat × Option Value × Mm} {a0 : Nat} {a1 : Nat} {a2 : Int32} {a3 : Int32} {a5 : Int32} {z0 : Int32} (ha0 : RT n a0 110) (ha1 : RT n a1 200) {res : (Int32 × Int32) ⊕ (Int32)} (h : fX10_others_b37 a0 a1 a2 a3 a5 z0 σ = some res) (hc : ∀ (b4 : Int32) (b5 : Int32), res = .inl (b4, b5) → J X mX10_others 2 0 0 F 6 [(0, .ref a0), (1, .ref a1), (2, .int a2), (3, .int a3), (4, .int b4), (5, .int b5)] [] n σ) (hr : ∀ (v : Int32), res = .inr v → F = (n, some (.int v), σ)) : J X mX10_others 2 0 0 F 37 [(0, .ref a0), (1, .ref a1), (2, .int a2), (3, .int a3), (5, .int a5)] [.int z0] n σ := by
  unfold fX10_others_b37 at h
  refine J_iconst (x := 0) dX10_others_37 (by decide) (q := 38) rfl ?_
  refine J_pick [0, 1, 2, 3, 4] rfl ?_
  exact tX10_others_b38 ha0 ha1 h hc hr

def fX10_others_l6 (a0 : Nat) (a1 : Nat) (a2 : Int32) (a3 : Int32) (a4 : Int32) (a5 : Int32) (σ : Mm) : Option ((Int32 × Int32) ⊕ (Int32)) :=
  if (gI σ a0 28) ≤ a5 then some (Sum.inr a4) else if a5 = a2 then fX10_others_b37 a0 a1 a2 a3 a5 a4 σ else (fX10_cellOf a1 a5 σ).bind fun vk3 => if vk3 = a3 then fX10_others_b38 a0 a1 a2 a3 a5 a4 1 σ else fX10_others_b37 a0 a1 a2 a3 a5 a4 σ
set_option maxRecDepth 20000 in
set_option maxHeartbeats 2000000 in
theorem tX10_others_l6 {X : XS} {n : Nat} {σ : Mm} {F : Nat × Option Value × Mm} {a0 : Nat} {a1 : Nat} {a2 : Int32} {a3 : Int32} {a4 : Int32} {a5 : Int32} (ha0 : RT n a0 110) (ha1 : RT n a1 200) {res : (Int32 × Int32) ⊕ (Int32)} (h : fX10_others_l6 a0 a1 a2 a3 a4 a5 σ = some res) (hc : ∀ (b4 : Int32) (b5 : Int32), res = .inl (b4, b5) → J X mX10_others 2 0 0 F 6 [(0, .ref a0), (1, .ref a1), (2, .int a2), (3, .int a3), (4, .int b4), (5, .int b5)] [] n σ) (hr : ∀ (v : Int32), res = .inr v → F = (n, some (.int v), σ)) : J X mX10_others 2 0 0 F 6 [(0, .ref a0), (1, .ref a1), (2, .int a2), (3, .int a3), (4, .int a4), (5, .int a5)] [] n σ := by
  unfold fX10_others_l6 at h
  refine J_iload (z := 5) dX10_others_6 rfl (q := 8) rfl ?_
  refine J_aload_n (z := 0) dX10_others_8 rfl rfl (q := 9) rfl ?_
  refine J_getI dX10_others_9 lRX10_294 ha0 rfl (q := 12) rfl ?_
  refine J_icmp_ge (tgt := 47) dX10_others_12 (by decide) (q := 15) rfl (fun c0 => ?_) (fun c0 => ?_)
  · rw [if_pos c0] at h
    refine J_iload (z := 4) dX10_others_47 rfl (q := 49) rfl ?_
    have h := Option.some.inj h
    exact J_ireturn dX10_others_49 rfl rfl (hr _ h.symm)
  · rw [if_neg c0] at h
    refine J_iload (z := 4) dX10_others_15 rfl (q := 17) rfl ?_
    refine J_iload (z := 5) dX10_others_17 rfl (q := 19) rfl ?_
    refine J_iload_n (z := 2) dX10_others_19 rfl rfl (q := 20) rfl ?_
    refine J_icmp_eq (tgt := 37) dX10_others_20 (by decide) (q := 23) rfl (fun c1 => ?_) (fun c1 => ?_)
    · rw [if_pos c1] at h
      refine J_pick [0, 1, 2, 3, 5] rfl ?_
      exact tX10_others_b37 ha0 ha1 h hc hr
    · rw [if_neg c1] at h
      refine J_aload_n (z := 1) dX10_others_23 rfl rfl (q := 24) rfl ?_
      refine J_iload (z := 5) dX10_others_24 rfl (q := 26) rfl ?_
      obtain ⟨vk3, hk3, h⟩ := bindS h
      refine J_cSi (as := [.ref a1, .int a5]) dX10_others_26 mRX10_312 (tX10_cellOf ha1 hk3) rfl (Nat.le_of_ble_eq_true rfl) (Nat.le_of_ble_eq_true rfl) (Nat.le_of_ble_eq_true rfl) (q := 29) rfl ?_
      intro bk3
      refine J_iload_n (z := 3) dX10_others_29 rfl rfl (q := 30) rfl ?_
      refine J_icmp_ne (tgt := 37) dX10_others_30 (by decide) (q := 33) rfl (fun c3 => ?_) (fun c3 => ?_)
      · rw [if_neg c3] at h
        refine J_pick [0, 1, 2, 3, 5] rfl ?_
        exact tX10_others_b37 ha0 ha1 h hc hr
      · rw [if_pos c3] at h
        refine J_iconst (x := 1) dX10_others_33 (by decide) (q := 34) rfl ?_
        refine J_goto (tgt := 38) dX10_others_34 (by decide) ?_
        refine J_pick [0, 1, 2, 3, 5] rfl ?_
        exact tX10_others_b38 ha0 ha1 h hc hr

def fX10_others_w6 (a0 : Nat) (a1 : Nat) (a2 : Int32) (a3 : Int32) (a4 : Int32) (a5 : Int32) (σ : Mm) : Option (Int32) :=
  wh (fun a : Int32 × Int32 => fX10_others_l6 a0 a1 a2 a3 a.1 a.2 σ) BIG (a4, a5)
set_option maxRecDepth 20000 in
set_option maxHeartbeats 2000000 in
theorem tX10_others_w6 {X : XS} {n : Nat} {σ : Mm} {F : Nat × Option Value × Mm} {a0 : Nat} {a1 : Nat} {a2 : Int32} {a3 : Int32} {a4 : Int32} {a5 : Int32} (ha0 : RT n a0 110) (ha1 : RT n a1 200) {res : Int32} (h : fX10_others_w6 a0 a1 a2 a3 a4 a5 σ = some res) (hr : ∀ (v : Int32), res = v → F = (n, some (.int v), σ)) : J X mX10_others 2 0 0 F 6 [(0, .ref a0), (1, .ref a1), (2, .int a2), (3, .int a3), (4, .int a4), (5, .int a5)] [] n σ := by
  unfold fX10_others_w6 at h
  refine wh_rule (P := fun a : Int32 × Int32 => J X mX10_others 2 0 0 F 6 [(0, .ref a0), (1, .ref a1), (2, .int a2), (3, .int a3), (4, .int a.1), (5, .int a.2)] [] n σ) (K := fun b => b = res) ?_ _ _ _ h rfl
  intro a
  refine ⟨fun a2 hb hP => ?_, fun b hb hK => ?_⟩
  · exact tX10_others_l6 ha0 ha1 hb (fun _ _ e => by cases e; exact hP) (fun _ e => by cases e)
  · subst hK
    exact tX10_others_l6 ha0 ha1 hb (fun _ _ e => by cases e) (fun v0 e => hr v0 (Sum.inr.inj e))

def fX10_others (a0 : Nat) (a1 : Nat) (a2 : Int32) (a3 : Int32) (σ : Mm) : Option (Int32) :=
  (fX10_others_w6 a0 a1 a2 a3 0 0 σ).bind (fun o5 => some o5)
set_option maxRecDepth 20000 in
set_option maxHeartbeats 2000000 in
theorem tX10_others {X : XS} {n : Nat} {σ : Mm} {a0 : Nat} {a1 : Nat} {a2 : Int32} {a3 : Int32} (ha0 : RT n a0 110) (ha1 : RT n a1 200) {res : Int32} (h : fX10_others a0 a1 a2 a3 σ = some res) : MT X yX10_others mX10_others 2 0 0 [.ref a0, .ref a1, .int a2, .int a3] n σ (n, some (.int res), σ) := by
  unfold fX10_others at h
  refine MT_of (by decide +kernel) rfl (fun h => by cases h) (Nat.le_of_ble_eq_true rfl) ?_
  show J X mX10_others 2 0 0 (n, some (.int res), σ) 0 [(0, .ref a0), (1, .ref a1), (2, .int a2), (3, .int a3)] [] n σ
  refine J_iconst (x := 0) dX10_others_0 (by decide) (q := 1) rfl ?_
  refine J_istore (lv' := [(4, .int 0), (0, .ref a0), (1, .ref a1), (2, .int a2), (3, .int a3)]) dX10_others_1 (by decide) rfl (q := 3) rfl ?_
  refine J_iconst (x := 0) dX10_others_3 (by decide) (q := 4) rfl ?_
  refine J_istore (lv' := [(5, .int 0), (4, .int 0), (0, .ref a0), (1, .ref a1), (2, .int a2), (3, .int a3)]) dX10_others_4 (by decide) rfl (q := 6) rfl ?_
  obtain ⟨o5, hlo5, h⟩ := bindS h
  refine J_pick [2, 3, 4, 5, 1, 0] rfl ?_
  refine tX10_others_w6 ha0 ha1 hlo5 ?_
  · intro vo5 qo5
    rw [qo5] at h
    try dsimp only [Sum.elim_inl, Sum.elim_inr] at h
    have h := Option.some.inj h
    subst h
    rfl

def fX10_worthNow (a0 : Nat) (σ : Mm) : Option (Int32 × Mm) :=
  (gR σ a0 4).bind fun r1 => if ixB 116 (ln r1) = true then if ixB 99 (ln r1) = true then if ixB 98 (ln r1) = true then if ixB 100 (ln r1) = true then if ixB 115 (ln r1) = true then if ixB 110 (ln r1) = true then (gR σ a0 38).bind fun r8 => if ixB (Int64.toInt32 (remL (((5 * ((7 * ((2 * ((10 * ((10 * ((100 * (Int32.toInt64 (gI σ r1 (Int32.toNatClampNeg 116)))) + (Int32.toInt64 (gI σ r1 (Int32.toNatClampNeg 99))))) + (Int32.toInt64 (gI σ r1 (Int32.toNatClampNeg 98))))) + (Int32.toInt64 (gI σ r1 (Int32.toNatClampNeg 100))))) + (Int32.toInt64 (gI σ r1 (Int32.toNatClampNeg 115))))) + (Int32.toInt64 (gI σ r1 (Int32.toNatClampNeg 110))))) + (Int32.toInt64 (gI σ a0 36))) + 1) 8191)) (ln r8) = true then if (lg_cmp (gL σ r8 (Int32.toNatClampNeg (Int64.toInt32 (remL (((5 * ((7 * ((2 * ((10 * ((10 * ((100 * (Int32.toInt64 (gI σ r1 (Int32.toNatClampNeg 116)))) + (Int32.toInt64 (gI σ r1 (Int32.toNatClampNeg 99))))) + (Int32.toInt64 (gI σ r1 (Int32.toNatClampNeg 98))))) + (Int32.toInt64 (gI σ r1 (Int32.toNatClampNeg 100))))) + (Int32.toInt64 (gI σ r1 (Int32.toNatClampNeg 115))))) + (Int32.toInt64 (gI σ r1 (Int32.toNatClampNeg 110))))) + (Int32.toInt64 (gI σ a0 36))) + 1) 8191)))) (((5 * ((7 * ((2 * ((10 * ((10 * ((100 * (Int32.toInt64 (gI σ r1 (Int32.toNatClampNeg 116)))) + (Int32.toInt64 (gI σ r1 (Int32.toNatClampNeg 99))))) + (Int32.toInt64 (gI σ r1 (Int32.toNatClampNeg 98))))) + (Int32.toInt64 (gI σ r1 (Int32.toNatClampNeg 100))))) + (Int32.toInt64 (gI σ r1 (Int32.toNatClampNeg 115))))) + (Int32.toInt64 (gI σ r1 (Int32.toNatClampNeg 110))))) + (Int32.toInt64 (gI σ a0 36))) + 1)) = 0 then (gR σ a0 39).bind fun r19 => if ixB (Int64.toInt32 (remL (((5 * ((7 * ((2 * ((10 * ((10 * ((100 * (Int32.toInt64 (gI σ r1 (Int32.toNatClampNeg 116)))) + (Int32.toInt64 (gI σ r1 (Int32.toNatClampNeg 99))))) + (Int32.toInt64 (gI σ r1 (Int32.toNatClampNeg 98))))) + (Int32.toInt64 (gI σ r1 (Int32.toNatClampNeg 100))))) + (Int32.toInt64 (gI σ r1 (Int32.toNatClampNeg 115))))) + (Int32.toInt64 (gI σ r1 (Int32.toNatClampNeg 110))))) + (Int32.toInt64 (gI σ a0 36))) + 1) 8191)) (ln r19) = true then some ((gI σ r19 (Int32.toNatClampNeg (Int64.toInt32 (remL (((5 * ((7 * ((2 * ((10 * ((10 * ((100 * (Int32.toInt64 (gI σ r1 (Int32.toNatClampNeg 116)))) + (Int32.toInt64 (gI σ r1 (Int32.toNatClampNeg 99))))) + (Int32.toInt64 (gI σ r1 (Int32.toNatClampNeg 98))))) + (Int32.toInt64 (gI σ r1 (Int32.toNatClampNeg 100))))) + (Int32.toInt64 (gI σ r1 (Int32.toNatClampNeg 115))))) + (Int32.toInt64 (gI σ r1 (Int32.toNatClampNeg 110))))) + (Int32.toInt64 (gI σ a0 36))) + 1) 8191)))), σ) else none else (gR σ a0 2).bind fun r11 => (gR σ a0 3).bind fun r12 => if ixB (gI σ a0 36) (ln r12) = true then (fX10_goThrough a0 r11 (240 * (gI σ a0 36)) (gI σ r12 (Int32.toNatClampNeg (gI σ a0 36))) σ).bind fun sk14 => (gR sk14 a0 38).bind fun r15 => if ixB (Int64.toInt32 (remL (((5 * ((7 * ((2 * ((10 * ((10 * ((100 * (Int32.toInt64 (gI σ r1 (Int32.toNatClampNeg 116)))) + (Int32.toInt64 (gI σ r1 (Int32.toNatClampNeg 99))))) + (Int32.toInt64 (gI σ r1 (Int32.toNatClampNeg 98))))) + (Int32.toInt64 (gI σ r1 (Int32.toNatClampNeg 100))))) + (Int32.toInt64 (gI σ r1 (Int32.toNatClampNeg 115))))) + (Int32.toInt64 (gI σ r1 (Int32.toNatClampNeg 110))))) + (Int32.toInt64 (gI σ a0 36))) + 1) 8191)) (ln r15) = true then (gR sk14 a0 39).bind fun r17 => if ixB (Int64.toInt32 (remL (((5 * ((7 * ((2 * ((10 * ((10 * ((100 * (Int32.toInt64 (gI σ r1 (Int32.toNatClampNeg 116)))) + (Int32.toInt64 (gI σ r1 (Int32.toNatClampNeg 99))))) + (Int32.toInt64 (gI σ r1 (Int32.toNatClampNeg 98))))) + (Int32.toInt64 (gI σ r1 (Int32.toNatClampNeg 100))))) + (Int32.toInt64 (gI σ r1 (Int32.toNatClampNeg 115))))) + (Int32.toInt64 (gI σ r1 (Int32.toNatClampNeg 110))))) + (Int32.toInt64 (gI σ a0 36))) + 1) 8191)) (ln r17) = true then some ((gI (sI (sL sk14 r15 (Int32.toNatClampNeg (Int64.toInt32 (remL (((5 * ((7 * ((2 * ((10 * ((10 * ((100 * (Int32.toInt64 (gI σ r1 (Int32.toNatClampNeg 116)))) + (Int32.toInt64 (gI σ r1 (Int32.toNatClampNeg 99))))) + (Int32.toInt64 (gI σ r1 (Int32.toNatClampNeg 98))))) + (Int32.toInt64 (gI σ r1 (Int32.toNatClampNeg 100))))) + (Int32.toInt64 (gI σ r1 (Int32.toNatClampNeg 115))))) + (Int32.toInt64 (gI σ r1 (Int32.toNatClampNeg 110))))) + (Int32.toInt64 (gI σ a0 36))) + 1) 8191))) (((5 * ((7 * ((2 * ((10 * ((10 * ((100 * (Int32.toInt64 (gI σ r1 (Int32.toNatClampNeg 116)))) + (Int32.toInt64 (gI σ r1 (Int32.toNatClampNeg 99))))) + (Int32.toInt64 (gI σ r1 (Int32.toNatClampNeg 98))))) + (Int32.toInt64 (gI σ r1 (Int32.toNatClampNeg 100))))) + (Int32.toInt64 (gI σ r1 (Int32.toNatClampNeg 115))))) + (Int32.toInt64 (gI σ r1 (Int32.toNatClampNeg 110))))) + (Int32.toInt64 (gI σ a0 36))) + 1)) r17 (Int32.toNatClampNeg (Int64.toInt32 (remL (((5 * ((7 * ((2 * ((10 * ((10 * ((100 * (Int32.toInt64 (gI σ r1 (Int32.toNatClampNeg 116)))) + (Int32.toInt64 (gI σ r1 (Int32.toNatClampNeg 99))))) + (Int32.toInt64 (gI σ r1 (Int32.toNatClampNeg 98))))) + (Int32.toInt64 (gI σ r1 (Int32.toNatClampNeg 100))))) + (Int32.toInt64 (gI σ r1 (Int32.toNatClampNeg 115))))) + (Int32.toInt64 (gI σ r1 (Int32.toNatClampNeg 110))))) + (Int32.toInt64 (gI σ a0 36))) + 1) 8191))) (gI (sL sk14 r15 (Int32.toNatClampNeg (Int64.toInt32 (remL (((5 * ((7 * ((2 * ((10 * ((10 * ((100 * (Int32.toInt64 (gI σ r1 (Int32.toNatClampNeg 116)))) + (Int32.toInt64 (gI σ r1 (Int32.toNatClampNeg 99))))) + (Int32.toInt64 (gI σ r1 (Int32.toNatClampNeg 98))))) + (Int32.toInt64 (gI σ r1 (Int32.toNatClampNeg 100))))) + (Int32.toInt64 (gI σ r1 (Int32.toNatClampNeg 115))))) + (Int32.toInt64 (gI σ r1 (Int32.toNatClampNeg 110))))) + (Int32.toInt64 (gI σ a0 36))) + 1) 8191))) (((5 * ((7 * ((2 * ((10 * ((10 * ((100 * (Int32.toInt64 (gI σ r1 (Int32.toNatClampNeg 116)))) + (Int32.toInt64 (gI σ r1 (Int32.toNatClampNeg 99))))) + (Int32.toInt64 (gI σ r1 (Int32.toNatClampNeg 98))))) + (Int32.toInt64 (gI σ r1 (Int32.toNatClampNeg 100))))) + (Int32.toInt64 (gI σ r1 (Int32.toNatClampNeg 115))))) + (Int32.toInt64 (gI σ r1 (Int32.toNatClampNeg 110))))) + (Int32.toInt64 (gI σ a0 36))) + 1)) a0 14)) a0 14), (sI (sL sk14 r15 (Int32.toNatClampNeg (Int64.toInt32 (remL (((5 * ((7 * ((2 * ((10 * ((10 * ((100 * (Int32.toInt64 (gI σ r1 (Int32.toNatClampNeg 116)))) + (Int32.toInt64 (gI σ r1 (Int32.toNatClampNeg 99))))) + (Int32.toInt64 (gI σ r1 (Int32.toNatClampNeg 98))))) + (Int32.toInt64 (gI σ r1 (Int32.toNatClampNeg 100))))) + (Int32.toInt64 (gI σ r1 (Int32.toNatClampNeg 115))))) + (Int32.toInt64 (gI σ r1 (Int32.toNatClampNeg 110))))) + (Int32.toInt64 (gI σ a0 36))) + 1) 8191))) (((5 * ((7 * ((2 * ((10 * ((10 * ((100 * (Int32.toInt64 (gI σ r1 (Int32.toNatClampNeg 116)))) + (Int32.toInt64 (gI σ r1 (Int32.toNatClampNeg 99))))) + (Int32.toInt64 (gI σ r1 (Int32.toNatClampNeg 98))))) + (Int32.toInt64 (gI σ r1 (Int32.toNatClampNeg 100))))) + (Int32.toInt64 (gI σ r1 (Int32.toNatClampNeg 115))))) + (Int32.toInt64 (gI σ r1 (Int32.toNatClampNeg 110))))) + (Int32.toInt64 (gI σ a0 36))) + 1)) r17 (Int32.toNatClampNeg (Int64.toInt32 (remL (((5 * ((7 * ((2 * ((10 * ((10 * ((100 * (Int32.toInt64 (gI σ r1 (Int32.toNatClampNeg 116)))) + (Int32.toInt64 (gI σ r1 (Int32.toNatClampNeg 99))))) + (Int32.toInt64 (gI σ r1 (Int32.toNatClampNeg 98))))) + (Int32.toInt64 (gI σ r1 (Int32.toNatClampNeg 100))))) + (Int32.toInt64 (gI σ r1 (Int32.toNatClampNeg 115))))) + (Int32.toInt64 (gI σ r1 (Int32.toNatClampNeg 110))))) + (Int32.toInt64 (gI σ a0 36))) + 1) 8191))) (gI (sL sk14 r15 (Int32.toNatClampNeg (Int64.toInt32 (remL (((5 * ((7 * ((2 * ((10 * ((10 * ((100 * (Int32.toInt64 (gI σ r1 (Int32.toNatClampNeg 116)))) + (Int32.toInt64 (gI σ r1 (Int32.toNatClampNeg 99))))) + (Int32.toInt64 (gI σ r1 (Int32.toNatClampNeg 98))))) + (Int32.toInt64 (gI σ r1 (Int32.toNatClampNeg 100))))) + (Int32.toInt64 (gI σ r1 (Int32.toNatClampNeg 115))))) + (Int32.toInt64 (gI σ r1 (Int32.toNatClampNeg 110))))) + (Int32.toInt64 (gI σ a0 36))) + 1) 8191))) (((5 * ((7 * ((2 * ((10 * ((10 * ((100 * (Int32.toInt64 (gI σ r1 (Int32.toNatClampNeg 116)))) + (Int32.toInt64 (gI σ r1 (Int32.toNatClampNeg 99))))) + (Int32.toInt64 (gI σ r1 (Int32.toNatClampNeg 98))))) + (Int32.toInt64 (gI σ r1 (Int32.toNatClampNeg 100))))) + (Int32.toInt64 (gI σ r1 (Int32.toNatClampNeg 115))))) + (Int32.toInt64 (gI σ r1 (Int32.toNatClampNeg 110))))) + (Int32.toInt64 (gI σ a0 36))) + 1)) a0 14))) else none else none else none else none else none else none else none else none else none else none
set_option maxRecDepth 20000 in
set_option maxHeartbeats 2000000 in
theorem tX10_worthNow {X : XS} {n : Nat} {σ : Mm} {a0 : Nat} (ha0 : RT n a0 110) {res : Int32 × Mm} (h : fX10_worthNow a0 σ = some res) : MT X yX10_worthNow mX10_worthNow 111 0 0 [.ref a0] n σ (n, some (.int res.1), res.2) := by
  unfold fX10_worthNow at h
  refine MT_of (by decide +kernel) rfl (fun h => by cases h) (Nat.le_of_ble_eq_true rfl) ?_
  show J X mX10_worthNow 111 0 0 (n, some (.int res.1), res.2) 0 [(0, .ref a0)] [] n σ
  refine J_aload_n (z := 0) dX10_worthNow_0 rfl rfl (q := 1) rfl ?_
  obtain ⟨r1, er1, h⟩ := bindS h
  refine J_getR dX10_worthNow_1 lRX10_20 ha0 rfl (by decide) er1 (q := 4) rfl (fun fr1 => ?_)
  refine J_bipush (x := 116) dX10_worthNow_4 (by decide) (q := 6) rfl ?_
  obtain ⟨g2, h⟩ := iteS h
  refine J_iald dX10_worthNow_6 fr1 (ixB_ok g2) (q := 7) rfl ?_
  refine J_i2l dX10_worthNow_7  (q := 8) rfl ?_
  refine J_lstore_n (lv' := [(1, .long (Int32.toInt64 (gI σ r1 (Int32.toNatClampNeg 116)))), (0, .ref a0)]) dX10_worthNow_8 rfl (by decide) rfl (q := 9) rfl ?_
  refine J_ldc2 (x := 100) dX10_worthNow_9 kRX10_326 (q := 12) rfl ?_
  refine J_lload_n (z := 0) dX10_worthNow_12 rfl rfl (q := 13) rfl ?_
  refine J_lmul dX10_worthNow_13  (q := 14) rfl ?_
  refine J_aload_n (z := 1) dX10_worthNow_14 rfl rfl (q := 15) rfl ?_
  refine J_getR dX10_worthNow_15 lRX10_20 ha0 rfl (by decide) er1 (q := 18) rfl (fun _ => ?_)
  refine J_bipush (x := 99) dX10_worthNow_18 (by decide) (q := 20) rfl ?_
  obtain ⟨g3, h⟩ := iteS h
  refine J_iald dX10_worthNow_20 fr1 (ixB_ok g3) (q := 21) rfl ?_
  refine J_i2l dX10_worthNow_21  (q := 22) rfl ?_
  refine J_ladd dX10_worthNow_22  (q := 23) rfl ?_
  refine J_lstore_n (lv' := [(1, .long ((100 * (Int32.toInt64 (gI σ r1 (Int32.toNatClampNeg 116)))) + (Int32.toInt64 (gI σ r1 (Int32.toNatClampNeg 99))))), (0, .ref a0)]) dX10_worthNow_23 rfl (by decide) rfl (q := 24) rfl ?_
  refine J_ldc2 (x := 10) dX10_worthNow_24 kRX10_328 (q := 27) rfl ?_
  refine J_lload_n (z := 0) dX10_worthNow_27 rfl rfl (q := 28) rfl ?_
  refine J_lmul dX10_worthNow_28  (q := 29) rfl ?_
  refine J_aload_n (z := 1) dX10_worthNow_29 rfl rfl (q := 30) rfl ?_
  refine J_getR dX10_worthNow_30 lRX10_20 ha0 rfl (by decide) er1 (q := 33) rfl (fun _ => ?_)
  refine J_bipush (x := 98) dX10_worthNow_33 (by decide) (q := 35) rfl ?_
  obtain ⟨g4, h⟩ := iteS h
  refine J_iald dX10_worthNow_35 fr1 (ixB_ok g4) (q := 36) rfl ?_
  refine J_i2l dX10_worthNow_36  (q := 37) rfl ?_
  refine J_ladd dX10_worthNow_37  (q := 38) rfl ?_
  refine J_lstore_n (lv' := [(1, .long ((10 * ((100 * (Int32.toInt64 (gI σ r1 (Int32.toNatClampNeg 116)))) + (Int32.toInt64 (gI σ r1 (Int32.toNatClampNeg 99))))) + (Int32.toInt64 (gI σ r1 (Int32.toNatClampNeg 98))))), (0, .ref a0)]) dX10_worthNow_38 rfl (by decide) rfl (q := 39) rfl ?_
  refine J_ldc2 (x := 10) dX10_worthNow_39 kRX10_328 (q := 42) rfl ?_
  refine J_lload_n (z := 0) dX10_worthNow_42 rfl rfl (q := 43) rfl ?_
  refine J_lmul dX10_worthNow_43  (q := 44) rfl ?_
  refine J_aload_n (z := 1) dX10_worthNow_44 rfl rfl (q := 45) rfl ?_
  refine J_getR dX10_worthNow_45 lRX10_20 ha0 rfl (by decide) er1 (q := 48) rfl (fun _ => ?_)
  refine J_bipush (x := 100) dX10_worthNow_48 (by decide) (q := 50) rfl ?_
  obtain ⟨g5, h⟩ := iteS h
  refine J_iald dX10_worthNow_50 fr1 (ixB_ok g5) (q := 51) rfl ?_
  refine J_i2l dX10_worthNow_51  (q := 52) rfl ?_
  refine J_ladd dX10_worthNow_52  (q := 53) rfl ?_
  refine J_lstore_n (lv' := [(1, .long ((10 * ((10 * ((100 * (Int32.toInt64 (gI σ r1 (Int32.toNatClampNeg 116)))) + (Int32.toInt64 (gI σ r1 (Int32.toNatClampNeg 99))))) + (Int32.toInt64 (gI σ r1 (Int32.toNatClampNeg 98))))) + (Int32.toInt64 (gI σ r1 (Int32.toNatClampNeg 100))))), (0, .ref a0)]) dX10_worthNow_53 rfl (by decide) rfl (q := 54) rfl ?_
  refine J_ldc2 (x := 2) dX10_worthNow_54 kRX10_272 (q := 57) rfl ?_
  refine J_lload_n (z := 0) dX10_worthNow_57 rfl rfl (q := 58) rfl ?_
  refine J_lmul dX10_worthNow_58  (q := 59) rfl ?_
  refine J_aload_n (z := 1) dX10_worthNow_59 rfl rfl (q := 60) rfl ?_
  refine J_getR dX10_worthNow_60 lRX10_20 ha0 rfl (by decide) er1 (q := 63) rfl (fun _ => ?_)
  refine J_bipush (x := 115) dX10_worthNow_63 (by decide) (q := 65) rfl ?_
  obtain ⟨g6, h⟩ := iteS h
  refine J_iald dX10_worthNow_65 fr1 (ixB_ok g6) (q := 66) rfl ?_
  refine J_i2l dX10_worthNow_66  (q := 67) rfl ?_
  refine J_ladd dX10_worthNow_67  (q := 68) rfl ?_
  refine J_lstore_n (lv' := [(1, .long ((2 * ((10 * ((10 * ((100 * (Int32.toInt64 (gI σ r1 (Int32.toNatClampNeg 116)))) + (Int32.toInt64 (gI σ r1 (Int32.toNatClampNeg 99))))) + (Int32.toInt64 (gI σ r1 (Int32.toNatClampNeg 98))))) + (Int32.toInt64 (gI σ r1 (Int32.toNatClampNeg 100))))) + (Int32.toInt64 (gI σ r1 (Int32.toNatClampNeg 115))))), (0, .ref a0)]) dX10_worthNow_68 rfl (by decide) rfl (q := 69) rfl ?_
  refine J_ldc2 (x := 7) dX10_worthNow_69 kRX10_330 (q := 72) rfl ?_
  refine J_lload_n (z := 0) dX10_worthNow_72 rfl rfl (q := 73) rfl ?_
  refine J_lmul dX10_worthNow_73  (q := 74) rfl ?_
  refine J_aload_n (z := 1) dX10_worthNow_74 rfl rfl (q := 75) rfl ?_
  refine J_getR dX10_worthNow_75 lRX10_20 ha0 rfl (by decide) er1 (q := 78) rfl (fun _ => ?_)
  refine J_bipush (x := 110) dX10_worthNow_78 (by decide) (q := 80) rfl ?_
  obtain ⟨g7, h⟩ := iteS h
  refine J_iald dX10_worthNow_80 fr1 (ixB_ok g7) (q := 81) rfl ?_
  refine J_i2l dX10_worthNow_81  (q := 82) rfl ?_
  refine J_ladd dX10_worthNow_82  (q := 83) rfl ?_
  refine J_lstore_n (lv' := [(1, .long ((7 * ((2 * ((10 * ((10 * ((100 * (Int32.toInt64 (gI σ r1 (Int32.toNatClampNeg 116)))) + (Int32.toInt64 (gI σ r1 (Int32.toNatClampNeg 99))))) + (Int32.toInt64 (gI σ r1 (Int32.toNatClampNeg 98))))) + (Int32.toInt64 (gI σ r1 (Int32.toNatClampNeg 100))))) + (Int32.toInt64 (gI σ r1 (Int32.toNatClampNeg 115))))) + (Int32.toInt64 (gI σ r1 (Int32.toNatClampNeg 110))))), (0, .ref a0)]) dX10_worthNow_83 rfl (by decide) rfl (q := 84) rfl ?_
  refine J_ldc2 (x := 5) dX10_worthNow_84 kRX10_332 (q := 87) rfl ?_
  refine J_lload_n (z := 0) dX10_worthNow_87 rfl rfl (q := 88) rfl ?_
  refine J_lmul dX10_worthNow_88  (q := 89) rfl ?_
  refine J_aload_n (z := 1) dX10_worthNow_89 rfl rfl (q := 90) rfl ?_
  refine J_getI dX10_worthNow_90 lRX10_70 ha0 rfl (q := 93) rfl ?_
  refine J_i2l dX10_worthNow_93  (q := 94) rfl ?_
  refine J_ladd dX10_worthNow_94  (q := 95) rfl ?_
  refine J_lconst (x := 1) dX10_worthNow_95 (by decide) (q := 96) rfl ?_
  refine J_ladd dX10_worthNow_96  (q := 97) rfl ?_
  refine J_lstore_n (lv' := [(1, .long (((5 * ((7 * ((2 * ((10 * ((10 * ((100 * (Int32.toInt64 (gI σ r1 (Int32.toNatClampNeg 116)))) + (Int32.toInt64 (gI σ r1 (Int32.toNatClampNeg 99))))) + (Int32.toInt64 (gI σ r1 (Int32.toNatClampNeg 98))))) + (Int32.toInt64 (gI σ r1 (Int32.toNatClampNeg 100))))) + (Int32.toInt64 (gI σ r1 (Int32.toNatClampNeg 115))))) + (Int32.toInt64 (gI σ r1 (Int32.toNatClampNeg 110))))) + (Int32.toInt64 (gI σ a0 36))) + 1)), (0, .ref a0)]) dX10_worthNow_97 rfl (by decide) rfl (q := 98) rfl ?_
  refine J_lload_n (z := 0) dX10_worthNow_98 rfl rfl (q := 99) rfl ?_
  refine J_ldc2 (x := 8191) dX10_worthNow_99 kRX10_334 (q := 102) rfl ?_
  refine J_lrem dX10_worthNow_102 (by decide) (q := 103) rfl ?_
  refine J_l2i dX10_worthNow_103  (q := 104) rfl ?_
  refine J_istore_n (lv' := [(3, .int (Int64.toInt32 (remL (((5 * ((7 * ((2 * ((10 * ((10 * ((100 * (Int32.toInt64 (gI σ r1 (Int32.toNatClampNeg 116)))) + (Int32.toInt64 (gI σ r1 (Int32.toNatClampNeg 99))))) + (Int32.toInt64 (gI σ r1 (Int32.toNatClampNeg 98))))) + (Int32.toInt64 (gI σ r1 (Int32.toNatClampNeg 100))))) + (Int32.toInt64 (gI σ r1 (Int32.toNatClampNeg 115))))) + (Int32.toInt64 (gI σ r1 (Int32.toNatClampNeg 110))))) + (Int32.toInt64 (gI σ a0 36))) + 1) 8191))), (1, .long (((5 * ((7 * ((2 * ((10 * ((10 * ((100 * (Int32.toInt64 (gI σ r1 (Int32.toNatClampNeg 116)))) + (Int32.toInt64 (gI σ r1 (Int32.toNatClampNeg 99))))) + (Int32.toInt64 (gI σ r1 (Int32.toNatClampNeg 98))))) + (Int32.toInt64 (gI σ r1 (Int32.toNatClampNeg 100))))) + (Int32.toInt64 (gI σ r1 (Int32.toNatClampNeg 115))))) + (Int32.toInt64 (gI σ r1 (Int32.toNatClampNeg 110))))) + (Int32.toInt64 (gI σ a0 36))) + 1)), (0, .ref a0)]) dX10_worthNow_104 rfl (by decide) rfl (q := 105) rfl ?_
  refine J_aload_n (z := 2) dX10_worthNow_105 rfl rfl (q := 106) rfl ?_
  obtain ⟨r8, er8, h⟩ := bindS h
  refine J_getR dX10_worthNow_106 lRX10_74 ha0 rfl (by decide) er8 (q := 109) rfl (fun fr8 => ?_)
  refine J_iload_n (z := 0) dX10_worthNow_109 rfl rfl (q := 110) rfl ?_
  obtain ⟨g9, h⟩ := iteS h
  refine J_lald dX10_worthNow_110 fr8 (ixB_ok g9) (q := 111) rfl ?_
  refine J_lload_n (z := 1) dX10_worthNow_111 rfl rfl (q := 112) rfl ?_
  refine J_lcmp dX10_worthNow_112  (q := 113) rfl ?_
  refine J_if_ne (tgt := 123) dX10_worthNow_113 (by decide) (q := 116) rfl (fun c9 => ?_) (fun c9 => ?_)
  · rw [if_neg c9] at h
    refine J_aload_n (z := 2) dX10_worthNow_123 rfl rfl (q := 124) rfl ?_
    refine J_aload_n (z := 2) dX10_worthNow_124 rfl rfl (q := 125) rfl ?_
    obtain ⟨r11, er11, h⟩ := bindS h
    refine J_getR dX10_worthNow_125 lRX10_13 ha0 rfl (by decide) er11 (q := 128) rfl (fun fr11 => ?_)
    refine J_sipush (x := 240) dX10_worthNow_128 (by decide) (q := 131) rfl ?_
    refine J_aload_n (z := 2) dX10_worthNow_131 rfl rfl (q := 132) rfl ?_
    refine J_getI dX10_worthNow_132 lRX10_70 ha0 rfl (q := 135) rfl ?_
    refine J_imul dX10_worthNow_135  (q := 136) rfl ?_
    refine J_aload_n (z := 2) dX10_worthNow_136 rfl rfl (q := 137) rfl ?_
    obtain ⟨r12, er12, h⟩ := bindS h
    refine J_getR dX10_worthNow_137 lRX10_16 ha0 rfl (by decide) er12 (q := 140) rfl (fun fr12 => ?_)
    refine J_aload_n (z := 2) dX10_worthNow_140 rfl rfl (q := 141) rfl ?_
    refine J_getI dX10_worthNow_141 lRX10_70 ha0 rfl (q := 144) rfl ?_
    obtain ⟨g13, h⟩ := iteS h
    refine J_iald dX10_worthNow_144 fr12 (ixB_ok g13) (q := 145) rfl ?_
    obtain ⟨sk14, hk14, h⟩ := bindS h
    refine J_cVv (as := [.ref r11, .int (240 * (gI σ a0 36)), .int (gI σ r12 (Int32.toNatClampNeg (gI σ a0 36)))]) dX10_worthNow_145 mRX10_277 ha0 (tX10_goThrough ha0 fr11 hk14) rfl (Nat.le_of_ble_eq_true rfl) (Nat.le_of_ble_eq_true rfl) (Nat.le_of_ble_eq_true rfl) (q := 148) rfl ?_
    refine J_aload_n (z := 2) dX10_worthNow_148 rfl rfl (q := 149) rfl ?_
    obtain ⟨r15, er15, h⟩ := bindS h
    refine J_getR dX10_worthNow_149 lRX10_74 ha0 rfl (by decide) er15 (q := 152) rfl (fun fr15 => ?_)
    refine J_iload_n (z := 0) dX10_worthNow_152 rfl rfl (q := 153) rfl ?_
    refine J_lload_n (z := 1) dX10_worthNow_153 rfl rfl (q := 154) rfl ?_
    obtain ⟨g16, h⟩ := iteS h
    refine J_last dX10_worthNow_154 fr15 (ixB_ok g16) (q := 155) rfl ?_
    refine J_aload_n (z := 2) dX10_worthNow_155 rfl rfl (q := 156) rfl ?_
    obtain ⟨r17, er17, h⟩ := bindS h
    refine J_getR dX10_worthNow_156 lRX10_78 ha0 rfl (by decide) er17 (q := 159) rfl (fun fr17 => ?_)
    refine J_iload_n (z := 0) dX10_worthNow_159 rfl rfl (q := 160) rfl ?_
    refine J_aload_n (z := 2) dX10_worthNow_160 rfl rfl (q := 161) rfl ?_
    refine J_getI dX10_worthNow_161 lRX10_204 ha0 rfl (q := 164) rfl ?_
    obtain ⟨g18, h⟩ := iteS h
    refine J_iast dX10_worthNow_164 fr17 (ixB_ok g18) (q := 165) rfl ?_
    refine J_aload_n (z := 2) dX10_worthNow_165 rfl rfl (q := 166) rfl ?_
    refine J_getI dX10_worthNow_166 lRX10_204 ha0 rfl (q := 169) rfl ?_
    have h := Option.some.inj h
    subst h
    exact J_ireturn dX10_worthNow_169 rfl rfl rfl
  · rw [if_pos c9] at h
    refine J_aload_n (z := 2) dX10_worthNow_116 rfl rfl (q := 117) rfl ?_
    obtain ⟨r19, er19, h⟩ := bindS h
    refine J_getR dX10_worthNow_117 lRX10_78 ha0 rfl (by decide) er19 (q := 120) rfl (fun fr19 => ?_)
    refine J_iload_n (z := 0) dX10_worthNow_120 rfl rfl (q := 121) rfl ?_
    obtain ⟨g20, h⟩ := iteS h
    refine J_iald dX10_worthNow_121 fr19 (ixB_ok g20) (q := 122) rfl ?_
    have h := Option.some.inj h
    subst h
    exact J_ireturn dX10_worthNow_122 rfl rfl rfl

def fX10_meltBy_b128 (a8 : Int32) (σ : Mm) : Option (Int32 × Mm) :=
  some ((maxI 0 (minI 9 a8)), σ)
set_option maxRecDepth 20000 in
set_option maxHeartbeats 2000000 in
theorem tX10_meltBy_b128 {X : XS} {n : Nat} {σ : Mm} {a8 : Int32} {res : Int32 × Mm} (h : fX10_meltBy_b128 a8 σ = some res) : J X mX10_meltBy 112 0 0 (n, some (.int res.1), res.2) 128 [(8, .int a8)] [] n σ := by
  unfold fX10_meltBy_b128 at h
  refine J_iconst (x := 0) dX10_meltBy_128 (by decide) (q := 129) rfl ?_
  refine J_bipush (x := 9) dX10_meltBy_129 (by decide) (q := 131) rfl ?_
  refine J_iload (z := 0) dX10_meltBy_131 rfl (q := 133) rfl ?_
  refine J_mmin dX10_meltBy_133 pRX10_322 q_static_mmin q_init_math q_code_mmin (Nat.le_of_ble_eq_true rfl) (Nat.le_of_ble_eq_true rfl) (q := 136) rfl ?_
  refine J_mmax dX10_meltBy_136 pRX10_324 q_static_mmax q_init_math q_code_mmax (Nat.le_of_ble_eq_true rfl) (Nat.le_of_ble_eq_true rfl) (q := 139) rfl ?_
  have h := Option.some.inj h
  subst h
  exact J_ireturn dX10_meltBy_139 rfl rfl rfl

def fX10_meltBy (a0 : Nat) (a1 : Nat) (a2 : Int32) (a3 : Int32) (a4 : Int32) (a5 : Int32) (σ : Mm) : Option (Int32 × Mm) :=
  (gR σ a0 20).bind fun r1 => if ixB (4 * a3) (ln r1) = true then (fX10_apart a0 a4 (gI σ r1 (Int32.toNatClampNeg (4 * a3))) σ).bind fun vk3 => if vk3 ≤ 1 then (gR σ a0 22).bind fun r5 => if ixB ((4 * a2) + 1) (ln r5) = true then if ixB 108 (ln a1) = true then if (gI σ a0 36) = (-1) then fX10_meltBy_b128 ((((gI σ r5 (Int32.toNatClampNeg ((4 * a2) + 1))) - ((gI σ a1 (Int32.toNatClampNeg 108)) / 20)) + 1) - vk3) σ else (gR σ a0 4).bind fun r9 => if ixB 98 (ln r9) = true then if ixB 108 (ln a1) = true then if ixB 99 (ln r9) = true then if ixB (2 * a3) (ln a1) = true then if ixB 100 (ln r9) = true then if ixB 115 (ln r9) = true then if ixB 110 (ln r9) = true then if ixB 109 (ln a1) = true then if ixB 116 (ln r9) = true then bnd2 (fX10_worthNow a0 (sI (sI (sI (sI (sI (sI σ r9 (Int32.toNatClampNeg 98) (gI σ r5 (Int32.toNatClampNeg ((4 * a2) + 1)))) r9 (Int32.toNatClampNeg 99) (gI (sI σ r9 (Int32.toNatClampNeg 98) (gI σ r5 (Int32.toNatClampNeg ((4 * a2) + 1)))) a1 (Int32.toNatClampNeg 108))) r9 (Int32.toNatClampNeg 100) (gI (sI (sI σ r9 (Int32.toNatClampNeg 98) (gI σ r5 (Int32.toNatClampNeg ((4 * a2) + 1)))) r9 (Int32.toNatClampNeg 99) (gI (sI σ r9 (Int32.toNatClampNeg 98) (gI σ r5 (Int32.toNatClampNeg ((4 * a2) + 1)))) a1 (Int32.toNatClampNeg 108))) a1 (Int32.toNatClampNeg (2 * a3)))) r9 (Int32.toNatClampNeg 115) vk3) r9 (Int32.toNatClampNeg 110) a5) r9 (Int32.toNatClampNeg 116) (gI (sI (sI (sI (sI (sI σ r9 (Int32.toNatClampNeg 98) (gI σ r5 (Int32.toNatClampNeg ((4 * a2) + 1)))) r9 (Int32.toNatClampNeg 99) (gI (sI σ r9 (Int32.toNatClampNeg 98) (gI σ r5 (Int32.toNatClampNeg ((4 * a2) + 1)))) a1 (Int32.toNatClampNeg 108))) r9 (Int32.toNatClampNeg 100) (gI (sI (sI σ r9 (Int32.toNatClampNeg 98) (gI σ r5 (Int32.toNatClampNeg ((4 * a2) + 1)))) r9 (Int32.toNatClampNeg 99) (gI (sI σ r9 (Int32.toNatClampNeg 98) (gI σ r5 (Int32.toNatClampNeg ((4 * a2) + 1)))) a1 (Int32.toNatClampNeg 108))) a1 (Int32.toNatClampNeg (2 * a3)))) r9 (Int32.toNatClampNeg 115) vk3) r9 (Int32.toNatClampNeg 110) a5) a1 (Int32.toNatClampNeg 109)))) fun vk19 sk19 => fX10_meltBy_b128 vk19 sk19 else none else none else none else none else none else none else none else none else none else none else none else some (0, σ) else none
set_option maxRecDepth 20000 in
set_option maxHeartbeats 2000000 in
theorem tX10_meltBy {X : XS} {n : Nat} {σ : Mm} {a0 : Nat} {a1 : Nat} {a2 : Int32} {a3 : Int32} {a4 : Int32} {a5 : Int32} (ha0 : RT n a0 110) (ha1 : RT n a1 200) {res : Int32 × Mm} (h : fX10_meltBy a0 a1 a2 a3 a4 a5 σ = some res) : MT X yX10_meltBy mX10_meltBy 112 0 0 [.ref a0, .ref a1, .int a2, .int a3, .int a4, .int a5] n σ (n, some (.int res.1), res.2) := by
  unfold fX10_meltBy at h
  refine MT_of (by decide +kernel) rfl (fun h => by cases h) (Nat.le_of_ble_eq_true rfl) ?_
  show J X mX10_meltBy 112 0 0 (n, some (.int res.1), res.2) 0 [(0, .ref a0), (1, .ref a1), (2, .int a2), (3, .int a3), (4, .int a4), (5, .int a5)] [] n σ
  refine J_aload_n (z := 0) dX10_meltBy_0 rfl rfl (q := 1) rfl ?_
  refine J_iload (z := 4) dX10_meltBy_1 rfl (q := 3) rfl ?_
  refine J_aload_n (z := 0) dX10_meltBy_3 rfl rfl (q := 4) rfl ?_
  obtain ⟨r1, er1, h⟩ := bindS h
  refine J_getR dX10_meltBy_4 lRX10_43 ha0 rfl (by decide) er1 (q := 7) rfl (fun fr1 => ?_)
  refine J_iconst (x := 4) dX10_meltBy_7 (by decide) (q := 8) rfl ?_
  refine J_iload_n (z := 3) dX10_meltBy_8 rfl rfl (q := 9) rfl ?_
  refine J_imul dX10_meltBy_9  (q := 10) rfl ?_
  obtain ⟨g2, h⟩ := iteS h
  refine J_iald dX10_meltBy_10 fr1 (ixB_ok g2) (q := 11) rfl ?_
  obtain ⟨vk3, hk3, h⟩ := bindS h
  refine J_cVi (as := [.int a4, .int (gI σ r1 (Int32.toNatClampNeg (4 * a3)))]) dX10_meltBy_11 mRX10_316 ha0 (tX10_apart ha0 hk3) rfl (Nat.le_of_ble_eq_true rfl) (Nat.le_of_ble_eq_true rfl) (Nat.le_of_ble_eq_true rfl) (q := 14) rfl ?_
  intro bk3
  refine J_istore (lv' := [(6, .int vk3), (0, .ref a0), (1, .ref a1), (2, .int a2), (3, .int a3), (4, .int a4), (5, .int a5)]) dX10_meltBy_14 (by decide) rfl (q := 16) rfl ?_
  refine J_iload (z := 0) dX10_meltBy_16 rfl (q := 18) rfl ?_
  refine J_iconst (x := 1) dX10_meltBy_18 (by decide) (q := 19) rfl ?_
  refine J_icmp_le (tgt := 24) dX10_meltBy_19 (by decide) (q := 22) rfl (fun c3 => ?_) (fun c3 => ?_)
  · rw [if_pos c3] at h
    refine J_aload_n (z := 1) dX10_meltBy_24 rfl rfl (q := 25) rfl ?_
    obtain ⟨r5, er5, h⟩ := bindS h
    refine J_getR dX10_meltBy_25 lRX10_49 ha0 rfl (by decide) er5 (q := 28) rfl (fun fr5 => ?_)
    refine J_iconst (x := 4) dX10_meltBy_28 (by decide) (q := 29) rfl ?_
    refine J_iload_n (z := 3) dX10_meltBy_29 rfl rfl (q := 30) rfl ?_
    refine J_imul dX10_meltBy_30  (q := 31) rfl ?_
    refine J_iconst (x := 1) dX10_meltBy_31 (by decide) (q := 32) rfl ?_
    refine J_iadd dX10_meltBy_32  (q := 33) rfl ?_
    obtain ⟨g6, h⟩ := iteS h
    refine J_iald dX10_meltBy_33 fr5 (ixB_ok g6) (q := 34) rfl ?_
    refine J_istore (lv' := [(7, .int (gI σ r5 (Int32.toNatClampNeg ((4 * a2) + 1)))), (6, .int vk3), (0, .ref a0), (1, .ref a1), (2, .int a2), (3, .int a3), (4, .int a4), (5, .int a5)]) dX10_meltBy_34 (by decide) rfl (q := 36) rfl ?_
    refine J_iload (z := 0) dX10_meltBy_36 rfl (q := 38) rfl ?_
    refine J_aload_n (z := 3) dX10_meltBy_38 rfl rfl (q := 39) rfl ?_
    refine J_bipush (x := 108) dX10_meltBy_39 (by decide) (q := 41) rfl ?_
    obtain ⟨g7, h⟩ := iteS h
    refine J_iald dX10_meltBy_41 ha1 (ixB_ok g7) (q := 42) rfl ?_
    refine J_bipush (x := 20) dX10_meltBy_42 (by decide) (q := 44) rfl ?_
    refine J_idiv dX10_meltBy_44 (by decide) (q := 45) rfl ?_
    refine J_isub dX10_meltBy_45  (q := 46) rfl ?_
    refine J_iconst (x := 1) dX10_meltBy_46 (by decide) (q := 47) rfl ?_
    refine J_iadd dX10_meltBy_47  (q := 48) rfl ?_
    refine J_iload (z := 1) dX10_meltBy_48 rfl (q := 50) rfl ?_
    refine J_isub dX10_meltBy_50  (q := 51) rfl ?_
    refine J_istore (lv' := [(8, .int ((((gI σ r5 (Int32.toNatClampNeg ((4 * a2) + 1))) - ((gI σ a1 (Int32.toNatClampNeg 108)) / 20)) + 1) - vk3)), (7, .int (gI σ r5 (Int32.toNatClampNeg ((4 * a2) + 1)))), (6, .int vk3), (0, .ref a0), (1, .ref a1), (2, .int a2), (3, .int a3), (4, .int a4), (5, .int a5)]) dX10_meltBy_51 (by decide) rfl (q := 53) rfl ?_
    refine J_aload_n (z := 3) dX10_meltBy_53 rfl rfl (q := 54) rfl ?_
    refine J_getI dX10_meltBy_54 lRX10_70 ha0 rfl (q := 57) rfl ?_
    refine J_iconst (x := (-1)) dX10_meltBy_57 (by decide) (q := 58) rfl ?_
    refine J_icmp_eq (tgt := 128) dX10_meltBy_58 (by decide) (q := 61) rfl (fun c7 => ?_) (fun c7 => ?_)
    · rw [if_pos c7] at h
      refine J_pick [0] rfl ?_
      exact tX10_meltBy_b128  h
    · rw [if_neg c7] at h
      refine J_aload_n (z := 3) dX10_meltBy_61 rfl rfl (q := 62) rfl ?_
      obtain ⟨r9, er9, h⟩ := bindS h
      refine J_getR dX10_meltBy_62 lRX10_20 ha0 rfl (by decide) er9 (q := 65) rfl (fun fr9 => ?_)
      refine J_bipush (x := 98) dX10_meltBy_65 (by decide) (q := 67) rfl ?_
      refine J_iload (z := 1) dX10_meltBy_67 rfl (q := 69) rfl ?_
      obtain ⟨g10, h⟩ := iteS h
      refine J_iast dX10_meltBy_69 fr9 (ixB_ok g10) (q := 70) rfl ?_
      refine J_aload_n (z := 3) dX10_meltBy_70 rfl rfl (q := 71) rfl ?_
      refine J_getR dX10_meltBy_71 lRX10_20 ha0 rfl (by decide) er9 (q := 74) rfl (fun _ => ?_)
      refine J_bipush (x := 99) dX10_meltBy_74 (by decide) (q := 76) rfl ?_
      refine J_aload_n (z := 4) dX10_meltBy_76 rfl rfl (q := 77) rfl ?_
      refine J_bipush (x := 108) dX10_meltBy_77 (by decide) (q := 79) rfl ?_
      obtain ⟨g11, h⟩ := iteS h
      refine J_iald dX10_meltBy_79 ha1 (ixB_ok g11) (q := 80) rfl ?_
      obtain ⟨g12, h⟩ := iteS h
      refine J_iast dX10_meltBy_80 fr9 (ixB_ok g12) (q := 81) rfl ?_
      refine J_aload_n (z := 3) dX10_meltBy_81 rfl rfl (q := 82) rfl ?_
      refine J_getR dX10_meltBy_82 lRX10_20 ha0 rfl (by decide) er9 (q := 85) rfl (fun _ => ?_)
      refine J_bipush (x := 100) dX10_meltBy_85 (by decide) (q := 87) rfl ?_
      refine J_aload_n (z := 4) dX10_meltBy_87 rfl rfl (q := 88) rfl ?_
      refine J_iconst (x := 2) dX10_meltBy_88 (by decide) (q := 89) rfl ?_
      refine J_iload_n (z := 6) dX10_meltBy_89 rfl rfl (q := 90) rfl ?_
      refine J_imul dX10_meltBy_90  (q := 91) rfl ?_
      obtain ⟨g13, h⟩ := iteS h
      refine J_iald dX10_meltBy_91 ha1 (ixB_ok g13) (q := 92) rfl ?_
      obtain ⟨g14, h⟩ := iteS h
      refine J_iast dX10_meltBy_92 fr9 (ixB_ok g14) (q := 93) rfl ?_
      refine J_aload_n (z := 3) dX10_meltBy_93 rfl rfl (q := 94) rfl ?_
      refine J_getR dX10_meltBy_94 lRX10_20 ha0 rfl (by decide) er9 (q := 97) rfl (fun _ => ?_)
      refine J_bipush (x := 115) dX10_meltBy_97 (by decide) (q := 99) rfl ?_
      refine J_iload (z := 2) dX10_meltBy_99 rfl (q := 101) rfl ?_
      obtain ⟨g15, h⟩ := iteS h
      refine J_iast dX10_meltBy_101 fr9 (ixB_ok g15) (q := 102) rfl ?_
      refine J_aload_n (z := 3) dX10_meltBy_102 rfl rfl (q := 103) rfl ?_
      refine J_getR dX10_meltBy_103 lRX10_20 ha0 rfl (by decide) er9 (q := 106) rfl (fun _ => ?_)
      refine J_bipush (x := 110) dX10_meltBy_106 (by decide) (q := 108) rfl ?_
      refine J_iload (z := 8) dX10_meltBy_108 rfl (q := 110) rfl ?_
      obtain ⟨g16, h⟩ := iteS h
      refine J_iast dX10_meltBy_110 fr9 (ixB_ok g16) (q := 111) rfl ?_
      refine J_aload_n (z := 3) dX10_meltBy_111 rfl rfl (q := 112) rfl ?_
      refine J_getR dX10_meltBy_112 lRX10_20 ha0 rfl (by decide) er9 (q := 115) rfl (fun _ => ?_)
      refine J_bipush (x := 116) dX10_meltBy_115 (by decide) (q := 117) rfl ?_
      refine J_aload_n (z := 4) dX10_meltBy_117 rfl rfl (q := 118) rfl ?_
      refine J_bipush (x := 109) dX10_meltBy_118 (by decide) (q := 120) rfl ?_
      obtain ⟨g17, h⟩ := iteS h
      refine J_iald dX10_meltBy_120 ha1 (ixB_ok g17) (q := 121) rfl ?_
      obtain ⟨g18, h⟩ := iteS h
      refine J_iast dX10_meltBy_121 fr9 (ixB_ok g18) (q := 122) rfl ?_
      refine J_aload_n (z := 3) dX10_meltBy_122 rfl rfl (q := 123) rfl ?_
      obtain ⟨vk19, sk19, hk19, h⟩ := bnd2S h
      refine J_cVi (as := []) dX10_meltBy_123 mRX10_319 ha0 (tX10_worthNow ha0 hk19) rfl (Nat.le_of_ble_eq_true rfl) (Nat.le_of_ble_eq_true rfl) (Nat.le_of_ble_eq_true rfl) (q := 126) rfl ?_
      intro bk19
      refine J_istore (lv' := [(8, .int vk19), (7, .int (gI σ r5 (Int32.toNatClampNeg ((4 * a2) + 1)))), (6, .int vk3), (0, .ref a0), (1, .ref a1), (2, .int a2), (3, .int a3), (4, .int a4), (5, .int a5)]) dX10_meltBy_126 (by decide) rfl (q := 128) rfl ?_
      refine J_pick [0] rfl ?_
      exact tX10_meltBy_b128  h
  · rw [if_neg c3] at h
    refine J_iconst (x := 0) dX10_meltBy_22 (by decide) (q := 23) rfl ?_
    have h := Option.some.inj h
    subst h
    exact J_ireturn dX10_meltBy_23 rfl rfl rfl

def fX10_lossAt_b58 (a0 : Nat) (a1 : Nat) (a2 : Int32) (a3 : Int32) (a4 : Int32) (a5 : Int32) (a6 : Int32) (σ : Mm) : Option ((Int32 × Int32 × Mm) ⊕ (Int32 × Mm)) :=
  some (Sum.inl (a5, (a6 + 1), σ))
set_option maxRecDepth 20000 in
set_option maxHeartbeats 2000000 in
theorem tX10_lossAt_b58 {X : XS} {n : Nat} {σ : Mm} {F : Nat × Option Value × Mm} {a0 : Nat} {a1 : Nat} {a2 : Int32} {a3 : Int32} {a4 : Int32} {a5 : Int32} {a6 : Int32} (ha0 : RT n a0 110) (ha1 : RT n a1 200) {res : (Int32 × Int32 × Mm) ⊕ (Int32 × Mm)} (h : fX10_lossAt_b58 a0 a1 a2 a3 a4 a5 a6 σ = some res) (hc : ∀ (b5 : Int32) (b6 : Int32) (s : Mm), res = .inl (b5, b6, s) → J X mX10_lossAt 113 0 0 F 15 [(0, .ref a0), (1, .ref a1), (2, .int a2), (3, .int a3), (4, .int a4), (5, .int b5), (6, .int b6)] [] n s) (hr : ∀ (v : Int32) (s : Mm), res = .inr (v, s) → F = (n, some (.int v), s)) : J X mX10_lossAt 113 0 0 F 58 [(0, .ref a0), (1, .ref a1), (2, .int a2), (3, .int a3), (4, .int a4), (5, .int a5), (6, .int a6)] [] n σ := by
  unfold fX10_lossAt_b58 at h
  refine J_iinc (z := 6) (y := (a6 + 1)) (lv' := [(6, .int (a6 + 1)), (0, .ref a0), (1, .ref a1), (2, .int a2), (3, .int a3), (4, .int a4), (5, .int a5)]) dX10_lossAt_58 rfl rfl (by decide) rfl (q := 61) rfl ?_
  refine J_goto (tgt := 15) dX10_lossAt_61 (by decide) ?_
  have h := Option.some.inj h
  refine J_pick [1, 2, 3, 4, 5, 6, 0] rfl ?_
  exact hc _ _ _ h.symm

def fX10_lossAt_l15 (a0 : Nat) (a1 : Nat) (a2 : Int32) (a3 : Int32) (a4 : Int32) (a5 : Int32) (a6 : Int32) (σ : Mm) : Option ((Int32 × Int32 × Mm) ⊕ (Int32 × Mm)) :=
  if (gI σ a0 27) ≤ a6 then some (Sum.inr (a5, σ)) else if ixB (2 * a6) (ln a1) = true then if (gI σ a1 (Int32.toNatClampNeg (2 * a6))) ≤ 0 then fX10_lossAt_b58 a0 a1 a2 a3 a4 a5 a6 σ else if ixB (2 * a6) (ln a1) = true then bnd2 (fX10_meltBy a0 a1 a2 a6 a3 a4 σ) fun vk6 sk6 => fX10_lossAt_b58 a0 a1 a2 a3 a4 (a5 + (minI (gI σ a1 (Int32.toNatClampNeg (2 * a6))) vk6)) a6 sk6 else none else none
set_option maxRecDepth 20000 in
set_option maxHeartbeats 2000000 in
theorem tX10_lossAt_l15 {X : XS} {n : Nat} {σ : Mm} {F : Nat × Option Value × Mm} {a0 : Nat} {a1 : Nat} {a2 : Int32} {a3 : Int32} {a4 : Int32} {a5 : Int32} {a6 : Int32} (ha0 : RT n a0 110) (ha1 : RT n a1 200) {res : (Int32 × Int32 × Mm) ⊕ (Int32 × Mm)} (h : fX10_lossAt_l15 a0 a1 a2 a3 a4 a5 a6 σ = some res) (hc : ∀ (b5 : Int32) (b6 : Int32) (s : Mm), res = .inl (b5, b6, s) → J X mX10_lossAt 113 0 0 F 15 [(0, .ref a0), (1, .ref a1), (2, .int a2), (3, .int a3), (4, .int a4), (5, .int b5), (6, .int b6)] [] n s) (hr : ∀ (v : Int32) (s : Mm), res = .inr (v, s) → F = (n, some (.int v), s)) : J X mX10_lossAt 113 0 0 F 15 [(0, .ref a0), (1, .ref a1), (2, .int a2), (3, .int a3), (4, .int a4), (5, .int a5), (6, .int a6)] [] n σ := by
  unfold fX10_lossAt_l15 at h
  refine J_iload (z := 6) dX10_lossAt_15 rfl (q := 17) rfl ?_
  refine J_aload_n (z := 0) dX10_lossAt_17 rfl rfl (q := 18) rfl ?_
  refine J_getI dX10_lossAt_18 lRX10_291 ha0 rfl (q := 21) rfl ?_
  refine J_icmp_ge (tgt := 64) dX10_lossAt_21 (by decide) (q := 24) rfl (fun c1 => ?_) (fun c1 => ?_)
  · rw [if_pos c1] at h
    refine J_iload (z := 5) dX10_lossAt_64 rfl (q := 66) rfl ?_
    have h := Option.some.inj h
    exact J_ireturn dX10_lossAt_66 rfl rfl (hr _ _ h.symm)
  · rw [if_neg c1] at h
    refine J_aload_n (z := 1) dX10_lossAt_24 rfl rfl (q := 25) rfl ?_
    refine J_iconst (x := 2) dX10_lossAt_25 (by decide) (q := 26) rfl ?_
    refine J_iload (z := 6) dX10_lossAt_26 rfl (q := 28) rfl ?_
    refine J_imul dX10_lossAt_28  (q := 29) rfl ?_
    obtain ⟨g3, h⟩ := iteS h
    refine J_iald dX10_lossAt_29 ha1 (ixB_ok g3) (q := 30) rfl ?_
    refine J_if_le (tgt := 58) dX10_lossAt_30 (by decide) (q := 33) rfl (fun c3 => ?_) (fun c3 => ?_)
    · rw [if_pos c3] at h
      refine J_pick [0, 1, 2, 3, 4, 5, 6] rfl ?_
      exact tX10_lossAt_b58 ha0 ha1 h hc hr
    · rw [if_neg c3] at h
      refine J_iload (z := 5) dX10_lossAt_33 rfl (q := 35) rfl ?_
      refine J_aload_n (z := 1) dX10_lossAt_35 rfl rfl (q := 36) rfl ?_
      refine J_iconst (x := 2) dX10_lossAt_36 (by decide) (q := 37) rfl ?_
      refine J_iload (z := 6) dX10_lossAt_37 rfl (q := 39) rfl ?_
      refine J_imul dX10_lossAt_39  (q := 40) rfl ?_
      obtain ⟨g5, h⟩ := iteS h
      refine J_iald dX10_lossAt_40 ha1 (ixB_ok g5) (q := 41) rfl ?_
      refine J_aload_n (z := 0) dX10_lossAt_41 rfl rfl (q := 42) rfl ?_
      refine J_aload_n (z := 1) dX10_lossAt_42 rfl rfl (q := 43) rfl ?_
      refine J_iload_n (z := 2) dX10_lossAt_43 rfl rfl (q := 44) rfl ?_
      refine J_iload (z := 6) dX10_lossAt_44 rfl (q := 46) rfl ?_
      refine J_iload_n (z := 3) dX10_lossAt_46 rfl rfl (q := 47) rfl ?_
      refine J_iload (z := 4) dX10_lossAt_47 rfl (q := 49) rfl ?_
      obtain ⟨vk6, sk6, hk6, h⟩ := bnd2S h
      refine J_cVi (as := [.ref a1, .int a2, .int a6, .int a3, .int a4]) dX10_lossAt_49 mRX10_340 ha0 (tX10_meltBy ha0 ha1 hk6) rfl (Nat.le_of_ble_eq_true rfl) (Nat.le_of_ble_eq_true rfl) (Nat.le_of_ble_eq_true rfl) (q := 52) rfl ?_
      intro bk6
      refine J_mmin dX10_lossAt_52 pRX10_322 q_static_mmin q_init_math q_code_mmin (Nat.le_of_ble_eq_true rfl) (Nat.le_of_ble_eq_true rfl) (q := 55) rfl ?_
      refine J_iadd dX10_lossAt_55  (q := 56) rfl ?_
      refine J_istore (lv' := [(5, .int (a5 + (minI (gI σ a1 (Int32.toNatClampNeg (2 * a6))) vk6))), (0, .ref a0), (1, .ref a1), (2, .int a2), (3, .int a3), (4, .int a4), (6, .int a6)]) dX10_lossAt_56 (by decide) rfl (q := 58) rfl ?_
      refine J_pick [1, 2, 3, 4, 5, 0, 6] rfl ?_
      exact tX10_lossAt_b58 ha0 ha1 h hc hr

def fX10_lossAt_w15 (a0 : Nat) (a1 : Nat) (a2 : Int32) (a3 : Int32) (a4 : Int32) (a5 : Int32) (a6 : Int32) (σ : Mm) : Option (Int32 × Mm) :=
  wh (fun a : Int32 × Int32 × Mm => fX10_lossAt_l15 a0 a1 a2 a3 a4 a.1 a.2.1 a.2.2) BIG (a5, a6, σ)
set_option maxRecDepth 20000 in
set_option maxHeartbeats 2000000 in
theorem tX10_lossAt_w15 {X : XS} {n : Nat} {σ : Mm} {F : Nat × Option Value × Mm} {a0 : Nat} {a1 : Nat} {a2 : Int32} {a3 : Int32} {a4 : Int32} {a5 : Int32} {a6 : Int32} (ha0 : RT n a0 110) (ha1 : RT n a1 200) {res : Int32 × Mm} (h : fX10_lossAt_w15 a0 a1 a2 a3 a4 a5 a6 σ = some res) (hr : ∀ (v : Int32) (s : Mm), res = (v, s) → F = (n, some (.int v), s)) : J X mX10_lossAt 113 0 0 F 15 [(0, .ref a0), (1, .ref a1), (2, .int a2), (3, .int a3), (4, .int a4), (5, .int a5), (6, .int a6)] [] n σ := by
  unfold fX10_lossAt_w15 at h
  refine wh_rule (P := fun a : Int32 × Int32 × Mm => J X mX10_lossAt 113 0 0 F 15 [(0, .ref a0), (1, .ref a1), (2, .int a2), (3, .int a3), (4, .int a4), (5, .int a.1), (6, .int a.2.1)] [] n a.2.2) (K := fun b => b = res) ?_ _ _ _ h rfl
  intro a
  refine ⟨fun a2 hb hP => ?_, fun b hb hK => ?_⟩
  · exact tX10_lossAt_l15 ha0 ha1 hb (fun _ _ _ e => by cases e; exact hP) (fun _ _ e => by cases e)
  · subst hK
    exact tX10_lossAt_l15 ha0 ha1 hb (fun _ _ _ e => by cases e) (fun v0 v1 e => hr v0 v1 (Sum.inr.inj e))

def fX10_lossAt (a0 : Nat) (a1 : Nat) (a2 : Int32) (a3 : Int32) (σ : Mm) : Option (Int32 × Mm) :=
  (fX10_others a0 a1 a2 a3 σ).bind fun vk1 => (fX10_lossAt_w15 a0 a1 a2 a3 vk1 0 0 σ).bind (fun o7 => some o7)
set_option maxRecDepth 20000 in
set_option maxHeartbeats 2000000 in
theorem tX10_lossAt {X : XS} {n : Nat} {σ : Mm} {a0 : Nat} {a1 : Nat} {a2 : Int32} {a3 : Int32} (ha0 : RT n a0 110) (ha1 : RT n a1 200) {res : Int32 × Mm} (h : fX10_lossAt a0 a1 a2 a3 σ = some res) : MT X yX10_lossAt mX10_lossAt 113 0 0 [.ref a0, .ref a1, .int a2, .int a3] n σ (n, some (.int res.1), res.2) := by
  unfold fX10_lossAt at h
  refine MT_of (by decide +kernel) rfl (fun h => by cases h) (Nat.le_of_ble_eq_true rfl) ?_
  show J X mX10_lossAt 113 0 0 (n, some (.int res.1), res.2) 0 [(0, .ref a0), (1, .ref a1), (2, .int a2), (3, .int a3)] [] n σ
  refine J_aload_n (z := 0) dX10_lossAt_0 rfl rfl (q := 1) rfl ?_
  refine J_aload_n (z := 1) dX10_lossAt_1 rfl rfl (q := 2) rfl ?_
  refine J_iload_n (z := 2) dX10_lossAt_2 rfl rfl (q := 3) rfl ?_
  refine J_iload_n (z := 3) dX10_lossAt_3 rfl rfl (q := 4) rfl ?_
  obtain ⟨vk1, hk1, h⟩ := bindS h
  refine J_cVi (as := [.ref a1, .int a2, .int a3]) dX10_lossAt_4 mRX10_336 ha0 (tX10_others ha0 ha1 hk1) rfl (Nat.le_of_ble_eq_true rfl) (Nat.le_of_ble_eq_true rfl) (Nat.le_of_ble_eq_true rfl) (q := 7) rfl ?_
  intro bk1
  refine J_istore (lv' := [(4, .int vk1), (0, .ref a0), (1, .ref a1), (2, .int a2), (3, .int a3)]) dX10_lossAt_7 (by decide) rfl (q := 9) rfl ?_
  refine J_iconst (x := 0) dX10_lossAt_9 (by decide) (q := 10) rfl ?_
  refine J_istore (lv' := [(5, .int 0), (4, .int vk1), (0, .ref a0), (1, .ref a1), (2, .int a2), (3, .int a3)]) dX10_lossAt_10 (by decide) rfl (q := 12) rfl ?_
  refine J_iconst (x := 0) dX10_lossAt_12 (by decide) (q := 13) rfl ?_
  refine J_istore (lv' := [(6, .int 0), (5, .int 0), (4, .int vk1), (0, .ref a0), (1, .ref a1), (2, .int a2), (3, .int a3)]) dX10_lossAt_13 (by decide) rfl (q := 15) rfl ?_
  obtain ⟨o7, hlo7, h⟩ := bindS h
  refine J_pick [3, 4, 5, 6, 2, 1, 0] rfl ?_
  refine tX10_lossAt_w15 ha0 ha1 hlo7 ?_
  · intro vo7 so7 qo7
    rw [qo7] at h
    try dsimp only [Sum.elim_inl, Sum.elim_inr] at h
    have h := Option.some.inj h
    subst h
    rfl

def fX10_breathes_b69 (a0 : Nat) (a1 : Nat) (a2 : Int32) (a3 : Int32) (a4 : Int32) (a5 : Int32) (a6 : Int32) (z0 : Nat) (z1 : Int32) (z2 : Int32) (σ : Mm) : Option ((Int32 × Mm) ⊕ (Mm)) :=
  if ixB z1 (ln z0) = true then some (Sum.inl ((a6 + 1), (sI σ z0 (Int32.toNatClampNeg z1) z2))) else none
set_option maxRecDepth 20000 in
set_option maxHeartbeats 2000000 in
theorem tX10_breathes_b69 {X : XS} {n : Nat} {σ : Mm} {F : Nat × Option Value × Mm} {a0 : Nat} {a1 : Nat} {a2 : Int32} {a3 : Int32} {a4 : Int32} {a5 : Int32} {a6 : Int32} {z0 : Nat} {z1 : Int32} {z2 : Int32} (ha0 : RT n a0 110) (ha1 : RT n a1 200) (hz0 : RT n z0 200) {res : (Int32 × Mm) ⊕ (Mm)} (h : fX10_breathes_b69 a0 a1 a2 a3 a4 a5 a6 z0 z1 z2 σ = some res) (hc : ∀ (b6 : Int32) (s : Mm), res = .inl (b6, s) → J X mX10_breathes 113 0 0 F 21 [(0, .ref a0), (1, .ref a1), (2, .int a2), (3, .int a3), (4, .int a4), (5, .int a5), (6, .int b6)] [] n s) (he0 : ∀  (s : Mm), res = .inr s → J X mX10_breathes 113 0 0 F 76 [(0, .ref a0), (1, .ref a1), (5, .int a5)] [] n s) : J X mX10_breathes 113 0 0 F 69 [(0, .ref a0), (1, .ref a1), (2, .int a2), (3, .int a3), (4, .int a4), (5, .int a5), (6, .int a6)] [.int z2, .int z1, .ref z0] n σ := by
  unfold fX10_breathes_b69 at h
  obtain ⟨g7, h⟩ := iteS h
  refine J_iast dX10_breathes_69 hz0 (ixB_ok g7) (q := 70) rfl ?_
  refine J_iinc (z := 6) (y := (a6 + 1)) (lv' := [(6, .int (a6 + 1)), (0, .ref a0), (1, .ref a1), (2, .int a2), (3, .int a3), (4, .int a4), (5, .int a5)]) dX10_breathes_70 rfl rfl (by decide) rfl (q := 73) rfl ?_
  refine J_goto (tgt := 21) dX10_breathes_73 (by decide) ?_
  have h := Option.some.inj h
  refine J_pick [1, 2, 3, 4, 5, 6, 0] rfl ?_
  exact hc _ _ h.symm

def fX10_breathes_l21 (a0 : Nat) (a1 : Nat) (a2 : Int32) (a3 : Int32) (a4 : Int32) (a5 : Int32) (a6 : Int32) (σ : Mm) : Option ((Int32 × Mm) ⊕ (Mm)) :=
  if (gI σ a0 27) ≤ a6 then some (Sum.inr σ) else (gR σ a0 40).bind fun r4 => if ixB (2 * a6) (ln a1) = true then if (gI σ a1 (Int32.toNatClampNeg (2 * a6))) ≤ 0 then fX10_breathes_b69 a0 a1 a2 a3 a4 a5 a6 r4 a6 0 σ else if ixB (2 * a6) (ln a1) = true then bnd2 (fX10_meltBy a0 a1 a2 a6 a3 a4 σ) fun vk9 sk9 => fX10_breathes_b69 a0 a1 a2 a3 a4 a5 a6 r4 a6 (minI (gI σ a1 (Int32.toNatClampNeg (2 * a6))) vk9) sk9 else none else none
set_option maxRecDepth 20000 in
set_option maxHeartbeats 2000000 in
theorem tX10_breathes_l21 {X : XS} {n : Nat} {σ : Mm} {F : Nat × Option Value × Mm} {a0 : Nat} {a1 : Nat} {a2 : Int32} {a3 : Int32} {a4 : Int32} {a5 : Int32} {a6 : Int32} (ha0 : RT n a0 110) (ha1 : RT n a1 200) {res : (Int32 × Mm) ⊕ (Mm)} (h : fX10_breathes_l21 a0 a1 a2 a3 a4 a5 a6 σ = some res) (hc : ∀ (b6 : Int32) (s : Mm), res = .inl (b6, s) → J X mX10_breathes 113 0 0 F 21 [(0, .ref a0), (1, .ref a1), (2, .int a2), (3, .int a3), (4, .int a4), (5, .int a5), (6, .int b6)] [] n s) (he0 : ∀  (s : Mm), res = .inr s → J X mX10_breathes 113 0 0 F 76 [(0, .ref a0), (1, .ref a1), (5, .int a5)] [] n s) : J X mX10_breathes 113 0 0 F 21 [(0, .ref a0), (1, .ref a1), (2, .int a2), (3, .int a3), (4, .int a4), (5, .int a5), (6, .int a6)] [] n σ := by
  unfold fX10_breathes_l21 at h
  refine J_iload (z := 6) dX10_breathes_21 rfl (q := 23) rfl ?_
  refine J_aload_n (z := 0) dX10_breathes_23 rfl rfl (q := 24) rfl ?_
  refine J_getI dX10_breathes_24 lRX10_291 ha0 rfl (q := 27) rfl ?_
  refine J_icmp_ge (tgt := 76) dX10_breathes_27 (by decide) (q := 30) rfl (fun c2 => ?_) (fun c2 => ?_)
  · rw [if_pos c2] at h
    have h := Option.some.inj h
    refine J_pick [0, 1, 5] rfl ?_
    exact he0 _ h.symm
  · rw [if_neg c2] at h
    refine J_aload_n (z := 0) dX10_breathes_30 rfl rfl (q := 31) rfl ?_
    obtain ⟨r4, er4, h⟩ := bindS h
    refine J_getR dX10_breathes_31 lRX10_81 ha0 rfl (by decide) er4 (q := 34) rfl (fun fr4 => ?_)
    refine J_iload (z := 6) dX10_breathes_34 rfl (q := 36) rfl ?_
    refine J_aload_n (z := 1) dX10_breathes_36 rfl rfl (q := 37) rfl ?_
    refine J_iconst (x := 2) dX10_breathes_37 (by decide) (q := 38) rfl ?_
    refine J_iload (z := 6) dX10_breathes_38 rfl (q := 40) rfl ?_
    refine J_imul dX10_breathes_40  (q := 41) rfl ?_
    obtain ⟨g5, h⟩ := iteS h
    refine J_iald dX10_breathes_41 ha1 (ixB_ok g5) (q := 42) rfl ?_
    refine J_if_le (tgt := 68) dX10_breathes_42 (by decide) (q := 45) rfl (fun c5 => ?_) (fun c5 => ?_)
    · rw [if_pos c5] at h
      refine J_iconst (x := 0) dX10_breathes_68 (by decide) (q := 69) rfl ?_
      refine J_pick [0, 1, 2, 3, 4, 5, 6] rfl ?_
      exact tX10_breathes_b69 ha0 ha1 fr4 h hc he0
    · rw [if_neg c5] at h
      refine J_aload_n (z := 1) dX10_breathes_45 rfl rfl (q := 46) rfl ?_
      refine J_iconst (x := 2) dX10_breathes_46 (by decide) (q := 47) rfl ?_
      refine J_iload (z := 6) dX10_breathes_47 rfl (q := 49) rfl ?_
      refine J_imul dX10_breathes_49  (q := 50) rfl ?_
      obtain ⟨g8, h⟩ := iteS h
      refine J_iald dX10_breathes_50 ha1 (ixB_ok g8) (q := 51) rfl ?_
      refine J_aload_n (z := 0) dX10_breathes_51 rfl rfl (q := 52) rfl ?_
      refine J_aload_n (z := 1) dX10_breathes_52 rfl rfl (q := 53) rfl ?_
      refine J_iload_n (z := 2) dX10_breathes_53 rfl rfl (q := 54) rfl ?_
      refine J_iload (z := 6) dX10_breathes_54 rfl (q := 56) rfl ?_
      refine J_iload_n (z := 3) dX10_breathes_56 rfl rfl (q := 57) rfl ?_
      refine J_iload (z := 4) dX10_breathes_57 rfl (q := 59) rfl ?_
      obtain ⟨vk9, sk9, hk9, h⟩ := bnd2S h
      refine J_cVi (as := [.ref a1, .int a2, .int a6, .int a3, .int a4]) dX10_breathes_59 mRX10_340 ha0 (tX10_meltBy ha0 ha1 hk9) rfl (Nat.le_of_ble_eq_true rfl) (Nat.le_of_ble_eq_true rfl) (Nat.le_of_ble_eq_true rfl) (q := 62) rfl ?_
      intro bk9
      refine J_mmin dX10_breathes_62 pRX10_322 q_static_mmin q_init_math q_code_mmin (Nat.le_of_ble_eq_true rfl) (Nat.le_of_ble_eq_true rfl) (q := 65) rfl ?_
      refine J_goto (tgt := 69) dX10_breathes_65 (by decide) ?_
      refine J_pick [0, 1, 2, 3, 4, 5, 6] rfl ?_
      exact tX10_breathes_b69 ha0 ha1 fr4 h hc he0

def fX10_breathes_w21 (a0 : Nat) (a1 : Nat) (a2 : Int32) (a3 : Int32) (a4 : Int32) (a5 : Int32) (a6 : Int32) (σ : Mm) : Option (Mm) :=
  wh (fun a : Int32 × Mm => fX10_breathes_l21 a0 a1 a2 a3 a4 a5 a.1 a.2) BIG (a6, σ)
set_option maxRecDepth 20000 in
set_option maxHeartbeats 2000000 in
theorem tX10_breathes_w21 {X : XS} {n : Nat} {σ : Mm} {F : Nat × Option Value × Mm} {a0 : Nat} {a1 : Nat} {a2 : Int32} {a3 : Int32} {a4 : Int32} {a5 : Int32} {a6 : Int32} (ha0 : RT n a0 110) (ha1 : RT n a1 200) {res : Mm} (h : fX10_breathes_w21 a0 a1 a2 a3 a4 a5 a6 σ = some res) (he0 : ∀  (s : Mm), res = s → J X mX10_breathes 113 0 0 F 76 [(0, .ref a0), (1, .ref a1), (5, .int a5)] [] n s) : J X mX10_breathes 113 0 0 F 21 [(0, .ref a0), (1, .ref a1), (2, .int a2), (3, .int a3), (4, .int a4), (5, .int a5), (6, .int a6)] [] n σ := by
  unfold fX10_breathes_w21 at h
  refine wh_rule (P := fun a : Int32 × Mm => J X mX10_breathes 113 0 0 F 21 [(0, .ref a0), (1, .ref a1), (2, .int a2), (3, .int a3), (4, .int a4), (5, .int a5), (6, .int a.1)] [] n a.2) (K := fun b => b = res) ?_ _ _ _ h rfl
  intro a
  refine ⟨fun a2 hb hP => ?_, fun b hb hK => ?_⟩
  · exact tX10_breathes_l21 ha0 ha1 hb (fun _ _ e => by cases e; exact hP) (fun _ e => by cases e)
  · subst hK
    exact tX10_breathes_l21 ha0 ha1 hb (fun _ _ e => by cases e) (fun v0 e => he0 v0 (Sum.inr.inj e))

def fX10_breathes_l79 (a0 : Nat) (a1 : Nat) (a5 : Int32) (a6 : Int32) (σ : Mm) : Option ((Int32 × Int32 × Mm) ⊕ (Int32 × Mm)) :=
  if (gI σ a0 27) ≤ a6 then some (Sum.inr (a5, σ)) else if ixB (2 * a6) (ln a1) = true then (gR σ a0 40).bind fun r13 => if ixB a6 (ln r13) = true then if ixB (2 * a6) (ln a1) = true then if ixB a6 (ln r13) = true then some (Sum.inl ((a5 + (gI (sI σ a1 (Int32.toNatClampNeg (2 * a6)) ((gI σ a1 (Int32.toNatClampNeg (2 * a6))) - (gI σ r13 (Int32.toNatClampNeg a6)))) r13 (Int32.toNatClampNeg a6))), (a6 + 1), (sI σ a1 (Int32.toNatClampNeg (2 * a6)) ((gI σ a1 (Int32.toNatClampNeg (2 * a6))) - (gI σ r13 (Int32.toNatClampNeg a6)))))) else none else none else none else none
set_option maxRecDepth 20000 in
set_option maxHeartbeats 2000000 in
theorem tX10_breathes_l79 {X : XS} {n : Nat} {σ : Mm} {F : Nat × Option Value × Mm} {a0 : Nat} {a1 : Nat} {a5 : Int32} {a6 : Int32} (ha0 : RT n a0 110) (ha1 : RT n a1 200) {res : (Int32 × Int32 × Mm) ⊕ (Int32 × Mm)} (h : fX10_breathes_l79 a0 a1 a5 a6 σ = some res) (hc : ∀ (b5 : Int32) (b6 : Int32) (s : Mm), res = .inl (b5, b6, s) → J X mX10_breathes 113 0 0 F 79 [(0, .ref a0), (1, .ref a1), (5, .int b5), (6, .int b6)] [] n s) (hr : ∀ (v : Int32) (s : Mm), res = .inr (v, s) → F = (n, some (.int v), s)) : J X mX10_breathes 113 0 0 F 79 [(0, .ref a0), (1, .ref a1), (5, .int a5), (6, .int a6)] [] n σ := by
  unfold fX10_breathes_l79 at h
  refine J_iload (z := 3) dX10_breathes_79 rfl (q := 81) rfl ?_
  refine J_aload_n (z := 0) dX10_breathes_81 rfl rfl (q := 82) rfl ?_
  refine J_getI dX10_breathes_82 lRX10_291 ha0 rfl (q := 85) rfl ?_
  refine J_icmp_ge (tgt := 122) dX10_breathes_85 (by decide) (q := 88) rfl (fun c10 => ?_) (fun c10 => ?_)
  · rw [if_pos c10] at h
    refine J_iload (z := 2) dX10_breathes_122 rfl (q := 124) rfl ?_
    have h := Option.some.inj h
    exact J_ireturn dX10_breathes_124 rfl rfl (hr _ _ h.symm)
  · rw [if_neg c10] at h
    refine J_aload_n (z := 1) dX10_breathes_88 rfl rfl (q := 89) rfl ?_
    refine J_iconst (x := 2) dX10_breathes_89 (by decide) (q := 90) rfl ?_
    refine J_iload (z := 3) dX10_breathes_90 rfl (q := 92) rfl ?_
    refine J_imul dX10_breathes_92  (q := 93) rfl ?_
    refine J_dup2 dX10_breathes_93 rfl rfl (q := 94) rfl ?_
    obtain ⟨g12, h⟩ := iteS h
    refine J_iald dX10_breathes_94 ha1 (ixB_ok g12) (q := 95) rfl ?_
    refine J_aload_n (z := 0) dX10_breathes_95 rfl rfl (q := 96) rfl ?_
    obtain ⟨r13, er13, h⟩ := bindS h
    refine J_getR dX10_breathes_96 lRX10_81 ha0 rfl (by decide) er13 (q := 99) rfl (fun fr13 => ?_)
    refine J_iload (z := 3) dX10_breathes_99 rfl (q := 101) rfl ?_
    obtain ⟨g14, h⟩ := iteS h
    refine J_iald dX10_breathes_101 fr13 (ixB_ok g14) (q := 102) rfl ?_
    refine J_isub dX10_breathes_102  (q := 103) rfl ?_
    obtain ⟨g15, h⟩ := iteS h
    refine J_iast dX10_breathes_103 ha1 (ixB_ok g15) (q := 104) rfl ?_
    refine J_iload (z := 2) dX10_breathes_104 rfl (q := 106) rfl ?_
    refine J_aload_n (z := 0) dX10_breathes_106 rfl rfl (q := 107) rfl ?_
    refine J_getR dX10_breathes_107 lRX10_81 ha0 rfl (by decide) er13 (q := 110) rfl (fun _ => ?_)
    refine J_iload (z := 3) dX10_breathes_110 rfl (q := 112) rfl ?_
    obtain ⟨g16, h⟩ := iteS h
    refine J_iald dX10_breathes_112 fr13 (ixB_ok g16) (q := 113) rfl ?_
    refine J_iadd dX10_breathes_113  (q := 114) rfl ?_
    refine J_istore (lv' := [(5, .int (a5 + (gI (sI σ a1 (Int32.toNatClampNeg (2 * a6)) ((gI σ a1 (Int32.toNatClampNeg (2 * a6))) - (gI σ r13 (Int32.toNatClampNeg a6)))) r13 (Int32.toNatClampNeg a6)))), (0, .ref a0), (1, .ref a1), (6, .int a6)]) dX10_breathes_114 (by decide) rfl (q := 116) rfl ?_
    refine J_iinc (z := 3) (y := (a6 + 1)) (lv' := [(6, .int (a6 + 1)), (5, .int (a5 + (gI (sI σ a1 (Int32.toNatClampNeg (2 * a6)) ((gI σ a1 (Int32.toNatClampNeg (2 * a6))) - (gI σ r13 (Int32.toNatClampNeg a6)))) r13 (Int32.toNatClampNeg a6)))), (0, .ref a0), (1, .ref a1)]) dX10_breathes_116 rfl rfl (by decide) rfl (q := 119) rfl ?_
    refine J_goto (tgt := 79) dX10_breathes_119 (by decide) ?_
    have h := Option.some.inj h
    refine J_pick [2, 3, 1, 0] rfl ?_
    exact hc _ _ _ h.symm

def fX10_breathes_w79 (a0 : Nat) (a1 : Nat) (a5 : Int32) (a6 : Int32) (σ : Mm) : Option (Int32 × Mm) :=
  wh (fun a : Int32 × Int32 × Mm => fX10_breathes_l79 a0 a1 a.1 a.2.1 a.2.2) BIG (a5, a6, σ)
set_option maxRecDepth 20000 in
set_option maxHeartbeats 2000000 in
theorem tX10_breathes_w79 {X : XS} {n : Nat} {σ : Mm} {F : Nat × Option Value × Mm} {a0 : Nat} {a1 : Nat} {a5 : Int32} {a6 : Int32} (ha0 : RT n a0 110) (ha1 : RT n a1 200) {res : Int32 × Mm} (h : fX10_breathes_w79 a0 a1 a5 a6 σ = some res) (hr : ∀ (v : Int32) (s : Mm), res = (v, s) → F = (n, some (.int v), s)) : J X mX10_breathes 113 0 0 F 79 [(0, .ref a0), (1, .ref a1), (5, .int a5), (6, .int a6)] [] n σ := by
  unfold fX10_breathes_w79 at h
  refine wh_rule (P := fun a : Int32 × Int32 × Mm => J X mX10_breathes 113 0 0 F 79 [(0, .ref a0), (1, .ref a1), (5, .int a.1), (6, .int a.2.1)] [] n a.2.2) (K := fun b => b = res) ?_ _ _ _ h rfl
  intro a
  refine ⟨fun a2 hb hP => ?_, fun b hb hK => ?_⟩
  · exact tX10_breathes_l79 ha0 ha1 hb (fun _ _ _ e => by cases e; exact hP) (fun _ _ e => by cases e)
  · subst hK
    exact tX10_breathes_l79 ha0 ha1 hb (fun _ _ _ e => by cases e) (fun v0 v1 e => hr v0 v1 (Sum.inr.inj e))

def fX10_breathes (a0 : Nat) (a1 : Nat) (a2 : Int32) (σ : Mm) : Option (Int32 × Mm) :=
  (fX10_cellOf a1 a2 σ).bind fun vk1 => (fX10_others a0 a1 a2 vk1 σ).bind fun vk2 => (fX10_breathes_w21 a0 a1 a2 vk1 vk2 0 0 σ).bind (fun o10 => (fun so10 => (fX10_breathes_w79 a0 a1 0 0 so10).bind (fun o17 => some o17)) o10)
set_option maxRecDepth 20000 in
set_option maxHeartbeats 2000000 in
theorem tX10_breathes {X : XS} {n : Nat} {σ : Mm} {a0 : Nat} {a1 : Nat} {a2 : Int32} (ha0 : RT n a0 110) (ha1 : RT n a1 200) {res : Int32 × Mm} (h : fX10_breathes a0 a1 a2 σ = some res) : MT X yX10_breathes mX10_breathes 113 0 0 [.ref a0, .ref a1, .int a2] n σ (n, some (.int res.1), res.2) := by
  unfold fX10_breathes at h
  refine MT_of (by decide +kernel) rfl (fun h => by cases h) (Nat.le_of_ble_eq_true rfl) ?_
  show J X mX10_breathes 113 0 0 (n, some (.int res.1), res.2) 0 [(0, .ref a0), (1, .ref a1), (2, .int a2)] [] n σ
  refine J_aload_n (z := 1) dX10_breathes_0 rfl rfl (q := 1) rfl ?_
  refine J_iload_n (z := 2) dX10_breathes_1 rfl rfl (q := 2) rfl ?_
  obtain ⟨vk1, hk1, h⟩ := bindS h
  refine J_cSi (as := [.ref a1, .int a2]) dX10_breathes_2 mRX10_312 (tX10_cellOf ha1 hk1) rfl (Nat.le_of_ble_eq_true rfl) (Nat.le_of_ble_eq_true rfl) (Nat.le_of_ble_eq_true rfl) (q := 5) rfl ?_
  intro bk1
  refine J_istore_n (lv' := [(3, .int vk1), (0, .ref a0), (1, .ref a1), (2, .int a2)]) dX10_breathes_5 rfl (by decide) rfl (q := 6) rfl ?_
  refine J_aload_n (z := 1) dX10_breathes_6 rfl rfl (q := 7) rfl ?_
  refine J_aload_n (z := 2) dX10_breathes_7 rfl rfl (q := 8) rfl ?_
  refine J_iload_n (z := 3) dX10_breathes_8 rfl rfl (q := 9) rfl ?_
  refine J_iload_n (z := 0) dX10_breathes_9 rfl rfl (q := 10) rfl ?_
  obtain ⟨vk2, hk2, h⟩ := bindS h
  refine J_cVi (as := [.ref a1, .int a2, .int vk1]) dX10_breathes_10 mRX10_336 ha0 (tX10_others ha0 ha1 hk2) rfl (Nat.le_of_ble_eq_true rfl) (Nat.le_of_ble_eq_true rfl) (Nat.le_of_ble_eq_true rfl) (q := 13) rfl ?_
  intro bk2
  refine J_istore (lv' := [(4, .int vk2), (3, .int vk1), (0, .ref a0), (1, .ref a1), (2, .int a2)]) dX10_breathes_13 (by decide) rfl (q := 15) rfl ?_
  refine J_iconst (x := 0) dX10_breathes_15 (by decide) (q := 16) rfl ?_
  refine J_istore (lv' := [(5, .int 0), (4, .int vk2), (3, .int vk1), (0, .ref a0), (1, .ref a1), (2, .int a2)]) dX10_breathes_16 (by decide) rfl (q := 18) rfl ?_
  refine J_iconst (x := 0) dX10_breathes_18 (by decide) (q := 19) rfl ?_
  refine J_istore (lv' := [(6, .int 0), (5, .int 0), (4, .int vk2), (3, .int vk1), (0, .ref a0), (1, .ref a1), (2, .int a2)]) dX10_breathes_19 (by decide) rfl (q := 21) rfl ?_
  obtain ⟨o10, hlo10, h⟩ := bindS h
  refine J_pick [4, 5, 6, 3, 2, 1, 0] rfl ?_
  refine tX10_breathes_w21 ha0 ha1 hlo10 ?_
  · intro so10 qo10
    rw [qo10] at h
    try dsimp only [Sum.elim_inl, Sum.elim_inr] at h
    refine J_iconst (x := 0) dX10_breathes_76 (by decide) (q := 77) rfl ?_
    refine J_istore (lv' := [(6, .int 0), (0, .ref a0), (1, .ref a1), (5, .int 0)]) dX10_breathes_77 (by decide) rfl (q := 79) rfl ?_
    obtain ⟨o17, hlo17, h⟩ := bindS h
    refine J_pick [1, 2, 3, 0] rfl ?_
    refine tX10_breathes_w79 ha0 ha1 hlo17 ?_
    · intro vo17 so17 qo17
      rw [qo17] at h
      try dsimp only [Sum.elim_inl, Sum.elim_inr] at h
      have h := Option.some.inj h
      subst h
      rfl

def fX10_hall (a0 : Nat) (a1 : Int32) (σ : Mm) : Option (Int32 × Mm) :=
  if (gI (sI σ a0 0 0) a0 27) ≤ 0 then some ((-1), (sI σ a0 0 0)) else (fX10_isIn (Int32.toInt64 a1) 0 4 (sI σ a0 0 0)).bind fun vk2 => if vk2 = 0 then some ((-1), (sI σ a0 0 0)) else if a1 = 2 then (gR σ a0 33).bind fun r7 => if ixB 108 (ln r7) = true then some ((gI (sI σ a0 0 0) r7 (Int32.toNatClampNeg 108)), (sI σ a0 0 0)) else none else (gR σ a0 18).bind fun r5 => if ixB a1 (ln r5) = true then some ((gI (sI σ a0 0 0) r5 (Int32.toNatClampNeg a1)), (sI σ a0 0 0)) else none
set_option maxRecDepth 20000 in
set_option maxHeartbeats 2000000 in
theorem tX10_hall {X : XS} {n : Nat} {σ : Mm} {a0 : Nat} {a1 : Int32} (ha0 : RT n a0 110) {res : Int32 × Mm} (h : fX10_hall a0 a1 σ = some res) : MT X yX10_hall mX10_hall 2 0 0 [.ref a0, .int a1] n σ (n, some (.int res.1), res.2) := by
  unfold fX10_hall at h
  refine MT_of (by decide +kernel) rfl (fun h => by cases h) (Nat.le_of_ble_eq_true rfl) ?_
  show J X mX10_hall 2 0 0 (n, some (.int res.1), res.2) 0 [(0, .ref a0), (1, .int a1)] [] n σ
  refine J_aload_n (z := 0) dX10_hall_0 rfl rfl (q := 1) rfl ?_
  refine J_iconst (x := 0) dX10_hall_1 (by decide) (q := 2) rfl ?_
  refine J_putI dX10_hall_2 lRX10_96 (fun h => by cases h) ha0 rfl (q := 5) rfl ?_
  refine J_aload_n (z := 0) dX10_hall_5 rfl rfl (q := 6) rfl ?_
  refine J_getI dX10_hall_6 lRX10_291 ha0 rfl (q := 9) rfl ?_
  refine J_if_le (tgt := 48) dX10_hall_9 (by decide) (q := 12) rfl (fun c0 => ?_) (fun c0 => ?_)
  · rw [if_pos c0] at h
    refine J_iconst (x := (-1)) dX10_hall_48 (by decide) (q := 49) rfl ?_
    have h := Option.some.inj h
    subst h
    exact J_ireturn dX10_hall_49 rfl rfl rfl
  · rw [if_neg c0] at h
    refine J_iload_n (z := 1) dX10_hall_12 rfl rfl (q := 13) rfl ?_
    refine J_i2l dX10_hall_13  (q := 14) rfl ?_
    refine J_lconst (x := 0) dX10_hall_14 (by decide) (q := 15) rfl ?_
    refine J_ldc2 (x := 4) dX10_hall_15 kRX10_344 (q := 18) rfl ?_
    obtain ⟨vk2, hk2, h⟩ := bindS h
    refine J_cSi (as := [.long (Int32.toInt64 a1), .long 0, .long 4]) dX10_hall_18 mRX10_217 (tX10_isIn  hk2) rfl (Nat.le_of_ble_eq_true rfl) (Nat.le_of_ble_eq_true rfl) (Nat.le_of_ble_eq_true rfl) (q := 21) rfl ?_
    intro bk2
    refine J_if_eq (tgt := 48) dX10_hall_21 (by decide) (q := 24) rfl (fun c2 => ?_) (fun c2 => ?_)
    · rw [if_pos c2] at h
      refine J_iconst (x := (-1)) dX10_hall_48 (by decide) (q := 49) rfl ?_
      have h := Option.some.inj h
      subst h
      exact J_ireturn dX10_hall_49 rfl rfl rfl
    · rw [if_neg c2] at h
      refine J_iload_n (z := 1) dX10_hall_24 rfl rfl (q := 25) rfl ?_
      refine J_iconst (x := 2) dX10_hall_25 (by decide) (q := 26) rfl ?_
      refine J_icmp_ne (tgt := 39) dX10_hall_26 (by decide) (q := 29) rfl (fun c3 => ?_) (fun c3 => ?_)
      · rw [if_neg c3] at h
        refine J_aload_n (z := 0) dX10_hall_39 rfl rfl (q := 40) rfl ?_
        obtain ⟨r5, er5, h⟩ := bindS h
        refine J_getR dX10_hall_40 lRX10_37 ha0 rfl (by decide) er5 (q := 43) rfl (fun fr5 => ?_)
        refine J_iload_n (z := 1) dX10_hall_43 rfl rfl (q := 44) rfl ?_
        obtain ⟨g6, h⟩ := iteS h
        refine J_iald dX10_hall_44 fr5 (ixB_ok g6) (q := 45) rfl ?_
        refine J_goto (tgt := 49) dX10_hall_45 (by decide) ?_
        have h := Option.some.inj h
        subst h
        exact J_ireturn dX10_hall_49 rfl rfl rfl
      · rw [if_pos c3] at h
        refine J_aload_n (z := 0) dX10_hall_29 rfl rfl (q := 30) rfl ?_
        obtain ⟨r7, er7, h⟩ := bindS h
        refine J_getR dX10_hall_30 lRX10_61 ha0 rfl (by decide) er7 (q := 33) rfl (fun fr7 => ?_)
        refine J_bipush (x := 108) dX10_hall_33 (by decide) (q := 35) rfl ?_
        obtain ⟨g8, h⟩ := iteS h
        refine J_iald dX10_hall_35 fr7 (ixB_ok g8) (q := 36) rfl ?_
        refine J_goto (tgt := 49) dX10_hall_36 (by decide) ?_
        have h := Option.some.inj h
        subst h
        exact J_ireturn dX10_hall_49 rfl rfl rfl

def fX10_page (a0 : Nat) (a1 : Int32) (a2 : Int32) (σ : Mm) : Option (Int32 × Mm) :=
  (fX10_isPage a0 a1 (sI σ a0 0 0)).bind fun vk1 => if vk1 = 0 then some ((-1), (sI σ a0 0 0)) else (fX10_isIn (Int32.toInt64 a2) 0 3 (sI σ a0 0 0)).bind fun vk3 => if vk3 = 0 then some ((-1), (sI σ a0 0 0)) else if a2 = 1 then (gR σ a0 33).bind fun r11 => if ixB (2 * a1) (ln r11) = true then some ((gI (sI σ a0 0 0) r11 (Int32.toNatClampNeg (2 * a1))), (sI σ a0 0 0)) else none else if a2 = 3 then (gR σ a0 33).bind fun r9 => if ixB ((2 * a1) + 1) (ln r9) = true then some ((gI (sI σ a0 0 0) r9 (Int32.toNatClampNeg ((2 * a1) + 1))), (sI σ a0 0 0)) else none else (gR σ a0 20).bind fun r7 => if ixB ((4 * a1) + a2) (ln r7) = true then some ((gI (sI σ a0 0 0) r7 (Int32.toNatClampNeg ((4 * a1) + a2))), (sI σ a0 0 0)) else none
set_option maxRecDepth 20000 in
set_option maxHeartbeats 2000000 in
theorem tX10_page {X : XS} {n : Nat} {σ : Mm} {a0 : Nat} {a1 : Int32} {a2 : Int32} (ha0 : RT n a0 110) {res : Int32 × Mm} (h : fX10_page a0 a1 a2 σ = some res) : MT X yX10_page mX10_page 2 0 0 [.ref a0, .int a1, .int a2] n σ (n, some (.int res.1), res.2) := by
  unfold fX10_page at h
  refine MT_of (by decide +kernel) rfl (fun h => by cases h) (Nat.le_of_ble_eq_true rfl) ?_
  show J X mX10_page 2 0 0 (n, some (.int res.1), res.2) 0 [(0, .ref a0), (1, .int a1), (2, .int a2)] [] n σ
  refine J_aload_n (z := 0) dX10_page_0 rfl rfl (q := 1) rfl ?_
  refine J_iconst (x := 0) dX10_page_1 (by decide) (q := 2) rfl ?_
  refine J_putI dX10_page_2 lRX10_96 (fun h => by cases h) ha0 rfl (q := 5) rfl ?_
  refine J_aload_n (z := 0) dX10_page_5 rfl rfl (q := 6) rfl ?_
  refine J_iload_n (z := 1) dX10_page_6 rfl rfl (q := 7) rfl ?_
  obtain ⟨vk1, hk1, h⟩ := bindS h
  refine J_cVi (as := [.int a1]) dX10_page_7 mRX10_346 ha0 (tX10_isPage ha0 hk1) rfl (Nat.le_of_ble_eq_true rfl) (Nat.le_of_ble_eq_true rfl) (Nat.le_of_ble_eq_true rfl) (q := 10) rfl ?_
  intro bk1
  refine J_if_eq (tgt := 25) dX10_page_10 (by decide) (q := 13) rfl (fun c1 => ?_) (fun c1 => ?_)
  · rw [if_pos c1] at h
    refine J_iconst (x := (-1)) dX10_page_25 (by decide) (q := 26) rfl ?_
    have h := Option.some.inj h
    subst h
    exact J_ireturn dX10_page_26 rfl rfl rfl
  · rw [if_neg c1] at h
    refine J_iload_n (z := 2) dX10_page_13 rfl rfl (q := 14) rfl ?_
    refine J_i2l dX10_page_14  (q := 15) rfl ?_
    refine J_lconst (x := 0) dX10_page_15 (by decide) (q := 16) rfl ?_
    refine J_ldc2 (x := 3) dX10_page_16 kRX10_349 (q := 19) rfl ?_
    obtain ⟨vk3, hk3, h⟩ := bindS h
    refine J_cSi (as := [.long (Int32.toInt64 a2), .long 0, .long 3]) dX10_page_19 mRX10_217 (tX10_isIn  hk3) rfl (Nat.le_of_ble_eq_true rfl) (Nat.le_of_ble_eq_true rfl) (Nat.le_of_ble_eq_true rfl) (q := 22) rfl ?_
    intro bk3
    refine J_if_ne (tgt := 27) dX10_page_22 (by decide) (q := 25) rfl (fun c3 => ?_) (fun c3 => ?_)
    · rw [if_neg c3] at h
      refine J_iload_n (z := 2) dX10_page_27 rfl rfl (q := 28) rfl ?_
      refine J_iconst (x := 1) dX10_page_28 (by decide) (q := 29) rfl ?_
      refine J_icmp_ne (tgt := 43) dX10_page_29 (by decide) (q := 32) rfl (fun c4 => ?_) (fun c4 => ?_)
      · rw [if_neg c4] at h
        refine J_iload_n (z := 2) dX10_page_43 rfl rfl (q := 44) rfl ?_
        refine J_iconst (x := 3) dX10_page_44 (by decide) (q := 45) rfl ?_
        refine J_icmp_ne (tgt := 61) dX10_page_45 (by decide) (q := 48) rfl (fun c5 => ?_) (fun c5 => ?_)
        · rw [if_neg c5] at h
          refine J_aload_n (z := 0) dX10_page_61 rfl rfl (q := 62) rfl ?_
          obtain ⟨r7, er7, h⟩ := bindS h
          refine J_getR dX10_page_62 lRX10_43 ha0 rfl (by decide) er7 (q := 65) rfl (fun fr7 => ?_)
          refine J_iconst (x := 4) dX10_page_65 (by decide) (q := 66) rfl ?_
          refine J_iload_n (z := 1) dX10_page_66 rfl rfl (q := 67) rfl ?_
          refine J_imul dX10_page_67  (q := 68) rfl ?_
          refine J_iload_n (z := 2) dX10_page_68 rfl rfl (q := 69) rfl ?_
          refine J_iadd dX10_page_69  (q := 70) rfl ?_
          obtain ⟨g8, h⟩ := iteS h
          refine J_iald dX10_page_70 fr7 (ixB_ok g8) (q := 71) rfl ?_
          have h := Option.some.inj h
          subst h
          exact J_ireturn dX10_page_71 rfl rfl rfl
        · rw [if_pos c5] at h
          refine J_aload_n (z := 0) dX10_page_48 rfl rfl (q := 49) rfl ?_
          obtain ⟨r9, er9, h⟩ := bindS h
          refine J_getR dX10_page_49 lRX10_61 ha0 rfl (by decide) er9 (q := 52) rfl (fun fr9 => ?_)
          refine J_iconst (x := 2) dX10_page_52 (by decide) (q := 53) rfl ?_
          refine J_iload_n (z := 1) dX10_page_53 rfl rfl (q := 54) rfl ?_
          refine J_imul dX10_page_54  (q := 55) rfl ?_
          refine J_iconst (x := 1) dX10_page_55 (by decide) (q := 56) rfl ?_
          refine J_iadd dX10_page_56  (q := 57) rfl ?_
          obtain ⟨g10, h⟩ := iteS h
          refine J_iald dX10_page_57 fr9 (ixB_ok g10) (q := 58) rfl ?_
          refine J_goto (tgt := 71) dX10_page_58 (by decide) ?_
          have h := Option.some.inj h
          subst h
          exact J_ireturn dX10_page_71 rfl rfl rfl
      · rw [if_pos c4] at h
        refine J_aload_n (z := 0) dX10_page_32 rfl rfl (q := 33) rfl ?_
        obtain ⟨r11, er11, h⟩ := bindS h
        refine J_getR dX10_page_33 lRX10_61 ha0 rfl (by decide) er11 (q := 36) rfl (fun fr11 => ?_)
        refine J_iconst (x := 2) dX10_page_36 (by decide) (q := 37) rfl ?_
        refine J_iload_n (z := 1) dX10_page_37 rfl rfl (q := 38) rfl ?_
        refine J_imul dX10_page_38  (q := 39) rfl ?_
        obtain ⟨g12, h⟩ := iteS h
        refine J_iald dX10_page_39 fr11 (ixB_ok g12) (q := 40) rfl ?_
        refine J_goto (tgt := 71) dX10_page_40 (by decide) ?_
        have h := Option.some.inj h
        subst h
        exact J_ireturn dX10_page_71 rfl rfl rfl
    · rw [if_pos c3] at h
      refine J_iconst (x := (-1)) dX10_page_25 (by decide) (q := 26) rfl ?_
      have h := Option.some.inj h
      subst h
      exact J_ireturn dX10_page_26 rfl rfl rfl

def fX10_knownBits_b27 (a0 : Nat) (a1 : Int32) (a3 : Int32) (z0 : Int32) (z1 : Int32) (σ : Mm) : Option ((Int32 × Int32) ⊕ (Int32)) :=
  some (Sum.inl ((z0 ||| z1), (a3 + 1)))
set_option maxRecDepth 20000 in
set_option maxHeartbeats 2000000 in
theorem tX10_knownBits_b27 {X : XS} {n : Nat} {σ : Mm} {F : Nat × Option Value × Mm} {a0 : Nat} {a1 : Int32} {a3 : Int32} {z0 : Int32} {z1 : Int32} (ha0 : RT n a0 200) {res : (Int32 × Int32) ⊕ (Int32)} (h : fX10_knownBits_b27 a0 a1 a3 z0 z1 σ = some res) (hc : ∀ (b2 : Int32) (b3 : Int32), res = .inl (b2, b3) → J X mX10_knownBits 2 0 0 F 4 [(0, .ref a0), (1, .int a1), (2, .int b2), (3, .int b3)] [] n σ) (hr : ∀ (v : Int32), res = .inr v → F = (n, some (.int v), σ)) : J X mX10_knownBits 2 0 0 F 27 [(0, .ref a0), (1, .int a1), (3, .int a3)] [.int z1, .int z0] n σ := by
  unfold fX10_knownBits_b27 at h
  refine J_ior dX10_knownBits_27  (q := 28) rfl ?_
  refine J_istore_n (lv' := [(2, .int (z0 ||| z1)), (0, .ref a0), (1, .int a1), (3, .int a3)]) dX10_knownBits_28 rfl (by decide) rfl (q := 29) rfl ?_
  refine J_iinc (z := 3) (y := (a3 + 1)) (lv' := [(3, .int (a3 + 1)), (2, .int (z0 ||| z1)), (0, .ref a0), (1, .int a1)]) dX10_knownBits_29 rfl rfl (by decide) rfl (q := 32) rfl ?_
  refine J_goto (tgt := 4) dX10_knownBits_32 (by decide) ?_
  have h := Option.some.inj h
  refine J_pick [2, 3, 1, 0] rfl ?_
  exact hc _ _ h.symm

def fX10_knownBits_l4 (a0 : Nat) (a1 : Int32) (a2 : Int32) (a3 : Int32) (σ : Mm) : Option ((Int32 × Int32) ⊕ (Int32)) :=
  if 12 ≤ a3 then some (Sum.inr a2) else (fX10_knows a0 a1 a3 σ).bind fun vk2 => if vk2 = 0 then fX10_knownBits_b27 a0 a1 a3 a2 0 σ else fX10_knownBits_b27 a0 a1 a3 a2 (shlI 1 a3) σ
set_option maxRecDepth 20000 in
set_option maxHeartbeats 2000000 in
theorem tX10_knownBits_l4 {X : XS} {n : Nat} {σ : Mm} {F : Nat × Option Value × Mm} {a0 : Nat} {a1 : Int32} {a2 : Int32} {a3 : Int32} (ha0 : RT n a0 200) {res : (Int32 × Int32) ⊕ (Int32)} (h : fX10_knownBits_l4 a0 a1 a2 a3 σ = some res) (hc : ∀ (b2 : Int32) (b3 : Int32), res = .inl (b2, b3) → J X mX10_knownBits 2 0 0 F 4 [(0, .ref a0), (1, .int a1), (2, .int b2), (3, .int b3)] [] n σ) (hr : ∀ (v : Int32), res = .inr v → F = (n, some (.int v), σ)) : J X mX10_knownBits 2 0 0 F 4 [(0, .ref a0), (1, .int a1), (2, .int a2), (3, .int a3)] [] n σ := by
  unfold fX10_knownBits_l4 at h
  refine J_iload_n (z := 3) dX10_knownBits_4 rfl rfl (q := 5) rfl ?_
  refine J_bipush (x := 12) dX10_knownBits_5 (by decide) (q := 7) rfl ?_
  refine J_icmp_ge (tgt := 35) dX10_knownBits_7 (by decide) (q := 10) rfl (fun c0 => ?_) (fun c0 => ?_)
  · rw [if_pos c0] at h
    refine J_iload_n (z := 2) dX10_knownBits_35 rfl rfl (q := 36) rfl ?_
    have h := Option.some.inj h
    exact J_ireturn dX10_knownBits_36 rfl rfl (hr _ h.symm)
  · rw [if_neg c0] at h
    refine J_iload_n (z := 2) dX10_knownBits_10 rfl rfl (q := 11) rfl ?_
    refine J_aload_n (z := 0) dX10_knownBits_11 rfl rfl (q := 12) rfl ?_
    refine J_iload_n (z := 1) dX10_knownBits_12 rfl rfl (q := 13) rfl ?_
    refine J_iload_n (z := 3) dX10_knownBits_13 rfl rfl (q := 14) rfl ?_
    obtain ⟨vk2, hk2, h⟩ := bindS h
    refine J_cSi (as := [.ref a0, .int a1, .int a3]) dX10_knownBits_14 mRX10_351 (tX10_knows ha0 hk2) rfl (Nat.le_of_ble_eq_true rfl) (Nat.le_of_ble_eq_true rfl) (Nat.le_of_ble_eq_true rfl) (q := 17) rfl ?_
    intro bk2
    refine J_if_eq (tgt := 26) dX10_knownBits_17 (by decide) (q := 20) rfl (fun c2 => ?_) (fun c2 => ?_)
    · rw [if_pos c2] at h
      refine J_iconst (x := 0) dX10_knownBits_26 (by decide) (q := 27) rfl ?_
      refine J_pick [0, 1, 3] rfl ?_
      exact tX10_knownBits_b27 ha0 h hc hr
    · rw [if_neg c2] at h
      refine J_iconst (x := 1) dX10_knownBits_20 (by decide) (q := 21) rfl ?_
      refine J_iload_n (z := 3) dX10_knownBits_21 rfl rfl (q := 22) rfl ?_
      refine J_ishl dX10_knownBits_22  (q := 23) rfl ?_
      refine J_goto (tgt := 27) dX10_knownBits_23 (by decide) ?_
      refine J_pick [0, 1, 3] rfl ?_
      exact tX10_knownBits_b27 ha0 h hc hr

def fX10_knownBits_w4 (a0 : Nat) (a1 : Int32) (a2 : Int32) (a3 : Int32) (σ : Mm) : Option (Int32) :=
  wh (fun a : Int32 × Int32 => fX10_knownBits_l4 a0 a1 a.1 a.2 σ) BIG (a2, a3)
set_option maxRecDepth 20000 in
set_option maxHeartbeats 2000000 in
theorem tX10_knownBits_w4 {X : XS} {n : Nat} {σ : Mm} {F : Nat × Option Value × Mm} {a0 : Nat} {a1 : Int32} {a2 : Int32} {a3 : Int32} (ha0 : RT n a0 200) {res : Int32} (h : fX10_knownBits_w4 a0 a1 a2 a3 σ = some res) (hr : ∀ (v : Int32), res = v → F = (n, some (.int v), σ)) : J X mX10_knownBits 2 0 0 F 4 [(0, .ref a0), (1, .int a1), (2, .int a2), (3, .int a3)] [] n σ := by
  unfold fX10_knownBits_w4 at h
  refine wh_rule (P := fun a : Int32 × Int32 => J X mX10_knownBits 2 0 0 F 4 [(0, .ref a0), (1, .int a1), (2, .int a.1), (3, .int a.2)] [] n σ) (K := fun b => b = res) ?_ _ _ _ h rfl
  intro a
  refine ⟨fun a2 hb hP => ?_, fun b hb hK => ?_⟩
  · exact tX10_knownBits_l4 ha0 hb (fun _ _ e => by cases e; exact hP) (fun _ e => by cases e)
  · subst hK
    exact tX10_knownBits_l4 ha0 hb (fun _ _ e => by cases e) (fun v0 e => hr v0 (Sum.inr.inj e))

def fX10_knownBits (a0 : Nat) (a1 : Int32) (σ : Mm) : Option (Int32) :=
  (fX10_knownBits_w4 a0 a1 0 0 σ).bind (fun o4 => some o4)
set_option maxRecDepth 20000 in
set_option maxHeartbeats 2000000 in
theorem tX10_knownBits {X : XS} {n : Nat} {σ : Mm} {a0 : Nat} {a1 : Int32} (ha0 : RT n a0 200) {res : Int32} (h : fX10_knownBits a0 a1 σ = some res) : MT X yX10_knownBits mX10_knownBits 2 0 0 [.ref a0, .int a1] n σ (n, some (.int res), σ) := by
  unfold fX10_knownBits at h
  refine MT_of (by decide +kernel) rfl (fun h => by cases h) (Nat.le_of_ble_eq_true rfl) ?_
  show J X mX10_knownBits 2 0 0 (n, some (.int res), σ) 0 [(0, .ref a0), (1, .int a1)] [] n σ
  refine J_iconst (x := 0) dX10_knownBits_0 (by decide) (q := 1) rfl ?_
  refine J_istore_n (lv' := [(2, .int 0), (0, .ref a0), (1, .int a1)]) dX10_knownBits_1 rfl (by decide) rfl (q := 2) rfl ?_
  refine J_iconst (x := 0) dX10_knownBits_2 (by decide) (q := 3) rfl ?_
  refine J_istore_n (lv' := [(3, .int 0), (2, .int 0), (0, .ref a0), (1, .int a1)]) dX10_knownBits_3 rfl (by decide) rfl (q := 4) rfl ?_
  obtain ⟨o4, hlo4, h⟩ := bindS h
  refine J_pick [2, 3, 1, 0] rfl ?_
  refine tX10_knownBits_w4 ha0 hlo4 ?_
  · intro vo4 qo4
    rw [qo4] at h
    try dsimp only [Sum.elim_inl, Sum.elim_inr] at h
    have h := Option.some.inj h
    subst h
    rfl

def fX10_reader_b26 (a0 : Nat) (a1 : Int32) (a2 : Int32) (z0 : Nat) (z1 : Int32) (σ : Mm) : Option (Int32 × Mm) :=
  if (gI (sI σ z0 0 z1) a0 0) ≤ 0 then if a2 = 0 then (gR σ a0 33).bind fun r13 => (fX10_cellOf r13 a1 (sI σ z0 0 z1)).bind fun vk14 => some (vk14, (sI σ z0 0 z1)) else if a2 = 4 then (gR σ a0 33).bind fun r11 => if ixB ((24 + (14 * a1)) + 1) (ln r11) = true then some ((gI (sI σ z0 0 z1) r11 (Int32.toNatClampNeg ((24 + (14 * a1)) + 1))), (sI σ z0 0 z1)) else none else if a2 = 5 then (gR σ a0 33).bind fun r9 => (fX10_knownBits r9 a1 (sI σ z0 0 z1)).bind fun vk10 => some (vk10, (sI σ z0 0 z1)) else (gR σ a0 22).bind fun r7 => if ixB ((4 * a1) + a2) (ln r7) = true then some ((gI (sI σ z0 0 z1) r7 (Int32.toNatClampNeg ((4 * a1) + a2))), (sI σ z0 0 z1)) else none else some (0, (sI σ z0 0 z1))
set_option maxRecDepth 20000 in
set_option maxHeartbeats 2000000 in
theorem tX10_reader_b26 {X : XS} {n : Nat} {σ : Mm} {a0 : Nat} {a1 : Int32} {a2 : Int32} {z0 : Nat} {z1 : Int32} (ha0 : RT n a0 110) (hz0 : RT n z0 110) {res : Int32 × Mm} (h : fX10_reader_b26 a0 a1 a2 z0 z1 σ = some res) : J X mX10_reader 3 0 0 (n, some (.int res.1), res.2) 26 [(0, .ref a0), (1, .int a1), (2, .int a2)] [.int z1, .ref z0] n σ := by
  unfold fX10_reader_b26 at h
  refine J_putI dX10_reader_26 lRX10_96 (fun h => by cases h) hz0 rfl (q := 29) rfl ?_
  refine J_aload_n (z := 0) dX10_reader_29 rfl rfl (q := 30) rfl ?_
  refine J_getI dX10_reader_30 lRX10_96 ha0 rfl (q := 33) rfl ?_
  refine J_if_le (tgt := 38) dX10_reader_33 (by decide) (q := 36) rfl (fun c2 => ?_) (fun c2 => ?_)
  · rw [if_pos c2] at h
    refine J_iload_n (z := 2) dX10_reader_38 rfl rfl (q := 39) rfl ?_
    refine J_if_ne (tgt := 51) dX10_reader_39 (by decide) (q := 42) rfl (fun c3 => ?_) (fun c3 => ?_)
    · rw [if_neg c3] at h
      refine J_iload_n (z := 2) dX10_reader_51 rfl rfl (q := 52) rfl ?_
      refine J_iconst (x := 4) dX10_reader_52 (by decide) (q := 53) rfl ?_
      refine J_icmp_ne (tgt := 73) dX10_reader_53 (by decide) (q := 56) rfl (fun c4 => ?_) (fun c4 => ?_)
      · rw [if_neg c4] at h
        refine J_iload_n (z := 2) dX10_reader_73 rfl rfl (q := 74) rfl ?_
        refine J_iconst (x := 5) dX10_reader_74 (by decide) (q := 75) rfl ?_
        refine J_icmp_ne (tgt := 89) dX10_reader_75 (by decide) (q := 78) rfl (fun c5 => ?_) (fun c5 => ?_)
        · rw [if_neg c5] at h
          refine J_aload_n (z := 0) dX10_reader_89 rfl rfl (q := 90) rfl ?_
          obtain ⟨r7, er7, h⟩ := bindS h
          refine J_getR dX10_reader_90 lRX10_49 ha0 rfl (by decide) er7 (q := 93) rfl (fun fr7 => ?_)
          refine J_iconst (x := 4) dX10_reader_93 (by decide) (q := 94) rfl ?_
          refine J_iload_n (z := 1) dX10_reader_94 rfl rfl (q := 95) rfl ?_
          refine J_imul dX10_reader_95  (q := 96) rfl ?_
          refine J_iload_n (z := 2) dX10_reader_96 rfl rfl (q := 97) rfl ?_
          refine J_iadd dX10_reader_97  (q := 98) rfl ?_
          obtain ⟨g8, h⟩ := iteS h
          refine J_iald dX10_reader_98 fr7 (ixB_ok g8) (q := 99) rfl ?_
          have h := Option.some.inj h
          subst h
          exact J_ireturn dX10_reader_99 rfl rfl rfl
        · rw [if_pos c5] at h
          refine J_aload_n (z := 0) dX10_reader_78 rfl rfl (q := 79) rfl ?_
          obtain ⟨r9, er9, h⟩ := bindS h
          refine J_getR dX10_reader_79 lRX10_61 ha0 rfl (by decide) er9 (q := 82) rfl (fun fr9 => ?_)
          refine J_iload_n (z := 1) dX10_reader_82 rfl rfl (q := 83) rfl ?_
          obtain ⟨vk10, hk10, h⟩ := bindS h
          refine J_cSi (as := [.ref r9, .int a1]) dX10_reader_83 mRX10_355 (tX10_knownBits fr9 hk10) rfl (Nat.le_of_ble_eq_true rfl) (Nat.le_of_ble_eq_true rfl) (Nat.le_of_ble_eq_true rfl) (q := 86) rfl ?_
          intro bk10
          refine J_goto (tgt := 99) dX10_reader_86 (by decide) ?_
          have h := Option.some.inj h
          subst h
          exact J_ireturn dX10_reader_99 rfl rfl rfl
      · rw [if_pos c4] at h
        refine J_aload_n (z := 0) dX10_reader_56 rfl rfl (q := 57) rfl ?_
        obtain ⟨r11, er11, h⟩ := bindS h
        refine J_getR dX10_reader_57 lRX10_61 ha0 rfl (by decide) er11 (q := 60) rfl (fun fr11 => ?_)
        refine J_bipush (x := 24) dX10_reader_60 (by decide) (q := 62) rfl ?_
        refine J_bipush (x := 14) dX10_reader_62 (by decide) (q := 64) rfl ?_
        refine J_iload_n (z := 1) dX10_reader_64 rfl rfl (q := 65) rfl ?_
        refine J_imul dX10_reader_65  (q := 66) rfl ?_
        refine J_iadd dX10_reader_66  (q := 67) rfl ?_
        refine J_iconst (x := 1) dX10_reader_67 (by decide) (q := 68) rfl ?_
        refine J_iadd dX10_reader_68  (q := 69) rfl ?_
        obtain ⟨g12, h⟩ := iteS h
        refine J_iald dX10_reader_69 fr11 (ixB_ok g12) (q := 70) rfl ?_
        refine J_goto (tgt := 99) dX10_reader_70 (by decide) ?_
        have h := Option.some.inj h
        subst h
        exact J_ireturn dX10_reader_99 rfl rfl rfl
    · rw [if_pos c3] at h
      refine J_aload_n (z := 0) dX10_reader_42 rfl rfl (q := 43) rfl ?_
      obtain ⟨r13, er13, h⟩ := bindS h
      refine J_getR dX10_reader_43 lRX10_61 ha0 rfl (by decide) er13 (q := 46) rfl (fun fr13 => ?_)
      refine J_iload_n (z := 1) dX10_reader_46 rfl rfl (q := 47) rfl ?_
      obtain ⟨vk14, hk14, h⟩ := bindS h
      refine J_cSi (as := [.ref r13, .int a1]) dX10_reader_47 mRX10_312 (tX10_cellOf fr13 hk14) rfl (Nat.le_of_ble_eq_true rfl) (Nat.le_of_ble_eq_true rfl) (Nat.le_of_ble_eq_true rfl) (q := 50) rfl ?_
      intro bk14
      have h := Option.some.inj h
      subst h
      exact J_ireturn dX10_reader_50 rfl rfl rfl
  · rw [if_neg c2] at h
    refine J_iconst (x := 0) dX10_reader_36 (by decide) (q := 37) rfl ?_
    have h := Option.some.inj h
    subst h
    exact J_ireturn dX10_reader_37 rfl rfl rfl

def fX10_reader_b25 (a0 : Nat) (a1 : Int32) (a2 : Int32) (z0 : Nat) (σ : Mm) : Option (Int32 × Mm) :=
  fX10_reader_b26 a0 a1 a2 z0 1 σ
set_option maxRecDepth 20000 in
set_option maxHeartbeats 2000000 in
theorem tX10_reader_b25 {X : XS} {n : Nat} {σ : Mm} {a0 : Nat} {a1 : Int32} {a2 : Int32} {z0 : Nat} (ha0 : RT n a0 110) (hz0 : RT n z0 110) {res : Int32 × Mm} (h : fX10_reader_b25 a0 a1 a2 z0 σ = some res) : J X mX10_reader 3 0 0 (n, some (.int res.1), res.2) 25 [(0, .ref a0), (1, .int a1), (2, .int a2)] [.ref z0] n σ := by
  unfold fX10_reader_b25 at h
  refine J_iconst (x := 1) dX10_reader_25 (by decide) (q := 26) rfl ?_
  refine J_pick [0, 1, 2] rfl ?_
  exact tX10_reader_b26 ha0 hz0 h

def fX10_reader (a0 : Nat) (a1 : Int32) (a2 : Int32) (σ : Mm) : Option (Int32 × Mm) :=
  (fX10_isReader a0 a1 σ).bind fun vk1 => if vk1 = 0 then fX10_reader_b25 a0 a1 a2 a0 σ else (fX10_isIn (Int32.toInt64 a2) 0 5 σ).bind fun vk15 => if vk15 = 0 then fX10_reader_b25 a0 a1 a2 a0 σ else fX10_reader_b26 a0 a1 a2 a0 0 σ
set_option maxRecDepth 20000 in
set_option maxHeartbeats 2000000 in
theorem tX10_reader {X : XS} {n : Nat} {σ : Mm} {a0 : Nat} {a1 : Int32} {a2 : Int32} (ha0 : RT n a0 110) {res : Int32 × Mm} (h : fX10_reader a0 a1 a2 σ = some res) : MT X yX10_reader mX10_reader 3 0 0 [.ref a0, .int a1, .int a2] n σ (n, some (.int res.1), res.2) := by
  unfold fX10_reader at h
  refine MT_of (by decide +kernel) rfl (fun h => by cases h) (Nat.le_of_ble_eq_true rfl) ?_
  show J X mX10_reader 3 0 0 (n, some (.int res.1), res.2) 0 [(0, .ref a0), (1, .int a1), (2, .int a2)] [] n σ
  refine J_aload_n (z := 0) dX10_reader_0 rfl rfl (q := 1) rfl ?_
  refine J_aload_n (z := 0) dX10_reader_1 rfl rfl (q := 2) rfl ?_
  refine J_iload_n (z := 1) dX10_reader_2 rfl rfl (q := 3) rfl ?_
  obtain ⟨vk1, hk1, h⟩ := bindS h
  refine J_cVi (as := [.int a1]) dX10_reader_3 mRX10_309 ha0 (tX10_isReader ha0 hk1) rfl (Nat.le_of_ble_eq_true rfl) (Nat.le_of_ble_eq_true rfl) (Nat.le_of_ble_eq_true rfl) (q := 6) rfl ?_
  intro bk1
  refine J_if_eq (tgt := 25) dX10_reader_6 (by decide) (q := 9) rfl (fun c1 => ?_) (fun c1 => ?_)
  · rw [if_pos c1] at h
    refine J_pick [0, 1, 2] rfl ?_
    exact tX10_reader_b25 ha0 ha0 h
  · rw [if_neg c1] at h
    refine J_iload_n (z := 2) dX10_reader_9 rfl rfl (q := 10) rfl ?_
    refine J_i2l dX10_reader_10  (q := 11) rfl ?_
    refine J_lconst (x := 0) dX10_reader_11 (by decide) (q := 12) rfl ?_
    refine J_ldc2 (x := 5) dX10_reader_12 kRX10_332 (q := 15) rfl ?_
    obtain ⟨vk15, hk15, h⟩ := bindS h
    refine J_cSi (as := [.long (Int32.toInt64 a2), .long 0, .long 5]) dX10_reader_15 mRX10_217 (tX10_isIn  hk15) rfl (Nat.le_of_ble_eq_true rfl) (Nat.le_of_ble_eq_true rfl) (Nat.le_of_ble_eq_true rfl) (q := 18) rfl ?_
    intro bk15
    refine J_if_eq (tgt := 25) dX10_reader_18 (by decide) (q := 21) rfl (fun c15 => ?_) (fun c15 => ?_)
    · rw [if_pos c15] at h
      refine J_pick [0, 1, 2] rfl ?_
      exact tX10_reader_b25 ha0 ha0 h
    · rw [if_neg c15] at h
      refine J_iconst (x := 0) dX10_reader_21 (by decide) (q := 22) rfl ?_
      refine J_goto (tgt := 26) dX10_reader_22 (by decide) ?_
      refine J_pick [0, 1, 2] rfl ?_
      exact tX10_reader_b26 ha0 ha0 h

def fX10_memory (a0 : Nat) (a1 : Int32) (a2 : Int32) (σ : Mm) : Option (Int32 × Mm) :=
  (fX10_isReader a0 a1 (sI σ a0 0 0)).bind fun vk1 => if vk1 = 0 then some ((-1), (sI σ a0 0 0)) else (fX10_isPage a0 a2 (sI σ a0 0 0)).bind fun vk3 => if vk3 = 0 then some ((-1), (sI σ a0 0 0)) else (gR σ a0 33).bind fun r5 => (fX10_recalls r5 a1 a2 (sI σ a0 0 0)).bind fun vk6 => some (vk6, (sI σ a0 0 0))
set_option maxRecDepth 20000 in
set_option maxHeartbeats 2000000 in
theorem tX10_memory {X : XS} {n : Nat} {σ : Mm} {a0 : Nat} {a1 : Int32} {a2 : Int32} (ha0 : RT n a0 110) {res : Int32 × Mm} (h : fX10_memory a0 a1 a2 σ = some res) : MT X yX10_memory mX10_memory 2 0 0 [.ref a0, .int a1, .int a2] n σ (n, some (.int res.1), res.2) := by
  unfold fX10_memory at h
  refine MT_of (by decide +kernel) rfl (fun h => by cases h) (Nat.le_of_ble_eq_true rfl) ?_
  show J X mX10_memory 2 0 0 (n, some (.int res.1), res.2) 0 [(0, .ref a0), (1, .int a1), (2, .int a2)] [] n σ
  refine J_aload_n (z := 0) dX10_memory_0 rfl rfl (q := 1) rfl ?_
  refine J_iconst (x := 0) dX10_memory_1 (by decide) (q := 2) rfl ?_
  refine J_putI dX10_memory_2 lRX10_96 (fun h => by cases h) ha0 rfl (q := 5) rfl ?_
  refine J_aload_n (z := 0) dX10_memory_5 rfl rfl (q := 6) rfl ?_
  refine J_iload_n (z := 1) dX10_memory_6 rfl rfl (q := 7) rfl ?_
  obtain ⟨vk1, hk1, h⟩ := bindS h
  refine J_cVi (as := [.int a1]) dX10_memory_7 mRX10_309 ha0 (tX10_isReader ha0 hk1) rfl (Nat.le_of_ble_eq_true rfl) (Nat.le_of_ble_eq_true rfl) (Nat.le_of_ble_eq_true rfl) (q := 10) rfl ?_
  intro bk1
  refine J_if_eq (tgt := 33) dX10_memory_10 (by decide) (q := 13) rfl (fun c1 => ?_) (fun c1 => ?_)
  · rw [if_pos c1] at h
    refine J_iconst (x := (-1)) dX10_memory_33 (by decide) (q := 34) rfl ?_
    have h := Option.some.inj h
    subst h
    exact J_ireturn dX10_memory_34 rfl rfl rfl
  · rw [if_neg c1] at h
    refine J_aload_n (z := 0) dX10_memory_13 rfl rfl (q := 14) rfl ?_
    refine J_iload_n (z := 2) dX10_memory_14 rfl rfl (q := 15) rfl ?_
    obtain ⟨vk3, hk3, h⟩ := bindS h
    refine J_cVi (as := [.int a2]) dX10_memory_15 mRX10_346 ha0 (tX10_isPage ha0 hk3) rfl (Nat.le_of_ble_eq_true rfl) (Nat.le_of_ble_eq_true rfl) (Nat.le_of_ble_eq_true rfl) (q := 18) rfl ?_
    intro bk3
    refine J_if_eq (tgt := 33) dX10_memory_18 (by decide) (q := 21) rfl (fun c3 => ?_) (fun c3 => ?_)
    · rw [if_pos c3] at h
      refine J_iconst (x := (-1)) dX10_memory_33 (by decide) (q := 34) rfl ?_
      have h := Option.some.inj h
      subst h
      exact J_ireturn dX10_memory_34 rfl rfl rfl
    · rw [if_neg c3] at h
      refine J_aload_n (z := 0) dX10_memory_21 rfl rfl (q := 22) rfl ?_
      obtain ⟨r5, er5, h⟩ := bindS h
      refine J_getR dX10_memory_22 lRX10_61 ha0 rfl (by decide) er5 (q := 25) rfl (fun fr5 => ?_)
      refine J_iload_n (z := 1) dX10_memory_25 rfl rfl (q := 26) rfl ?_
      refine J_iload_n (z := 2) dX10_memory_26 rfl rfl (q := 27) rfl ?_
      obtain ⟨vk6, hk6, h⟩ := bindS h
      refine J_cSi (as := [.ref r5, .int a1, .int a2]) dX10_memory_27 mRX10_358 (tX10_recalls fr5 hk6) rfl (Nat.le_of_ble_eq_true rfl) (Nat.le_of_ble_eq_true rfl) (Nat.le_of_ble_eq_true rfl) (q := 30) rfl ?_
      intro bk6
      refine J_goto (tgt := 34) dX10_memory_30 (by decide) ?_
      have h := Option.some.inj h
      subst h
      exact J_ireturn dX10_memory_34 rfl rfl rfl

def fX10_law_b28 (a0 : Nat) (a1 : Int32) (σ : Mm) : Option (Int32 × Mm) :=
  some (1, (sI σ a0 36 a1))
set_option maxRecDepth 20000 in
set_option maxHeartbeats 2000000 in
theorem tX10_law_b28 {X : XS} {n : Nat} {σ : Mm} {a0 : Nat} {a1 : Int32} (ha0 : RT n a0 110) {res : Int32 × Mm} (h : fX10_law_b28 a0 a1 σ = some res) : J X mX10_law 2 0 0 (n, some (.int res.1), res.2) 28 [(0, .ref a0), (1, .int a1)] [] n σ := by
  unfold fX10_law_b28 at h
  refine J_aload_n (z := 0) dX10_law_28 rfl rfl (q := 29) rfl ?_
  refine J_iload_n (z := 1) dX10_law_29 rfl rfl (q := 30) rfl ?_
  refine J_putI dX10_law_30 lRX10_70 (fun h => by cases h) ha0 rfl (q := 33) rfl ?_
  refine J_iconst (x := 1) dX10_law_33 (by decide) (q := 34) rfl ?_
  have h := Option.some.inj h
  subst h
  exact J_ireturn dX10_law_34 rfl rfl rfl

def fX10_law (a0 : Nat) (a1 : Int32) (σ : Mm) : Option (Int32 × Mm) :=
  if a1 = (-1) then fX10_law_b28 a0 a1 (sI σ a0 0 0) else (fX10_isIn (Int32.toInt64 a1) 0 (Int32.toInt64 ((gI (sI σ a0 0 0) a0 7) - 1)) (sI σ a0 0 0)).bind fun vk2 => if vk2 = 0 then some (0, (sI σ a0 0 0)) else fX10_law_b28 a0 a1 (sI σ a0 0 0)
set_option maxRecDepth 20000 in
set_option maxHeartbeats 2000000 in
theorem tX10_law {X : XS} {n : Nat} {σ : Mm} {a0 : Nat} {a1 : Int32} (ha0 : RT n a0 110) {res : Int32 × Mm} (h : fX10_law a0 a1 σ = some res) : MT X yX10_law mX10_law 2 0 0 [.ref a0, .int a1] n σ (n, some (.int res.1), res.2) := by
  unfold fX10_law at h
  refine MT_of (by decide +kernel) rfl (fun h => by cases h) (Nat.le_of_ble_eq_true rfl) ?_
  show J X mX10_law 2 0 0 (n, some (.int res.1), res.2) 0 [(0, .ref a0), (1, .int a1)] [] n σ
  refine J_aload_n (z := 0) dX10_law_0 rfl rfl (q := 1) rfl ?_
  refine J_iconst (x := 0) dX10_law_1 (by decide) (q := 2) rfl ?_
  refine J_putI dX10_law_2 lRX10_96 (fun h => by cases h) ha0 rfl (q := 5) rfl ?_
  refine J_iload_n (z := 1) dX10_law_5 rfl rfl (q := 6) rfl ?_
  refine J_iconst (x := (-1)) dX10_law_6 (by decide) (q := 7) rfl ?_
  refine J_icmp_eq (tgt := 28) dX10_law_7 (by decide) (q := 10) rfl (fun c0 => ?_) (fun c0 => ?_)
  · rw [if_pos c0] at h
    refine J_pick [0, 1] rfl ?_
    exact tX10_law_b28 ha0 h
  · rw [if_neg c0] at h
    refine J_iload_n (z := 1) dX10_law_10 rfl rfl (q := 11) rfl ?_
    refine J_i2l dX10_law_11  (q := 12) rfl ?_
    refine J_lconst (x := 0) dX10_law_12 (by decide) (q := 13) rfl ?_
    refine J_aload_n (z := 0) dX10_law_13 rfl rfl (q := 14) rfl ?_
    refine J_getI dX10_law_14 lRX10_283 ha0 rfl (q := 17) rfl ?_
    refine J_iconst (x := 1) dX10_law_17 (by decide) (q := 18) rfl ?_
    refine J_isub dX10_law_18  (q := 19) rfl ?_
    refine J_i2l dX10_law_19  (q := 20) rfl ?_
    obtain ⟨vk2, hk2, h⟩ := bindS h
    refine J_cSi (as := [.long (Int32.toInt64 a1), .long 0, .long (Int32.toInt64 ((gI (sI σ a0 0 0) a0 7) - 1))]) dX10_law_20 mRX10_217 (tX10_isIn  hk2) rfl (Nat.le_of_ble_eq_true rfl) (Nat.le_of_ble_eq_true rfl) (Nat.le_of_ble_eq_true rfl) (q := 23) rfl ?_
    intro bk2
    refine J_if_ne (tgt := 28) dX10_law_23 (by decide) (q := 26) rfl (fun c2 => ?_) (fun c2 => ?_)
    · rw [if_neg c2] at h
      refine J_pick [0, 1] rfl ?_
      exact tX10_law_b28 ha0 h
    · rw [if_pos c2] at h
      refine J_iconst (x := 0) dX10_law_26 (by decide) (q := 27) rfl ?_
      have h := Option.some.inj h
      subst h
      exact J_ireturn dX10_law_27 rfl rfl rfl

def fX10_slips (a0 : Nat) (a1 : Int32) (σ : Mm) : Option (Int32 × Mm) :=
  (fX10_isIn (Int32.toInt64 a1) 0 99 (sI σ a0 0 0)).bind fun vk1 => if vk1 = 0 then some (0, (sI σ a0 0 0)) else if a1 = (gI (sI σ a0 0 0) a0 37) then some (0, (sI σ a0 0 0)) else some (1, (sI (sI σ a0 0 0) a0 37 a1))
set_option maxRecDepth 20000 in
set_option maxHeartbeats 2000000 in
theorem tX10_slips {X : XS} {n : Nat} {σ : Mm} {a0 : Nat} {a1 : Int32} (ha0 : RT n a0 110) {res : Int32 × Mm} (h : fX10_slips a0 a1 σ = some res) : MT X yX10_slips mX10_slips 2 0 0 [.ref a0, .int a1] n σ (n, some (.int res.1), res.2) := by
  unfold fX10_slips at h
  refine MT_of (by decide +kernel) rfl (fun h => by cases h) (Nat.le_of_ble_eq_true rfl) ?_
  show J X mX10_slips 2 0 0 (n, some (.int res.1), res.2) 0 [(0, .ref a0), (1, .int a1)] [] n σ
  refine J_aload_n (z := 0) dX10_slips_0 rfl rfl (q := 1) rfl ?_
  refine J_iconst (x := 0) dX10_slips_1 (by decide) (q := 2) rfl ?_
  refine J_putI dX10_slips_2 lRX10_96 (fun h => by cases h) ha0 rfl (q := 5) rfl ?_
  refine J_iload_n (z := 1) dX10_slips_5 rfl rfl (q := 6) rfl ?_
  refine J_i2l dX10_slips_6  (q := 7) rfl ?_
  refine J_lconst (x := 0) dX10_slips_7 (by decide) (q := 8) rfl ?_
  refine J_ldc2 (x := 99) dX10_slips_8 kRX10_361 (q := 11) rfl ?_
  obtain ⟨vk1, hk1, h⟩ := bindS h
  refine J_cSi (as := [.long (Int32.toInt64 a1), .long 0, .long 99]) dX10_slips_11 mRX10_217 (tX10_isIn  hk1) rfl (Nat.le_of_ble_eq_true rfl) (Nat.le_of_ble_eq_true rfl) (Nat.le_of_ble_eq_true rfl) (q := 14) rfl ?_
  intro bk1
  refine J_if_eq (tgt := 25) dX10_slips_14 (by decide) (q := 17) rfl (fun c1 => ?_) (fun c1 => ?_)
  · rw [if_pos c1] at h
    refine J_iconst (x := 0) dX10_slips_25 (by decide) (q := 26) rfl ?_
    have h := Option.some.inj h
    subst h
    exact J_ireturn dX10_slips_26 rfl rfl rfl
  · rw [if_neg c1] at h
    refine J_iload_n (z := 1) dX10_slips_17 rfl rfl (q := 18) rfl ?_
    refine J_aload_n (z := 0) dX10_slips_18 rfl rfl (q := 19) rfl ?_
    refine J_getI dX10_slips_19 lRX10_363 ha0 rfl (q := 22) rfl ?_
    refine J_icmp_ne (tgt := 27) dX10_slips_22 (by decide) (q := 25) rfl (fun c2 => ?_) (fun c2 => ?_)
    · rw [if_neg c2] at h
      refine J_aload_n (z := 0) dX10_slips_27 rfl rfl (q := 28) rfl ?_
      refine J_iload_n (z := 1) dX10_slips_28 rfl rfl (q := 29) rfl ?_
      refine J_putI dX10_slips_29 lRX10_363 (fun h => by cases h) ha0 rfl (q := 32) rfl ?_
      refine J_iconst (x := 1) dX10_slips_32 (by decide) (q := 33) rfl ?_
      have h := Option.some.inj h
      subst h
      exact J_ireturn dX10_slips_33 rfl rfl rfl
    · rw [if_pos c2] at h
      refine J_iconst (x := 0) dX10_slips_25 (by decide) (q := 26) rfl ?_
      have h := Option.some.inj h
      subst h
      exact J_ireturn dX10_slips_26 rfl rfl rfl

def fX10_melt (a0 : Nat) (a1 : Int32) (a2 : Int32) (a3 : Int32) (σ : Mm) : Option (Int32 × Mm) :=
  (fX10_isReader a0 a1 (sI σ a0 0 0)).bind fun vk1 => if vk1 = 0 then some ((-1), (sI σ a0 0 0)) else (fX10_isPage a0 a2 (sI σ a0 0 0)).bind fun vk3 => if vk3 = 0 then some ((-1), (sI σ a0 0 0)) else (fX10_isCell a0 a3 (sI σ a0 0 0)).bind fun vk5 => if vk5 = 0 then some ((-1), (sI σ a0 0 0)) else (gR σ a0 33).bind fun r7 => if ixB (2 * a2) (ln r7) = true then if (gI (sI σ a0 0 0) r7 (Int32.toNatClampNeg (2 * a2))) ≤ 0 then some ((-1), (sI σ a0 0 0)) else (fX10_others a0 r7 a1 a3 (sI σ a0 0 0)).bind fun vk10 => bnd2 (fX10_meltBy a0 r7 a1 a2 a3 vk10 (sI σ a0 0 0)) fun vk11 sk11 => some (vk11, sk11) else none
set_option maxRecDepth 20000 in
set_option maxHeartbeats 2000000 in
theorem tX10_melt {X : XS} {n : Nat} {σ : Mm} {a0 : Nat} {a1 : Int32} {a2 : Int32} {a3 : Int32} (ha0 : RT n a0 110) {res : Int32 × Mm} (h : fX10_melt a0 a1 a2 a3 σ = some res) : MT X yX10_melt mX10_melt 113 0 0 [.ref a0, .int a1, .int a2, .int a3] n σ (n, some (.int res.1), res.2) := by
  unfold fX10_melt at h
  refine MT_of (by decide +kernel) rfl (fun h => by cases h) (Nat.le_of_ble_eq_true rfl) ?_
  show J X mX10_melt 113 0 0 (n, some (.int res.1), res.2) 0 [(0, .ref a0), (1, .int a1), (2, .int a2), (3, .int a3)] [] n σ
  refine J_aload_n (z := 0) dX10_melt_0 rfl rfl (q := 1) rfl ?_
  refine J_iconst (x := 0) dX10_melt_1 (by decide) (q := 2) rfl ?_
  refine J_putI dX10_melt_2 lRX10_96 (fun h => by cases h) ha0 rfl (q := 5) rfl ?_
  refine J_aload_n (z := 0) dX10_melt_5 rfl rfl (q := 6) rfl ?_
  refine J_iload_n (z := 1) dX10_melt_6 rfl rfl (q := 7) rfl ?_
  obtain ⟨vk1, hk1, h⟩ := bindS h
  refine J_cVi (as := [.int a1]) dX10_melt_7 mRX10_309 ha0 (tX10_isReader ha0 hk1) rfl (Nat.le_of_ble_eq_true rfl) (Nat.le_of_ble_eq_true rfl) (Nat.le_of_ble_eq_true rfl) (q := 10) rfl ?_
  intro bk1
  refine J_if_eq (tgt := 64) dX10_melt_10 (by decide) (q := 13) rfl (fun c1 => ?_) (fun c1 => ?_)
  · rw [if_pos c1] at h
    refine J_iconst (x := (-1)) dX10_melt_64 (by decide) (q := 65) rfl ?_
    have h := Option.some.inj h
    subst h
    exact J_ireturn dX10_melt_65 rfl rfl rfl
  · rw [if_neg c1] at h
    refine J_aload_n (z := 0) dX10_melt_13 rfl rfl (q := 14) rfl ?_
    refine J_iload_n (z := 2) dX10_melt_14 rfl rfl (q := 15) rfl ?_
    obtain ⟨vk3, hk3, h⟩ := bindS h
    refine J_cVi (as := [.int a2]) dX10_melt_15 mRX10_346 ha0 (tX10_isPage ha0 hk3) rfl (Nat.le_of_ble_eq_true rfl) (Nat.le_of_ble_eq_true rfl) (Nat.le_of_ble_eq_true rfl) (q := 18) rfl ?_
    intro bk3
    refine J_if_eq (tgt := 64) dX10_melt_18 (by decide) (q := 21) rfl (fun c3 => ?_) (fun c3 => ?_)
    · rw [if_pos c3] at h
      refine J_iconst (x := (-1)) dX10_melt_64 (by decide) (q := 65) rfl ?_
      have h := Option.some.inj h
      subst h
      exact J_ireturn dX10_melt_65 rfl rfl rfl
    · rw [if_neg c3] at h
      refine J_aload_n (z := 0) dX10_melt_21 rfl rfl (q := 22) rfl ?_
      refine J_iload_n (z := 3) dX10_melt_22 rfl rfl (q := 23) rfl ?_
      obtain ⟨vk5, hk5, h⟩ := bindS h
      refine J_cVi (as := [.int a3]) dX10_melt_23 mRX10_366 ha0 (tX10_isCell ha0 hk5) rfl (Nat.le_of_ble_eq_true rfl) (Nat.le_of_ble_eq_true rfl) (Nat.le_of_ble_eq_true rfl) (q := 26) rfl ?_
      intro bk5
      refine J_if_eq (tgt := 64) dX10_melt_26 (by decide) (q := 29) rfl (fun c5 => ?_) (fun c5 => ?_)
      · rw [if_pos c5] at h
        refine J_iconst (x := (-1)) dX10_melt_64 (by decide) (q := 65) rfl ?_
        have h := Option.some.inj h
        subst h
        exact J_ireturn dX10_melt_65 rfl rfl rfl
      · rw [if_neg c5] at h
        refine J_aload_n (z := 0) dX10_melt_29 rfl rfl (q := 30) rfl ?_
        obtain ⟨r7, er7, h⟩ := bindS h
        refine J_getR dX10_melt_30 lRX10_61 ha0 rfl (by decide) er7 (q := 33) rfl (fun fr7 => ?_)
        refine J_iconst (x := 2) dX10_melt_33 (by decide) (q := 34) rfl ?_
        refine J_iload_n (z := 2) dX10_melt_34 rfl rfl (q := 35) rfl ?_
        refine J_imul dX10_melt_35  (q := 36) rfl ?_
        obtain ⟨g8, h⟩ := iteS h
        refine J_iald dX10_melt_36 fr7 (ixB_ok g8) (q := 37) rfl ?_
        refine J_if_le (tgt := 64) dX10_melt_37 (by decide) (q := 40) rfl (fun c8 => ?_) (fun c8 => ?_)
        · rw [if_pos c8] at h
          refine J_iconst (x := (-1)) dX10_melt_64 (by decide) (q := 65) rfl ?_
          have h := Option.some.inj h
          subst h
          exact J_ireturn dX10_melt_65 rfl rfl rfl
        · rw [if_neg c8] at h
          refine J_aload_n (z := 0) dX10_melt_40 rfl rfl (q := 41) rfl ?_
          refine J_aload_n (z := 0) dX10_melt_41 rfl rfl (q := 42) rfl ?_
          refine J_getR dX10_melt_42 lRX10_61 ha0 rfl (by decide) er7 (q := 45) rfl (fun _ => ?_)
          refine J_iload_n (z := 1) dX10_melt_45 rfl rfl (q := 46) rfl ?_
          refine J_iload_n (z := 2) dX10_melt_46 rfl rfl (q := 47) rfl ?_
          refine J_iload_n (z := 3) dX10_melt_47 rfl rfl (q := 48) rfl ?_
          refine J_aload_n (z := 0) dX10_melt_48 rfl rfl (q := 49) rfl ?_
          refine J_aload_n (z := 0) dX10_melt_49 rfl rfl (q := 50) rfl ?_
          refine J_getR dX10_melt_50 lRX10_61 ha0 rfl (by decide) er7 (q := 53) rfl (fun _ => ?_)
          refine J_iload_n (z := 1) dX10_melt_53 rfl rfl (q := 54) rfl ?_
          refine J_iload_n (z := 3) dX10_melt_54 rfl rfl (q := 55) rfl ?_
          obtain ⟨vk10, hk10, h⟩ := bindS h
          refine J_cVi (as := [.ref r7, .int a1, .int a3]) dX10_melt_55 mRX10_336 ha0 (tX10_others ha0 fr7 hk10) rfl (Nat.le_of_ble_eq_true rfl) (Nat.le_of_ble_eq_true rfl) (Nat.le_of_ble_eq_true rfl) (q := 58) rfl ?_
          intro bk10
          obtain ⟨vk11, sk11, hk11, h⟩ := bnd2S h
          refine J_cVi (as := [.ref r7, .int a1, .int a2, .int a3, .int vk10]) dX10_melt_58 mRX10_340 ha0 (tX10_meltBy ha0 fr7 hk11) rfl (Nat.le_of_ble_eq_true rfl) (Nat.le_of_ble_eq_true rfl) (Nat.le_of_ble_eq_true rfl) (q := 61) rfl ?_
          intro bk11
          refine J_goto (tgt := 65) dX10_melt_61 (by decide) ?_
          have h := Option.some.inj h
          subst h
          exact J_ireturn dX10_melt_65 rfl rfl rfl

def fX10_remember_l52 (a0 : Nat) (a1 : Int32) (σ : Mm) : Option ((Int32 × Mm) ⊕ (Mm)) :=
  if 351 ≤ a1 then some (Sum.inr σ) else (gR σ a0 41).bind fun r3 => (gR σ a0 33).bind fun r4 => if ixB a1 (ln r4) = true then if ixB ((351 * (gI σ a0 42)) + a1) (ln r3) = true then some (Sum.inl ((a1 + 1), (sI σ r3 (Int32.toNatClampNeg ((351 * (gI σ a0 42)) + a1)) (gI σ r4 (Int32.toNatClampNeg a1))))) else none else none
set_option maxRecDepth 20000 in
set_option maxHeartbeats 2000000 in
theorem tX10_remember_l52 {X : XS} {n : Nat} {σ : Mm} {F : Nat × Option Value × Mm} {a0 : Nat} {a1 : Int32} (ha0 : RT n a0 110) {res : (Int32 × Mm) ⊕ (Mm)} (h : fX10_remember_l52 a0 a1 σ = some res) (hc : ∀ (b1 : Int32) (s : Mm), res = .inl (b1, s) → J X mX10_remember 1 0 0 F 52 [(0, .ref a0), (1, .int b1)] [] n s) (he0 : ∀  (s : Mm), res = .inr s → J X mX10_remember 1 0 0 F 86 [(0, .ref a0)] [] n s) : J X mX10_remember 1 0 0 F 52 [(0, .ref a0), (1, .int a1)] [] n σ := by
  unfold fX10_remember_l52 at h
  refine J_iload_n (z := 1) dX10_remember_52 rfl rfl (q := 53) rfl ?_
  refine J_sipush (x := 351) dX10_remember_53 (by decide) (q := 56) rfl ?_
  refine J_icmp_ge (tgt := 86) dX10_remember_56 (by decide) (q := 59) rfl (fun c1 => ?_) (fun c1 => ?_)
  · rw [if_pos c1] at h
    have h := Option.some.inj h
    refine J_pick [0] rfl ?_
    exact he0 _ h.symm
  · rw [if_neg c1] at h
    refine J_aload_n (z := 0) dX10_remember_59 rfl rfl (q := 60) rfl ?_
    obtain ⟨r3, er3, h⟩ := bindS h
    refine J_getR dX10_remember_60 lRX10_84 ha0 rfl (by decide) er3 (q := 63) rfl (fun fr3 => ?_)
    refine J_sipush (x := 351) dX10_remember_63 (by decide) (q := 66) rfl ?_
    refine J_aload_n (z := 0) dX10_remember_66 rfl rfl (q := 67) rfl ?_
    refine J_getI dX10_remember_67 lRX10_300 ha0 rfl (q := 70) rfl ?_
    refine J_imul dX10_remember_70  (q := 71) rfl ?_
    refine J_iload_n (z := 1) dX10_remember_71 rfl rfl (q := 72) rfl ?_
    refine J_iadd dX10_remember_72  (q := 73) rfl ?_
    refine J_aload_n (z := 0) dX10_remember_73 rfl rfl (q := 74) rfl ?_
    obtain ⟨r4, er4, h⟩ := bindS h
    refine J_getR dX10_remember_74 lRX10_61 ha0 rfl (by decide) er4 (q := 77) rfl (fun fr4 => ?_)
    refine J_iload_n (z := 1) dX10_remember_77 rfl rfl (q := 78) rfl ?_
    obtain ⟨g5, h⟩ := iteS h
    refine J_iald dX10_remember_78 fr4 (ixB_ok g5) (q := 79) rfl ?_
    obtain ⟨g6, h⟩ := iteS h
    refine J_iast dX10_remember_79 fr3 (ixB_ok g6) (q := 80) rfl ?_
    refine J_iinc (z := 1) (y := (a1 + 1)) (lv' := [(1, .int (a1 + 1)), (0, .ref a0)]) dX10_remember_80 rfl rfl (by decide) rfl (q := 83) rfl ?_
    refine J_goto (tgt := 52) dX10_remember_83 (by decide) ?_
    have h := Option.some.inj h
    refine J_pick [1, 0] rfl ?_
    exact hc _ _ h.symm

def fX10_remember_w52 (a0 : Nat) (a1 : Int32) (σ : Mm) : Option (Mm) :=
  wh (fun a : Int32 × Mm => fX10_remember_l52 a0 a.1 a.2) BIG (a1, σ)
set_option maxRecDepth 20000 in
set_option maxHeartbeats 2000000 in
theorem tX10_remember_w52 {X : XS} {n : Nat} {σ : Mm} {F : Nat × Option Value × Mm} {a0 : Nat} {a1 : Int32} (ha0 : RT n a0 110) {res : Mm} (h : fX10_remember_w52 a0 a1 σ = some res) (he0 : ∀  (s : Mm), res = s → J X mX10_remember 1 0 0 F 86 [(0, .ref a0)] [] n s) : J X mX10_remember 1 0 0 F 52 [(0, .ref a0), (1, .int a1)] [] n σ := by
  unfold fX10_remember_w52 at h
  refine wh_rule (P := fun a : Int32 × Mm => J X mX10_remember 1 0 0 F 52 [(0, .ref a0), (1, .int a.1)] [] n a.2) (K := fun b => b = res) ?_ _ _ _ h rfl
  intro a
  refine ⟨fun a2 hb hP => ?_, fun b hb hK => ?_⟩
  · exact tX10_remember_l52 ha0 hb (fun _ _ e => by cases e; exact hP) (fun _ e => by cases e)
  · subst hK
    exact tX10_remember_l52 ha0 hb (fun _ _ e => by cases e) (fun v0 e => he0 v0 (Sum.inr.inj e))

def fX10_remember_b50 (a0 : Nat) (σ : Mm) : Option (Mm) :=
  (fX10_remember_w52 a0 0 σ).bind (fun o7 => (fun so7 => some (sI so7 a0 42 ((gI so7 a0 42) + 1))) o7)
set_option maxRecDepth 20000 in
set_option maxHeartbeats 2000000 in
theorem tX10_remember_b50 {X : XS} {n : Nat} {σ : Mm} {a0 : Nat} (ha0 : RT n a0 110) {res : Mm} (h : fX10_remember_b50 a0 σ = some res) : J X mX10_remember 1 0 0 (n, none, res) 50 [(0, .ref a0)] [] n σ := by
  unfold fX10_remember_b50 at h
  refine J_iconst (x := 0) dX10_remember_50 (by decide) (q := 51) rfl ?_
  refine J_istore_n (lv' := [(1, .int 0), (0, .ref a0)]) dX10_remember_51 rfl (by decide) rfl (q := 52) rfl ?_
  obtain ⟨o7, hlo7, h⟩ := bindS h
  refine J_pick [1, 0] rfl ?_
  refine tX10_remember_w52 ha0 hlo7 ?_
  · intro so7 qo7
    rw [qo7] at h
    try dsimp only [Sum.elim_inl, Sum.elim_inr] at h
    refine J_aload_n (z := 0) dX10_remember_86 rfl rfl (q := 87) rfl ?_
    refine J_dup dX10_remember_87 rfl (q := 88) rfl ?_
    refine J_getI dX10_remember_88 lRX10_300 ha0 rfl (q := 91) rfl ?_
    refine J_iconst (x := 1) dX10_remember_91 (by decide) (q := 92) rfl ?_
    refine J_iadd dX10_remember_92  (q := 93) rfl ?_
    refine J_putI dX10_remember_93 lRX10_300 (fun h => by cases h) ha0 rfl (q := 96) rfl ?_
    have h := Option.some.inj h
    subst h
    exact J_return dX10_remember_96 rfl rfl

def fX10_remember_l11 (a0 : Nat) (a1 : Int32) (σ : Mm) : Option ((Int32 × Mm) ⊕ (Mm)) :=
  if 13689 ≤ a1 then some (Sum.inr σ) else (gR σ a0 41).bind fun r9 => if ixB (a1 + 351) (ln r9) = true then if ixB a1 (ln r9) = true then some (Sum.inl ((a1 + 1), (sI σ r9 (Int32.toNatClampNeg a1) (gI σ r9 (Int32.toNatClampNeg (a1 + 351)))))) else none else none
set_option maxRecDepth 20000 in
set_option maxHeartbeats 2000000 in
theorem tX10_remember_l11 {X : XS} {n : Nat} {σ : Mm} {F : Nat × Option Value × Mm} {a0 : Nat} {a1 : Int32} (ha0 : RT n a0 110) {res : (Int32 × Mm) ⊕ (Mm)} (h : fX10_remember_l11 a0 a1 σ = some res) (hc : ∀ (b1 : Int32) (s : Mm), res = .inl (b1, s) → J X mX10_remember 1 0 0 F 11 [(0, .ref a0), (1, .int b1)] [] n s) (he0 : ∀  (s : Mm), res = .inr s → J X mX10_remember 1 0 0 F 40 [(0, .ref a0)] [] n s) : J X mX10_remember 1 0 0 F 11 [(0, .ref a0), (1, .int a1)] [] n σ := by
  unfold fX10_remember_l11 at h
  refine J_iload_n (z := 1) dX10_remember_11 rfl rfl (q := 12) rfl ?_
  refine J_sipush (x := 13689) dX10_remember_12 (by decide) (q := 15) rfl ?_
  refine J_icmp_ge (tgt := 40) dX10_remember_15 (by decide) (q := 18) rfl (fun c7 => ?_) (fun c7 => ?_)
  · rw [if_pos c7] at h
    have h := Option.some.inj h
    refine J_pick [0] rfl ?_
    exact he0 _ h.symm
  · rw [if_neg c7] at h
    refine J_aload_n (z := 0) dX10_remember_18 rfl rfl (q := 19) rfl ?_
    obtain ⟨r9, er9, h⟩ := bindS h
    refine J_getR dX10_remember_19 lRX10_84 ha0 rfl (by decide) er9 (q := 22) rfl (fun fr9 => ?_)
    refine J_iload_n (z := 1) dX10_remember_22 rfl rfl (q := 23) rfl ?_
    refine J_aload_n (z := 0) dX10_remember_23 rfl rfl (q := 24) rfl ?_
    refine J_getR dX10_remember_24 lRX10_84 ha0 rfl (by decide) er9 (q := 27) rfl (fun _ => ?_)
    refine J_iload_n (z := 1) dX10_remember_27 rfl rfl (q := 28) rfl ?_
    refine J_sipush (x := 351) dX10_remember_28 (by decide) (q := 31) rfl ?_
    refine J_iadd dX10_remember_31  (q := 32) rfl ?_
    obtain ⟨g10, h⟩ := iteS h
    refine J_iald dX10_remember_32 fr9 (ixB_ok g10) (q := 33) rfl ?_
    obtain ⟨g11, h⟩ := iteS h
    refine J_iast dX10_remember_33 fr9 (ixB_ok g11) (q := 34) rfl ?_
    refine J_iinc (z := 1) (y := (a1 + 1)) (lv' := [(1, .int (a1 + 1)), (0, .ref a0)]) dX10_remember_34 rfl rfl (by decide) rfl (q := 37) rfl ?_
    refine J_goto (tgt := 11) dX10_remember_37 (by decide) ?_
    have h := Option.some.inj h
    refine J_pick [1, 0] rfl ?_
    exact hc _ _ h.symm

def fX10_remember_w11 (a0 : Nat) (a1 : Int32) (σ : Mm) : Option (Mm) :=
  wh (fun a : Int32 × Mm => fX10_remember_l11 a0 a.1 a.2) BIG (a1, σ)
set_option maxRecDepth 20000 in
set_option maxHeartbeats 2000000 in
theorem tX10_remember_w11 {X : XS} {n : Nat} {σ : Mm} {F : Nat × Option Value × Mm} {a0 : Nat} {a1 : Int32} (ha0 : RT n a0 110) {res : Mm} (h : fX10_remember_w11 a0 a1 σ = some res) (he0 : ∀  (s : Mm), res = s → J X mX10_remember 1 0 0 F 40 [(0, .ref a0)] [] n s) : J X mX10_remember 1 0 0 F 11 [(0, .ref a0), (1, .int a1)] [] n σ := by
  unfold fX10_remember_w11 at h
  refine wh_rule (P := fun a : Int32 × Mm => J X mX10_remember 1 0 0 F 11 [(0, .ref a0), (1, .int a.1)] [] n a.2) (K := fun b => b = res) ?_ _ _ _ h rfl
  intro a
  refine ⟨fun a2 hb hP => ?_, fun b hb hK => ?_⟩
  · exact tX10_remember_l11 ha0 hb (fun _ _ e => by cases e; exact hP) (fun _ e => by cases e)
  · subst hK
    exact tX10_remember_l11 ha0 hb (fun _ _ e => by cases e) (fun v0 e => he0 v0 (Sum.inr.inj e))

def fX10_remember (a0 : Nat) (σ : Mm) : Option (Mm) :=
  if (gI σ a0 42) = 40 then (fX10_remember_w11 a0 0 σ).bind (fun o12 => (fun so12 => fX10_remember_b50 a0 (sI so12 a0 42 ((gI so12 a0 42) - 1))) o12) else fX10_remember_b50 a0 σ
set_option maxRecDepth 20000 in
set_option maxHeartbeats 2000000 in
theorem tX10_remember {X : XS} {n : Nat} {σ : Mm} {a0 : Nat} (ha0 : RT n a0 110) {res : Mm} (h : fX10_remember a0 σ = some res) : MT X yX10_remember mX10_remember 1 0 0 [.ref a0] n σ (n, none, res) := by
  unfold fX10_remember at h
  refine MT_of (by decide +kernel) rfl (fun h => by cases h) (Nat.le_of_ble_eq_true rfl) ?_
  show J X mX10_remember 1 0 0 (n, none, res) 0 [(0, .ref a0)] [] n σ
  refine J_aload_n (z := 0) dX10_remember_0 rfl rfl (q := 1) rfl ?_
  refine J_getI dX10_remember_1 lRX10_300 ha0 rfl (q := 4) rfl ?_
  refine J_bipush (x := 40) dX10_remember_4 (by decide) (q := 6) rfl ?_
  refine J_icmp_ne (tgt := 50) dX10_remember_6 (by decide) (q := 9) rfl (fun c0 => ?_) (fun c0 => ?_)
  · rw [if_neg c0] at h
    refine J_pick [0] rfl ?_
    exact tX10_remember_b50 ha0 h
  · rw [if_pos c0] at h
    refine J_iconst (x := 0) dX10_remember_9 (by decide) (q := 10) rfl ?_
    refine J_istore_n (lv' := [(1, .int 0), (0, .ref a0)]) dX10_remember_10 rfl (by decide) rfl (q := 11) rfl ?_
    obtain ⟨o12, hlo12, h⟩ := bindS h
    refine J_pick [1, 0] rfl ?_
    refine tX10_remember_w11 ha0 hlo12 ?_
    · intro so12 qo12
      rw [qo12] at h
      try dsimp only [Sum.elim_inl, Sum.elim_inr] at h
      refine J_aload_n (z := 0) dX10_remember_40 rfl rfl (q := 41) rfl ?_
      refine J_dup dX10_remember_41 rfl (q := 42) rfl ?_
      refine J_getI dX10_remember_42 lRX10_300 ha0 rfl (q := 45) rfl ?_
      refine J_iconst (x := 1) dX10_remember_45 (by decide) (q := 46) rfl ?_
      refine J_isub dX10_remember_46  (q := 47) rfl ?_
      refine J_putI dX10_remember_47 lRX10_300 (fun h => by cases h) ha0 rfl (q := 50) rfl ?_
      refine J_pick [0] rfl ?_
      exact tX10_remember_b50 ha0 h

def fX10_writes_b50 (a0 : Nat) (a1 : Int32) (a2 : Int32) (a3 : Int32) (a4 : Int32) (σ : Mm) : Option (Mm) :=
  if ixB 110 (ln a0) = true then if ixB (111 + (4 * (gI σ a0 (Int32.toNatClampNeg 110)))) (ln a0) = true then if ixB ((111 + (4 * (gI σ a0 (Int32.toNatClampNeg 110)))) + 1) (ln a0) = true then if ixB ((111 + (4 * (gI σ a0 (Int32.toNatClampNeg 110)))) + 2) (ln a0) = true then if ixB ((111 + (4 * (gI σ a0 (Int32.toNatClampNeg 110)))) + 3) (ln a0) = true then if ixB 110 (ln a0) = true then if ixB 110 (ln a0) = true then some (sI (sI (sI (sI (sI σ a0 (Int32.toNatClampNeg (111 + (4 * (gI σ a0 (Int32.toNatClampNeg 110))))) a1) a0 (Int32.toNatClampNeg ((111 + (4 * (gI σ a0 (Int32.toNatClampNeg 110)))) + 1)) a2) a0 (Int32.toNatClampNeg ((111 + (4 * (gI σ a0 (Int32.toNatClampNeg 110)))) + 2)) a3) a0 (Int32.toNatClampNeg ((111 + (4 * (gI σ a0 (Int32.toNatClampNeg 110)))) + 3)) a4) a0 (Int32.toNatClampNeg 110) ((gI (sI (sI (sI (sI σ a0 (Int32.toNatClampNeg (111 + (4 * (gI σ a0 (Int32.toNatClampNeg 110))))) a1) a0 (Int32.toNatClampNeg ((111 + (4 * (gI σ a0 (Int32.toNatClampNeg 110)))) + 1)) a2) a0 (Int32.toNatClampNeg ((111 + (4 * (gI σ a0 (Int32.toNatClampNeg 110)))) + 2)) a3) a0 (Int32.toNatClampNeg ((111 + (4 * (gI σ a0 (Int32.toNatClampNeg 110)))) + 3)) a4) a0 (Int32.toNatClampNeg 110)) + 1)) else none else none else none else none else none else none else none
set_option maxRecDepth 20000 in
set_option maxHeartbeats 2000000 in
theorem tX10_writes_b50 {X : XS} {n : Nat} {σ : Mm} {a0 : Nat} {a1 : Int32} {a2 : Int32} {a3 : Int32} {a4 : Int32} (ha0 : RT n a0 200) {res : Mm} (h : fX10_writes_b50 a0 a1 a2 a3 a4 σ = some res) : J X mX10_writes 1 0 0 (n, none, res) 50 [(0, .ref a0), (1, .int a1), (2, .int a2), (3, .int a3), (4, .int a4)] [] n σ := by
  unfold fX10_writes_b50 at h
  refine J_bipush (x := 111) dX10_writes_50 (by decide) (q := 52) rfl ?_
  refine J_iconst (x := 4) dX10_writes_52 (by decide) (q := 53) rfl ?_
  refine J_aload_n (z := 0) dX10_writes_53 rfl rfl (q := 54) rfl ?_
  refine J_bipush (x := 110) dX10_writes_54 (by decide) (q := 56) rfl ?_
  obtain ⟨g3, h⟩ := iteS h
  refine J_iald dX10_writes_56 ha0 (ixB_ok g3) (q := 57) rfl ?_
  refine J_imul dX10_writes_57  (q := 58) rfl ?_
  refine J_iadd dX10_writes_58  (q := 59) rfl ?_
  refine J_istore (lv' := [(5, .int (111 + (4 * (gI σ a0 (Int32.toNatClampNeg 110))))), (0, .ref a0), (1, .int a1), (2, .int a2), (3, .int a3), (4, .int a4)]) dX10_writes_59 (by decide) rfl (q := 61) rfl ?_
  refine J_aload_n (z := 1) dX10_writes_61 rfl rfl (q := 62) rfl ?_
  refine J_iload (z := 0) dX10_writes_62 rfl (q := 64) rfl ?_
  refine J_iload_n (z := 2) dX10_writes_64 rfl rfl (q := 65) rfl ?_
  obtain ⟨g4, h⟩ := iteS h
  refine J_iast dX10_writes_65 ha0 (ixB_ok g4) (q := 66) rfl ?_
  refine J_aload_n (z := 1) dX10_writes_66 rfl rfl (q := 67) rfl ?_
  refine J_iload (z := 0) dX10_writes_67 rfl (q := 69) rfl ?_
  refine J_iconst (x := 1) dX10_writes_69 (by decide) (q := 70) rfl ?_
  refine J_iadd dX10_writes_70  (q := 71) rfl ?_
  refine J_iload_n (z := 3) dX10_writes_71 rfl rfl (q := 72) rfl ?_
  obtain ⟨g5, h⟩ := iteS h
  refine J_iast dX10_writes_72 ha0 (ixB_ok g5) (q := 73) rfl ?_
  refine J_aload_n (z := 1) dX10_writes_73 rfl rfl (q := 74) rfl ?_
  refine J_iload (z := 0) dX10_writes_74 rfl (q := 76) rfl ?_
  refine J_iconst (x := 2) dX10_writes_76 (by decide) (q := 77) rfl ?_
  refine J_iadd dX10_writes_77  (q := 78) rfl ?_
  refine J_iload_n (z := 4) dX10_writes_78 rfl rfl (q := 79) rfl ?_
  obtain ⟨g6, h⟩ := iteS h
  refine J_iast dX10_writes_79 ha0 (ixB_ok g6) (q := 80) rfl ?_
  refine J_aload_n (z := 1) dX10_writes_80 rfl rfl (q := 81) rfl ?_
  refine J_iload (z := 0) dX10_writes_81 rfl (q := 83) rfl ?_
  refine J_iconst (x := 3) dX10_writes_83 (by decide) (q := 84) rfl ?_
  refine J_iadd dX10_writes_84  (q := 85) rfl ?_
  refine J_iload (z := 5) dX10_writes_85 rfl (q := 87) rfl ?_
  obtain ⟨g7, h⟩ := iteS h
  refine J_iast dX10_writes_87 ha0 (ixB_ok g7) (q := 88) rfl ?_
  refine J_aload_n (z := 1) dX10_writes_88 rfl rfl (q := 89) rfl ?_
  refine J_bipush (x := 110) dX10_writes_89 (by decide) (q := 91) rfl ?_
  refine J_dup2 dX10_writes_91 rfl rfl (q := 92) rfl ?_
  obtain ⟨g8, h⟩ := iteS h
  refine J_iald dX10_writes_92 ha0 (ixB_ok g8) (q := 93) rfl ?_
  refine J_iconst (x := 1) dX10_writes_93 (by decide) (q := 94) rfl ?_
  refine J_iadd dX10_writes_94  (q := 95) rfl ?_
  obtain ⟨g9, h⟩ := iteS h
  refine J_iast dX10_writes_95 ha0 (ixB_ok g9) (q := 96) rfl ?_
  have h := Option.some.inj h
  subst h
  exact J_return dX10_writes_96 rfl rfl

def fX10_writes_l12 (a0 : Nat) (a1 : Int32) (a2 : Int32) (a3 : Int32) (a4 : Int32) (a5 : Int32) (σ : Mm) : Option ((Int32 × Mm) ⊕ (Mm)) :=
  if 236 < a5 then some (Sum.inr σ) else if ixB ((110 + a5) + 4) (ln a0) = true then if ixB (110 + a5) (ln a0) = true then some (Sum.inl ((a5 + 1), (sI σ a0 (Int32.toNatClampNeg (110 + a5)) (gI σ a0 (Int32.toNatClampNeg ((110 + a5) + 4)))))) else none else none
set_option maxRecDepth 20000 in
set_option maxHeartbeats 2000000 in
theorem tX10_writes_l12 {X : XS} {n : Nat} {σ : Mm} {F : Nat × Option Value × Mm} {a0 : Nat} {a1 : Int32} {a2 : Int32} {a3 : Int32} {a4 : Int32} {a5 : Int32} (ha0 : RT n a0 200) {res : (Int32 × Mm) ⊕ (Mm)} (h : fX10_writes_l12 a0 a1 a2 a3 a4 a5 σ = some res) (hc : ∀ (b5 : Int32) (s : Mm), res = .inl (b5, s) → J X mX10_writes 1 0 0 F 12 [(0, .ref a0), (1, .int a1), (2, .int a2), (3, .int a3), (4, .int a4), (5, .int b5)] [] n s) (he0 : ∀  (s : Mm), res = .inr s → J X mX10_writes 1 0 0 F 42 [(0, .ref a0), (1, .int a1), (2, .int a2), (3, .int a3), (4, .int a4)] [] n s) : J X mX10_writes 1 0 0 F 12 [(0, .ref a0), (1, .int a1), (2, .int a2), (3, .int a3), (4, .int a4), (5, .int a5)] [] n σ := by
  unfold fX10_writes_l12 at h
  refine J_iload (z := 5) dX10_writes_12 rfl (q := 14) rfl ?_
  refine J_sipush (x := 236) dX10_writes_14 (by decide) (q := 17) rfl ?_
  refine J_icmp_gt (tgt := 42) dX10_writes_17 (by decide) (q := 20) rfl (fun c9 => ?_) (fun c9 => ?_)
  · rw [if_pos c9] at h
    have h := Option.some.inj h
    refine J_pick [0, 1, 2, 3, 4] rfl ?_
    exact he0 _ h.symm
  · rw [if_neg c9] at h
    refine J_aload_n (z := 0) dX10_writes_20 rfl rfl (q := 21) rfl ?_
    refine J_bipush (x := 110) dX10_writes_21 (by decide) (q := 23) rfl ?_
    refine J_iload (z := 5) dX10_writes_23 rfl (q := 25) rfl ?_
    refine J_iadd dX10_writes_25  (q := 26) rfl ?_
    refine J_aload_n (z := 0) dX10_writes_26 rfl rfl (q := 27) rfl ?_
    refine J_bipush (x := 110) dX10_writes_27 (by decide) (q := 29) rfl ?_
    refine J_iload (z := 5) dX10_writes_29 rfl (q := 31) rfl ?_
    refine J_iadd dX10_writes_31  (q := 32) rfl ?_
    refine J_iconst (x := 4) dX10_writes_32 (by decide) (q := 33) rfl ?_
    refine J_iadd dX10_writes_33  (q := 34) rfl ?_
    obtain ⟨g11, h⟩ := iteS h
    refine J_iald dX10_writes_34 ha0 (ixB_ok g11) (q := 35) rfl ?_
    obtain ⟨g12, h⟩ := iteS h
    refine J_iast dX10_writes_35 ha0 (ixB_ok g12) (q := 36) rfl ?_
    refine J_iinc (z := 5) (y := (a5 + 1)) (lv' := [(5, .int (a5 + 1)), (0, .ref a0), (1, .int a1), (2, .int a2), (3, .int a3), (4, .int a4)]) dX10_writes_36 rfl rfl (by decide) rfl (q := 39) rfl ?_
    refine J_goto (tgt := 12) dX10_writes_39 (by decide) ?_
    have h := Option.some.inj h
    refine J_pick [1, 2, 3, 4, 5, 0] rfl ?_
    exact hc _ _ h.symm

def fX10_writes_w12 (a0 : Nat) (a1 : Int32) (a2 : Int32) (a3 : Int32) (a4 : Int32) (a5 : Int32) (σ : Mm) : Option (Mm) :=
  wh (fun a : Int32 × Mm => fX10_writes_l12 a0 a1 a2 a3 a4 a.1 a.2) BIG (a5, σ)
set_option maxRecDepth 20000 in
set_option maxHeartbeats 2000000 in
theorem tX10_writes_w12 {X : XS} {n : Nat} {σ : Mm} {F : Nat × Option Value × Mm} {a0 : Nat} {a1 : Int32} {a2 : Int32} {a3 : Int32} {a4 : Int32} {a5 : Int32} (ha0 : RT n a0 200) {res : Mm} (h : fX10_writes_w12 a0 a1 a2 a3 a4 a5 σ = some res) (he0 : ∀  (s : Mm), res = s → J X mX10_writes 1 0 0 F 42 [(0, .ref a0), (1, .int a1), (2, .int a2), (3, .int a3), (4, .int a4)] [] n s) : J X mX10_writes 1 0 0 F 12 [(0, .ref a0), (1, .int a1), (2, .int a2), (3, .int a3), (4, .int a4), (5, .int a5)] [] n σ := by
  unfold fX10_writes_w12 at h
  refine wh_rule (P := fun a : Int32 × Mm => J X mX10_writes 1 0 0 F 12 [(0, .ref a0), (1, .int a1), (2, .int a2), (3, .int a3), (4, .int a4), (5, .int a.1)] [] n a.2) (K := fun b => b = res) ?_ _ _ _ h rfl
  intro a
  refine ⟨fun a2 hb hP => ?_, fun b hb hK => ?_⟩
  · exact tX10_writes_l12 ha0 hb (fun _ _ e => by cases e; exact hP) (fun _ e => by cases e)
  · subst hK
    exact tX10_writes_l12 ha0 hb (fun _ _ e => by cases e) (fun v0 e => he0 v0 (Sum.inr.inj e))

def fX10_writes (a0 : Nat) (a1 : Int32) (a2 : Int32) (a3 : Int32) (a4 : Int32) (σ : Mm) : Option (Mm) :=
  if ixB 110 (ln a0) = true then if (gI σ a0 (Int32.toNatClampNeg 110)) = 60 then (fX10_writes_w12 a0 a1 a2 a3 a4 1 σ).bind (fun o13 => (fun so13 => if ixB 110 (ln a0) = true then if ixB 110 (ln a0) = true then fX10_writes_b50 a0 a1 a2 a3 a4 (sI so13 a0 (Int32.toNatClampNeg 110) ((gI so13 a0 (Int32.toNatClampNeg 110)) - 1)) else none else none) o13) else fX10_writes_b50 a0 a1 a2 a3 a4 σ else none
set_option maxRecDepth 20000 in
set_option maxHeartbeats 2000000 in
theorem tX10_writes {X : XS} {n : Nat} {σ : Mm} {a0 : Nat} {a1 : Int32} {a2 : Int32} {a3 : Int32} {a4 : Int32} (ha0 : RT n a0 200) {res : Mm} (h : fX10_writes a0 a1 a2 a3 a4 σ = some res) : MT X yX10_writes mX10_writes 1 0 0 [.ref a0, .int a1, .int a2, .int a3, .int a4] n σ (n, none, res) := by
  unfold fX10_writes at h
  refine MT_of (by decide +kernel) rfl (fun h => by cases h) (Nat.le_of_ble_eq_true rfl) ?_
  show J X mX10_writes 1 0 0 (n, none, res) 0 [(0, .ref a0), (1, .int a1), (2, .int a2), (3, .int a3), (4, .int a4)] [] n σ
  refine J_aload_n (z := 0) dX10_writes_0 rfl rfl (q := 1) rfl ?_
  refine J_bipush (x := 110) dX10_writes_1 (by decide) (q := 3) rfl ?_
  obtain ⟨g1, h⟩ := iteS h
  refine J_iald dX10_writes_3 ha0 (ixB_ok g1) (q := 4) rfl ?_
  refine J_bipush (x := 60) dX10_writes_4 (by decide) (q := 6) rfl ?_
  refine J_icmp_ne (tgt := 50) dX10_writes_6 (by decide) (q := 9) rfl (fun c1 => ?_) (fun c1 => ?_)
  · rw [if_neg c1] at h
    refine J_pick [0, 1, 2, 3, 4] rfl ?_
    exact tX10_writes_b50 ha0 h
  · rw [if_pos c1] at h
    refine J_iconst (x := 1) dX10_writes_9 (by decide) (q := 10) rfl ?_
    refine J_istore (lv' := [(5, .int 1), (0, .ref a0), (1, .int a1), (2, .int a2), (3, .int a3), (4, .int a4)]) dX10_writes_10 (by decide) rfl (q := 12) rfl ?_
    obtain ⟨o13, hlo13, h⟩ := bindS h
    refine J_pick [1, 2, 3, 4, 5, 0] rfl ?_
    refine tX10_writes_w12 ha0 hlo13 ?_
    · intro so13 qo13
      rw [qo13] at h
      try dsimp only [Sum.elim_inl, Sum.elim_inr] at h
      refine J_aload_n (z := 0) dX10_writes_42 rfl rfl (q := 43) rfl ?_
      refine J_bipush (x := 110) dX10_writes_43 (by decide) (q := 45) rfl ?_
      refine J_dup2 dX10_writes_45 rfl rfl (q := 46) rfl ?_
      obtain ⟨g14, h⟩ := iteS h
      refine J_iald dX10_writes_46 ha0 (ixB_ok g14) (q := 47) rfl ?_
      refine J_iconst (x := 1) dX10_writes_47 (by decide) (q := 48) rfl ?_
      refine J_isub dX10_writes_48  (q := 49) rfl ?_
      obtain ⟨g15, h⟩ := iteS h
      refine J_iast dX10_writes_49 ha0 (ixB_ok g15) (q := 50) rfl ?_
      refine J_pick [0, 1, 2, 3, 4] rfl ?_
      exact tX10_writes_b50 ha0 h

def fX10_stands (a0 : Nat) (a1 : Int32) (a2 : Int32) (σ : Mm) : Option (Mm) :=
  if ixB (24 + (14 * a1)) (ln a0) = true then if ixB ((24 + (14 * a1)) + 1) (ln a0) = true then some (sI (sI σ a0 (Int32.toNatClampNeg (24 + (14 * a1))) a2) a0 (Int32.toNatClampNeg ((24 + (14 * a1)) + 1)) 1) else none else none
set_option maxRecDepth 20000 in
set_option maxHeartbeats 2000000 in
theorem tX10_stands {X : XS} {n : Nat} {σ : Mm} {a0 : Nat} {a1 : Int32} {a2 : Int32} (ha0 : RT n a0 200) {res : Mm} (h : fX10_stands a0 a1 a2 σ = some res) : MT X yX10_stands mX10_stands 1 0 0 [.ref a0, .int a1, .int a2] n σ (n, none, res) := by
  unfold fX10_stands at h
  refine MT_of (by decide +kernel) rfl (fun h => by cases h) (Nat.le_of_ble_eq_true rfl) ?_
  show J X mX10_stands 1 0 0 (n, none, res) 0 [(0, .ref a0), (1, .int a1), (2, .int a2)] [] n σ
  refine J_aload_n (z := 0) dX10_stands_0 rfl rfl (q := 1) rfl ?_
  refine J_bipush (x := 24) dX10_stands_1 (by decide) (q := 3) rfl ?_
  refine J_bipush (x := 14) dX10_stands_3 (by decide) (q := 5) rfl ?_
  refine J_iload_n (z := 1) dX10_stands_5 rfl rfl (q := 6) rfl ?_
  refine J_imul dX10_stands_6  (q := 7) rfl ?_
  refine J_iadd dX10_stands_7  (q := 8) rfl ?_
  refine J_iload_n (z := 2) dX10_stands_8 rfl rfl (q := 9) rfl ?_
  obtain ⟨g1, h⟩ := iteS h
  refine J_iast dX10_stands_9 ha0 (ixB_ok g1) (q := 10) rfl ?_
  refine J_aload_n (z := 0) dX10_stands_10 rfl rfl (q := 11) rfl ?_
  refine J_bipush (x := 24) dX10_stands_11 (by decide) (q := 13) rfl ?_
  refine J_bipush (x := 14) dX10_stands_13 (by decide) (q := 15) rfl ?_
  refine J_iload_n (z := 1) dX10_stands_15 rfl rfl (q := 16) rfl ?_
  refine J_imul dX10_stands_16  (q := 17) rfl ?_
  refine J_iadd dX10_stands_17  (q := 18) rfl ?_
  refine J_iconst (x := 1) dX10_stands_18 (by decide) (q := 19) rfl ?_
  refine J_iadd dX10_stands_19  (q := 20) rfl ?_
  refine J_iconst (x := 1) dX10_stands_20 (by decide) (q := 21) rfl ?_
  obtain ⟨g2, h⟩ := iteS h
  refine J_iast dX10_stands_21 ha0 (ixB_ok g2) (q := 22) rfl ?_
  have h := Option.some.inj h
  subst h
  exact J_return dX10_stands_22 rfl rfl

def fX10_canRead (a0 : Nat) (a1 : Nat) (a2 : Int32) (a3 : Int32) (σ : Mm) : Option (Int32) :=
  (fX10_canDo a0 a1 a2 σ).bind fun vk1 => if vk1 = 0 then some 0 else (fX10_isPage a0 a3 σ).bind fun vk3 => if vk3 = 0 then some 0 else if ixB (2 * a3) (ln a1) = true then if (gI σ a1 (Int32.toNatClampNeg (2 * a3))) ≤ 0 then some 0 else (gR σ a0 20).bind fun r7 => if ixB (4 * a3) (ln r7) = true then (fX10_isNear a0 a1 a2 (gI σ r7 (Int32.toNatClampNeg (4 * a3))) σ).bind fun vk9 => if vk9 = 0 then some 0 else some 1 else none else none
set_option maxRecDepth 20000 in
set_option maxHeartbeats 2000000 in
theorem tX10_canRead {X : XS} {n : Nat} {σ : Mm} {a0 : Nat} {a1 : Nat} {a2 : Int32} {a3 : Int32} (ha0 : RT n a0 110) (ha1 : RT n a1 200) {res : Int32} (h : fX10_canRead a0 a1 a2 a3 σ = some res) : MT X yX10_canRead mX10_canRead 3 0 0 [.ref a0, .ref a1, .int a2, .int a3] n σ (n, some (.int res), σ) := by
  unfold fX10_canRead at h
  refine MT_of (by decide +kernel) rfl (fun h => by cases h) (Nat.le_of_ble_eq_true rfl) ?_
  show J X mX10_canRead 3 0 0 (n, some (.int res), σ) 0 [(0, .ref a0), (1, .ref a1), (2, .int a2), (3, .int a3)] [] n σ
  refine J_aload_n (z := 0) dX10_canRead_0 rfl rfl (q := 1) rfl ?_
  refine J_aload_n (z := 1) dX10_canRead_1 rfl rfl (q := 2) rfl ?_
  refine J_iload_n (z := 2) dX10_canRead_2 rfl rfl (q := 3) rfl ?_
  obtain ⟨vk1, hk1, h⟩ := bindS h
  refine J_cVi (as := [.ref a1, .int a2]) dX10_canRead_3 mRX10_369 ha0 (tX10_canDo ha0 ha1 hk1) rfl (Nat.le_of_ble_eq_true rfl) (Nat.le_of_ble_eq_true rfl) (Nat.le_of_ble_eq_true rfl) (q := 6) rfl ?_
  intro bk1
  refine J_if_eq (tgt := 46) dX10_canRead_6 (by decide) (q := 9) rfl (fun c1 => ?_) (fun c1 => ?_)
  · rw [if_pos c1] at h
    refine J_iconst (x := 0) dX10_canRead_46 (by decide) (q := 47) rfl ?_
    have h := Option.some.inj h
    subst h
    exact J_ireturn dX10_canRead_47 rfl rfl rfl
  · rw [if_neg c1] at h
    refine J_aload_n (z := 0) dX10_canRead_9 rfl rfl (q := 10) rfl ?_
    refine J_iload_n (z := 3) dX10_canRead_10 rfl rfl (q := 11) rfl ?_
    obtain ⟨vk3, hk3, h⟩ := bindS h
    refine J_cVi (as := [.int a3]) dX10_canRead_11 mRX10_346 ha0 (tX10_isPage ha0 hk3) rfl (Nat.le_of_ble_eq_true rfl) (Nat.le_of_ble_eq_true rfl) (Nat.le_of_ble_eq_true rfl) (q := 14) rfl ?_
    intro bk3
    refine J_if_eq (tgt := 46) dX10_canRead_14 (by decide) (q := 17) rfl (fun c3 => ?_) (fun c3 => ?_)
    · rw [if_pos c3] at h
      refine J_iconst (x := 0) dX10_canRead_46 (by decide) (q := 47) rfl ?_
      have h := Option.some.inj h
      subst h
      exact J_ireturn dX10_canRead_47 rfl rfl rfl
    · rw [if_neg c3] at h
      refine J_aload_n (z := 1) dX10_canRead_17 rfl rfl (q := 18) rfl ?_
      refine J_iconst (x := 2) dX10_canRead_18 (by decide) (q := 19) rfl ?_
      refine J_iload_n (z := 3) dX10_canRead_19 rfl rfl (q := 20) rfl ?_
      refine J_imul dX10_canRead_20  (q := 21) rfl ?_
      obtain ⟨g5, h⟩ := iteS h
      refine J_iald dX10_canRead_21 ha1 (ixB_ok g5) (q := 22) rfl ?_
      refine J_if_le (tgt := 46) dX10_canRead_22 (by decide) (q := 25) rfl (fun c5 => ?_) (fun c5 => ?_)
      · rw [if_pos c5] at h
        refine J_iconst (x := 0) dX10_canRead_46 (by decide) (q := 47) rfl ?_
        have h := Option.some.inj h
        subst h
        exact J_ireturn dX10_canRead_47 rfl rfl rfl
      · rw [if_neg c5] at h
        refine J_aload_n (z := 0) dX10_canRead_25 rfl rfl (q := 26) rfl ?_
        refine J_aload_n (z := 1) dX10_canRead_26 rfl rfl (q := 27) rfl ?_
        refine J_iload_n (z := 2) dX10_canRead_27 rfl rfl (q := 28) rfl ?_
        refine J_aload_n (z := 0) dX10_canRead_28 rfl rfl (q := 29) rfl ?_
        obtain ⟨r7, er7, h⟩ := bindS h
        refine J_getR dX10_canRead_29 lRX10_43 ha0 rfl (by decide) er7 (q := 32) rfl (fun fr7 => ?_)
        refine J_iconst (x := 4) dX10_canRead_32 (by decide) (q := 33) rfl ?_
        refine J_iload_n (z := 3) dX10_canRead_33 rfl rfl (q := 34) rfl ?_
        refine J_imul dX10_canRead_34  (q := 35) rfl ?_
        obtain ⟨g8, h⟩ := iteS h
        refine J_iald dX10_canRead_35 fr7 (ixB_ok g8) (q := 36) rfl ?_
        obtain ⟨vk9, hk9, h⟩ := bindS h
        refine J_cVi (as := [.ref a1, .int a2, .int (gI σ r7 (Int32.toNatClampNeg (4 * a3)))]) dX10_canRead_36 mRX10_373 ha0 (tX10_isNear ha0 ha1 hk9) rfl (Nat.le_of_ble_eq_true rfl) (Nat.le_of_ble_eq_true rfl) (Nat.le_of_ble_eq_true rfl) (q := 39) rfl ?_
        intro bk9
        refine J_if_eq (tgt := 46) dX10_canRead_39 (by decide) (q := 42) rfl (fun c9 => ?_) (fun c9 => ?_)
        · rw [if_pos c9] at h
          refine J_iconst (x := 0) dX10_canRead_46 (by decide) (q := 47) rfl ?_
          have h := Option.some.inj h
          subst h
          exact J_ireturn dX10_canRead_47 rfl rfl rfl
        · rw [if_neg c9] at h
          refine J_iconst (x := 1) dX10_canRead_42 (by decide) (q := 43) rfl ?_
          refine J_goto (tgt := 47) dX10_canRead_43 (by decide) ?_
          have h := Option.some.inj h
          subst h
          exact J_ireturn dX10_canRead_47 rfl rfl rfl

def fX10_reads (a0 : Nat) (a1 : Nat) (a2 : Int32) (a3 : Int32) (σ : Mm) : Option (Int32 × Mm) :=
  (gR σ a0 20).bind fun r1 => if ixB (4 * a3) (ln r1) = true then (fX10_stands a1 a2 (gI σ r1 (Int32.toNatClampNeg (4 * a3))) σ).bind fun sk3 => if ixB ((2 * a3) + 1) (ln a1) = true then (fX10_learns a1 a2 a3 (gI sk3 a1 (Int32.toNatClampNeg ((2 * a3) + 1))) sk3).bind fun sk5 => bnd2 (fX10_breathes a0 a1 a2 sk5) fun vk6 sk6 => (fX10_writes a1 0 a2 a3 vk6 sk6).bind fun sk7 => some (vk6, sk7) else none else none
set_option maxRecDepth 20000 in
set_option maxHeartbeats 2000000 in
theorem tX10_reads {X : XS} {n : Nat} {σ : Mm} {a0 : Nat} {a1 : Nat} {a2 : Int32} {a3 : Int32} (ha0 : RT n a0 110) (ha1 : RT n a1 200) {res : Int32 × Mm} (h : fX10_reads a0 a1 a2 a3 σ = some res) : MT X yX10_reads mX10_reads 114 0 0 [.ref a0, .ref a1, .int a2, .int a3] n σ (n, some (.int res.1), res.2) := by
  unfold fX10_reads at h
  refine MT_of (by decide +kernel) rfl (fun h => by cases h) (Nat.le_of_ble_eq_true rfl) ?_
  show J X mX10_reads 114 0 0 (n, some (.int res.1), res.2) 0 [(0, .ref a0), (1, .ref a1), (2, .int a2), (3, .int a3)] [] n σ
  refine J_aload_n (z := 1) dX10_reads_0 rfl rfl (q := 1) rfl ?_
  refine J_iload_n (z := 2) dX10_reads_1 rfl rfl (q := 2) rfl ?_
  refine J_aload_n (z := 0) dX10_reads_2 rfl rfl (q := 3) rfl ?_
  obtain ⟨r1, er1, h⟩ := bindS h
  refine J_getR dX10_reads_3 lRX10_43 ha0 rfl (by decide) er1 (q := 6) rfl (fun fr1 => ?_)
  refine J_iconst (x := 4) dX10_reads_6 (by decide) (q := 7) rfl ?_
  refine J_iload_n (z := 3) dX10_reads_7 rfl rfl (q := 8) rfl ?_
  refine J_imul dX10_reads_8  (q := 9) rfl ?_
  obtain ⟨g2, h⟩ := iteS h
  refine J_iald dX10_reads_9 fr1 (ixB_ok g2) (q := 10) rfl ?_
  obtain ⟨sk3, hk3, h⟩ := bindS h
  refine J_cSv (as := [.ref a1, .int a2, .int (gI σ r1 (Int32.toNatClampNeg (4 * a3)))]) dX10_reads_10 mRX10_376 (tX10_stands ha1 hk3) rfl (Nat.le_of_ble_eq_true rfl) (Nat.le_of_ble_eq_true rfl) (Nat.le_of_ble_eq_true rfl) (q := 13) rfl ?_
  refine J_aload_n (z := 1) dX10_reads_13 rfl rfl (q := 14) rfl ?_
  refine J_iload_n (z := 2) dX10_reads_14 rfl rfl (q := 15) rfl ?_
  refine J_iload_n (z := 3) dX10_reads_15 rfl rfl (q := 16) rfl ?_
  refine J_aload_n (z := 1) dX10_reads_16 rfl rfl (q := 17) rfl ?_
  refine J_iconst (x := 2) dX10_reads_17 (by decide) (q := 18) rfl ?_
  refine J_iload_n (z := 3) dX10_reads_18 rfl rfl (q := 19) rfl ?_
  refine J_imul dX10_reads_19  (q := 20) rfl ?_
  refine J_iconst (x := 1) dX10_reads_20 (by decide) (q := 21) rfl ?_
  refine J_iadd dX10_reads_21  (q := 22) rfl ?_
  obtain ⟨g4, h⟩ := iteS h
  refine J_iald dX10_reads_22 ha1 (ixB_ok g4) (q := 23) rfl ?_
  obtain ⟨sk5, hk5, h⟩ := bindS h
  refine J_cSv (as := [.ref a1, .int a2, .int a3, .int (gI sk3 a1 (Int32.toNatClampNeg ((2 * a3) + 1)))]) dX10_reads_23 mRX10_380 (tX10_learns ha1 hk5) rfl (Nat.le_of_ble_eq_true rfl) (Nat.le_of_ble_eq_true rfl) (Nat.le_of_ble_eq_true rfl) (q := 26) rfl ?_
  refine J_aload_n (z := 0) dX10_reads_26 rfl rfl (q := 27) rfl ?_
  refine J_aload_n (z := 1) dX10_reads_27 rfl rfl (q := 28) rfl ?_
  refine J_iload_n (z := 2) dX10_reads_28 rfl rfl (q := 29) rfl ?_
  obtain ⟨vk6, sk6, hk6, h⟩ := bnd2S h
  refine J_cVi (as := [.ref a1, .int a2]) dX10_reads_29 mRX10_384 ha0 (tX10_breathes ha0 ha1 hk6) rfl (Nat.le_of_ble_eq_true rfl) (Nat.le_of_ble_eq_true rfl) (Nat.le_of_ble_eq_true rfl) (q := 32) rfl ?_
  intro bk6
  refine J_istore (lv' := [(4, .int vk6), (0, .ref a0), (1, .ref a1), (2, .int a2), (3, .int a3)]) dX10_reads_32 (by decide) rfl (q := 34) rfl ?_
  refine J_aload_n (z := 2) dX10_reads_34 rfl rfl (q := 35) rfl ?_
  refine J_iconst (x := 0) dX10_reads_35 (by decide) (q := 36) rfl ?_
  refine J_iload_n (z := 3) dX10_reads_36 rfl rfl (q := 37) rfl ?_
  refine J_iload_n (z := 4) dX10_reads_37 rfl rfl (q := 38) rfl ?_
  refine J_iload (z := 0) dX10_reads_38 rfl (q := 40) rfl ?_
  obtain ⟨sk7, hk7, h⟩ := bindS h
  refine J_cSv (as := [.ref a1, .int 0, .int a2, .int a3, .int vk6]) dX10_reads_40 mRX10_387 (tX10_writes ha1 hk7) rfl (Nat.le_of_ble_eq_true rfl) (Nat.le_of_ble_eq_true rfl) (Nat.le_of_ble_eq_true rfl) (q := 43) rfl ?_
  refine J_iload (z := 0) dX10_reads_43 rfl (q := 45) rfl ?_
  have h := Option.some.inj h
  subst h
  exact J_ireturn dX10_reads_45 rfl rfl rfl

def fX10_read (a0 : Nat) (a1 : Int32) (a2 : Int32) (σ : Mm) : Option (Int32 × Mm) :=
  (gR σ a0 33).bind fun r1 => (fX10_canRead a0 r1 a1 a2 (sI σ a0 0 0)).bind fun vk2 => if vk2 = 0 then some ((-1), (sI σ a0 0 0)) else (fX10_remember a0 (sI σ a0 0 0)).bind fun sk4 => (gR sk4 a0 33).bind fun r5 => bnd2 (fX10_reads a0 r5 a1 a2 sk4) fun vk6 sk6 => (gR sk6 a0 33).bind fun r7 => if ixB ((2 * a2) + 1) (ln r7) = true then some ((gI sk6 r7 (Int32.toNatClampNeg ((2 * a2) + 1))), sk6) else none
set_option maxRecDepth 20000 in
set_option maxHeartbeats 2000000 in
theorem tX10_read {X : XS} {n : Nat} {σ : Mm} {a0 : Nat} {a1 : Int32} {a2 : Int32} (ha0 : RT n a0 110) {res : Int32 × Mm} (h : fX10_read a0 a1 a2 σ = some res) : MT X yX10_read mX10_read 115 0 0 [.ref a0, .int a1, .int a2] n σ (n, some (.int res.1), res.2) := by
  unfold fX10_read at h
  refine MT_of (by decide +kernel) rfl (fun h => by cases h) (Nat.le_of_ble_eq_true rfl) ?_
  show J X mX10_read 115 0 0 (n, some (.int res.1), res.2) 0 [(0, .ref a0), (1, .int a1), (2, .int a2)] [] n σ
  refine J_aload_n (z := 0) dX10_read_0 rfl rfl (q := 1) rfl ?_
  refine J_iconst (x := 0) dX10_read_1 (by decide) (q := 2) rfl ?_
  refine J_putI dX10_read_2 lRX10_96 (fun h => by cases h) ha0 rfl (q := 5) rfl ?_
  refine J_aload_n (z := 0) dX10_read_5 rfl rfl (q := 6) rfl ?_
  refine J_aload_n (z := 0) dX10_read_6 rfl rfl (q := 7) rfl ?_
  obtain ⟨r1, er1, h⟩ := bindS h
  refine J_getR dX10_read_7 lRX10_61 ha0 rfl (by decide) er1 (q := 10) rfl (fun fr1 => ?_)
  refine J_iload_n (z := 1) dX10_read_10 rfl rfl (q := 11) rfl ?_
  refine J_iload_n (z := 2) dX10_read_11 rfl rfl (q := 12) rfl ?_
  obtain ⟨vk2, hk2, h⟩ := bindS h
  refine J_cVi (as := [.ref r1, .int a1, .int a2]) dX10_read_12 mRX10_391 ha0 (tX10_canRead ha0 fr1 hk2) rfl (Nat.le_of_ble_eq_true rfl) (Nat.le_of_ble_eq_true rfl) (Nat.le_of_ble_eq_true rfl) (q := 15) rfl ?_
  intro bk2
  refine J_if_ne (tgt := 20) dX10_read_15 (by decide) (q := 18) rfl (fun c2 => ?_) (fun c2 => ?_)
  · rw [if_neg c2] at h
    refine J_aload_n (z := 0) dX10_read_20 rfl rfl (q := 21) rfl ?_
    obtain ⟨sk4, hk4, h⟩ := bindS h
    refine J_cVv (as := []) dX10_read_21 mRX10_394 ha0 (tX10_remember ha0 hk4) rfl (Nat.le_of_ble_eq_true rfl) (Nat.le_of_ble_eq_true rfl) (Nat.le_of_ble_eq_true rfl) (q := 24) rfl ?_
    refine J_aload_n (z := 0) dX10_read_24 rfl rfl (q := 25) rfl ?_
    refine J_aload_n (z := 0) dX10_read_25 rfl rfl (q := 26) rfl ?_
    obtain ⟨r5, er5, h⟩ := bindS h
    refine J_getR dX10_read_26 lRX10_61 ha0 rfl (by decide) er5 (q := 29) rfl (fun fr5 => ?_)
    refine J_iload_n (z := 1) dX10_read_29 rfl rfl (q := 30) rfl ?_
    refine J_iload_n (z := 2) dX10_read_30 rfl rfl (q := 31) rfl ?_
    obtain ⟨vk6, sk6, hk6, h⟩ := bnd2S h
    refine J_cVi (as := [.ref r5, .int a1, .int a2]) dX10_read_31 mRX10_397 ha0 (tX10_reads ha0 fr5 hk6) rfl (Nat.le_of_ble_eq_true rfl) (Nat.le_of_ble_eq_true rfl) (Nat.le_of_ble_eq_true rfl) (q := 34) rfl ?_
    intro bk6
    refine J_istore_n (lv' := [(3, .int vk6), (0, .ref a0), (1, .int a1), (2, .int a2)]) dX10_read_34 rfl (by decide) rfl (q := 35) rfl ?_
    refine J_aload_n (z := 1) dX10_read_35 rfl rfl (q := 36) rfl ?_
    obtain ⟨r7, er7, h⟩ := bindS h
    refine J_getR dX10_read_36 lRX10_61 ha0 rfl (by decide) er7 (q := 39) rfl (fun fr7 => ?_)
    refine J_iconst (x := 2) dX10_read_39 (by decide) (q := 40) rfl ?_
    refine J_iload_n (z := 3) dX10_read_40 rfl rfl (q := 41) rfl ?_
    refine J_imul dX10_read_41  (q := 42) rfl ?_
    refine J_iconst (x := 1) dX10_read_42 (by decide) (q := 43) rfl ?_
    refine J_iadd dX10_read_43  (q := 44) rfl ?_
    obtain ⟨g8, h⟩ := iteS h
    refine J_iald dX10_read_44 fr7 (ixB_ok g8) (q := 45) rfl ?_
    have h := Option.some.inj h
    subst h
    exact J_ireturn dX10_read_45 rfl rfl rfl
  · rw [if_pos c2] at h
    refine J_iconst (x := (-1)) dX10_read_18 (by decide) (q := 19) rfl ?_
    have h := Option.some.inj h
    subst h
    exact J_ireturn dX10_read_19 rfl rfl rfl

def fX10_canRecut (a0 : Nat) (a1 : Nat) (a2 : Int32) (a3 : Int32) (σ : Mm) : Option (Int32) :=
  (fX10_canDo a0 a1 a2 σ).bind fun vk1 => if vk1 = 0 then some 0 else (fX10_isPage a0 a3 σ).bind fun vk3 => if vk3 = 0 then some 0 else (fX10_knows a1 a2 a3 σ).bind fun vk5 => if vk5 = 0 then some 0 else (gR σ a0 20).bind fun r7 => if ixB (4 * a3) (ln r7) = true then (fX10_isNear a0 a1 a2 (gI σ r7 (Int32.toNatClampNeg (4 * a3))) σ).bind fun vk9 => if vk9 = 0 then some 0 else some 1 else none
set_option maxRecDepth 20000 in
set_option maxHeartbeats 2000000 in
theorem tX10_canRecut {X : XS} {n : Nat} {σ : Mm} {a0 : Nat} {a1 : Nat} {a2 : Int32} {a3 : Int32} (ha0 : RT n a0 110) (ha1 : RT n a1 200) {res : Int32} (h : fX10_canRecut a0 a1 a2 a3 σ = some res) : MT X yX10_canRecut mX10_canRecut 3 0 0 [.ref a0, .ref a1, .int a2, .int a3] n σ (n, some (.int res), σ) := by
  unfold fX10_canRecut at h
  refine MT_of (by decide +kernel) rfl (fun h => by cases h) (Nat.le_of_ble_eq_true rfl) ?_
  show J X mX10_canRecut 3 0 0 (n, some (.int res), σ) 0 [(0, .ref a0), (1, .ref a1), (2, .int a2), (3, .int a3)] [] n σ
  refine J_aload_n (z := 0) dX10_canRecut_0 rfl rfl (q := 1) rfl ?_
  refine J_aload_n (z := 1) dX10_canRecut_1 rfl rfl (q := 2) rfl ?_
  refine J_iload_n (z := 2) dX10_canRecut_2 rfl rfl (q := 3) rfl ?_
  obtain ⟨vk1, hk1, h⟩ := bindS h
  refine J_cVi (as := [.ref a1, .int a2]) dX10_canRecut_3 mRX10_369 ha0 (tX10_canDo ha0 ha1 hk1) rfl (Nat.le_of_ble_eq_true rfl) (Nat.le_of_ble_eq_true rfl) (Nat.le_of_ble_eq_true rfl) (q := 6) rfl ?_
  intro bk1
  refine J_if_eq (tgt := 47) dX10_canRecut_6 (by decide) (q := 9) rfl (fun c1 => ?_) (fun c1 => ?_)
  · rw [if_pos c1] at h
    refine J_iconst (x := 0) dX10_canRecut_47 (by decide) (q := 48) rfl ?_
    have h := Option.some.inj h
    subst h
    exact J_ireturn dX10_canRecut_48 rfl rfl rfl
  · rw [if_neg c1] at h
    refine J_aload_n (z := 0) dX10_canRecut_9 rfl rfl (q := 10) rfl ?_
    refine J_iload_n (z := 3) dX10_canRecut_10 rfl rfl (q := 11) rfl ?_
    obtain ⟨vk3, hk3, h⟩ := bindS h
    refine J_cVi (as := [.int a3]) dX10_canRecut_11 mRX10_346 ha0 (tX10_isPage ha0 hk3) rfl (Nat.le_of_ble_eq_true rfl) (Nat.le_of_ble_eq_true rfl) (Nat.le_of_ble_eq_true rfl) (q := 14) rfl ?_
    intro bk3
    refine J_if_eq (tgt := 47) dX10_canRecut_14 (by decide) (q := 17) rfl (fun c3 => ?_) (fun c3 => ?_)
    · rw [if_pos c3] at h
      refine J_iconst (x := 0) dX10_canRecut_47 (by decide) (q := 48) rfl ?_
      have h := Option.some.inj h
      subst h
      exact J_ireturn dX10_canRecut_48 rfl rfl rfl
    · rw [if_neg c3] at h
      refine J_aload_n (z := 1) dX10_canRecut_17 rfl rfl (q := 18) rfl ?_
      refine J_iload_n (z := 2) dX10_canRecut_18 rfl rfl (q := 19) rfl ?_
      refine J_iload_n (z := 3) dX10_canRecut_19 rfl rfl (q := 20) rfl ?_
      obtain ⟨vk5, hk5, h⟩ := bindS h
      refine J_cSi (as := [.ref a1, .int a2, .int a3]) dX10_canRecut_20 mRX10_351 (tX10_knows ha1 hk5) rfl (Nat.le_of_ble_eq_true rfl) (Nat.le_of_ble_eq_true rfl) (Nat.le_of_ble_eq_true rfl) (q := 23) rfl ?_
      intro bk5
      refine J_if_eq (tgt := 47) dX10_canRecut_23 (by decide) (q := 26) rfl (fun c5 => ?_) (fun c5 => ?_)
      · rw [if_pos c5] at h
        refine J_iconst (x := 0) dX10_canRecut_47 (by decide) (q := 48) rfl ?_
        have h := Option.some.inj h
        subst h
        exact J_ireturn dX10_canRecut_48 rfl rfl rfl
      · rw [if_neg c5] at h
        refine J_aload_n (z := 0) dX10_canRecut_26 rfl rfl (q := 27) rfl ?_
        refine J_aload_n (z := 1) dX10_canRecut_27 rfl rfl (q := 28) rfl ?_
        refine J_iload_n (z := 2) dX10_canRecut_28 rfl rfl (q := 29) rfl ?_
        refine J_aload_n (z := 0) dX10_canRecut_29 rfl rfl (q := 30) rfl ?_
        obtain ⟨r7, er7, h⟩ := bindS h
        refine J_getR dX10_canRecut_30 lRX10_43 ha0 rfl (by decide) er7 (q := 33) rfl (fun fr7 => ?_)
        refine J_iconst (x := 4) dX10_canRecut_33 (by decide) (q := 34) rfl ?_
        refine J_iload_n (z := 3) dX10_canRecut_34 rfl rfl (q := 35) rfl ?_
        refine J_imul dX10_canRecut_35  (q := 36) rfl ?_
        obtain ⟨g8, h⟩ := iteS h
        refine J_iald dX10_canRecut_36 fr7 (ixB_ok g8) (q := 37) rfl ?_
        obtain ⟨vk9, hk9, h⟩ := bindS h
        refine J_cVi (as := [.ref a1, .int a2, .int (gI σ r7 (Int32.toNatClampNeg (4 * a3)))]) dX10_canRecut_37 mRX10_373 ha0 (tX10_isNear ha0 ha1 hk9) rfl (Nat.le_of_ble_eq_true rfl) (Nat.le_of_ble_eq_true rfl) (Nat.le_of_ble_eq_true rfl) (q := 40) rfl ?_
        intro bk9
        refine J_if_eq (tgt := 47) dX10_canRecut_40 (by decide) (q := 43) rfl (fun c9 => ?_) (fun c9 => ?_)
        · rw [if_pos c9] at h
          refine J_iconst (x := 0) dX10_canRecut_47 (by decide) (q := 48) rfl ?_
          have h := Option.some.inj h
          subst h
          exact J_ireturn dX10_canRecut_48 rfl rfl rfl
        · rw [if_neg c9] at h
          refine J_iconst (x := 1) dX10_canRecut_43 (by decide) (q := 44) rfl ?_
          refine J_goto (tgt := 48) dX10_canRecut_44 (by decide) ?_
          have h := Option.some.inj h
          subst h
          exact J_ireturn dX10_canRecut_48 rfl rfl rfl

