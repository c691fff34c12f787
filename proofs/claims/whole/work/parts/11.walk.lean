def fX8_othersIn_b38 (a0 : Nat) (a1 : Nat) (a2 : Int32) (a3 : Int32) (a4 : Int32) (a5 : Int32) (σ : Mm) : Option ((Int32 × Int32) ⊕ (Int32)) :=
  some (Sum.inl (a4, (a5 + 1)))
set_option maxRecDepth 20000 in
set_option maxHeartbeats 2000000 in
theorem tX8_othersIn_b38 {X : XS} {n : Nat} {σ : Mm} {F : Nat × Option Value × Mm} {a0 : Nat} {a1 : Nat} {a2 : Int32} {a3 : Int32} {a4 : Int32} {a5 : Int32} (ha0 : RT n a0 108) (ha1 : RT n a1 106) {res : (Int32 × Int32) ⊕ (Int32)} (h : fX8_othersIn_b38 a0 a1 a2 a3 a4 a5 σ = some res) (hc : ∀ (b4 : Int32) (b5 : Int32), res = .inl (b4, b5) → J X mX8_othersIn 1 0 0 F 6 [(0, .ref a0), (1, .ref a1), (2, .int a2), (3, .int a3), (4, .int b4), (5, .int b5)] [] n σ) (hr : ∀ (v : Int32), res = .inr v → F = (n, some (.int v), σ)) : J X mX8_othersIn 1 0 0 F 38 [(0, .ref a0), (1, .ref a1), (2, .int a2), (3, .int a3), (4, .int a4), (5, .int a5)] [] n σ := by
  unfold fX8_othersIn_b38 at h
  refine J_iinc (z := 5) (y := (a5 + 1)) (lv' := [(5, .int (a5 + 1)), (0, .ref a0), (1, .ref a1), (2, .int a2), (3, .int a3), (4, .int a4)]) dX8_othersIn_38 rfl rfl (by decide) rfl (q := 41) rfl ?_
  refine J_goto (tgt := 6) dX8_othersIn_41 (by decide) ?_
  have h := Option.some.inj h
  refine J_pick [1, 2, 3, 4, 5, 0] rfl ?_
  exact hc _ _ h.symm

def fX8_othersIn_l6 (a0 : Nat) (a1 : Nat) (a2 : Int32) (a3 : Int32) (a4 : Int32) (a5 : Int32) (σ : Mm) : Option ((Int32 × Int32) ⊕ (Int32)) :=
  (gR σ a0 0).bind fun r1 => if (gI σ r1 5) ≤ a5 then some (Sum.inr a4) else if a5 = a2 then fX8_othersIn_b38 a0 a1 a2 a3 a4 a5 σ else (gR σ a1 2).bind fun r4 => if ixB a5 (ln r4) = true then if (gI σ r4 (Int32.toNatClampNeg a5)) = a3 then fX8_othersIn_b38 a0 a1 a2 a3 (a4 + 1) a5 σ else fX8_othersIn_b38 a0 a1 a2 a3 a4 a5 σ else none
set_option maxRecDepth 20000 in
set_option maxHeartbeats 2000000 in
theorem tX8_othersIn_l6 {X : XS} {n : Nat} {σ : Mm} {F : Nat × Option Value × Mm} {a0 : Nat} {a1 : Nat} {a2 : Int32} {a3 : Int32} {a4 : Int32} {a5 : Int32} (ha0 : RT n a0 108) (ha1 : RT n a1 106) {res : (Int32 × Int32) ⊕ (Int32)} (h : fX8_othersIn_l6 a0 a1 a2 a3 a4 a5 σ = some res) (hc : ∀ (b4 : Int32) (b5 : Int32), res = .inl (b4, b5) → J X mX8_othersIn 1 0 0 F 6 [(0, .ref a0), (1, .ref a1), (2, .int a2), (3, .int a3), (4, .int b4), (5, .int b5)] [] n σ) (hr : ∀ (v : Int32), res = .inr v → F = (n, some (.int v), σ)) : J X mX8_othersIn 1 0 0 F 6 [(0, .ref a0), (1, .ref a1), (2, .int a2), (3, .int a3), (4, .int a4), (5, .int a5)] [] n σ := by
  unfold fX8_othersIn_l6 at h
  refine J_iload (z := 5) dX8_othersIn_6 rfl (q := 8) rfl ?_
  refine J_aload_n (z := 0) dX8_othersIn_8 rfl rfl (q := 9) rfl ?_
  obtain ⟨r1, er1, h⟩ := bindS h
  refine J_getR dX8_othersIn_9 lRX8_15 ha0 rfl (by decide) er1 (q := 12) rfl (fun fr1 => ?_)
  refine J_getI dX8_othersIn_12 lRX8_19 fr1 rfl (q := 15) rfl ?_
  refine J_icmp_ge (tgt := 44) dX8_othersIn_15 (by decide) (q := 18) rfl (fun c1 => ?_) (fun c1 => ?_)
  · rw [if_pos c1] at h
    refine J_iload (z := 4) dX8_othersIn_44 rfl (q := 46) rfl ?_
    have h := Option.some.inj h
    exact J_ireturn dX8_othersIn_46 rfl rfl (hr _ h.symm)
  · rw [if_neg c1] at h
    refine J_iload (z := 5) dX8_othersIn_18 rfl (q := 20) rfl ?_
    refine J_iload_n (z := 2) dX8_othersIn_20 rfl rfl (q := 21) rfl ?_
    refine J_icmp_eq (tgt := 38) dX8_othersIn_21 (by decide) (q := 24) rfl (fun c2 => ?_) (fun c2 => ?_)
    · rw [if_pos c2] at h
      refine J_pick [0, 1, 2, 3, 4, 5] rfl ?_
      exact tX8_othersIn_b38 ha0 ha1 h hc hr
    · rw [if_neg c2] at h
      refine J_aload_n (z := 1) dX8_othersIn_24 rfl rfl (q := 25) rfl ?_
      obtain ⟨r4, er4, h⟩ := bindS h
      refine J_getR dX8_othersIn_25 lRX8_25 ha1 rfl (by decide) er4 (q := 28) rfl (fun fr4 => ?_)
      refine J_iload (z := 5) dX8_othersIn_28 rfl (q := 30) rfl ?_
      obtain ⟨g5, h⟩ := iteS h
      refine J_iald dX8_othersIn_30 fr4 (ixB_ok g5) (q := 31) rfl ?_
      refine J_iload_n (z := 3) dX8_othersIn_31 rfl rfl (q := 32) rfl ?_
      refine J_icmp_ne (tgt := 38) dX8_othersIn_32 (by decide) (q := 35) rfl (fun c5 => ?_) (fun c5 => ?_)
      · rw [if_neg c5] at h
        refine J_pick [0, 1, 2, 3, 4, 5] rfl ?_
        exact tX8_othersIn_b38 ha0 ha1 h hc hr
      · rw [if_pos c5] at h
        refine J_iinc (z := 4) (y := (a4 + 1)) (lv' := [(4, .int (a4 + 1)), (0, .ref a0), (1, .ref a1), (2, .int a2), (3, .int a3), (5, .int a5)]) dX8_othersIn_35 rfl rfl (by decide) rfl (q := 38) rfl ?_
        refine J_pick [1, 2, 3, 4, 0, 5] rfl ?_
        exact tX8_othersIn_b38 ha0 ha1 h hc hr

def fX8_othersIn_w6 (a0 : Nat) (a1 : Nat) (a2 : Int32) (a3 : Int32) (a4 : Int32) (a5 : Int32) (σ : Mm) : Option (Int32) :=
  wh (fun a : Int32 × Int32 => fX8_othersIn_l6 a0 a1 a2 a3 a.1 a.2 σ) BIG (a4, a5)
set_option maxRecDepth 20000 in
set_option maxHeartbeats 2000000 in
theorem tX8_othersIn_w6 {X : XS} {n : Nat} {σ : Mm} {F : Nat × Option Value × Mm} {a0 : Nat} {a1 : Nat} {a2 : Int32} {a3 : Int32} {a4 : Int32} {a5 : Int32} (ha0 : RT n a0 108) (ha1 : RT n a1 106) {res : Int32} (h : fX8_othersIn_w6 a0 a1 a2 a3 a4 a5 σ = some res) (hr : ∀ (v : Int32), res = v → F = (n, some (.int v), σ)) : J X mX8_othersIn 1 0 0 F 6 [(0, .ref a0), (1, .ref a1), (2, .int a2), (3, .int a3), (4, .int a4), (5, .int a5)] [] n σ := by
  unfold fX8_othersIn_w6 at h
  refine wh_rule (P := fun a : Int32 × Int32 => J X mX8_othersIn 1 0 0 F 6 [(0, .ref a0), (1, .ref a1), (2, .int a2), (3, .int a3), (4, .int a.1), (5, .int a.2)] [] n σ) (K := fun b => b = res) ?_ _ _ _ h rfl
  intro a
  refine ⟨fun a2 hb hP => ?_, fun b hb hK => ?_⟩
  · exact tX8_othersIn_l6 ha0 ha1 hb (fun _ _ e => by cases e; exact hP) (fun _ e => by cases e)
  · subst hK
    exact tX8_othersIn_l6 ha0 ha1 hb (fun _ _ e => by cases e) (fun v0 e => hr v0 (Sum.inr.inj e))

def fX8_othersIn (a0 : Nat) (a1 : Nat) (a2 : Int32) (a3 : Int32) (σ : Mm) : Option (Int32) :=
  (fX8_othersIn_w6 a0 a1 a2 a3 0 0 σ).bind (fun o7 => some o7)
set_option maxRecDepth 20000 in
set_option maxHeartbeats 2000000 in
theorem tX8_othersIn {X : XS} {n : Nat} {σ : Mm} {a0 : Nat} {a1 : Nat} {a2 : Int32} {a3 : Int32} (ha0 : RT n a0 108) (ha1 : RT n a1 106) {res : Int32} (h : fX8_othersIn a0 a1 a2 a3 σ = some res) : MT X yX8_othersIn mX8_othersIn 1 0 0 [.ref a0, .ref a1, .int a2, .int a3] n σ (n, some (.int res), σ) := by
  unfold fX8_othersIn at h
  refine MT_of (by decide +kernel) rfl (fun h => by cases h) (Nat.le_of_ble_eq_true rfl) ?_
  show J X mX8_othersIn 1 0 0 (n, some (.int res), σ) 0 [(0, .ref a0), (1, .ref a1), (2, .int a2), (3, .int a3)] [] n σ
  refine J_iconst (x := 0) dX8_othersIn_0 (by decide) (q := 1) rfl ?_
  refine J_istore (lv' := [(4, .int 0), (0, .ref a0), (1, .ref a1), (2, .int a2), (3, .int a3)]) dX8_othersIn_1 (by decide) rfl (q := 3) rfl ?_
  refine J_iconst (x := 0) dX8_othersIn_3 (by decide) (q := 4) rfl ?_
  refine J_istore (lv' := [(5, .int 0), (4, .int 0), (0, .ref a0), (1, .ref a1), (2, .int a2), (3, .int a3)]) dX8_othersIn_4 (by decide) rfl (q := 6) rfl ?_
  obtain ⟨o7, hlo7, h⟩ := bindS h
  refine J_pick [2, 3, 4, 5, 1, 0] rfl ?_
  refine tX8_othersIn_w6 ha0 ha1 hlo7 ?_
  · intro vo7 qo7
    rw [qo7] at h
    try dsimp only [Sum.elim_inl, Sum.elim_inr] at h
    have h := Option.some.inj h
    subst h
    rfl

def fX8_breathe_b59 (a0 : Nat) (a1 : Nat) (a2 : Int32) (a3 : Int32) (a4 : Int32) (a5 : Int32) (a6 : Int32) (σ : Mm) : Option ((Int32 × Int32 × Mm) ⊕ (Int32 × Mm)) :=
  some (Sum.inl (a5, (a6 + 1), σ))
set_option maxRecDepth 20000 in
set_option maxHeartbeats 2000000 in
theorem tX8_breathe_b59 {X : XS} {n : Nat} {σ : Mm} {F : Nat × Option Value × Mm} {a0 : Nat} {a1 : Nat} {a2 : Int32} {a3 : Int32} {a4 : Int32} {a5 : Int32} {a6 : Int32} (ha0 : RT n a0 108) (ha1 : RT n a1 106) {res : (Int32 × Int32 × Mm) ⊕ (Int32 × Mm)} (h : fX8_breathe_b59 a0 a1 a2 a3 a4 a5 a6 σ = some res) (hc : ∀ (b5 : Int32) (b6 : Int32) (s : Mm), res = .inl (b5, b6, s) → J X mX8_breathe 4 0 0 F 15 [(0, .ref a0), (1, .ref a1), (2, .int a2), (3, .int a3), (4, .int a4), (5, .int b5), (6, .int b6)] [] n s) (hr : ∀ (v : Int32) (s : Mm), res = .inr (v, s) → F = (n, some (.int v), s)) : J X mX8_breathe 4 0 0 F 59 [(0, .ref a0), (1, .ref a1), (2, .int a2), (3, .int a3), (4, .int a4), (5, .int a5), (6, .int a6)] [] n σ := by
  unfold fX8_breathe_b59 at h
  refine J_iinc (z := 6) (y := (a6 + 1)) (lv' := [(6, .int (a6 + 1)), (0, .ref a0), (1, .ref a1), (2, .int a2), (3, .int a3), (4, .int a4), (5, .int a5)]) dX8_breathe_59 rfl rfl (by decide) rfl (q := 62) rfl ?_
  refine J_goto (tgt := 15) dX8_breathe_62 (by decide) ?_
  have h := Option.some.inj h
  refine J_pick [1, 2, 3, 4, 5, 6, 0] rfl ?_
  exact hc _ _ _ h.symm

def fX8_breathe_l15 (a0 : Nat) (a1 : Nat) (a2 : Int32) (a3 : Int32) (a4 : Int32) (a5 : Int32) (a6 : Int32) (σ : Mm) : Option ((Int32 × Int32 × Mm) ⊕ (Int32 × Mm)) :=
  (gR σ a0 0).bind fun r2 => if (gI σ r2 4) ≤ a6 then some (Sum.inr (a5, σ)) else (gR σ a1 0).bind fun r4 => if ixB a6 (ln r4) = true then if (gI σ r4 (Int32.toNatClampNeg a6)) ≤ 0 then fX8_breathe_b59 a0 a1 a2 a3 a4 a5 a6 σ else bnd2 (fX8_meltBy a0 a1 a2 a6 a3 a4 σ) fun vk7 sk7 => bnd2 (fX6_lose a1 a6 vk7 sk7) fun vk8 sk8 => fX8_breathe_b59 a0 a1 a2 a3 a4 (a5 + vk8) a6 sk8 else none
set_option maxRecDepth 20000 in
set_option maxHeartbeats 2000000 in
theorem tX8_breathe_l15 {X : XS} {n : Nat} {σ : Mm} {F : Nat × Option Value × Mm} {a0 : Nat} {a1 : Nat} {a2 : Int32} {a3 : Int32} {a4 : Int32} {a5 : Int32} {a6 : Int32} (ha0 : RT n a0 108) (ha1 : RT n a1 106) {res : (Int32 × Int32 × Mm) ⊕ (Int32 × Mm)} (h : fX8_breathe_l15 a0 a1 a2 a3 a4 a5 a6 σ = some res) (hc : ∀ (b5 : Int32) (b6 : Int32) (s : Mm), res = .inl (b5, b6, s) → J X mX8_breathe 4 0 0 F 15 [(0, .ref a0), (1, .ref a1), (2, .int a2), (3, .int a3), (4, .int a4), (5, .int b5), (6, .int b6)] [] n s) (hr : ∀ (v : Int32) (s : Mm), res = .inr (v, s) → F = (n, some (.int v), s)) : J X mX8_breathe 4 0 0 F 15 [(0, .ref a0), (1, .ref a1), (2, .int a2), (3, .int a3), (4, .int a4), (5, .int a5), (6, .int a6)] [] n σ := by
  unfold fX8_breathe_l15 at h
  refine J_iload (z := 6) dX8_breathe_15 rfl (q := 17) rfl ?_
  refine J_aload_n (z := 0) dX8_breathe_17 rfl rfl (q := 18) rfl ?_
  obtain ⟨r2, er2, h⟩ := bindS h
  refine J_getR dX8_breathe_18 lRX8_15 ha0 rfl (by decide) er2 (q := 21) rfl (fun fr2 => ?_)
  refine J_getI dX8_breathe_21 lRX8_76 fr2 rfl (q := 24) rfl ?_
  refine J_icmp_ge (tgt := 65) dX8_breathe_24 (by decide) (q := 27) rfl (fun c2 => ?_) (fun c2 => ?_)
  · rw [if_pos c2] at h
    refine J_iload (z := 5) dX8_breathe_65 rfl (q := 67) rfl ?_
    have h := Option.some.inj h
    exact J_ireturn dX8_breathe_67 rfl rfl (hr _ _ h.symm)
  · rw [if_neg c2] at h
    refine J_aload_n (z := 1) dX8_breathe_27 rfl rfl (q := 28) rfl ?_
    obtain ⟨r4, er4, h⟩ := bindS h
    refine J_getR dX8_breathe_28 lRX8_52 ha1 rfl (by decide) er4 (q := 31) rfl (fun fr4 => ?_)
    refine J_iload (z := 6) dX8_breathe_31 rfl (q := 33) rfl ?_
    obtain ⟨g5, h⟩ := iteS h
    refine J_iald dX8_breathe_33 fr4 (ixB_ok g5) (q := 34) rfl ?_
    refine J_if_le (tgt := 59) dX8_breathe_34 (by decide) (q := 37) rfl (fun c5 => ?_) (fun c5 => ?_)
    · rw [if_pos c5] at h
      refine J_pick [0, 1, 2, 3, 4, 5, 6] rfl ?_
      exact tX8_breathe_b59 ha0 ha1 h hc hr
    · rw [if_neg c5] at h
      refine J_iload (z := 5) dX8_breathe_37 rfl (q := 39) rfl ?_
      refine J_aload_n (z := 1) dX8_breathe_39 rfl rfl (q := 40) rfl ?_
      refine J_iload (z := 6) dX8_breathe_40 rfl (q := 42) rfl ?_
      refine J_aload_n (z := 0) dX8_breathe_42 rfl rfl (q := 43) rfl ?_
      refine J_aload_n (z := 1) dX8_breathe_43 rfl rfl (q := 44) rfl ?_
      refine J_iload_n (z := 2) dX8_breathe_44 rfl rfl (q := 45) rfl ?_
      refine J_iload (z := 6) dX8_breathe_45 rfl (q := 47) rfl ?_
      refine J_iload_n (z := 3) dX8_breathe_47 rfl rfl (q := 48) rfl ?_
      refine J_iload (z := 4) dX8_breathe_48 rfl (q := 50) rfl ?_
      obtain ⟨vk7, sk7, hk7, h⟩ := bnd2S h
      refine J_cVi (as := [.ref a1, .int a2, .int a6, .int a3, .int a4]) dX8_breathe_50 mRX8_79 ha0 (tX8_meltBy ha0 ha1 hk7) rfl (Nat.le_of_ble_eq_true rfl) (Nat.le_of_ble_eq_true rfl) (Nat.le_of_ble_eq_true rfl) (q := 53) rfl ?_
      intro bk7
      obtain ⟨vk8, sk8, hk8, h⟩ := bnd2S h
      refine J_cVi (as := [.int a6, .int vk7]) dX8_breathe_53 mRX8_83 ha1 (tX6_lose ha1 hk8) rfl (Nat.le_of_ble_eq_true rfl) (Nat.le_of_ble_eq_true rfl) (Nat.le_of_ble_eq_true rfl) (q := 56) rfl ?_
      intro bk8
      refine J_iadd dX8_breathe_56  (q := 57) rfl ?_
      refine J_istore (lv' := [(5, .int (a5 + vk8)), (0, .ref a0), (1, .ref a1), (2, .int a2), (3, .int a3), (4, .int a4), (6, .int a6)]) dX8_breathe_57 (by decide) rfl (q := 59) rfl ?_
      refine J_pick [1, 2, 3, 4, 5, 0, 6] rfl ?_
      exact tX8_breathe_b59 ha0 ha1 h hc hr

def fX8_breathe_w15 (a0 : Nat) (a1 : Nat) (a2 : Int32) (a3 : Int32) (a4 : Int32) (a5 : Int32) (a6 : Int32) (σ : Mm) : Option (Int32 × Mm) :=
  wh (fun a : Int32 × Int32 × Mm => fX8_breathe_l15 a0 a1 a2 a3 a4 a.1 a.2.1 a.2.2) BIG (a5, a6, σ)
set_option maxRecDepth 20000 in
set_option maxHeartbeats 2000000 in
theorem tX8_breathe_w15 {X : XS} {n : Nat} {σ : Mm} {F : Nat × Option Value × Mm} {a0 : Nat} {a1 : Nat} {a2 : Int32} {a3 : Int32} {a4 : Int32} {a5 : Int32} {a6 : Int32} (ha0 : RT n a0 108) (ha1 : RT n a1 106) {res : Int32 × Mm} (h : fX8_breathe_w15 a0 a1 a2 a3 a4 a5 a6 σ = some res) (hr : ∀ (v : Int32) (s : Mm), res = (v, s) → F = (n, some (.int v), s)) : J X mX8_breathe 4 0 0 F 15 [(0, .ref a0), (1, .ref a1), (2, .int a2), (3, .int a3), (4, .int a4), (5, .int a5), (6, .int a6)] [] n σ := by
  unfold fX8_breathe_w15 at h
  refine wh_rule (P := fun a : Int32 × Int32 × Mm => J X mX8_breathe 4 0 0 F 15 [(0, .ref a0), (1, .ref a1), (2, .int a2), (3, .int a3), (4, .int a4), (5, .int a.1), (6, .int a.2.1)] [] n a.2.2) (K := fun b => b = res) ?_ _ _ _ h rfl
  intro a
  refine ⟨fun a2 hb hP => ?_, fun b hb hK => ?_⟩
  · exact tX8_breathe_l15 ha0 ha1 hb (fun _ _ _ e => by cases e; exact hP) (fun _ _ e => by cases e)
  · subst hK
    exact tX8_breathe_l15 ha0 ha1 hb (fun _ _ _ e => by cases e) (fun v0 v1 e => hr v0 v1 (Sum.inr.inj e))

def fX8_breathe (a0 : Nat) (a1 : Nat) (a2 : Int32) (a3 : Int32) (σ : Mm) : Option (Int32 × Mm) :=
  (fX8_othersIn a0 a1 a2 a3 σ).bind fun vk1 => (fX8_breathe_w15 a0 a1 a2 a3 vk1 0 0 σ).bind (fun o9 => some o9)
set_option maxRecDepth 20000 in
set_option maxHeartbeats 2000000 in
theorem tX8_breathe {X : XS} {n : Nat} {σ : Mm} {a0 : Nat} {a1 : Nat} {a2 : Int32} {a3 : Int32} (ha0 : RT n a0 108) (ha1 : RT n a1 106) {res : Int32 × Mm} (h : fX8_breathe a0 a1 a2 a3 σ = some res) : MT X yX8_breathe mX8_breathe 4 0 0 [.ref a0, .ref a1, .int a2, .int a3] n σ (n, some (.int res.1), res.2) := by
  unfold fX8_breathe at h
  refine MT_of (by decide +kernel) rfl (fun h => by cases h) (Nat.le_of_ble_eq_true rfl) ?_
  show J X mX8_breathe 4 0 0 (n, some (.int res.1), res.2) 0 [(0, .ref a0), (1, .ref a1), (2, .int a2), (3, .int a3)] [] n σ
  refine J_aload_n (z := 0) dX8_breathe_0 rfl rfl (q := 1) rfl ?_
  refine J_aload_n (z := 1) dX8_breathe_1 rfl rfl (q := 2) rfl ?_
  refine J_iload_n (z := 2) dX8_breathe_2 rfl rfl (q := 3) rfl ?_
  refine J_iload_n (z := 3) dX8_breathe_3 rfl rfl (q := 4) rfl ?_
  obtain ⟨vk1, hk1, h⟩ := bindS h
  refine J_cVi (as := [.ref a1, .int a2, .int a3]) dX8_breathe_4 mRX8_72 ha0 (tX8_othersIn ha0 ha1 hk1) rfl (Nat.le_of_ble_eq_true rfl) (Nat.le_of_ble_eq_true rfl) (Nat.le_of_ble_eq_true rfl) (q := 7) rfl ?_
  intro bk1
  refine J_istore (lv' := [(4, .int vk1), (0, .ref a0), (1, .ref a1), (2, .int a2), (3, .int a3)]) dX8_breathe_7 (by decide) rfl (q := 9) rfl ?_
  refine J_iconst (x := 0) dX8_breathe_9 (by decide) (q := 10) rfl ?_
  refine J_istore (lv' := [(5, .int 0), (4, .int vk1), (0, .ref a0), (1, .ref a1), (2, .int a2), (3, .int a3)]) dX8_breathe_10 (by decide) rfl (q := 12) rfl ?_
  refine J_iconst (x := 0) dX8_breathe_12 (by decide) (q := 13) rfl ?_
  refine J_istore (lv' := [(6, .int 0), (5, .int 0), (4, .int vk1), (0, .ref a0), (1, .ref a1), (2, .int a2), (3, .int a3)]) dX8_breathe_13 (by decide) rfl (q := 15) rfl ?_
  obtain ⟨o9, hlo9, h⟩ := bindS h
  refine J_pick [3, 4, 5, 6, 2, 1, 0] rfl ?_
  refine tX8_breathe_w15 ha0 ha1 hlo9 ?_
  · intro vo9 so9 qo9
    rw [qo9] at h
    try dsimp only [Sum.elim_inl, Sum.elim_inr] at h
    have h := Option.some.inj h
    subst h
    rfl

def fX1_april (a0 : Nat) (σ : Mm) : Option (Int32) :=
  (gR σ a0 1).bind fun r1 => if ixB 4 (ln r1) = true then some (gI σ r1 (Int32.toNatClampNeg 4)) else none
set_option maxRecDepth 20000 in
set_option maxHeartbeats 2000000 in
theorem tX1_april {X : XS} {n : Nat} {σ : Mm} {a0 : Nat} (ha0 : RT n a0 101) {res : Int32} (h : fX1_april a0 σ = some res) : MT X yX1_april mX1_april 1 0 0 [.ref a0] n σ (n, some (.int res), σ) := by
  unfold fX1_april at h
  refine MT_of (by decide +kernel) rfl (fun h => by cases h) (Nat.le_of_ble_eq_true rfl) ?_
  show J X mX1_april 1 0 0 (n, some (.int res), σ) 0 [(0, .ref a0)] [] n σ
  refine J_aload_n (z := 0) dX1_april_0 rfl rfl (q := 1) rfl ?_
  obtain ⟨r1, er1, h⟩ := bindS h
  refine J_getR dX1_april_1 lRX1_9 ha0 rfl (by decide) er1 (q := 4) rfl (fun fr1 => ?_)
  refine J_iconst (x := 4) dX1_april_4 (by decide) (q := 5) rfl ?_
  obtain ⟨g2, h⟩ := iteS h
  refine J_iald dX1_april_5 fr1 (ixB_ok g2) (q := 6) rfl ?_
  have h := Option.some.inj h
  subst h
  exact J_ireturn dX1_april_6 rfl rfl rfl

def fX1_coldFall (a0 : Nat) (σ : Mm) : Option (Int32) :=
  (gR σ a0 1).bind fun r1 => if ixB 3 (ln r1) = true then some (gI σ r1 (Int32.toNatClampNeg 3)) else none
set_option maxRecDepth 20000 in
set_option maxHeartbeats 2000000 in
theorem tX1_coldFall {X : XS} {n : Nat} {σ : Mm} {a0 : Nat} (ha0 : RT n a0 101) {res : Int32} (h : fX1_coldFall a0 σ = some res) : MT X yX1_coldFall mX1_coldFall 1 0 0 [.ref a0] n σ (n, some (.int res), σ) := by
  unfold fX1_coldFall at h
  refine MT_of (by decide +kernel) rfl (fun h => by cases h) (Nat.le_of_ble_eq_true rfl) ?_
  show J X mX1_coldFall 1 0 0 (n, some (.int res), σ) 0 [(0, .ref a0)] [] n σ
  refine J_aload_n (z := 0) dX1_coldFall_0 rfl rfl (q := 1) rfl ?_
  obtain ⟨r1, er1, h⟩ := bindS h
  refine J_getR dX1_coldFall_1 lRX1_9 ha0 rfl (by decide) er1 (q := 4) rfl (fun fr1 => ?_)
  refine J_iconst (x := 3) dX1_coldFall_4 (by decide) (q := 5) rfl ?_
  obtain ⟨g2, h⟩ := iteS h
  refine J_iald dX1_coldFall_5 fr1 (ixB_ok g2) (q := 6) rfl ?_
  have h := Option.some.inj h
  subst h
  exact J_ireturn dX1_coldFall_6 rfl rfl rfl

def fX8_fallNight_l62 (a0 : Nat) (a1 : Nat) (a2 : Int32) (a3 : Int32) (σ : Mm) : Option ((Int32 × Int32 × Mm) ⊕ (Int32 × Mm)) :=
  (gR σ a0 0).bind fun r4 => if (gI σ r4 4) ≤ a3 then some (Sum.inr (a2, σ)) else bnd2 (fX6_lose a1 a3 1 σ) fun vk6 sk6 => some (Sum.inl ((a2 + vk6), (a3 + 1), sk6))
set_option maxRecDepth 20000 in
set_option maxHeartbeats 2000000 in
theorem tX8_fallNight_l62 {X : XS} {n : Nat} {σ : Mm} {F : Nat × Option Value × Mm} {a0 : Nat} {a1 : Nat} {a2 : Int32} {a3 : Int32} (ha0 : RT n a0 108) (ha1 : RT n a1 106) {res : (Int32 × Int32 × Mm) ⊕ (Int32 × Mm)} (h : fX8_fallNight_l62 a0 a1 a2 a3 σ = some res) (hc : ∀ (b2 : Int32) (b3 : Int32) (s : Mm), res = .inl (b2, b3, s) → J X mX8_fallNight 2 0 0 F 62 [(0, .ref a0), (1, .ref a1), (2, .int b2), (3, .int b3)] [] n s) (hr : ∀ (v : Int32) (s : Mm), res = .inr (v, s) → F = (n, some (.int v), s)) : J X mX8_fallNight 2 0 0 F 62 [(0, .ref a0), (1, .ref a1), (2, .int a2), (3, .int a3)] [] n σ := by
  unfold fX8_fallNight_l62 at h
  refine J_iload_n (z := 3) dX8_fallNight_62 rfl rfl (q := 63) rfl ?_
  refine J_aload_n (z := 0) dX8_fallNight_63 rfl rfl (q := 64) rfl ?_
  obtain ⟨r4, er4, h⟩ := bindS h
  refine J_getR dX8_fallNight_64 lRX8_15 ha0 rfl (by decide) er4 (q := 67) rfl (fun fr4 => ?_)
  refine J_getI dX8_fallNight_67 lRX8_76 fr4 rfl (q := 70) rfl ?_
  refine J_icmp_ge (tgt := 88) dX8_fallNight_70 (by decide) (q := 73) rfl (fun c4 => ?_) (fun c4 => ?_)
  · rw [if_pos c4] at h
    refine J_iload_n (z := 2) dX8_fallNight_88 rfl rfl (q := 89) rfl ?_
    have h := Option.some.inj h
    exact J_ireturn dX8_fallNight_89 rfl rfl (hr _ _ h.symm)
  · rw [if_neg c4] at h
    refine J_iload_n (z := 2) dX8_fallNight_73 rfl rfl (q := 74) rfl ?_
    refine J_aload_n (z := 1) dX8_fallNight_74 rfl rfl (q := 75) rfl ?_
    refine J_iload_n (z := 3) dX8_fallNight_75 rfl rfl (q := 76) rfl ?_
    refine J_iconst (x := 1) dX8_fallNight_76 (by decide) (q := 77) rfl ?_
    obtain ⟨vk6, sk6, hk6, h⟩ := bnd2S h
    refine J_cVi (as := [.int a3, .int 1]) dX8_fallNight_77 mRX8_83 ha1 (tX6_lose ha1 hk6) rfl (Nat.le_of_ble_eq_true rfl) (Nat.le_of_ble_eq_true rfl) (Nat.le_of_ble_eq_true rfl) (q := 80) rfl ?_
    intro bk6
    refine J_iadd dX8_fallNight_80  (q := 81) rfl ?_
    refine J_istore_n (lv' := [(2, .int (a2 + vk6)), (0, .ref a0), (1, .ref a1), (3, .int a3)]) dX8_fallNight_81 rfl (by decide) rfl (q := 82) rfl ?_
    refine J_iinc (z := 3) (y := (a3 + 1)) (lv' := [(3, .int (a3 + 1)), (2, .int (a2 + vk6)), (0, .ref a0), (1, .ref a1)]) dX8_fallNight_82 rfl rfl (by decide) rfl (q := 85) rfl ?_
    refine J_goto (tgt := 62) dX8_fallNight_85 (by decide) ?_
    have h := Option.some.inj h
    refine J_pick [2, 3, 1, 0] rfl ?_
    exact hc _ _ _ h.symm

def fX8_fallNight_w62 (a0 : Nat) (a1 : Nat) (a2 : Int32) (a3 : Int32) (σ : Mm) : Option (Int32 × Mm) :=
  wh (fun a : Int32 × Int32 × Mm => fX8_fallNight_l62 a0 a1 a.1 a.2.1 a.2.2) BIG (a2, a3, σ)
set_option maxRecDepth 20000 in
set_option maxHeartbeats 2000000 in
theorem tX8_fallNight_w62 {X : XS} {n : Nat} {σ : Mm} {F : Nat × Option Value × Mm} {a0 : Nat} {a1 : Nat} {a2 : Int32} {a3 : Int32} (ha0 : RT n a0 108) (ha1 : RT n a1 106) {res : Int32 × Mm} (h : fX8_fallNight_w62 a0 a1 a2 a3 σ = some res) (hr : ∀ (v : Int32) (s : Mm), res = (v, s) → F = (n, some (.int v), s)) : J X mX8_fallNight 2 0 0 F 62 [(0, .ref a0), (1, .ref a1), (2, .int a2), (3, .int a3)] [] n σ := by
  unfold fX8_fallNight_w62 at h
  refine wh_rule (P := fun a : Int32 × Int32 × Mm => J X mX8_fallNight 2 0 0 F 62 [(0, .ref a0), (1, .ref a1), (2, .int a.1), (3, .int a.2.1)] [] n a.2.2) (K := fun b => b = res) ?_ _ _ _ h rfl
  intro a
  refine ⟨fun a2 hb hP => ?_, fun b hb hK => ?_⟩
  · exact tX8_fallNight_l62 ha0 ha1 hb (fun _ _ _ e => by cases e; exact hP) (fun _ _ e => by cases e)
  · subst hK
    exact tX8_fallNight_l62 ha0 ha1 hb (fun _ _ _ e => by cases e) (fun v0 v1 e => hr v0 v1 (Sum.inr.inj e))

def fX8_fallNight_b58 (a0 : Nat) (a1 : Nat) (σ : Mm) : Option (Int32 × Mm) :=
  (fX8_fallNight_w62 a0 a1 0 0 σ).bind (fun o7 => some o7)
set_option maxRecDepth 20000 in
set_option maxHeartbeats 2000000 in
theorem tX8_fallNight_b58 {X : XS} {n : Nat} {σ : Mm} {a0 : Nat} {a1 : Nat} (ha0 : RT n a0 108) (ha1 : RT n a1 106) {res : Int32 × Mm} (h : fX8_fallNight_b58 a0 a1 σ = some res) : J X mX8_fallNight 2 0 0 (n, some (.int res.1), res.2) 58 [(0, .ref a0), (1, .ref a1)] [] n σ := by
  unfold fX8_fallNight_b58 at h
  refine J_iconst (x := 0) dX8_fallNight_58 (by decide) (q := 59) rfl ?_
  refine J_istore_n (lv' := [(2, .int 0), (0, .ref a0), (1, .ref a1)]) dX8_fallNight_59 rfl (by decide) rfl (q := 60) rfl ?_
  refine J_iconst (x := 0) dX8_fallNight_60 (by decide) (q := 61) rfl ?_
  refine J_istore_n (lv' := [(3, .int 0), (2, .int 0), (0, .ref a0), (1, .ref a1)]) dX8_fallNight_61 rfl (by decide) rfl (q := 62) rfl ?_
  obtain ⟨o7, hlo7, h⟩ := bindS h
  refine J_pick [2, 3, 1, 0] rfl ?_
  refine tX8_fallNight_w62 ha0 ha1 hlo7 ?_
  · intro vo7 so7 qo7
    rw [qo7] at h
    try dsimp only [Sum.elim_inl, Sum.elim_inr] at h
    have h := Option.some.inj h
    subst h
    rfl

def fX8_fallNight (a0 : Nat) (a1 : Nat) (σ : Mm) : Option (Int32 × Mm) :=
  (gR σ a0 0).bind fun r1 => (fX1_coldFall r1 (sI σ a1 6 ((gI σ a1 6) + 1))).bind fun vk2 => if (gI (sI (sI (sI σ a1 6 ((gI σ a1 6) + 1)) a1 5 (maxI 0 ((gI (sI σ a1 6 ((gI σ a1 6) + 1)) a1 5) - vk2))) a1 4 0) a1 5) ≤ 0 then fX8_fallNight_b58 a0 a1 (sI (sI (sI σ a1 6 ((gI σ a1 6) + 1)) a1 5 (maxI 0 ((gI (sI σ a1 6 ((gI σ a1 6) + 1)) a1 5) - vk2))) a1 4 0) else (fX1_april r1 (sI (sI (sI σ a1 6 ((gI σ a1 6) + 1)) a1 5 (maxI 0 ((gI (sI σ a1 6 ((gI σ a1 6) + 1)) a1 5) - vk2))) a1 4 0)).bind fun vk8 => if vk8 ≤ (gI (sI (sI (sI σ a1 6 ((gI σ a1 6) + 1)) a1 5 (maxI 0 ((gI (sI σ a1 6 ((gI σ a1 6) + 1)) a1 5) - vk2))) a1 4 0) a1 6) then fX8_fallNight_b58 a0 a1 (sI (sI (sI σ a1 6 ((gI σ a1 6) + 1)) a1 5 (maxI 0 ((gI (sI σ a1 6 ((gI σ a1 6) + 1)) a1 5) - vk2))) a1 4 0) else some (0, (sI (sI (sI σ a1 6 ((gI σ a1 6) + 1)) a1 5 (maxI 0 ((gI (sI σ a1 6 ((gI σ a1 6) + 1)) a1 5) - vk2))) a1 4 0))
set_option maxRecDepth 20000 in
set_option maxHeartbeats 2000000 in
theorem tX8_fallNight {X : XS} {n : Nat} {σ : Mm} {a0 : Nat} {a1 : Nat} (ha0 : RT n a0 108) (ha1 : RT n a1 106) {res : Int32 × Mm} (h : fX8_fallNight a0 a1 σ = some res) : MT X yX8_fallNight mX8_fallNight 2 0 0 [.ref a0, .ref a1] n σ (n, some (.int res.1), res.2) := by
  unfold fX8_fallNight at h
  refine MT_of (by decide +kernel) rfl (fun h => by cases h) (Nat.le_of_ble_eq_true rfl) ?_
  show J X mX8_fallNight 2 0 0 (n, some (.int res.1), res.2) 0 [(0, .ref a0), (1, .ref a1)] [] n σ
  refine J_aload_n (z := 1) dX8_fallNight_0 rfl rfl (q := 1) rfl ?_
  refine J_dup dX8_fallNight_1 rfl (q := 2) rfl ?_
  refine J_getI dX8_fallNight_2 lRX8_55 ha1 rfl (q := 5) rfl ?_
  refine J_iconst (x := 1) dX8_fallNight_5 (by decide) (q := 6) rfl ?_
  refine J_iadd dX8_fallNight_6  (q := 7) rfl ?_
  refine J_putI dX8_fallNight_7 lRX8_55 (fun h => by cases h) ha1 rfl (q := 10) rfl ?_
  refine J_aload_n (z := 1) dX8_fallNight_10 rfl rfl (q := 11) rfl ?_
  refine J_iconst (x := 0) dX8_fallNight_11 (by decide) (q := 12) rfl ?_
  refine J_aload_n (z := 1) dX8_fallNight_12 rfl rfl (q := 13) rfl ?_
  refine J_getI dX8_fallNight_13 lRX8_45 ha1 rfl (q := 16) rfl ?_
  refine J_aload_n (z := 0) dX8_fallNight_16 rfl rfl (q := 17) rfl ?_
  obtain ⟨r1, er1, h⟩ := bindS h
  refine J_getR dX8_fallNight_17 lRX8_15 ha0 rfl (by decide) er1 (q := 20) rfl (fun fr1 => ?_)
  obtain ⟨vk2, hk2, h⟩ := bindS h
  refine J_cVi (as := []) dX8_fallNight_20 mRX8_134 fr1 (tX1_coldFall fr1 hk2) rfl (Nat.le_of_ble_eq_true rfl) (Nat.le_of_ble_eq_true rfl) (Nat.le_of_ble_eq_true rfl) (q := 23) rfl ?_
  intro bk2
  refine J_isub dX8_fallNight_23  (q := 24) rfl ?_
  refine J_mmax dX8_fallNight_24 pRX8_69 q_static_mmax q_init_math q_code_mmax (Nat.le_of_ble_eq_true rfl) (Nat.le_of_ble_eq_true rfl) (q := 27) rfl ?_
  refine J_putI dX8_fallNight_27 lRX8_45 (fun h => by cases h) ha1 rfl (q := 30) rfl ?_
  refine J_aload_n (z := 1) dX8_fallNight_30 rfl rfl (q := 31) rfl ?_
  refine J_iconst (x := 0) dX8_fallNight_31 (by decide) (q := 32) rfl ?_
  refine J_putI dX8_fallNight_32 lRX8_117 (fun h => by cases h) ha1 rfl (q := 35) rfl ?_
  refine J_aload_n (z := 1) dX8_fallNight_35 rfl rfl (q := 36) rfl ?_
  refine J_getI dX8_fallNight_36 lRX8_45 ha1 rfl (q := 39) rfl ?_
  refine J_if_le (tgt := 58) dX8_fallNight_39 (by decide) (q := 42) rfl (fun c2 => ?_) (fun c2 => ?_)
  · rw [if_pos c2] at h
    refine J_pick [0, 1] rfl ?_
    exact tX8_fallNight_b58 ha0 ha1 h
  · rw [if_neg c2] at h
    refine J_aload_n (z := 1) dX8_fallNight_42 rfl rfl (q := 43) rfl ?_
    refine J_getI dX8_fallNight_43 lRX8_55 ha1 rfl (q := 46) rfl ?_
    refine J_aload_n (z := 0) dX8_fallNight_46 rfl rfl (q := 47) rfl ?_
    refine J_getR dX8_fallNight_47 lRX8_15 ha0 rfl (by decide) er1 (q := 50) rfl (fun _ => ?_)
    obtain ⟨vk8, hk8, h⟩ := bindS h
    refine J_cVi (as := []) dX8_fallNight_50 mRX8_138 fr1 (tX1_april fr1 hk8) rfl (Nat.le_of_ble_eq_true rfl) (Nat.le_of_ble_eq_true rfl) (Nat.le_of_ble_eq_true rfl) (q := 53) rfl ?_
    intro bk8
    refine J_icmp_ge (tgt := 58) dX8_fallNight_53 (by decide) (q := 56) rfl (fun c8 => ?_) (fun c8 => ?_)
    · rw [if_pos c8] at h
      refine J_pick [0, 1] rfl ?_
      exact tX8_fallNight_b58 ha0 ha1 h
    · rw [if_neg c8] at h
      refine J_iconst (x := 0) dX8_fallNight_56 (by decide) (q := 57) rfl ?_
      have h := Option.some.inj h
      subst h
      exact J_ireturn dX8_fallNight_57 rfl rfl rfl

def fX8_nibble_b40 (a0 : Nat) (a1 : Nat) (a2 : Int32) (a3 : Int32) (a4 : Int32) (σ : Mm) : Option ((Int32 × Int32 × Mm) ⊕ (Int32 × Mm)) :=
  some (Sum.inl (a3, (a4 + 1), σ))
set_option maxRecDepth 20000 in
set_option maxHeartbeats 2000000 in
theorem tX8_nibble_b40 {X : XS} {n : Nat} {σ : Mm} {F : Nat × Option Value × Mm} {a0 : Nat} {a1 : Nat} {a2 : Int32} {a3 : Int32} {a4 : Int32} (ha0 : RT n a0 108) (ha1 : RT n a1 106) {res : (Int32 × Int32 × Mm) ⊕ (Int32 × Mm)} (h : fX8_nibble_b40 a0 a1 a2 a3 a4 σ = some res) (hc : ∀ (b3 : Int32) (b4 : Int32) (s : Mm), res = .inl (b3, b4, s) → J X mX8_nibble 3 0 0 F 5 [(0, .ref a0), (1, .ref a1), (2, .int a2), (3, .int b3), (4, .int b4)] [] n s) (hr : ∀ (v : Int32) (s : Mm), res = .inr (v, s) → F = (n, some (.int v), s)) : J X mX8_nibble 3 0 0 F 40 [(0, .ref a0), (1, .ref a1), (2, .int a2), (3, .int a3), (4, .int a4)] [] n σ := by
  unfold fX8_nibble_b40 at h
  refine J_iinc (z := 4) (y := (a4 + 1)) (lv' := [(4, .int (a4 + 1)), (0, .ref a0), (1, .ref a1), (2, .int a2), (3, .int a3)]) dX8_nibble_40 rfl rfl (by decide) rfl (q := 43) rfl ?_
  refine J_goto (tgt := 5) dX8_nibble_43 (by decide) ?_
  have h := Option.some.inj h
  refine J_pick [1, 2, 3, 4, 0] rfl ?_
  exact hc _ _ _ h.symm

def fX8_nibble_l5 (a0 : Nat) (a1 : Nat) (a2 : Int32) (a3 : Int32) (a4 : Int32) (σ : Mm) : Option ((Int32 × Int32 × Mm) ⊕ (Int32 × Mm)) :=
  (gR σ a0 0).bind fun r1 => if (gI σ r1 4) ≤ a4 then some (Sum.inr (a3, σ)) else (fX1_pageCell r1 a4 σ).bind fun vk3 => if vk3 = a2 then bnd2 (fX6_lose a1 a4 3 σ) fun vk5 sk5 => fX8_nibble_b40 a0 a1 a2 (a3 + vk5) a4 sk5 else fX8_nibble_b40 a0 a1 a2 a3 a4 σ
set_option maxRecDepth 20000 in
set_option maxHeartbeats 2000000 in
theorem tX8_nibble_l5 {X : XS} {n : Nat} {σ : Mm} {F : Nat × Option Value × Mm} {a0 : Nat} {a1 : Nat} {a2 : Int32} {a3 : Int32} {a4 : Int32} (ha0 : RT n a0 108) (ha1 : RT n a1 106) {res : (Int32 × Int32 × Mm) ⊕ (Int32 × Mm)} (h : fX8_nibble_l5 a0 a1 a2 a3 a4 σ = some res) (hc : ∀ (b3 : Int32) (b4 : Int32) (s : Mm), res = .inl (b3, b4, s) → J X mX8_nibble 3 0 0 F 5 [(0, .ref a0), (1, .ref a1), (2, .int a2), (3, .int b3), (4, .int b4)] [] n s) (hr : ∀ (v : Int32) (s : Mm), res = .inr (v, s) → F = (n, some (.int v), s)) : J X mX8_nibble 3 0 0 F 5 [(0, .ref a0), (1, .ref a1), (2, .int a2), (3, .int a3), (4, .int a4)] [] n σ := by
  unfold fX8_nibble_l5 at h
  refine J_iload (z := 4) dX8_nibble_5 rfl (q := 7) rfl ?_
  refine J_aload_n (z := 0) dX8_nibble_7 rfl rfl (q := 8) rfl ?_
  obtain ⟨r1, er1, h⟩ := bindS h
  refine J_getR dX8_nibble_8 lRX8_15 ha0 rfl (by decide) er1 (q := 11) rfl (fun fr1 => ?_)
  refine J_getI dX8_nibble_11 lRX8_76 fr1 rfl (q := 14) rfl ?_
  refine J_icmp_ge (tgt := 46) dX8_nibble_14 (by decide) (q := 17) rfl (fun c1 => ?_) (fun c1 => ?_)
  · rw [if_pos c1] at h
    refine J_iload_n (z := 3) dX8_nibble_46 rfl rfl (q := 47) rfl ?_
    have h := Option.some.inj h
    exact J_ireturn dX8_nibble_47 rfl rfl (hr _ _ h.symm)
  · rw [if_neg c1] at h
    refine J_aload_n (z := 0) dX8_nibble_17 rfl rfl (q := 18) rfl ?_
    refine J_getR dX8_nibble_18 lRX8_15 ha0 rfl (by decide) er1 (q := 21) rfl (fun _ => ?_)
    refine J_iload (z := 4) dX8_nibble_21 rfl (q := 23) rfl ?_
    obtain ⟨vk3, hk3, h⟩ := bindS h
    refine J_cVi (as := [.int a4]) dX8_nibble_23 mRX8_30 fr1 (tX1_pageCell fr1 hk3) rfl (Nat.le_of_ble_eq_true rfl) (Nat.le_of_ble_eq_true rfl) (Nat.le_of_ble_eq_true rfl) (q := 26) rfl ?_
    intro bk3
    refine J_iload_n (z := 2) dX8_nibble_26 rfl rfl (q := 27) rfl ?_
    refine J_icmp_ne (tgt := 40) dX8_nibble_27 (by decide) (q := 30) rfl (fun c3 => ?_) (fun c3 => ?_)
    · rw [if_neg c3] at h
      refine J_pick [0, 1, 2, 3, 4] rfl ?_
      exact tX8_nibble_b40 ha0 ha1 h hc hr
    · rw [if_pos c3] at h
      refine J_iload_n (z := 3) dX8_nibble_30 rfl rfl (q := 31) rfl ?_
      refine J_aload_n (z := 1) dX8_nibble_31 rfl rfl (q := 32) rfl ?_
      refine J_iload (z := 4) dX8_nibble_32 rfl (q := 34) rfl ?_
      refine J_iconst (x := 3) dX8_nibble_34 (by decide) (q := 35) rfl ?_
      obtain ⟨vk5, sk5, hk5, h⟩ := bnd2S h
      refine J_cVi (as := [.int a4, .int 3]) dX8_nibble_35 mRX8_83 ha1 (tX6_lose ha1 hk5) rfl (Nat.le_of_ble_eq_true rfl) (Nat.le_of_ble_eq_true rfl) (Nat.le_of_ble_eq_true rfl) (q := 38) rfl ?_
      intro bk5
      refine J_iadd dX8_nibble_38  (q := 39) rfl ?_
      refine J_istore_n (lv' := [(3, .int (a3 + vk5)), (0, .ref a0), (1, .ref a1), (2, .int a2), (4, .int a4)]) dX8_nibble_39 rfl (by decide) rfl (q := 40) rfl ?_
      refine J_pick [1, 2, 3, 0, 4] rfl ?_
      exact tX8_nibble_b40 ha0 ha1 h hc hr

def fX8_nibble_w5 (a0 : Nat) (a1 : Nat) (a2 : Int32) (a3 : Int32) (a4 : Int32) (σ : Mm) : Option (Int32 × Mm) :=
  wh (fun a : Int32 × Int32 × Mm => fX8_nibble_l5 a0 a1 a2 a.1 a.2.1 a.2.2) BIG (a3, a4, σ)
set_option maxRecDepth 20000 in
set_option maxHeartbeats 2000000 in
theorem tX8_nibble_w5 {X : XS} {n : Nat} {σ : Mm} {F : Nat × Option Value × Mm} {a0 : Nat} {a1 : Nat} {a2 : Int32} {a3 : Int32} {a4 : Int32} (ha0 : RT n a0 108) (ha1 : RT n a1 106) {res : Int32 × Mm} (h : fX8_nibble_w5 a0 a1 a2 a3 a4 σ = some res) (hr : ∀ (v : Int32) (s : Mm), res = (v, s) → F = (n, some (.int v), s)) : J X mX8_nibble 3 0 0 F 5 [(0, .ref a0), (1, .ref a1), (2, .int a2), (3, .int a3), (4, .int a4)] [] n σ := by
  unfold fX8_nibble_w5 at h
  refine wh_rule (P := fun a : Int32 × Int32 × Mm => J X mX8_nibble 3 0 0 F 5 [(0, .ref a0), (1, .ref a1), (2, .int a2), (3, .int a.1), (4, .int a.2.1)] [] n a.2.2) (K := fun b => b = res) ?_ _ _ _ h rfl
  intro a
  refine ⟨fun a2 hb hP => ?_, fun b hb hK => ?_⟩
  · exact tX8_nibble_l5 ha0 ha1 hb (fun _ _ _ e => by cases e; exact hP) (fun _ _ e => by cases e)
  · subst hK
    exact tX8_nibble_l5 ha0 ha1 hb (fun _ _ _ e => by cases e) (fun v0 v1 e => hr v0 v1 (Sum.inr.inj e))

def fX8_nibble (a0 : Nat) (a1 : Nat) (a2 : Int32) (σ : Mm) : Option (Int32 × Mm) :=
  (fX8_nibble_w5 a0 a1 a2 0 0 σ).bind (fun o6 => some o6)
set_option maxRecDepth 20000 in
set_option maxHeartbeats 2000000 in
theorem tX8_nibble {X : XS} {n : Nat} {σ : Mm} {a0 : Nat} {a1 : Nat} {a2 : Int32} (ha0 : RT n a0 108) (ha1 : RT n a1 106) {res : Int32 × Mm} (h : fX8_nibble a0 a1 a2 σ = some res) : MT X yX8_nibble mX8_nibble 3 0 0 [.ref a0, .ref a1, .int a2] n σ (n, some (.int res.1), res.2) := by
  unfold fX8_nibble at h
  refine MT_of (by decide +kernel) rfl (fun h => by cases h) (Nat.le_of_ble_eq_true rfl) ?_
  show J X mX8_nibble 3 0 0 (n, some (.int res.1), res.2) 0 [(0, .ref a0), (1, .ref a1), (2, .int a2)] [] n σ
  refine J_iconst (x := 0) dX8_nibble_0 (by decide) (q := 1) rfl ?_
  refine J_istore_n (lv' := [(3, .int 0), (0, .ref a0), (1, .ref a1), (2, .int a2)]) dX8_nibble_1 rfl (by decide) rfl (q := 2) rfl ?_
  refine J_iconst (x := 0) dX8_nibble_2 (by decide) (q := 3) rfl ?_
  refine J_istore (lv' := [(4, .int 0), (3, .int 0), (0, .ref a0), (1, .ref a1), (2, .int a2)]) dX8_nibble_3 (by decide) rfl (q := 5) rfl ?_
  obtain ⟨o6, hlo6, h⟩ := bindS h
  refine J_pick [2, 3, 4, 1, 0] rfl ?_
  refine tX8_nibble_w5 ha0 ha1 hlo6 ?_
  · intro vo6 so6 qo6
    rw [qo6] at h
    try dsimp only [Sum.elim_inl, Sum.elim_inr] at h
    have h := Option.some.inj h
    subst h
    rfl

def fX8_passOn_b40 (a0 : Nat) (a1 : Nat) (a2 : Int32) (a3 : Int32) (a4 : Int32) (σ : Mm) : Option ((Int32 × Mm) ⊕ (Mm)) :=
  some (Sum.inl ((a4 + 1), σ))
set_option maxRecDepth 20000 in
set_option maxHeartbeats 2000000 in
theorem tX8_passOn_b40 {X : XS} {n : Nat} {σ : Mm} {F : Nat × Option Value × Mm} {a0 : Nat} {a1 : Nat} {a2 : Int32} {a3 : Int32} {a4 : Int32} (ha0 : RT n a0 108) (ha1 : RT n a1 106) {res : (Int32 × Mm) ⊕ (Mm)} (h : fX8_passOn_b40 a0 a1 a2 a3 a4 σ = some res) (hc : ∀ (b4 : Int32) (s : Mm), res = .inl (b4, s) → J X mX8_passOn 3 0 0 F 3 [(0, .ref a0), (1, .ref a1), (2, .int a2), (3, .int a3), (4, .int b4)] [] n s) (hr : ∀ (s : Mm), res = .inr s → F = (n, none, s)) : J X mX8_passOn 3 0 0 F 40 [(0, .ref a0), (1, .ref a1), (2, .int a2), (3, .int a3), (4, .int a4)] [] n σ := by
  unfold fX8_passOn_b40 at h
  refine J_iinc (z := 4) (y := (a4 + 1)) (lv' := [(4, .int (a4 + 1)), (0, .ref a0), (1, .ref a1), (2, .int a2), (3, .int a3)]) dX8_passOn_40 rfl rfl (by decide) rfl (q := 43) rfl ?_
  refine J_goto (tgt := 3) dX8_passOn_43 (by decide) ?_
  have h := Option.some.inj h
  refine J_pick [1, 2, 3, 4, 0] rfl ?_
  exact hc _ _ h.symm

def fX8_passOn_l3 (a0 : Nat) (a1 : Nat) (a2 : Int32) (a3 : Int32) (a4 : Int32) (σ : Mm) : Option ((Int32 × Mm) ⊕ (Mm)) :=
  (gR σ a0 0).bind fun r1 => if (gI σ r1 4) ≤ a4 then some (Sum.inr σ) else (fX6_recall a1 a3 a4 σ).bind fun vk3 => if vk3 = (-1) then (fX6_recall a1 a2 a4 σ).bind fun vk5 => (fX6_learn a1 a3 a4 vk5 σ).bind fun sk6 => fX8_passOn_b40 a0 a1 a2 a3 a4 sk6 else fX8_passOn_b40 a0 a1 a2 a3 a4 σ
set_option maxRecDepth 20000 in
set_option maxHeartbeats 2000000 in
theorem tX8_passOn_l3 {X : XS} {n : Nat} {σ : Mm} {F : Nat × Option Value × Mm} {a0 : Nat} {a1 : Nat} {a2 : Int32} {a3 : Int32} {a4 : Int32} (ha0 : RT n a0 108) (ha1 : RT n a1 106) {res : (Int32 × Mm) ⊕ (Mm)} (h : fX8_passOn_l3 a0 a1 a2 a3 a4 σ = some res) (hc : ∀ (b4 : Int32) (s : Mm), res = .inl (b4, s) → J X mX8_passOn 3 0 0 F 3 [(0, .ref a0), (1, .ref a1), (2, .int a2), (3, .int a3), (4, .int b4)] [] n s) (hr : ∀ (s : Mm), res = .inr s → F = (n, none, s)) : J X mX8_passOn 3 0 0 F 3 [(0, .ref a0), (1, .ref a1), (2, .int a2), (3, .int a3), (4, .int a4)] [] n σ := by
  unfold fX8_passOn_l3 at h
  refine J_iload (z := 4) dX8_passOn_3 rfl (q := 5) rfl ?_
  refine J_aload_n (z := 0) dX8_passOn_5 rfl rfl (q := 6) rfl ?_
  obtain ⟨r1, er1, h⟩ := bindS h
  refine J_getR dX8_passOn_6 lRX8_15 ha0 rfl (by decide) er1 (q := 9) rfl (fun fr1 => ?_)
  refine J_getI dX8_passOn_9 lRX8_76 fr1 rfl (q := 12) rfl ?_
  refine J_icmp_ge (tgt := 46) dX8_passOn_12 (by decide) (q := 15) rfl (fun c1 => ?_) (fun c1 => ?_)
  · rw [if_pos c1] at h
    have h := Option.some.inj h
    exact J_return dX8_passOn_46 rfl (hr _ h.symm)
  · rw [if_neg c1] at h
    refine J_aload_n (z := 1) dX8_passOn_15 rfl rfl (q := 16) rfl ?_
    refine J_iload_n (z := 3) dX8_passOn_16 rfl rfl (q := 17) rfl ?_
    refine J_iload (z := 4) dX8_passOn_17 rfl (q := 19) rfl ?_
    obtain ⟨vk3, hk3, h⟩ := bindS h
    refine J_cVi (as := [.int a3, .int a4]) dX8_passOn_19 mRX8_106 ha1 (tX6_recall ha1 hk3) rfl (Nat.le_of_ble_eq_true rfl) (Nat.le_of_ble_eq_true rfl) (Nat.le_of_ble_eq_true rfl) (q := 22) rfl ?_
    intro bk3
    refine J_iconst (x := (-1)) dX8_passOn_22 (by decide) (q := 23) rfl ?_
    refine J_icmp_ne (tgt := 40) dX8_passOn_23 (by decide) (q := 26) rfl (fun c3 => ?_) (fun c3 => ?_)
    · rw [if_neg c3] at h
      refine J_pick [0, 1, 2, 3, 4] rfl ?_
      exact tX8_passOn_b40 ha0 ha1 h hc hr
    · rw [if_pos c3] at h
      refine J_aload_n (z := 1) dX8_passOn_26 rfl rfl (q := 27) rfl ?_
      refine J_iload_n (z := 3) dX8_passOn_27 rfl rfl (q := 28) rfl ?_
      refine J_iload (z := 4) dX8_passOn_28 rfl (q := 30) rfl ?_
      refine J_aload_n (z := 1) dX8_passOn_30 rfl rfl (q := 31) rfl ?_
      refine J_iload_n (z := 2) dX8_passOn_31 rfl rfl (q := 32) rfl ?_
      refine J_iload (z := 4) dX8_passOn_32 rfl (q := 34) rfl ?_
      obtain ⟨vk5, hk5, h⟩ := bindS h
      refine J_cVi (as := [.int a2, .int a4]) dX8_passOn_34 mRX8_106 ha1 (tX6_recall ha1 hk5) rfl (Nat.le_of_ble_eq_true rfl) (Nat.le_of_ble_eq_true rfl) (Nat.le_of_ble_eq_true rfl) (q := 37) rfl ?_
      intro bk5
      obtain ⟨sk6, hk6, h⟩ := bindS h
      refine J_cVv (as := [.int a3, .int a4, .int vk5]) dX8_passOn_37 mRX8_127 ha1 (tX6_learn ha1 hk6) rfl (Nat.le_of_ble_eq_true rfl) (Nat.le_of_ble_eq_true rfl) (Nat.le_of_ble_eq_true rfl) (q := 40) rfl ?_
      refine J_pick [0, 1, 2, 3, 4] rfl ?_
      exact tX8_passOn_b40 ha0 ha1 h hc hr

def fX8_passOn_w3 (a0 : Nat) (a1 : Nat) (a2 : Int32) (a3 : Int32) (a4 : Int32) (σ : Mm) : Option (Mm) :=
  wh (fun a : Int32 × Mm => fX8_passOn_l3 a0 a1 a2 a3 a.1 a.2) BIG (a4, σ)
set_option maxRecDepth 20000 in
set_option maxHeartbeats 2000000 in
theorem tX8_passOn_w3 {X : XS} {n : Nat} {σ : Mm} {F : Nat × Option Value × Mm} {a0 : Nat} {a1 : Nat} {a2 : Int32} {a3 : Int32} {a4 : Int32} (ha0 : RT n a0 108) (ha1 : RT n a1 106) {res : Mm} (h : fX8_passOn_w3 a0 a1 a2 a3 a4 σ = some res) (hr : ∀ (s : Mm), res = s → F = (n, none, s)) : J X mX8_passOn 3 0 0 F 3 [(0, .ref a0), (1, .ref a1), (2, .int a2), (3, .int a3), (4, .int a4)] [] n σ := by
  unfold fX8_passOn_w3 at h
  refine wh_rule (P := fun a : Int32 × Mm => J X mX8_passOn 3 0 0 F 3 [(0, .ref a0), (1, .ref a1), (2, .int a2), (3, .int a3), (4, .int a.1)] [] n a.2) (K := fun b => b = res) ?_ _ _ _ h rfl
  intro a
  refine ⟨fun a2 hb hP => ?_, fun b hb hK => ?_⟩
  · exact tX8_passOn_l3 ha0 ha1 hb (fun _ _ e => by cases e; exact hP) (fun _ e => by cases e)
  · subst hK
    exact tX8_passOn_l3 ha0 ha1 hb (fun _ _ e => by cases e) (fun v0 e => hr v0 (Sum.inr.inj e))

def fX8_passOn (a0 : Nat) (a1 : Nat) (a2 : Int32) (a3 : Int32) (σ : Mm) : Option (Mm) :=
  (fX8_passOn_w3 a0 a1 a2 a3 0 σ).bind (fun o7 => some o7)
set_option maxRecDepth 20000 in
set_option maxHeartbeats 2000000 in
theorem tX8_passOn {X : XS} {n : Nat} {σ : Mm} {a0 : Nat} {a1 : Nat} {a2 : Int32} {a3 : Int32} (ha0 : RT n a0 108) (ha1 : RT n a1 106) {res : Mm} (h : fX8_passOn a0 a1 a2 a3 σ = some res) : MT X yX8_passOn mX8_passOn 3 0 0 [.ref a0, .ref a1, .int a2, .int a3] n σ (n, none, res) := by
  unfold fX8_passOn at h
  refine MT_of (by decide +kernel) rfl (fun h => by cases h) (Nat.le_of_ble_eq_true rfl) ?_
  show J X mX8_passOn 3 0 0 (n, none, res) 0 [(0, .ref a0), (1, .ref a1), (2, .int a2), (3, .int a3)] [] n σ
  refine J_iconst (x := 0) dX8_passOn_0 (by decide) (q := 1) rfl ?_
  refine J_istore (lv' := [(4, .int 0), (0, .ref a0), (1, .ref a1), (2, .int a2), (3, .int a3)]) dX8_passOn_1 (by decide) rfl (q := 3) rfl ?_
  obtain ⟨o7, hlo7, h⟩ := bindS h
  refine J_pick [1, 2, 3, 4, 0] rfl ?_
  refine tX8_passOn_w3 ha0 ha1 hlo7 ?_
  · intro so7 qo7
    rw [qo7] at h
    try dsimp only [Sum.elim_inl, Sum.elim_inr] at h
    have h := Option.some.inj h
    subst h
    rfl

def fX8_carryOut (a0 : Nat) (a1 : Nat) (a2 : Int32) (a3 : Int32) (a4 : Int32) (σ : Mm) : Option (Int32 × Mm) :=
  if a2 = 4 then bnd2 (fX8_fallNight a0 a1 σ) fun vk29 sk29 => some (vk29, sk29) else if a2 = 5 then bnd2 (fX8_nibble a0 a1 a4 σ) fun vk28 sk28 => some (vk28, sk28) else (gR σ a0 0).bind fun r3 => (fX1_hasReader r3 a3 σ).bind fun vk4 => if vk4 = 0 then some (0, σ) else if a2 = 3 then (fX8_passOn a0 a1 a3 a4 (sI σ a1 4 ((gI σ a1 4) ||| (shlI 1 a3)))).bind fun sk27 => some (0, sk27) else if a2 = 2 then (gR σ a1 2).bind fun r25 => if ixB a3 (ln r25) = true then some (0, (sI (sI σ a1 4 ((gI σ a1 4) ||| (shlI 1 a3))) r25 (Int32.toNatClampNeg a3) a4)) else none else (fX1_hasPage r3 a4 (sI σ a1 4 ((gI σ a1 4) ||| (shlI 1 a3)))).bind fun vk8 => if vk8 = 0 then some (0, (sI σ a1 4 ((gI σ a1 4) ||| (shlI 1 a3)))) else (gR σ a1 2).bind fun r10 => (fX1_pageCell r3 a4 (sI σ a1 4 ((gI σ a1 4) ||| (shlI 1 a3)))).bind fun vk11 => if ixB a3 (ln r10) = true then if a2 = 1 then (gR σ a1 0).bind fun r20 => if ixB a4 (ln r20) = true then (gR σ a1 1).bind fun r22 => (fX6_recall a1 a3 a4 (sI (sI (sI σ a1 4 ((gI σ a1 4) ||| (shlI 1 a3))) r10 (Int32.toNatClampNeg a3) vk11) r20 (Int32.toNatClampNeg a4) 9)).bind fun vk23 => if ixB a4 (ln r22) = true then some (0, (sI (sI (sI (sI σ a1 4 ((gI σ a1 4) ||| (shlI 1 a3))) r10 (Int32.toNatClampNeg a3) vk11) r20 (Int32.toNatClampNeg a4) 9) r22 (Int32.toNatClampNeg a4) vk23)) else none else none else (gR σ a1 1).bind fun r14 => if ixB a4 (ln r14) = true then (fX6_learn a1 a3 a4 (gI (sI (sI σ a1 4 ((gI σ a1 4) ||| (shlI 1 a3))) r10 (Int32.toNatClampNeg a3) vk11) r14 (Int32.toNatClampNeg a4)) (sI (sI σ a1 4 ((gI σ a1 4) ||| (shlI 1 a3))) r10 (Int32.toNatClampNeg a3) vk11)).bind fun sk16 => (gR sk16 a1 2).bind fun r17 => if ixB a3 (ln r17) = true then bnd2 (fX8_breathe a0 a1 a3 (gI sk16 r17 (Int32.toNatClampNeg a3)) sk16) fun vk19 sk19 => some (vk19, sk19) else none else none else none
set_option maxRecDepth 20000 in
set_option maxHeartbeats 2000000 in
theorem tX8_carryOut {X : XS} {n : Nat} {σ : Mm} {a0 : Nat} {a1 : Nat} {a2 : Int32} {a3 : Int32} {a4 : Int32} (ha0 : RT n a0 108) (ha1 : RT n a1 106) {res : Int32 × Mm} (h : fX8_carryOut a0 a1 a2 a3 a4 σ = some res) : MT X yX8_carryOut mX8_carryOut 5 0 0 [.ref a0, .ref a1, .int a2, .int a3, .int a4] n σ (n, some (.int res.1), res.2) := by
  unfold fX8_carryOut at h
  refine MT_of (by decide +kernel) rfl (fun h => by cases h) (Nat.le_of_ble_eq_true rfl) ?_
  show J X mX8_carryOut 5 0 0 (n, some (.int res.1), res.2) 0 [(0, .ref a0), (1, .ref a1), (2, .int a2), (3, .int a3), (4, .int a4)] [] n σ
  refine J_iload_n (z := 2) dX8_carryOut_0 rfl rfl (q := 1) rfl ?_
  refine J_iconst (x := 4) dX8_carryOut_1 (by decide) (q := 2) rfl ?_
  refine J_icmp_ne (tgt := 11) dX8_carryOut_2 (by decide) (q := 5) rfl (fun c0 => ?_) (fun c0 => ?_)
  · rw [if_neg c0] at h
    refine J_iload_n (z := 2) dX8_carryOut_11 rfl rfl (q := 12) rfl ?_
    refine J_iconst (x := 5) dX8_carryOut_12 (by decide) (q := 13) rfl ?_
    refine J_icmp_ne (tgt := 24) dX8_carryOut_13 (by decide) (q := 16) rfl (fun c1 => ?_) (fun c1 => ?_)
    · rw [if_neg c1] at h
      refine J_aload_n (z := 0) dX8_carryOut_24 rfl rfl (q := 25) rfl ?_
      obtain ⟨r3, er3, h⟩ := bindS h
      refine J_getR dX8_carryOut_25 lRX8_15 ha0 rfl (by decide) er3 (q := 28) rfl (fun fr3 => ?_)
      refine J_iload_n (z := 3) dX8_carryOut_28 rfl rfl (q := 29) rfl ?_
      obtain ⟨vk4, hk4, h⟩ := bindS h
      refine J_cVi (as := [.int a3]) dX8_carryOut_29 mRX8_86 fr3 (tX1_hasReader fr3 hk4) rfl (Nat.le_of_ble_eq_true rfl) (Nat.le_of_ble_eq_true rfl) (Nat.le_of_ble_eq_true rfl) (q := 32) rfl ?_
      intro bk4
      refine J_if_ne (tgt := 37) dX8_carryOut_32 (by decide) (q := 35) rfl (fun c4 => ?_) (fun c4 => ?_)
      · rw [if_neg c4] at h
        refine J_aload_n (z := 1) dX8_carryOut_37 rfl rfl (q := 38) rfl ?_
        refine J_dup dX8_carryOut_38 rfl (q := 39) rfl ?_
        refine J_getI dX8_carryOut_39 lRX8_117 ha1 rfl (q := 42) rfl ?_
        refine J_iconst (x := 1) dX8_carryOut_42 (by decide) (q := 43) rfl ?_
        refine J_iload_n (z := 3) dX8_carryOut_43 rfl rfl (q := 44) rfl ?_
        refine J_ishl dX8_carryOut_44  (q := 45) rfl ?_
        refine J_ior dX8_carryOut_45  (q := 46) rfl ?_
        refine J_putI dX8_carryOut_46 lRX8_117 (fun h => by cases h) ha1 rfl (q := 49) rfl ?_
        refine J_iload_n (z := 2) dX8_carryOut_49 rfl rfl (q := 50) rfl ?_
        refine J_iconst (x := 3) dX8_carryOut_50 (by decide) (q := 51) rfl ?_
        refine J_icmp_ne (tgt := 64) dX8_carryOut_51 (by decide) (q := 54) rfl (fun c5 => ?_) (fun c5 => ?_)
        · rw [if_neg c5] at h
          refine J_iload_n (z := 2) dX8_carryOut_64 rfl rfl (q := 65) rfl ?_
          refine J_iconst (x := 2) dX8_carryOut_65 (by decide) (q := 66) rfl ?_
          refine J_icmp_ne (tgt := 79) dX8_carryOut_66 (by decide) (q := 69) rfl (fun c6 => ?_) (fun c6 => ?_)
          · rw [if_neg c6] at h
            refine J_aload_n (z := 0) dX8_carryOut_79 rfl rfl (q := 80) rfl ?_
            refine J_getR dX8_carryOut_80 lRX8_15 ha0 rfl (by decide) er3 (q := 83) rfl (fun _ => ?_)
            refine J_iload (z := 4) dX8_carryOut_83 rfl (q := 85) rfl ?_
            obtain ⟨vk8, hk8, h⟩ := bindS h
            refine J_cVi (as := [.int a4]) dX8_carryOut_85 mRX8_38 fr3 (tX1_hasPage fr3 hk8) rfl (Nat.le_of_ble_eq_true rfl) (Nat.le_of_ble_eq_true rfl) (Nat.le_of_ble_eq_true rfl) (q := 88) rfl ?_
            intro bk8
            refine J_if_ne (tgt := 93) dX8_carryOut_88 (by decide) (q := 91) rfl (fun c8 => ?_) (fun c8 => ?_)
            · rw [if_neg c8] at h
              refine J_aload_n (z := 1) dX8_carryOut_93 rfl rfl (q := 94) rfl ?_
              obtain ⟨r10, er10, h⟩ := bindS h
              refine J_getR dX8_carryOut_94 lRX8_25 ha1 rfl (by decide) er10 (q := 97) rfl (fun fr10 => ?_)
              refine J_iload_n (z := 3) dX8_carryOut_97 rfl rfl (q := 98) rfl ?_
              refine J_aload_n (z := 0) dX8_carryOut_98 rfl rfl (q := 99) rfl ?_
              refine J_getR dX8_carryOut_99 lRX8_15 ha0 rfl (by decide) er3 (q := 102) rfl (fun _ => ?_)
              refine J_iload (z := 4) dX8_carryOut_102 rfl (q := 104) rfl ?_
              obtain ⟨vk11, hk11, h⟩ := bindS h
              refine J_cVi (as := [.int a4]) dX8_carryOut_104 mRX8_30 fr3 (tX1_pageCell fr3 hk11) rfl (Nat.le_of_ble_eq_true rfl) (Nat.le_of_ble_eq_true rfl) (Nat.le_of_ble_eq_true rfl) (q := 107) rfl ?_
              intro bk11
              obtain ⟨g12, h⟩ := iteS h
              refine J_iast dX8_carryOut_107 fr10 (ixB_ok g12) (q := 108) rfl ?_
              refine J_iload_n (z := 2) dX8_carryOut_108 rfl rfl (q := 109) rfl ?_
              refine J_iconst (x := 1) dX8_carryOut_109 (by decide) (q := 110) rfl ?_
              refine J_icmp_ne (tgt := 138) dX8_carryOut_110 (by decide) (q := 113) rfl (fun c12 => ?_) (fun c12 => ?_)
              · rw [if_neg c12] at h
                refine J_aload_n (z := 1) dX8_carryOut_138 rfl rfl (q := 139) rfl ?_
                refine J_iload_n (z := 3) dX8_carryOut_139 rfl rfl (q := 140) rfl ?_
                refine J_iload (z := 4) dX8_carryOut_140 rfl (q := 142) rfl ?_
                refine J_aload_n (z := 1) dX8_carryOut_142 rfl rfl (q := 143) rfl ?_
                obtain ⟨r14, er14, h⟩ := bindS h
                refine J_getR dX8_carryOut_143 lRX8_124 ha1 rfl (by decide) er14 (q := 146) rfl (fun fr14 => ?_)
                refine J_iload (z := 4) dX8_carryOut_146 rfl (q := 148) rfl ?_
                obtain ⟨g15, h⟩ := iteS h
                refine J_iald dX8_carryOut_148 fr14 (ixB_ok g15) (q := 149) rfl ?_
                obtain ⟨sk16, hk16, h⟩ := bindS h
                refine J_cVv (as := [.int a3, .int a4, .int (gI (sI (sI σ a1 4 ((gI σ a1 4) ||| (shlI 1 a3))) r10 (Int32.toNatClampNeg a3) vk11) r14 (Int32.toNatClampNeg a4))]) dX8_carryOut_149 mRX8_127 ha1 (tX6_learn ha1 hk16) rfl (Nat.le_of_ble_eq_true rfl) (Nat.le_of_ble_eq_true rfl) (Nat.le_of_ble_eq_true rfl) (q := 152) rfl ?_
                refine J_aload_n (z := 0) dX8_carryOut_152 rfl rfl (q := 153) rfl ?_
                refine J_aload_n (z := 1) dX8_carryOut_153 rfl rfl (q := 154) rfl ?_
                refine J_iload_n (z := 3) dX8_carryOut_154 rfl rfl (q := 155) rfl ?_
                refine J_aload_n (z := 1) dX8_carryOut_155 rfl rfl (q := 156) rfl ?_
                obtain ⟨r17, er17, h⟩ := bindS h
                refine J_getR dX8_carryOut_156 lRX8_25 ha1 rfl (by decide) er17 (q := 159) rfl (fun fr17 => ?_)
                refine J_iload_n (z := 3) dX8_carryOut_159 rfl rfl (q := 160) rfl ?_
                obtain ⟨g18, h⟩ := iteS h
                refine J_iald dX8_carryOut_160 fr17 (ixB_ok g18) (q := 161) rfl ?_
                obtain ⟨vk19, sk19, hk19, h⟩ := bnd2S h
                refine J_cVi (as := [.ref a1, .int a3, .int (gI sk16 r17 (Int32.toNatClampNeg a3))]) dX8_carryOut_161 mRX8_131 ha0 (tX8_breathe ha0 ha1 hk19) rfl (Nat.le_of_ble_eq_true rfl) (Nat.le_of_ble_eq_true rfl) (Nat.le_of_ble_eq_true rfl) (q := 164) rfl ?_
                intro bk19
                have h := Option.some.inj h
                subst h
                exact J_ireturn dX8_carryOut_164 rfl rfl rfl
              · rw [if_pos c12] at h
                refine J_aload_n (z := 1) dX8_carryOut_113 rfl rfl (q := 114) rfl ?_
                obtain ⟨r20, er20, h⟩ := bindS h
                refine J_getR dX8_carryOut_114 lRX8_52 ha1 rfl (by decide) er20 (q := 117) rfl (fun fr20 => ?_)
                refine J_iload (z := 4) dX8_carryOut_117 rfl (q := 119) rfl ?_
                refine J_bipush (x := 9) dX8_carryOut_119 (by decide) (q := 121) rfl ?_
                obtain ⟨g21, h⟩ := iteS h
                refine J_iast dX8_carryOut_121 fr20 (ixB_ok g21) (q := 122) rfl ?_
                refine J_aload_n (z := 1) dX8_carryOut_122 rfl rfl (q := 123) rfl ?_
                obtain ⟨r22, er22, h⟩ := bindS h
                refine J_getR dX8_carryOut_123 lRX8_124 ha1 rfl (by decide) er22 (q := 126) rfl (fun fr22 => ?_)
                refine J_iload (z := 4) dX8_carryOut_126 rfl (q := 128) rfl ?_
                refine J_aload_n (z := 1) dX8_carryOut_128 rfl rfl (q := 129) rfl ?_
                refine J_iload_n (z := 3) dX8_carryOut_129 rfl rfl (q := 130) rfl ?_
                refine J_iload (z := 4) dX8_carryOut_130 rfl (q := 132) rfl ?_
                obtain ⟨vk23, hk23, h⟩ := bindS h
                refine J_cVi (as := [.int a3, .int a4]) dX8_carryOut_132 mRX8_106 ha1 (tX6_recall ha1 hk23) rfl (Nat.le_of_ble_eq_true rfl) (Nat.le_of_ble_eq_true rfl) (Nat.le_of_ble_eq_true rfl) (q := 135) rfl ?_
                intro bk23
                obtain ⟨g24, h⟩ := iteS h
                refine J_iast dX8_carryOut_135 fr22 (ixB_ok g24) (q := 136) rfl ?_
                refine J_iconst (x := 0) dX8_carryOut_136 (by decide) (q := 137) rfl ?_
                have h := Option.some.inj h
                subst h
                exact J_ireturn dX8_carryOut_137 rfl rfl rfl
            · rw [if_pos c8] at h
              refine J_iconst (x := 0) dX8_carryOut_91 (by decide) (q := 92) rfl ?_
              have h := Option.some.inj h
              subst h
              exact J_ireturn dX8_carryOut_92 rfl rfl rfl
          · rw [if_pos c6] at h
            refine J_aload_n (z := 1) dX8_carryOut_69 rfl rfl (q := 70) rfl ?_
            obtain ⟨r25, er25, h⟩ := bindS h
            refine J_getR dX8_carryOut_70 lRX8_25 ha1 rfl (by decide) er25 (q := 73) rfl (fun fr25 => ?_)
            refine J_iload_n (z := 3) dX8_carryOut_73 rfl rfl (q := 74) rfl ?_
            refine J_iload (z := 4) dX8_carryOut_74 rfl (q := 76) rfl ?_
            obtain ⟨g26, h⟩ := iteS h
            refine J_iast dX8_carryOut_76 fr25 (ixB_ok g26) (q := 77) rfl ?_
            refine J_iconst (x := 0) dX8_carryOut_77 (by decide) (q := 78) rfl ?_
            have h := Option.some.inj h
            subst h
            exact J_ireturn dX8_carryOut_78 rfl rfl rfl
        · rw [if_pos c5] at h
          refine J_aload_n (z := 0) dX8_carryOut_54 rfl rfl (q := 55) rfl ?_
          refine J_aload_n (z := 1) dX8_carryOut_55 rfl rfl (q := 56) rfl ?_
          refine J_iload_n (z := 3) dX8_carryOut_56 rfl rfl (q := 57) rfl ?_
          refine J_iload (z := 4) dX8_carryOut_57 rfl (q := 59) rfl ?_
          obtain ⟨sk27, hk27, h⟩ := bindS h
          refine J_cVv (as := [.ref a1, .int a3, .int a4]) dX8_carryOut_59 mRX8_120 ha0 (tX8_passOn ha0 ha1 hk27) rfl (Nat.le_of_ble_eq_true rfl) (Nat.le_of_ble_eq_true rfl) (Nat.le_of_ble_eq_true rfl) (q := 62) rfl ?_
          refine J_iconst (x := 0) dX8_carryOut_62 (by decide) (q := 63) rfl ?_
          have h := Option.some.inj h
          subst h
          exact J_ireturn dX8_carryOut_63 rfl rfl rfl
      · rw [if_pos c4] at h
        refine J_iconst (x := 0) dX8_carryOut_35 (by decide) (q := 36) rfl ?_
        have h := Option.some.inj h
        subst h
        exact J_ireturn dX8_carryOut_36 rfl rfl rfl
    · rw [if_pos c1] at h
      refine J_aload_n (z := 0) dX8_carryOut_16 rfl rfl (q := 17) rfl ?_
      refine J_aload_n (z := 1) dX8_carryOut_17 rfl rfl (q := 18) rfl ?_
      refine J_iload (z := 4) dX8_carryOut_18 rfl (q := 20) rfl ?_
      obtain ⟨vk28, sk28, hk28, h⟩ := bnd2S h
      refine J_cVi (as := [.ref a1, .int a4]) dX8_carryOut_20 mRX8_113 ha0 (tX8_nibble ha0 ha1 hk28) rfl (Nat.le_of_ble_eq_true rfl) (Nat.le_of_ble_eq_true rfl) (Nat.le_of_ble_eq_true rfl) (q := 23) rfl ?_
      intro bk28
      have h := Option.some.inj h
      subst h
      exact J_ireturn dX8_carryOut_23 rfl rfl rfl
  · rw [if_pos c0] at h
    refine J_aload_n (z := 0) dX8_carryOut_5 rfl rfl (q := 6) rfl ?_
    refine J_aload_n (z := 1) dX8_carryOut_6 rfl rfl (q := 7) rfl ?_
    obtain ⟨vk29, sk29, hk29, h⟩ := bnd2S h
    refine J_cVi (as := [.ref a1]) dX8_carryOut_7 mRX8_109 ha0 (tX8_fallNight ha0 ha1 hk29) rfl (Nat.le_of_ble_eq_true rfl) (Nat.le_of_ble_eq_true rfl) (Nat.le_of_ble_eq_true rfl) (q := 10) rfl ?_
    intro bk29
    have h := Option.some.inj h
    subst h
    exact J_ireturn dX8_carryOut_10 rfl rfl rfl

def fX1_cells (a0 : Nat) (σ : Mm) : Option (Int32) :=
  (gR σ a0 1).bind fun r1 => if ixB 0 (ln r1) = true then if ixB 1 (ln r1) = true then some ((gI σ r1 (Int32.toNatClampNeg 0)) * (gI σ r1 (Int32.toNatClampNeg 1))) else none else none
set_option maxRecDepth 20000 in
set_option maxHeartbeats 2000000 in
theorem tX1_cells {X : XS} {n : Nat} {σ : Mm} {a0 : Nat} (ha0 : RT n a0 101) {res : Int32} (h : fX1_cells a0 σ = some res) : MT X yX1_cells mX1_cells 1 0 0 [.ref a0] n σ (n, some (.int res), σ) := by
  unfold fX1_cells at h
  refine MT_of (by decide +kernel) rfl (fun h => by cases h) (Nat.le_of_ble_eq_true rfl) ?_
  show J X mX1_cells 1 0 0 (n, some (.int res), σ) 0 [(0, .ref a0)] [] n σ
  refine J_aload_n (z := 0) dX1_cells_0 rfl rfl (q := 1) rfl ?_
  obtain ⟨r1, er1, h⟩ := bindS h
  refine J_getR dX1_cells_1 lRX1_9 ha0 rfl (by decide) er1 (q := 4) rfl (fun fr1 => ?_)
  refine J_iconst (x := 0) dX1_cells_4 (by decide) (q := 5) rfl ?_
  obtain ⟨g2, h⟩ := iteS h
  refine J_iald dX1_cells_5 fr1 (ixB_ok g2) (q := 6) rfl ?_
  refine J_aload_n (z := 0) dX1_cells_6 rfl rfl (q := 7) rfl ?_
  refine J_getR dX1_cells_7 lRX1_9 ha0 rfl (by decide) er1 (q := 10) rfl (fun _ => ?_)
  refine J_iconst (x := 1) dX1_cells_10 (by decide) (q := 11) rfl ?_
  obtain ⟨g3, h⟩ := iteS h
  refine J_iald dX1_cells_11 fr1 (ixB_ok g3) (q := 12) rfl ?_
  refine J_imul dX1_cells_12  (q := 13) rfl ?_
  have h := Option.some.inj h
  subst h
  exact J_ireturn dX1_cells_13 rfl rfl rfl

def fX1_hasCell (a0 : Nat) (a1 : Int32) (σ : Mm) : Option (Int32) :=
  if a1 < 0 then some 0 else (fX1_cells a0 σ).bind fun vk2 => if vk2 ≤ a1 then some 0 else some 1
set_option maxRecDepth 20000 in
set_option maxHeartbeats 2000000 in
theorem tX1_hasCell {X : XS} {n : Nat} {σ : Mm} {a0 : Nat} {a1 : Int32} (ha0 : RT n a0 101) {res : Int32} (h : fX1_hasCell a0 a1 σ = some res) : MT X yX1_hasCell mX1_hasCell 2 0 0 [.ref a0, .int a1] n σ (n, some (.int res), σ) := by
  unfold fX1_hasCell at h
  refine MT_of (by decide +kernel) rfl (fun h => by cases h) (Nat.le_of_ble_eq_true rfl) ?_
  show J X mX1_hasCell 2 0 0 (n, some (.int res), σ) 0 [(0, .ref a0), (1, .int a1)] [] n σ
  refine J_iload_n (z := 1) dX1_hasCell_0 rfl rfl (q := 1) rfl ?_
  refine J_if_lt (tgt := 16) dX1_hasCell_1 (by decide) (q := 4) rfl (fun c0 => ?_) (fun c0 => ?_)
  · rw [if_pos c0] at h
    refine J_iconst (x := 0) dX1_hasCell_16 (by decide) (q := 17) rfl ?_
    have h := Option.some.inj h
    subst h
    exact J_ireturn dX1_hasCell_17 rfl rfl rfl
  · rw [if_neg c0] at h
    refine J_iload_n (z := 1) dX1_hasCell_4 rfl rfl (q := 5) rfl ?_
    refine J_aload_n (z := 0) dX1_hasCell_5 rfl rfl (q := 6) rfl ?_
    obtain ⟨vk2, hk2, h⟩ := bindS h
    refine J_cVi (as := []) dX1_hasCell_6 mRX1_38 ha0 (tX1_cells ha0 hk2) rfl (Nat.le_of_ble_eq_true rfl) (Nat.le_of_ble_eq_true rfl) (Nat.le_of_ble_eq_true rfl) (q := 9) rfl ?_
    intro bk2
    refine J_icmp_ge (tgt := 16) dX1_hasCell_9 (by decide) (q := 12) rfl (fun c2 => ?_) (fun c2 => ?_)
    · rw [if_pos c2] at h
      refine J_iconst (x := 0) dX1_hasCell_16 (by decide) (q := 17) rfl ?_
      have h := Option.some.inj h
      subst h
      exact J_ireturn dX1_hasCell_17 rfl rfl rfl
    · rw [if_neg c2] at h
      refine J_iconst (x := 1) dX1_hasCell_12 (by decide) (q := 13) rfl ?_
      refine J_goto (tgt := 17) dX1_hasCell_13 (by decide) ?_
      have h := Option.some.inj h
      subst h
      exact J_ireturn dX1_hasCell_17 rfl rfl rfl

def fX1_isOpen (a0 : Nat) (σ : Mm) : Option (Int32) :=
  if (gI σ a0 4) ≤ 0 then some 0 else some 1
set_option maxRecDepth 20000 in
set_option maxHeartbeats 2000000 in
theorem tX1_isOpen {X : XS} {n : Nat} {σ : Mm} {a0 : Nat} (ha0 : RT n a0 101) {res : Int32} (h : fX1_isOpen a0 σ = some res) : MT X yX1_isOpen mX1_isOpen 1 0 0 [.ref a0] n σ (n, some (.int res), σ) := by
  unfold fX1_isOpen at h
  refine MT_of (by decide +kernel) rfl (fun h => by cases h) (Nat.le_of_ble_eq_true rfl) ?_
  show J X mX1_isOpen 1 0 0 (n, some (.int res), σ) 0 [(0, .ref a0)] [] n σ
  refine J_aload_n (z := 0) dX1_isOpen_0 rfl rfl (q := 1) rfl ?_
  refine J_getI dX1_isOpen_1 lRX1_31 ha0 rfl (q := 4) rfl ?_
  refine J_if_le (tgt := 11) dX1_isOpen_4 (by decide) (q := 7) rfl (fun c0 => ?_) (fun c0 => ?_)
  · rw [if_pos c0] at h
    refine J_iconst (x := 0) dX1_isOpen_11 (by decide) (q := 12) rfl ?_
    have h := Option.some.inj h
    subst h
    exact J_ireturn dX1_isOpen_12 rfl rfl rfl
  · rw [if_neg c0] at h
    refine J_iconst (x := 1) dX1_isOpen_7 (by decide) (q := 8) rfl ?_
    refine J_goto (tgt := 12) dX1_isOpen_8 (by decide) ?_
    have h := Option.some.inj h
    subst h
    exact J_ireturn dX1_isOpen_12 rfl rfl rfl

def fX6_hasDone (a0 : Nat) (a1 : Int32) (σ : Mm) : Option (Int32) :=
  if ((shrI (gI σ a0 4) a1) &&& 1) = 1 then some 1 else some 0
set_option maxRecDepth 20000 in
set_option maxHeartbeats 2000000 in
theorem tX6_hasDone {X : XS} {n : Nat} {σ : Mm} {a0 : Nat} {a1 : Int32} (ha0 : RT n a0 106) {res : Int32} (h : fX6_hasDone a0 a1 σ = some res) : MT X yX6_hasDone mX6_hasDone 1 0 0 [.ref a0, .int a1] n σ (n, some (.int res), σ) := by
  unfold fX6_hasDone at h
  refine MT_of (by decide +kernel) rfl (fun h => by cases h) (Nat.le_of_ble_eq_true rfl) ?_
  show J X mX6_hasDone 1 0 0 (n, some (.int res), σ) 0 [(0, .ref a0), (1, .int a1)] [] n σ
  refine J_aload_n (z := 0) dX6_hasDone_0 rfl rfl (q := 1) rfl ?_
  refine J_getI dX6_hasDone_1 lRX6_30 ha0 rfl (q := 4) rfl ?_
  refine J_iload_n (z := 1) dX6_hasDone_4 rfl rfl (q := 5) rfl ?_
  refine J_ishr dX6_hasDone_5  (q := 6) rfl ?_
  refine J_iconst (x := 1) dX6_hasDone_6 (by decide) (q := 7) rfl ?_
  refine J_iand dX6_hasDone_7  (q := 8) rfl ?_
  refine J_iconst (x := 1) dX6_hasDone_8 (by decide) (q := 9) rfl ?_
  refine J_icmp_ne (tgt := 16) dX6_hasDone_9 (by decide) (q := 12) rfl (fun c0 => ?_) (fun c0 => ?_)
  · rw [if_neg c0] at h
    refine J_iconst (x := 0) dX6_hasDone_16 (by decide) (q := 17) rfl ?_
    have h := Option.some.inj h
    subst h
    exact J_ireturn dX6_hasDone_17 rfl rfl rfl
  · rw [if_pos c0] at h
    refine J_iconst (x := 1) dX6_hasDone_12 (by decide) (q := 13) rfl ?_
    refine J_goto (tgt := 17) dX6_hasDone_13 (by decide) ?_
    have h := Option.some.inj h
    subst h
    exact J_ireturn dX6_hasDone_17 rfl rfl rfl

def fX1_speed (a0 : Nat) (a1 : Int32) (σ : Mm) : Option (Int32) :=
  (fX1_readerItem a0 a1 2 σ).bind fun vk1 => some vk1
set_option maxRecDepth 20000 in
set_option maxHeartbeats 2000000 in
theorem tX1_speed {X : XS} {n : Nat} {σ : Mm} {a0 : Nat} {a1 : Int32} (ha0 : RT n a0 101) {res : Int32} (h : fX1_speed a0 a1 σ = some res) : MT X yX1_speed mX1_speed 2 0 0 [.ref a0, .int a1] n σ (n, some (.int res), σ) := by
  unfold fX1_speed at h
  refine MT_of (by decide +kernel) rfl (fun h => by cases h) (Nat.le_of_ble_eq_true rfl) ?_
  show J X mX1_speed 2 0 0 (n, some (.int res), σ) 0 [(0, .ref a0), (1, .int a1)] [] n σ
  refine J_aload_n (z := 0) dX1_speed_0 rfl rfl (q := 1) rfl ?_
  refine J_iload_n (z := 1) dX1_speed_1 rfl rfl (q := 2) rfl ?_
  refine J_iconst (x := 2) dX1_speed_2 (by decide) (q := 3) rfl ?_
  obtain ⟨vk1, hk1, h⟩ := bindS h
  refine J_cVi (as := [.int a1, .int 2]) dX1_speed_3 mRX1_46 ha0 (tX1_readerItem ha0 hk1) rfl (Nat.le_of_ble_eq_true rfl) (Nat.le_of_ble_eq_true rfl) (Nat.le_of_ble_eq_true rfl) (q := 6) rfl ?_
  intro bk1
  have h := Option.some.inj h
  subst h
  exact J_ireturn dX1_speed_6 rfl rfl rfl

def fX8_reaches (a0 : Nat) (a1 : Nat) (a2 : Int32) (a3 : Int32) (σ : Mm) : Option (Int32) :=
  (gR σ a0 0).bind fun r1 => (fX1_hasReader r1 a2 σ).bind fun vk2 => if vk2 = 0 then some 0 else (gR σ a1 2).bind fun r4 => if ixB a2 (ln r4) = true then (fX1_steps r1 (gI σ r4 (Int32.toNatClampNeg a2)) a3 σ).bind fun vk6 => (fX1_speed r1 a2 σ).bind fun vk7 => if vk7 < vk6 then some 0 else some 1 else none
set_option maxRecDepth 20000 in
set_option maxHeartbeats 2000000 in
theorem tX8_reaches {X : XS} {n : Nat} {σ : Mm} {a0 : Nat} {a1 : Nat} {a2 : Int32} {a3 : Int32} (ha0 : RT n a0 108) (ha1 : RT n a1 106) {res : Int32} (h : fX8_reaches a0 a1 a2 a3 σ = some res) : MT X yX8_reaches mX8_reaches 3 0 0 [.ref a0, .ref a1, .int a2, .int a3] n σ (n, some (.int res), σ) := by
  unfold fX8_reaches at h
  refine MT_of (by decide +kernel) rfl (fun h => by cases h) (Nat.le_of_ble_eq_true rfl) ?_
  show J X mX8_reaches 3 0 0 (n, some (.int res), σ) 0 [(0, .ref a0), (1, .ref a1), (2, .int a2), (3, .int a3)] [] n σ
  refine J_aload_n (z := 0) dX8_reaches_0 rfl rfl (q := 1) rfl ?_
  obtain ⟨r1, er1, h⟩ := bindS h
  refine J_getR dX8_reaches_1 lRX8_15 ha0 rfl (by decide) er1 (q := 4) rfl (fun fr1 => ?_)
  refine J_iload_n (z := 2) dX8_reaches_4 rfl rfl (q := 5) rfl ?_
  obtain ⟨vk2, hk2, h⟩ := bindS h
  refine J_cVi (as := [.int a2]) dX8_reaches_5 mRX8_86 fr1 (tX1_hasReader fr1 hk2) rfl (Nat.le_of_ble_eq_true rfl) (Nat.le_of_ble_eq_true rfl) (Nat.le_of_ble_eq_true rfl) (q := 8) rfl ?_
  intro bk2
  refine J_if_eq (tgt := 40) dX8_reaches_8 (by decide) (q := 11) rfl (fun c2 => ?_) (fun c2 => ?_)
  · rw [if_pos c2] at h
    refine J_iconst (x := 0) dX8_reaches_40 (by decide) (q := 41) rfl ?_
    have h := Option.some.inj h
    subst h
    exact J_ireturn dX8_reaches_41 rfl rfl rfl
  · rw [if_neg c2] at h
    refine J_aload_n (z := 0) dX8_reaches_11 rfl rfl (q := 12) rfl ?_
    refine J_getR dX8_reaches_12 lRX8_15 ha0 rfl (by decide) er1 (q := 15) rfl (fun _ => ?_)
    refine J_aload_n (z := 1) dX8_reaches_15 rfl rfl (q := 16) rfl ?_
    obtain ⟨r4, er4, h⟩ := bindS h
    refine J_getR dX8_reaches_16 lRX8_25 ha1 rfl (by decide) er4 (q := 19) rfl (fun fr4 => ?_)
    refine J_iload_n (z := 2) dX8_reaches_19 rfl rfl (q := 20) rfl ?_
    obtain ⟨g5, h⟩ := iteS h
    refine J_iald dX8_reaches_20 fr4 (ixB_ok g5) (q := 21) rfl ?_
    refine J_iload_n (z := 3) dX8_reaches_21 rfl rfl (q := 22) rfl ?_
    obtain ⟨vk6, hk6, h⟩ := bindS h
    refine J_cVi (as := [.int (gI σ r4 (Int32.toNatClampNeg a2)), .int a3]) dX8_reaches_22 mRX8_34 fr1 (tX1_steps fr1 hk6) rfl (Nat.le_of_ble_eq_true rfl) (Nat.le_of_ble_eq_true rfl) (Nat.le_of_ble_eq_true rfl) (q := 25) rfl ?_
    intro bk6
    refine J_aload_n (z := 0) dX8_reaches_25 rfl rfl (q := 26) rfl ?_
    refine J_getR dX8_reaches_26 lRX8_15 ha0 rfl (by decide) er1 (q := 29) rfl (fun _ => ?_)
    refine J_iload_n (z := 2) dX8_reaches_29 rfl rfl (q := 30) rfl ?_
    obtain ⟨vk7, hk7, h⟩ := bindS h
    refine J_cVi (as := [.int a2]) dX8_reaches_30 mRX8_89 fr1 (tX1_speed fr1 hk7) rfl (Nat.le_of_ble_eq_true rfl) (Nat.le_of_ble_eq_true rfl) (Nat.le_of_ble_eq_true rfl) (q := 33) rfl ?_
    intro bk7
    refine J_icmp_gt (tgt := 40) dX8_reaches_33 (by decide) (q := 36) rfl (fun c7 => ?_) (fun c7 => ?_)
    · rw [if_pos c7] at h
      refine J_iconst (x := 0) dX8_reaches_40 (by decide) (q := 41) rfl ?_
      have h := Option.some.inj h
      subst h
      exact J_ireturn dX8_reaches_41 rfl rfl rfl
    · rw [if_neg c7] at h
      refine J_iconst (x := 1) dX8_reaches_36 (by decide) (q := 37) rfl ?_
      refine J_goto (tgt := 41) dX8_reaches_37 (by decide) ?_
      have h := Option.some.inj h
      subst h
      exact J_ireturn dX8_reaches_41 rfl rfl rfl

def fX8_may (a0 : Nat) (a1 : Nat) (a2 : Int32) (a3 : Int32) (a4 : Int32) (σ : Mm) : Option (Int32) :=
  if a2 = 4 then (gR σ a0 0).bind fun r39 => (fX1_isOpen r39 σ).bind fun vk40 => some vk40 else if a2 = 5 then (gR σ a0 0).bind fun r37 => (fX1_hasCell r37 a4 σ).bind fun vk38 => some vk38 else (gR σ a0 0).bind fun r3 => (fX1_hasReader r3 a3 σ).bind fun vk4 => if vk4 = 0 then some 0 else (fX6_hasDone a1 a3 σ).bind fun vk6 => if vk6 = 0 then if a2 = 0 then (fX1_hasPage r3 a4 σ).bind fun vk8 => if vk8 = 0 then some 0 else (gR σ a1 0).bind fun r10 => if ixB a4 (ln r10) = true then if (gI σ r10 (Int32.toNatClampNeg a4)) ≤ 0 then some 0 else (fX1_pageCell r3 a4 σ).bind fun vk13 => (fX8_reaches a0 a1 a3 vk13 σ).bind fun vk14 => if vk14 = 0 then some 0 else some 1 else none else if a2 = 1 then (fX1_hasPage r3 a4 σ).bind fun vk16 => if vk16 = 0 then some 0 else (fX6_recall a1 a3 a4 σ).bind fun vk18 => if vk18 = (-1) then some 0 else (fX1_pageCell r3 a4 σ).bind fun vk20 => (fX8_reaches a0 a1 a3 vk20 σ).bind fun vk21 => if vk21 = 0 then some 0 else some 1 else if a2 = 2 then (fX1_hasCell r3 a4 σ).bind fun vk23 => if vk23 = 0 then some 0 else (gR σ a1 2).bind fun r25 => if ixB a3 (ln r25) = true then if (gI σ r25 (Int32.toNatClampNeg a3)) = a4 then some 0 else (fX8_reaches a0 a1 a3 a4 σ).bind fun vk28 => if vk28 = 0 then some 0 else some 1 else none else if a2 = 3 then (fX1_hasReader r3 a4 σ).bind fun vk30 => if vk30 = 0 then some 0 else if a4 = a3 then some 0 else (gR σ a1 2).bind fun r33 => if ixB a4 (ln r33) = true then if ixB a3 (ln r33) = true then if (gI σ r33 (Int32.toNatClampNeg a4)) = (gI σ r33 (Int32.toNatClampNeg a3)) then some 1 else some 0 else none else none else some 0 else some 0
set_option maxRecDepth 20000 in
set_option maxHeartbeats 2000000 in
theorem tX8_may {X : XS} {n : Nat} {σ : Mm} {a0 : Nat} {a1 : Nat} {a2 : Int32} {a3 : Int32} {a4 : Int32} (ha0 : RT n a0 108) (ha1 : RT n a1 106) {res : Int32} (h : fX8_may a0 a1 a2 a3 a4 σ = some res) : MT X yX8_may mX8_may 4 0 0 [.ref a0, .ref a1, .int a2, .int a3, .int a4] n σ (n, some (.int res), σ) := by
  unfold fX8_may at h
  refine MT_of (by decide +kernel) rfl (fun h => by cases h) (Nat.le_of_ble_eq_true rfl) ?_
  show J X mX8_may 4 0 0 (n, some (.int res), σ) 0 [(0, .ref a0), (1, .ref a1), (2, .int a2), (3, .int a3), (4, .int a4)] [] n σ
  refine J_iload_n (z := 2) dX8_may_0 rfl rfl (q := 1) rfl ?_
  refine J_iconst (x := 4) dX8_may_1 (by decide) (q := 2) rfl ?_
  refine J_icmp_ne (tgt := 13) dX8_may_2 (by decide) (q := 5) rfl (fun c0 => ?_) (fun c0 => ?_)
  · rw [if_neg c0] at h
    refine J_iload_n (z := 2) dX8_may_13 rfl rfl (q := 14) rfl ?_
    refine J_iconst (x := 5) dX8_may_14 (by decide) (q := 15) rfl ?_
    refine J_icmp_ne (tgt := 28) dX8_may_15 (by decide) (q := 18) rfl (fun c1 => ?_) (fun c1 => ?_)
    · rw [if_neg c1] at h
      refine J_aload_n (z := 0) dX8_may_28 rfl rfl (q := 29) rfl ?_
      obtain ⟨r3, er3, h⟩ := bindS h
      refine J_getR dX8_may_29 lRX8_15 ha0 rfl (by decide) er3 (q := 32) rfl (fun fr3 => ?_)
      refine J_iload_n (z := 3) dX8_may_32 rfl rfl (q := 33) rfl ?_
      obtain ⟨vk4, hk4, h⟩ := bindS h
      refine J_cVi (as := [.int a3]) dX8_may_33 mRX8_86 fr3 (tX1_hasReader fr3 hk4) rfl (Nat.le_of_ble_eq_true rfl) (Nat.le_of_ble_eq_true rfl) (Nat.le_of_ble_eq_true rfl) (q := 36) rfl ?_
      intro bk4
      refine J_if_eq (tgt := 47) dX8_may_36 (by decide) (q := 39) rfl (fun c4 => ?_) (fun c4 => ?_)
      · rw [if_pos c4] at h
        refine J_iconst (x := 0) dX8_may_47 (by decide) (q := 48) rfl ?_
        have h := Option.some.inj h
        subst h
        exact J_ireturn dX8_may_48 rfl rfl rfl
      · rw [if_neg c4] at h
        refine J_aload_n (z := 1) dX8_may_39 rfl rfl (q := 40) rfl ?_
        refine J_iload_n (z := 3) dX8_may_40 rfl rfl (q := 41) rfl ?_
        obtain ⟨vk6, hk6, h⟩ := bindS h
        refine J_cVi (as := [.int a3]) dX8_may_41 mRX8_99 ha1 (tX6_hasDone ha1 hk6) rfl (Nat.le_of_ble_eq_true rfl) (Nat.le_of_ble_eq_true rfl) (Nat.le_of_ble_eq_true rfl) (q := 44) rfl ?_
        intro bk6
        refine J_if_eq (tgt := 49) dX8_may_44 (by decide) (q := 47) rfl (fun c6 => ?_) (fun c6 => ?_)
        · rw [if_pos c6] at h
          refine J_iload_n (z := 2) dX8_may_49 rfl rfl (q := 50) rfl ?_
          refine J_table dX8_may_50 [(0, 80), (1, 126), (2, 173), (3, 213)] 253 (by decide) (by decide) (by decide) ?_ ?_
          · refine List.forall_mem_cons.mpr ⟨fun hx => ?_, List.forall_mem_cons.mpr ⟨fun hx => ?_, List.forall_mem_cons.mpr ⟨fun hx => ?_, List.forall_mem_cons.mpr ⟨fun hx => ?_, fun _ hh => absurd hh List.not_mem_nil⟩⟩⟩⟩
            · replace hx : a2 = 0 := hx
              rw [if_pos hx] at h
              refine J_aload_n (z := 0) dX8_may_80 rfl rfl (q := 81) rfl ?_
              refine J_getR dX8_may_81 lRX8_15 ha0 rfl (by decide) er3 (q := 84) rfl (fun _ => ?_)
              refine J_iload (z := 4) dX8_may_84 rfl (q := 86) rfl ?_
              obtain ⟨vk8, hk8, h⟩ := bindS h
              refine J_cVi (as := [.int a4]) dX8_may_86 mRX8_38 fr3 (tX1_hasPage fr3 hk8) rfl (Nat.le_of_ble_eq_true rfl) (Nat.le_of_ble_eq_true rfl) (Nat.le_of_ble_eq_true rfl) (q := 89) rfl ?_
              intro bk8
              refine J_if_eq (tgt := 124) dX8_may_89 (by decide) (q := 92) rfl (fun c8 => ?_) (fun c8 => ?_)
              · rw [if_pos c8] at h
                refine J_iconst (x := 0) dX8_may_124 (by decide) (q := 125) rfl ?_
                have h := Option.some.inj h
                subst h
                exact J_ireturn dX8_may_125 rfl rfl rfl
              · rw [if_neg c8] at h
                refine J_aload_n (z := 1) dX8_may_92 rfl rfl (q := 93) rfl ?_
                obtain ⟨r10, er10, h⟩ := bindS h
                refine J_getR dX8_may_93 lRX8_52 ha1 rfl (by decide) er10 (q := 96) rfl (fun fr10 => ?_)
                refine J_iload (z := 4) dX8_may_96 rfl (q := 98) rfl ?_
                obtain ⟨g11, h⟩ := iteS h
                refine J_iald dX8_may_98 fr10 (ixB_ok g11) (q := 99) rfl ?_
                refine J_if_le (tgt := 124) dX8_may_99 (by decide) (q := 102) rfl (fun c11 => ?_) (fun c11 => ?_)
                · rw [if_pos c11] at h
                  refine J_iconst (x := 0) dX8_may_124 (by decide) (q := 125) rfl ?_
                  have h := Option.some.inj h
                  subst h
                  exact J_ireturn dX8_may_125 rfl rfl rfl
                · rw [if_neg c11] at h
                  refine J_aload_n (z := 0) dX8_may_102 rfl rfl (q := 103) rfl ?_
                  refine J_aload_n (z := 1) dX8_may_103 rfl rfl (q := 104) rfl ?_
                  refine J_iload_n (z := 3) dX8_may_104 rfl rfl (q := 105) rfl ?_
                  refine J_aload_n (z := 0) dX8_may_105 rfl rfl (q := 106) rfl ?_
                  refine J_getR dX8_may_106 lRX8_15 ha0 rfl (by decide) er3 (q := 109) rfl (fun _ => ?_)
                  refine J_iload (z := 4) dX8_may_109 rfl (q := 111) rfl ?_
                  obtain ⟨vk13, hk13, h⟩ := bindS h
                  refine J_cVi (as := [.int a4]) dX8_may_111 mRX8_30 fr3 (tX1_pageCell fr3 hk13) rfl (Nat.le_of_ble_eq_true rfl) (Nat.le_of_ble_eq_true rfl) (Nat.le_of_ble_eq_true rfl) (q := 114) rfl ?_
                  intro bk13
                  obtain ⟨vk14, hk14, h⟩ := bindS h
                  refine J_cVi (as := [.ref a1, .int a3, .int vk13]) dX8_may_114 mRX8_102 ha0 (tX8_reaches ha0 ha1 hk14) rfl (Nat.le_of_ble_eq_true rfl) (Nat.le_of_ble_eq_true rfl) (Nat.le_of_ble_eq_true rfl) (q := 117) rfl ?_
                  intro bk14
                  refine J_if_eq (tgt := 124) dX8_may_117 (by decide) (q := 120) rfl (fun c14 => ?_) (fun c14 => ?_)
                  · rw [if_pos c14] at h
                    refine J_iconst (x := 0) dX8_may_124 (by decide) (q := 125) rfl ?_
                    have h := Option.some.inj h
                    subst h
                    exact J_ireturn dX8_may_125 rfl rfl rfl
                  · rw [if_neg c14] at h
                    refine J_iconst (x := 1) dX8_may_120 (by decide) (q := 121) rfl ?_
                    refine J_goto (tgt := 125) dX8_may_121 (by decide) ?_
                    have h := Option.some.inj h
                    subst h
                    exact J_ireturn dX8_may_125 rfl rfl rfl
            · replace hx : a2 = 1 := hx
              rw [if_neg (by rw [hx]; decide), if_pos hx] at h
              refine J_aload_n (z := 0) dX8_may_126 rfl rfl (q := 127) rfl ?_
              refine J_getR dX8_may_127 lRX8_15 ha0 rfl (by decide) er3 (q := 130) rfl (fun _ => ?_)
              refine J_iload (z := 4) dX8_may_130 rfl (q := 132) rfl ?_
              obtain ⟨vk16, hk16, h⟩ := bindS h
              refine J_cVi (as := [.int a4]) dX8_may_132 mRX8_38 fr3 (tX1_hasPage fr3 hk16) rfl (Nat.le_of_ble_eq_true rfl) (Nat.le_of_ble_eq_true rfl) (Nat.le_of_ble_eq_true rfl) (q := 135) rfl ?_
              intro bk16
              refine J_if_eq (tgt := 171) dX8_may_135 (by decide) (q := 138) rfl (fun c16 => ?_) (fun c16 => ?_)
              · rw [if_pos c16] at h
                refine J_iconst (x := 0) dX8_may_171 (by decide) (q := 172) rfl ?_
                have h := Option.some.inj h
                subst h
                exact J_ireturn dX8_may_172 rfl rfl rfl
              · rw [if_neg c16] at h
                refine J_aload_n (z := 1) dX8_may_138 rfl rfl (q := 139) rfl ?_
                refine J_iload_n (z := 3) dX8_may_139 rfl rfl (q := 140) rfl ?_
                refine J_iload (z := 4) dX8_may_140 rfl (q := 142) rfl ?_
                obtain ⟨vk18, hk18, h⟩ := bindS h
                refine J_cVi (as := [.int a3, .int a4]) dX8_may_142 mRX8_106 ha1 (tX6_recall ha1 hk18) rfl (Nat.le_of_ble_eq_true rfl) (Nat.le_of_ble_eq_true rfl) (Nat.le_of_ble_eq_true rfl) (q := 145) rfl ?_
                intro bk18
                refine J_iconst (x := (-1)) dX8_may_145 (by decide) (q := 146) rfl ?_
                refine J_icmp_eq (tgt := 171) dX8_may_146 (by decide) (q := 149) rfl (fun c18 => ?_) (fun c18 => ?_)
                · rw [if_pos c18] at h
                  refine J_iconst (x := 0) dX8_may_171 (by decide) (q := 172) rfl ?_
                  have h := Option.some.inj h
                  subst h
                  exact J_ireturn dX8_may_172 rfl rfl rfl
                · rw [if_neg c18] at h
                  refine J_aload_n (z := 0) dX8_may_149 rfl rfl (q := 150) rfl ?_
                  refine J_aload_n (z := 1) dX8_may_150 rfl rfl (q := 151) rfl ?_
                  refine J_iload_n (z := 3) dX8_may_151 rfl rfl (q := 152) rfl ?_
                  refine J_aload_n (z := 0) dX8_may_152 rfl rfl (q := 153) rfl ?_
                  refine J_getR dX8_may_153 lRX8_15 ha0 rfl (by decide) er3 (q := 156) rfl (fun _ => ?_)
                  refine J_iload (z := 4) dX8_may_156 rfl (q := 158) rfl ?_
                  obtain ⟨vk20, hk20, h⟩ := bindS h
                  refine J_cVi (as := [.int a4]) dX8_may_158 mRX8_30 fr3 (tX1_pageCell fr3 hk20) rfl (Nat.le_of_ble_eq_true rfl) (Nat.le_of_ble_eq_true rfl) (Nat.le_of_ble_eq_true rfl) (q := 161) rfl ?_
                  intro bk20
                  obtain ⟨vk21, hk21, h⟩ := bindS h
                  refine J_cVi (as := [.ref a1, .int a3, .int vk20]) dX8_may_161 mRX8_102 ha0 (tX8_reaches ha0 ha1 hk21) rfl (Nat.le_of_ble_eq_true rfl) (Nat.le_of_ble_eq_true rfl) (Nat.le_of_ble_eq_true rfl) (q := 164) rfl ?_
                  intro bk21
                  refine J_if_eq (tgt := 171) dX8_may_164 (by decide) (q := 167) rfl (fun c21 => ?_) (fun c21 => ?_)
                  · rw [if_pos c21] at h
                    refine J_iconst (x := 0) dX8_may_171 (by decide) (q := 172) rfl ?_
                    have h := Option.some.inj h
                    subst h
                    exact J_ireturn dX8_may_172 rfl rfl rfl
                  · rw [if_neg c21] at h
                    refine J_iconst (x := 1) dX8_may_167 (by decide) (q := 168) rfl ?_
                    refine J_goto (tgt := 172) dX8_may_168 (by decide) ?_
                    have h := Option.some.inj h
                    subst h
                    exact J_ireturn dX8_may_172 rfl rfl rfl
            · replace hx : a2 = 2 := hx
              rw [if_neg (by rw [hx]; decide), if_neg (by rw [hx]; decide), if_pos hx] at h
              refine J_aload_n (z := 0) dX8_may_173 rfl rfl (q := 174) rfl ?_
              refine J_getR dX8_may_174 lRX8_15 ha0 rfl (by decide) er3 (q := 177) rfl (fun _ => ?_)
              refine J_iload (z := 4) dX8_may_177 rfl (q := 179) rfl ?_
              obtain ⟨vk23, hk23, h⟩ := bindS h
              refine J_cVi (as := [.int a4]) dX8_may_179 mRX8_96 fr3 (tX1_hasCell fr3 hk23) rfl (Nat.le_of_ble_eq_true rfl) (Nat.le_of_ble_eq_true rfl) (Nat.le_of_ble_eq_true rfl) (q := 182) rfl ?_
              intro bk23
              refine J_if_eq (tgt := 211) dX8_may_182 (by decide) (q := 185) rfl (fun c23 => ?_) (fun c23 => ?_)
              · rw [if_pos c23] at h
                refine J_iconst (x := 0) dX8_may_211 (by decide) (q := 212) rfl ?_
                have h := Option.some.inj h
                subst h
                exact J_ireturn dX8_may_212 rfl rfl rfl
              · rw [if_neg c23] at h
                refine J_aload_n (z := 1) dX8_may_185 rfl rfl (q := 186) rfl ?_
                obtain ⟨r25, er25, h⟩ := bindS h
                refine J_getR dX8_may_186 lRX8_25 ha1 rfl (by decide) er25 (q := 189) rfl (fun fr25 => ?_)
                refine J_iload_n (z := 3) dX8_may_189 rfl rfl (q := 190) rfl ?_
                obtain ⟨g26, h⟩ := iteS h
                refine J_iald dX8_may_190 fr25 (ixB_ok g26) (q := 191) rfl ?_
                refine J_iload (z := 4) dX8_may_191 rfl (q := 193) rfl ?_
                refine J_icmp_eq (tgt := 211) dX8_may_193 (by decide) (q := 196) rfl (fun c26 => ?_) (fun c26 => ?_)
                · rw [if_pos c26] at h
                  refine J_iconst (x := 0) dX8_may_211 (by decide) (q := 212) rfl ?_
                  have h := Option.some.inj h
                  subst h
                  exact J_ireturn dX8_may_212 rfl rfl rfl
                · rw [if_neg c26] at h
                  refine J_aload_n (z := 0) dX8_may_196 rfl rfl (q := 197) rfl ?_
                  refine J_aload_n (z := 1) dX8_may_197 rfl rfl (q := 198) rfl ?_
                  refine J_iload_n (z := 3) dX8_may_198 rfl rfl (q := 199) rfl ?_
                  refine J_iload (z := 4) dX8_may_199 rfl (q := 201) rfl ?_
                  obtain ⟨vk28, hk28, h⟩ := bindS h
                  refine J_cVi (as := [.ref a1, .int a3, .int a4]) dX8_may_201 mRX8_102 ha0 (tX8_reaches ha0 ha1 hk28) rfl (Nat.le_of_ble_eq_true rfl) (Nat.le_of_ble_eq_true rfl) (Nat.le_of_ble_eq_true rfl) (q := 204) rfl ?_
                  intro bk28
                  refine J_if_eq (tgt := 211) dX8_may_204 (by decide) (q := 207) rfl (fun c28 => ?_) (fun c28 => ?_)
                  · rw [if_pos c28] at h
                    refine J_iconst (x := 0) dX8_may_211 (by decide) (q := 212) rfl ?_
                    have h := Option.some.inj h
                    subst h
                    exact J_ireturn dX8_may_212 rfl rfl rfl
                  · rw [if_neg c28] at h
                    refine J_iconst (x := 1) dX8_may_207 (by decide) (q := 208) rfl ?_
                    refine J_goto (tgt := 212) dX8_may_208 (by decide) ?_
                    have h := Option.some.inj h
                    subst h
                    exact J_ireturn dX8_may_212 rfl rfl rfl
            · replace hx : a2 = 3 := hx
              rw [if_neg (by rw [hx]; decide), if_neg (by rw [hx]; decide), if_neg (by rw [hx]; decide), if_pos hx] at h
              refine J_aload_n (z := 0) dX8_may_213 rfl rfl (q := 214) rfl ?_
              refine J_getR dX8_may_214 lRX8_15 ha0 rfl (by decide) er3 (q := 217) rfl (fun _ => ?_)
              refine J_iload (z := 4) dX8_may_217 rfl (q := 219) rfl ?_
              obtain ⟨vk30, hk30, h⟩ := bindS h
              refine J_cVi (as := [.int a4]) dX8_may_219 mRX8_86 fr3 (tX1_hasReader fr3 hk30) rfl (Nat.le_of_ble_eq_true rfl) (Nat.le_of_ble_eq_true rfl) (Nat.le_of_ble_eq_true rfl) (q := 222) rfl ?_
              intro bk30
              refine J_if_eq (tgt := 251) dX8_may_222 (by decide) (q := 225) rfl (fun c30 => ?_) (fun c30 => ?_)
              · rw [if_pos c30] at h
                refine J_iconst (x := 0) dX8_may_251 (by decide) (q := 252) rfl ?_
                have h := Option.some.inj h
                subst h
                exact J_ireturn dX8_may_252 rfl rfl rfl
              · rw [if_neg c30] at h
                refine J_iload (z := 4) dX8_may_225 rfl (q := 227) rfl ?_
                refine J_iload_n (z := 3) dX8_may_227 rfl rfl (q := 228) rfl ?_
                refine J_icmp_eq (tgt := 251) dX8_may_228 (by decide) (q := 231) rfl (fun c31 => ?_) (fun c31 => ?_)
                · rw [if_pos c31] at h
                  refine J_iconst (x := 0) dX8_may_251 (by decide) (q := 252) rfl ?_
                  have h := Option.some.inj h
                  subst h
                  exact J_ireturn dX8_may_252 rfl rfl rfl
                · rw [if_neg c31] at h
                  refine J_aload_n (z := 1) dX8_may_231 rfl rfl (q := 232) rfl ?_
                  obtain ⟨r33, er33, h⟩ := bindS h
                  refine J_getR dX8_may_232 lRX8_25 ha1 rfl (by decide) er33 (q := 235) rfl (fun fr33 => ?_)
                  refine J_iload (z := 4) dX8_may_235 rfl (q := 237) rfl ?_
                  obtain ⟨g34, h⟩ := iteS h
                  refine J_iald dX8_may_237 fr33 (ixB_ok g34) (q := 238) rfl ?_
                  refine J_aload_n (z := 1) dX8_may_238 rfl rfl (q := 239) rfl ?_
                  refine J_getR dX8_may_239 lRX8_25 ha1 rfl (by decide) er33 (q := 242) rfl (fun _ => ?_)
                  refine J_iload_n (z := 3) dX8_may_242 rfl rfl (q := 243) rfl ?_
                  obtain ⟨g35, h⟩ := iteS h
                  refine J_iald dX8_may_243 fr33 (ixB_ok g35) (q := 244) rfl ?_
                  refine J_icmp_ne (tgt := 251) dX8_may_244 (by decide) (q := 247) rfl (fun c35 => ?_) (fun c35 => ?_)
                  · rw [if_neg c35] at h
                    refine J_iconst (x := 0) dX8_may_251 (by decide) (q := 252) rfl ?_
                    have h := Option.some.inj h
                    subst h
                    exact J_ireturn dX8_may_252 rfl rfl rfl
                  · rw [if_pos c35] at h
                    refine J_iconst (x := 1) dX8_may_247 (by decide) (q := 248) rfl ?_
                    refine J_goto (tgt := 252) dX8_may_248 (by decide) ?_
                    have h := Option.some.inj h
                    subst h
                    exact J_ireturn dX8_may_252 rfl rfl rfl
          · intro hx
            rw [if_neg (hx (0, 80) (by decide)), if_neg (hx (1, 126) (by decide)), if_neg (hx (2, 173) (by decide)), if_neg (hx (3, 213) (by decide))] at h
            refine J_iconst (x := 0) dX8_may_253 (by decide) (q := 254) rfl ?_
            have h := Option.some.inj h
            subst h
            exact J_ireturn dX8_may_254 rfl rfl rfl
        · rw [if_neg c6] at h
          refine J_iconst (x := 0) dX8_may_47 (by decide) (q := 48) rfl ?_
          have h := Option.some.inj h
          subst h
          exact J_ireturn dX8_may_48 rfl rfl rfl
    · rw [if_pos c1] at h
      refine J_aload_n (z := 0) dX8_may_18 rfl rfl (q := 19) rfl ?_
      obtain ⟨r37, er37, h⟩ := bindS h
      refine J_getR dX8_may_19 lRX8_15 ha0 rfl (by decide) er37 (q := 22) rfl (fun fr37 => ?_)
      refine J_iload (z := 4) dX8_may_22 rfl (q := 24) rfl ?_
      obtain ⟨vk38, hk38, h⟩ := bindS h
      refine J_cVi (as := [.int a4]) dX8_may_24 mRX8_96 fr37 (tX1_hasCell fr37 hk38) rfl (Nat.le_of_ble_eq_true rfl) (Nat.le_of_ble_eq_true rfl) (Nat.le_of_ble_eq_true rfl) (q := 27) rfl ?_
      intro bk38
      have h := Option.some.inj h
      subst h
      exact J_ireturn dX8_may_27 rfl bk38 rfl
  · rw [if_pos c0] at h
    refine J_aload_n (z := 0) dX8_may_5 rfl rfl (q := 6) rfl ?_
    obtain ⟨r39, er39, h⟩ := bindS h
    refine J_getR dX8_may_6 lRX8_15 ha0 rfl (by decide) er39 (q := 9) rfl (fun fr39 => ?_)
    obtain ⟨vk40, hk40, h⟩ := bindS h
    refine J_cVi (as := []) dX8_may_9 mRX8_92 fr39 (tX1_isOpen fr39 hk40) rfl (Nat.le_of_ble_eq_true rfl) (Nat.le_of_ble_eq_true rfl) (Nat.le_of_ble_eq_true rfl) (q := 12) rfl ?_
    intro bk40
    have h := Option.some.inj h
    subst h
    exact J_ireturn dX8_may_12 rfl bk40 rfl

def RECX0 (X : XS) (dr n : Nat) (rec : Nat → Int32 → Int32 → Int32 → Int32 → Int32 → Mm → Option Mm) : Prop :=
  (∀ {a0 : Nat} {a1 : Int32} {a2 : Int32} {a3 : Int32} {a4 : Int32} {a5 : Int32} {σ : Mm} {res : Mm}, RT n a0 100 → rec a0 a1 a2 a3 a4 a5 σ = some res → MT X yX0_tryRows mX0_tryRows dr 0 0 [.ref a0, .int a1, .int a2, .int a3, .int a4, .int a5] n σ (n, none, res))
def fX0_tryRows_b171 (rec : Nat → Int32 → Int32 → Int32 → Int32 → Int32 → Mm → Option Mm) (a0 : Nat) (a1 : Int32) (a2 : Int32) (a3 : Int32) (a4 : Int32) (a5 : Int32) (a6 : Int32) (σ : Mm) : Option ((Int32 × Mm) ⊕ (Mm)) :=
  some (Sum.inl ((a6 + 1), σ))
set_option maxRecDepth 20000 in
set_option maxHeartbeats 2000000 in
theorem tX0_tryRows_b171 {X : XS} {n : Nat} {σ : Mm} {F : Nat × Option Value × Mm} {dr : Nat} {rec : Nat → Int32 → Int32 → Int32 → Int32 → Int32 → Mm → Option Mm} (hD : 6 ≤ dr) (hrec : RECX0 X dr n rec) {a0 : Nat} {a1 : Int32} {a2 : Int32} {a3 : Int32} {a4 : Int32} {a5 : Int32} {a6 : Int32} (ha0 : RT n a0 100) {res : (Int32 × Mm) ⊕ (Mm)} (h : fX0_tryRows_b171 rec a0 a1 a2 a3 a4 a5 a6 σ = some res) (hc : ∀ (b6 : Int32) (s : Mm), res = .inl (b6, s) → J X mX0_tryRows (dr + 1) 0 0 F 54 [(0, .ref a0), (1, .int a1), (2, .int a2), (3, .int a3), (4, .int a4), (5, .int a5), (6, .int b6)] [] n s) (hr : ∀ (s : Mm), res = .inr s → F = (n, none, s)) : J X mX0_tryRows (dr + 1) 0 0 F 171 [(0, .ref a0), (1, .int a1), (2, .int a2), (3, .int a3), (4, .int a4), (5, .int a5), (6, .int a6)] [] n σ := by
  unfold fX0_tryRows_b171 at h
  refine J_iinc (z := 6) (y := (a6 + 1)) (lv' := [(6, .int (a6 + 1)), (0, .ref a0), (1, .int a1), (2, .int a2), (3, .int a3), (4, .int a4), (5, .int a5)]) dX0_tryRows_171 rfl rfl (by decide) rfl (q := 174) rfl ?_
  refine J_goto (tgt := 54) dX0_tryRows_174 (by decide) ?_
  have h := Option.some.inj h
  refine J_pick [1, 2, 3, 4, 5, 6, 0] rfl ?_
  exact hc _ _ h.symm

def fX0_tryRows_l54 (rec : Nat → Int32 → Int32 → Int32 → Int32 → Int32 → Mm → Option Mm) (a0 : Nat) (a1 : Int32) (a2 : Int32) (a3 : Int32) (a4 : Int32) (a5 : Int32) (a6 : Int32) (σ : Mm) : Option ((Int32 × Mm) ⊕ (Mm)) :=
  (gR σ a0 0).bind fun r6 => if (gI σ r6 4) ≤ a6 then some (Sum.inr σ) else if ((shrI a3 a6) &&& 1) = 1 then (gR σ a0 1).bind fun r9 => (gR σ a0 2).bind fun r10 => if ixB a1 (ln r10) = true then (gR σ r10 (Int32.toNatClampNeg a1)).bind fun r12 => (fX8_may r9 r12 0 a2 a6 σ).bind fun vk13 => if vk13 = 0 then fX0_tryRows_b171 rec a0 a1 a2 a3 a4 a5 a6 σ else if ixB (a1 + 1) (ln r10) = true then (gR σ r10 (Int32.toNatClampNeg (a1 + 1))).bind fun r16 => if ixB a1 (ln r10) = true then (gR σ r10 (Int32.toNatClampNeg a1)).bind fun r18 => (fX6_takeFrom r16 r18 σ).bind fun sk19 => (gR sk19 a0 1).bind fun r20 => bnd2 (fX8_carryOut r20 r16 0 a2 a6 sk19) fun vk21 sk21 => (gR sk21 a0 1).bind fun r22 => bnd2 (fX8_fallNight r22 r16 sk21) fun vk23 sk23 => (rec a0 (a1 + 1) a2 (a3 &&& ((shlI 1 a6) ^^^ (-1))) ((a4 * 12) + a6) (a5 + vk21) sk23).bind fun sk24 => fX0_tryRows_b171 rec a0 a1 a2 a3 a4 a5 a6 sk24 else none else none else none else fX0_tryRows_b171 rec a0 a1 a2 a3 a4 a5 a6 σ
set_option maxRecDepth 20000 in
set_option maxHeartbeats 2000000 in
theorem tX0_tryRows_l54 {X : XS} {n : Nat} {σ : Mm} {F : Nat × Option Value × Mm} {dr : Nat} {rec : Nat → Int32 → Int32 → Int32 → Int32 → Int32 → Mm → Option Mm} (hD : 6 ≤ dr) (hrec : RECX0 X dr n rec) {a0 : Nat} {a1 : Int32} {a2 : Int32} {a3 : Int32} {a4 : Int32} {a5 : Int32} {a6 : Int32} (ha0 : RT n a0 100) {res : (Int32 × Mm) ⊕ (Mm)} (h : fX0_tryRows_l54 rec a0 a1 a2 a3 a4 a5 a6 σ = some res) (hc : ∀ (b6 : Int32) (s : Mm), res = .inl (b6, s) → J X mX0_tryRows (dr + 1) 0 0 F 54 [(0, .ref a0), (1, .int a1), (2, .int a2), (3, .int a3), (4, .int a4), (5, .int a5), (6, .int b6)] [] n s) (hr : ∀ (s : Mm), res = .inr s → F = (n, none, s)) : J X mX0_tryRows (dr + 1) 0 0 F 54 [(0, .ref a0), (1, .int a1), (2, .int a2), (3, .int a3), (4, .int a4), (5, .int a5), (6, .int a6)] [] n σ := by
  unfold fX0_tryRows_l54 at h
  refine J_iload (z := 6) dX0_tryRows_54 rfl (q := 56) rfl ?_
  refine J_aload_n (z := 0) dX0_tryRows_56 rfl rfl (q := 57) rfl ?_
  obtain ⟨r6, er6, h⟩ := bindS h
  refine J_getR dX0_tryRows_57 lRX0_28 ha0 rfl (by decide) er6 (q := 60) rfl (fun fr6 => ?_)
  refine J_getI dX0_tryRows_60 lRX0_76 fr6 rfl (q := 63) rfl ?_
  refine J_icmp_ge (tgt := 177) dX0_tryRows_63 (by decide) (q := 66) rfl (fun c6 => ?_) (fun c6 => ?_)
  · rw [if_pos c6] at h
    have h := Option.some.inj h
    exact J_return dX0_tryRows_177 rfl (hr _ h.symm)
  · rw [if_neg c6] at h
    refine J_iload_n (z := 3) dX0_tryRows_66 rfl rfl (q := 67) rfl ?_
    refine J_iload (z := 6) dX0_tryRows_67 rfl (q := 69) rfl ?_
    refine J_ishr dX0_tryRows_69  (q := 70) rfl ?_
    refine J_iconst (x := 1) dX0_tryRows_70 (by decide) (q := 71) rfl ?_
    refine J_iand dX0_tryRows_71  (q := 72) rfl ?_
    refine J_iconst (x := 1) dX0_tryRows_72 (by decide) (q := 73) rfl ?_
    refine J_icmp_ne (tgt := 171) dX0_tryRows_73 (by decide) (q := 76) rfl (fun c7 => ?_) (fun c7 => ?_)
    · rw [if_neg c7] at h
      refine J_pick [0, 1, 2, 3, 4, 5, 6] rfl ?_
      exact tX0_tryRows_b171 hD hrec ha0 h hc hr
    · rw [if_pos c7] at h
      refine J_aload_n (z := 0) dX0_tryRows_76 rfl rfl (q := 77) rfl ?_
      obtain ⟨r9, er9, h⟩ := bindS h
      refine J_getR dX0_tryRows_77 lRX0_32 ha0 rfl (by decide) er9 (q := 80) rfl (fun fr9 => ?_)
      refine J_aload_n (z := 0) dX0_tryRows_80 rfl rfl (q := 81) rfl ?_
      obtain ⟨r10, er10, h⟩ := bindS h
      refine J_getR dX0_tryRows_81 lRX0_11 ha0 rfl (by decide) er10 (q := 84) rfl (fun fr10 => ?_)
      refine J_iload_n (z := 1) dX0_tryRows_84 rfl rfl (q := 85) rfl ?_
      obtain ⟨g11, h⟩ := iteS h
      obtain ⟨r12, er12, h⟩ := bindS h
      refine J_aald (t := 5) dX0_tryRows_85 fr10 (by decide) (ixB_ok g11) er12 (q := 86) rfl (fun fr12 => ?_)
      refine J_iconst (x := 0) dX0_tryRows_86 (by decide) (q := 87) rfl ?_
      refine J_iload_n (z := 2) dX0_tryRows_87 rfl rfl (q := 88) rfl ?_
      refine J_iload (z := 6) dX0_tryRows_88 rfl (q := 90) rfl ?_
      obtain ⟨vk13, hk13, h⟩ := bindS h
      refine J_cVi (as := [.ref r12, .int 0, .int a2, .int a6]) dX0_tryRows_90 mRX0_79 fr9 (tX8_may fr9 fr12 hk13) rfl (by omega) (Nat.le_of_ble_eq_true rfl) (Nat.le_of_ble_eq_true rfl) (q := 93) rfl ?_
      intro bk13
      refine J_if_eq (tgt := 171) dX0_tryRows_93 (by decide) (q := 96) rfl (fun c13 => ?_) (fun c13 => ?_)
      · rw [if_pos c13] at h
        refine J_pick [0, 1, 2, 3, 4, 5, 6] rfl ?_
        exact tX0_tryRows_b171 hD hrec ha0 h hc hr
      · rw [if_neg c13] at h
        refine J_aload_n (z := 0) dX0_tryRows_96 rfl rfl (q := 97) rfl ?_
        refine J_getR dX0_tryRows_97 lRX0_11 ha0 rfl (by decide) er10 (q := 100) rfl (fun _ => ?_)
        refine J_iload_n (z := 1) dX0_tryRows_100 rfl rfl (q := 101) rfl ?_
        refine J_iconst (x := 1) dX0_tryRows_101 (by decide) (q := 102) rfl ?_
        refine J_iadd dX0_tryRows_102  (q := 103) rfl ?_
        obtain ⟨g15, h⟩ := iteS h
        obtain ⟨r16, er16, h⟩ := bindS h
        refine J_aald (t := 5) dX0_tryRows_103 fr10 (by decide) (ixB_ok g15) er16 (q := 104) rfl (fun fr16 => ?_)
        refine J_astore (lv' := [(7, .ref r16), (0, .ref a0), (1, .int a1), (2, .int a2), (3, .int a3), (4, .int a4), (5, .int a5), (6, .int a6)]) dX0_tryRows_104 (by decide) rfl (q := 106) rfl ?_
        refine J_aload (z := 0) dX0_tryRows_106 rfl (q := 108) rfl ?_
        refine J_aload_n (z := 1) dX0_tryRows_108 rfl rfl (q := 109) rfl ?_
        refine J_getR dX0_tryRows_109 lRX0_11 ha0 rfl (by decide) er10 (q := 112) rfl (fun _ => ?_)
        refine J_iload_n (z := 2) dX0_tryRows_112 rfl rfl (q := 113) rfl ?_
        obtain ⟨g17, h⟩ := iteS h
        obtain ⟨r18, er18, h⟩ := bindS h
        refine J_aald (t := 5) dX0_tryRows_113 fr10 (by decide) (ixB_ok g17) er18 (q := 114) rfl (fun fr18 => ?_)
        obtain ⟨sk19, hk19, h⟩ := bindS h
        refine J_cVv (as := [.ref r18]) dX0_tryRows_114 mRX0_61 fr16 (tX6_takeFrom fr16 fr18 hk19) rfl (by omega) (Nat.le_of_ble_eq_true rfl) (Nat.le_of_ble_eq_true rfl) (q := 117) rfl ?_
        refine J_aload_n (z := 1) dX0_tryRows_117 rfl rfl (q := 118) rfl ?_
        obtain ⟨r20, er20, h⟩ := bindS h
        refine J_getR dX0_tryRows_118 lRX0_32 ha0 rfl (by decide) er20 (q := 121) rfl (fun fr20 => ?_)
        refine J_aload (z := 0) dX0_tryRows_121 rfl (q := 123) rfl ?_
        refine J_iconst (x := 0) dX0_tryRows_123 (by decide) (q := 124) rfl ?_
        refine J_iload_n (z := 3) dX0_tryRows_124 rfl rfl (q := 125) rfl ?_
        refine J_iload (z := 7) dX0_tryRows_125 rfl (q := 127) rfl ?_
        obtain ⟨vk21, sk21, hk21, h⟩ := bnd2S h
        refine J_cVi (as := [.ref r16, .int 0, .int a2, .int a6]) dX0_tryRows_127 mRX0_83 fr20 (tX8_carryOut fr20 fr16 hk21) rfl (by omega) (Nat.le_of_ble_eq_true rfl) (Nat.le_of_ble_eq_true rfl) (q := 130) rfl ?_
        intro bk21
        refine J_istore (lv' := [(8, .int vk21), (7, .ref r16), (0, .ref a0), (1, .int a1), (2, .int a2), (3, .int a3), (4, .int a4), (5, .int a5), (6, .int a6)]) dX0_tryRows_130 (by decide) rfl (q := 132) rfl ?_
        refine J_aload_n (z := 2) dX0_tryRows_132 rfl rfl (q := 133) rfl ?_
        obtain ⟨r22, er22, h⟩ := bindS h
        refine J_getR dX0_tryRows_133 lRX0_32 ha0 rfl (by decide) er22 (q := 136) rfl (fun fr22 => ?_)
        refine J_aload (z := 1) dX0_tryRows_136 rfl (q := 138) rfl ?_
        obtain ⟨vk23, sk23, hk23, h⟩ := bnd2S h
        refine J_cVi (as := [.ref r16]) dX0_tryRows_138 mRX0_69 fr22 (tX8_fallNight fr22 fr16 hk23) rfl (by omega) (Nat.le_of_ble_eq_true rfl) (Nat.le_of_ble_eq_true rfl) (q := 141) rfl ?_
        intro bk23
        refine J_pop dX0_tryRows_141 rfl (q := 142) rfl ?_
        refine J_aload_n (z := 2) dX0_tryRows_142 rfl rfl (q := 143) rfl ?_
        refine J_iload_n (z := 3) dX0_tryRows_143 rfl rfl (q := 144) rfl ?_
        refine J_iconst (x := 1) dX0_tryRows_144 (by decide) (q := 145) rfl ?_
        refine J_iadd dX0_tryRows_145  (q := 146) rfl ?_
        refine J_iload_n (z := 4) dX0_tryRows_146 rfl rfl (q := 147) rfl ?_
        refine J_iload_n (z := 5) dX0_tryRows_147 rfl rfl (q := 148) rfl ?_
        refine J_iconst (x := 1) dX0_tryRows_148 (by decide) (q := 149) rfl ?_
        refine J_iload (z := 8) dX0_tryRows_149 rfl (q := 151) rfl ?_
        refine J_ishl dX0_tryRows_151  (q := 152) rfl ?_
        refine J_iconst (x := (-1)) dX0_tryRows_152 (by decide) (q := 153) rfl ?_
        refine J_ixor dX0_tryRows_153  (q := 154) rfl ?_
        refine J_iand dX0_tryRows_154  (q := 155) rfl ?_
        refine J_iload (z := 6) dX0_tryRows_155 rfl (q := 157) rfl ?_
        refine J_bipush (x := 12) dX0_tryRows_157 (by decide) (q := 159) rfl ?_
        refine J_imul dX0_tryRows_159  (q := 160) rfl ?_
        refine J_iload (z := 8) dX0_tryRows_160 rfl (q := 162) rfl ?_
        refine J_iadd dX0_tryRows_162  (q := 163) rfl ?_
        refine J_iload (z := 7) dX0_tryRows_163 rfl (q := 165) rfl ?_
        refine J_iload (z := 0) dX0_tryRows_165 rfl (q := 167) rfl ?_
        refine J_iadd dX0_tryRows_167  (q := 168) rfl ?_
        obtain ⟨sk24, hk24, h⟩ := bindS h
        refine J_cVv (as := [.int (a1 + 1), .int a2, .int (a3 &&& ((shlI 1 a6) ^^^ (-1))), .int ((a4 * 12) + a6), .int (a5 + vk21)]) dX0_tryRows_168 mRX0_72 ha0 (hrec ha0 hk24) rfl (Nat.le_refl _) (Nat.le_of_ble_eq_true rfl) (Nat.le_of_ble_eq_true rfl) (q := 171) rfl ?_
        refine J_pick [2, 3, 4, 5, 6, 7, 8] rfl ?_
        exact tX0_tryRows_b171 hD hrec ha0 h hc hr

def fX0_tryRows_w54 (rec : Nat → Int32 → Int32 → Int32 → Int32 → Int32 → Mm → Option Mm) (a0 : Nat) (a1 : Int32) (a2 : Int32) (a3 : Int32) (a4 : Int32) (a5 : Int32) (a6 : Int32) (σ : Mm) : Option (Mm) :=
  wh (fun a : Int32 × Mm => fX0_tryRows_l54 rec a0 a1 a2 a3 a4 a5 a.1 a.2) BIG (a6, σ)
set_option maxRecDepth 20000 in
set_option maxHeartbeats 2000000 in
theorem tX0_tryRows_w54 {X : XS} {n : Nat} {σ : Mm} {F : Nat × Option Value × Mm} {dr : Nat} {rec : Nat → Int32 → Int32 → Int32 → Int32 → Int32 → Mm → Option Mm} (hD : 6 ≤ dr) (hrec : RECX0 X dr n rec) {a0 : Nat} {a1 : Int32} {a2 : Int32} {a3 : Int32} {a4 : Int32} {a5 : Int32} {a6 : Int32} (ha0 : RT n a0 100) {res : Mm} (h : fX0_tryRows_w54 rec a0 a1 a2 a3 a4 a5 a6 σ = some res) (hr : ∀ (s : Mm), res = s → F = (n, none, s)) : J X mX0_tryRows (dr + 1) 0 0 F 54 [(0, .ref a0), (1, .int a1), (2, .int a2), (3, .int a3), (4, .int a4), (5, .int a5), (6, .int a6)] [] n σ := by
  unfold fX0_tryRows_w54 at h
  refine wh_rule (P := fun a : Int32 × Mm => J X mX0_tryRows (dr + 1) 0 0 F 54 [(0, .ref a0), (1, .int a1), (2, .int a2), (3, .int a3), (4, .int a4), (5, .int a5), (6, .int a.1)] [] n a.2) (K := fun b => b = res) ?_ _ _ _ h rfl
  intro a
  refine ⟨fun a2 hb hP => ?_, fun b hb hK => ?_⟩
  · exact tX0_tryRows_l54 hD hrec ha0 hb (fun _ _ e => by cases e; exact hP) (fun _ e => by cases e)
  · subst hK
    exact tX0_tryRows_l54 hD hrec ha0 hb (fun _ _ e => by cases e) (fun v0 e => hr v0 (Sum.inr.inj e))

def fX0_tryRows_b18 (rec : Nat → Int32 → Int32 → Int32 → Int32 → Int32 → Mm → Option Mm) (a0 : Nat) (a1 : Int32) (a2 : Int32) (a3 : Int32) (a4 : Int32) (a5 : Int32) (σ : Mm) : Option (Mm) :=
  if a3 = 0 then some (sI (sI σ a0 7 a5) a0 6 a4) else if a1 < 0 then some σ else (gR σ a0 2).bind fun r4 => if (a1 + 1) < (nI (ln r4)) then (fX0_tryRows_w54 rec a0 a1 a2 a3 a4 a5 0 σ).bind (fun o25 => some o25) else some σ
set_option maxRecDepth 20000 in
set_option maxHeartbeats 2000000 in
theorem tX0_tryRows_b18 {X : XS} {n : Nat} {σ : Mm} {dr : Nat} {rec : Nat → Int32 → Int32 → Int32 → Int32 → Int32 → Mm → Option Mm} (hD : 6 ≤ dr) (hrec : RECX0 X dr n rec) {a0 : Nat} {a1 : Int32} {a2 : Int32} {a3 : Int32} {a4 : Int32} {a5 : Int32} (ha0 : RT n a0 100) {res : Mm} (h : fX0_tryRows_b18 rec a0 a1 a2 a3 a4 a5 σ = some res) : J X mX0_tryRows (dr + 1) 0 0 (n, none, res) 18 [(0, .ref a0), (1, .int a1), (2, .int a2), (3, .int a3), (4, .int a4), (5, .int a5)] [] n σ := by
  unfold fX0_tryRows_b18 at h
  refine J_iload_n (z := 3) dX0_tryRows_18 rfl rfl (q := 19) rfl ?_
  refine J_if_ne (tgt := 35) dX0_tryRows_19 (by decide) (q := 22) rfl (fun c1 => ?_) (fun c1 => ?_)
  · rw [if_neg c1] at h
    refine J_iload_n (z := 1) dX0_tryRows_35 rfl rfl (q := 36) rfl ?_
    refine J_if_lt (tgt := 50) dX0_tryRows_36 (by decide) (q := 39) rfl (fun c2 => ?_) (fun c2 => ?_)
    · rw [if_pos c2] at h
      have h := Option.some.inj h
      subst h
      exact J_return dX0_tryRows_50 rfl rfl
    · rw [if_neg c2] at h
      refine J_iload_n (z := 1) dX0_tryRows_39 rfl rfl (q := 40) rfl ?_
      refine J_iconst (x := 1) dX0_tryRows_40 (by decide) (q := 41) rfl ?_
      refine J_iadd dX0_tryRows_41  (q := 42) rfl ?_
      refine J_aload_n (z := 0) dX0_tryRows_42 rfl rfl (q := 43) rfl ?_
      obtain ⟨r4, er4, h⟩ := bindS h
      refine J_getR dX0_tryRows_43 lRX0_11 ha0 rfl (by decide) er4 (q := 46) rfl (fun fr4 => ?_)
      refine J_alen (t := 5) dX0_tryRows_46 fr4 (by decide) rfl (q := 47) rfl ?_
      refine J_icmp_lt (tgt := 51) dX0_tryRows_47 (by decide) (q := 50) rfl (fun c4 => ?_) (fun c4 => ?_)
      · rw [if_pos c4] at h
        refine J_iconst (x := 0) dX0_tryRows_51 (by decide) (q := 52) rfl ?_
        refine J_istore (lv' := [(6, .int 0), (0, .ref a0), (1, .int a1), (2, .int a2), (3, .int a3), (4, .int a4), (5, .int a5)]) dX0_tryRows_52 (by decide) rfl (q := 54) rfl ?_
        obtain ⟨o25, hlo25, h⟩ := bindS h
        refine J_pick [1, 2, 3, 4, 5, 6, 0] rfl ?_
        refine tX0_tryRows_w54 hD hrec ha0 hlo25 ?_
        · intro so25 qo25
          rw [qo25] at h
          try dsimp only [Sum.elim_inl, Sum.elim_inr] at h
          have h := Option.some.inj h
          subst h
          rfl
      · rw [if_neg c4] at h
        have h := Option.some.inj h
        subst h
        exact J_return dX0_tryRows_50 rfl rfl
  · rw [if_pos c1] at h
    refine J_aload_n (z := 0) dX0_tryRows_22 rfl rfl (q := 23) rfl ?_
    refine J_iload (z := 5) dX0_tryRows_23 rfl (q := 25) rfl ?_
    refine J_putI dX0_tryRows_25 lRX0_54 (fun h => by cases h) ha0 rfl (q := 28) rfl ?_
    refine J_aload_n (z := 0) dX0_tryRows_28 rfl rfl (q := 29) rfl ?_
    refine J_iload (z := 4) dX0_tryRows_29 rfl (q := 31) rfl ?_
    refine J_putI dX0_tryRows_31 lRX0_58 (fun h => by cases h) ha0 rfl (q := 34) rfl ?_
    have h := Option.some.inj h
    subst h
    exact J_return dX0_tryRows_34 rfl rfl

def fX0_tryRows (rec : Nat → Int32 → Int32 → Int32 → Int32 → Int32 → Mm → Option Mm) (a0 : Nat) (a1 : Int32) (a2 : Int32) (a3 : Int32) (a4 : Int32) (a5 : Int32) (σ : Mm) : Option (Mm) :=
  if (gI σ a0 7) = (-1) then fX0_tryRows_b18 rec a0 a1 a2 a3 a4 a5 σ else if a5 < (gI σ a0 7) then fX0_tryRows_b18 rec a0 a1 a2 a3 a4 a5 σ else some σ
set_option maxRecDepth 20000 in
set_option maxHeartbeats 2000000 in
theorem tX0_tryRows {X : XS} {n : Nat} {σ : Mm} {dr : Nat} {rec : Nat → Int32 → Int32 → Int32 → Int32 → Int32 → Mm → Option Mm} (hD : 6 ≤ dr) (hrec : RECX0 X dr n rec) {a0 : Nat} {a1 : Int32} {a2 : Int32} {a3 : Int32} {a4 : Int32} {a5 : Int32} (ha0 : RT n a0 100) {res : Mm} (h : fX0_tryRows rec a0 a1 a2 a3 a4 a5 σ = some res) : MT X yX0_tryRows mX0_tryRows (dr + 1) 0 0 [.ref a0, .int a1, .int a2, .int a3, .int a4, .int a5] n σ (n, none, res) := by
  unfold fX0_tryRows at h
  refine MT_of (by decide +kernel) rfl (fun h => by cases h) (Nat.le_of_ble_eq_true rfl) ?_
  show J X mX0_tryRows (dr + 1) 0 0 (n, none, res) 0 [(0, .ref a0), (1, .int a1), (2, .int a2), (3, .int a3), (4, .int a4), (5, .int a5)] [] n σ
  refine J_aload_n (z := 0) dX0_tryRows_0 rfl rfl (q := 1) rfl ?_
  refine J_getI dX0_tryRows_1 lRX0_54 ha0 rfl (q := 4) rfl ?_
  refine J_iconst (x := (-1)) dX0_tryRows_4 (by decide) (q := 5) rfl ?_
  refine J_icmp_eq (tgt := 18) dX0_tryRows_5 (by decide) (q := 8) rfl (fun c0 => ?_) (fun c0 => ?_)
  · rw [if_pos c0] at h
    refine J_pick [0, 1, 2, 3, 4, 5] rfl ?_
    exact tX0_tryRows_b18 hD hrec ha0 h
  · rw [if_neg c0] at h
    refine J_iload (z := 5) dX0_tryRows_8 rfl (q := 10) rfl ?_
    refine J_aload_n (z := 0) dX0_tryRows_10 rfl rfl (q := 11) rfl ?_
    refine J_getI dX0_tryRows_11 lRX0_54 ha0 rfl (q := 14) rfl ?_
    refine J_icmp_lt (tgt := 18) dX0_tryRows_14 (by decide) (q := 17) rfl (fun c25 => ?_) (fun c25 => ?_)
    · rw [if_pos c25] at h
      refine J_pick [0, 1, 2, 3, 4, 5] rfl ?_
      exact tX0_tryRows_b18 hD hrec ha0 h
    · rw [if_neg c25] at h
      have h := Option.some.inj h
      subst h
      exact J_return dX0_tryRows_17 rfl rfl

def gX0 : Nat → Nat → Int32 → Int32 → Int32 → Int32 → Int32 → Mm → Option Mm
  | 0, _, _, _, _, _, _, _ => none
  | k + 1, a0, a1, a2, a3, a4, a5, σ => fX0_tryRows (gX0 k) a0 a1 a2 a3 a4 a5 σ
theorem tgX0 {X : XS} {n : Nat} : ∀ k : Nat, RECX0 X (6 + k) n (gX0 k) := by
  intro k
  induction k with
  | zero =>
    unfold RECX0
    exact fun _ h => (by cases h)
  | succ k ih =>
    unfold RECX0
    exact fun h0 h => tX0_tryRows (Nat.le_add_right 6 k) ih h0 h
def fX1_pageBook (a0 : Nat) (a1 : Int32) (σ : Mm) : Option (Int32) :=
  (fX1_pageItem a0 a1 2 σ).bind fun vk1 => some vk1
set_option maxRecDepth 20000 in
set_option maxHeartbeats 2000000 in
theorem tX1_pageBook {X : XS} {n : Nat} {σ : Mm} {a0 : Nat} {a1 : Int32} (ha0 : RT n a0 101) {res : Int32} (h : fX1_pageBook a0 a1 σ = some res) : MT X yX1_pageBook mX1_pageBook 2 0 0 [.ref a0, .int a1] n σ (n, some (.int res), σ) := by
  unfold fX1_pageBook at h
  refine MT_of (by decide +kernel) rfl (fun h => by cases h) (Nat.le_of_ble_eq_true rfl) ?_
  show J X mX1_pageBook 2 0 0 (n, some (.int res), σ) 0 [(0, .ref a0), (1, .int a1)] [] n σ
  refine J_aload_n (z := 0) dX1_pageBook_0 rfl rfl (q := 1) rfl ?_
  refine J_iload_n (z := 1) dX1_pageBook_1 rfl rfl (q := 2) rfl ?_
  refine J_iconst (x := 2) dX1_pageBook_2 (by decide) (q := 3) rfl ?_
  obtain ⟨vk1, hk1, h⟩ := bindS h
  refine J_cVi (as := [.int a1, .int 2]) dX1_pageBook_3 mRX1_42 ha0 (tX1_pageItem ha0 hk1) rfl (Nat.le_of_ble_eq_true rfl) (Nat.le_of_ble_eq_true rfl) (Nat.le_of_ble_eq_true rfl) (q := 6) rfl ?_
  intro bk1
  have h := Option.some.inj h
  subst h
  exact J_ireturn dX1_pageBook_6 rfl rfl rfl

def fX1_pagesOf_b27 (a0 : Nat) (a1 : Int32) (a2 : Int32) (a3 : Int32) (σ : Mm) : Option ((Int32 × Int32) ⊕ (Int32)) :=
  some (Sum.inl (a2, (a3 + 1)))
set_option maxRecDepth 20000 in
set_option maxHeartbeats 2000000 in
theorem tX1_pagesOf_b27 {X : XS} {n : Nat} {σ : Mm} {F : Nat × Option Value × Mm} {a0 : Nat} {a1 : Int32} {a2 : Int32} {a3 : Int32} (ha0 : RT n a0 101) {res : (Int32 × Int32) ⊕ (Int32)} (h : fX1_pagesOf_b27 a0 a1 a2 a3 σ = some res) (hc : ∀ (b2 : Int32) (b3 : Int32), res = .inl (b2, b3) → J X mX1_pagesOf 3 0 0 F 4 [(0, .ref a0), (1, .int a1), (2, .int b2), (3, .int b3)] [] n σ) (hr : ∀ (v : Int32), res = .inr v → F = (n, some (.int v), σ)) : J X mX1_pagesOf 3 0 0 F 27 [(0, .ref a0), (1, .int a1), (2, .int a2), (3, .int a3)] [] n σ := by
  unfold fX1_pagesOf_b27 at h
  refine J_iinc (z := 3) (y := (a3 + 1)) (lv' := [(3, .int (a3 + 1)), (0, .ref a0), (1, .int a1), (2, .int a2)]) dX1_pagesOf_27 rfl rfl (by decide) rfl (q := 30) rfl ?_
  refine J_goto (tgt := 4) dX1_pagesOf_30 (by decide) ?_
  have h := Option.some.inj h
  refine J_pick [1, 2, 3, 0] rfl ?_
  exact hc _ _ h.symm

def fX1_pagesOf_l4 (a0 : Nat) (a1 : Int32) (a2 : Int32) (a3 : Int32) (σ : Mm) : Option ((Int32 × Int32) ⊕ (Int32)) :=
  if (gI σ a0 4) ≤ a3 then some (Sum.inr a2) else (fX1_pageBook a0 a3 σ).bind fun vk2 => if vk2 = a1 then fX1_pagesOf_b27 a0 a1 (a2 ||| (shlI 1 a3)) a3 σ else fX1_pagesOf_b27 a0 a1 a2 a3 σ
set_option maxRecDepth 20000 in
set_option maxHeartbeats 2000000 in
theorem tX1_pagesOf_l4 {X : XS} {n : Nat} {σ : Mm} {F : Nat × Option Value × Mm} {a0 : Nat} {a1 : Int32} {a2 : Int32} {a3 : Int32} (ha0 : RT n a0 101) {res : (Int32 × Int32) ⊕ (Int32)} (h : fX1_pagesOf_l4 a0 a1 a2 a3 σ = some res) (hc : ∀ (b2 : Int32) (b3 : Int32), res = .inl (b2, b3) → J X mX1_pagesOf 3 0 0 F 4 [(0, .ref a0), (1, .int a1), (2, .int b2), (3, .int b3)] [] n σ) (hr : ∀ (v : Int32), res = .inr v → F = (n, some (.int v), σ)) : J X mX1_pagesOf 3 0 0 F 4 [(0, .ref a0), (1, .int a1), (2, .int a2), (3, .int a3)] [] n σ := by
  unfold fX1_pagesOf_l4 at h
  refine J_iload_n (z := 3) dX1_pagesOf_4 rfl rfl (q := 5) rfl ?_
  refine J_aload_n (z := 0) dX1_pagesOf_5 rfl rfl (q := 6) rfl ?_
  refine J_getI dX1_pagesOf_6 lRX1_31 ha0 rfl (q := 9) rfl ?_
  refine J_icmp_ge (tgt := 33) dX1_pagesOf_9 (by decide) (q := 12) rfl (fun c0 => ?_) (fun c0 => ?_)
  · rw [if_pos c0] at h
    refine J_iload_n (z := 2) dX1_pagesOf_33 rfl rfl (q := 34) rfl ?_
    have h := Option.some.inj h
    exact J_ireturn dX1_pagesOf_34 rfl rfl (hr _ h.symm)
  · rw [if_neg c0] at h
    refine J_aload_n (z := 0) dX1_pagesOf_12 rfl rfl (q := 13) rfl ?_
    refine J_iload_n (z := 3) dX1_pagesOf_13 rfl rfl (q := 14) rfl ?_
    obtain ⟨vk2, hk2, h⟩ := bindS h
    refine J_cVi (as := [.int a3]) dX1_pagesOf_14 mRX1_49 ha0 (tX1_pageBook ha0 hk2) rfl (Nat.le_of_ble_eq_true rfl) (Nat.le_of_ble_eq_true rfl) (Nat.le_of_ble_eq_true rfl) (q := 17) rfl ?_
    intro bk2
    refine J_iload_n (z := 1) dX1_pagesOf_17 rfl rfl (q := 18) rfl ?_
    refine J_icmp_ne (tgt := 27) dX1_pagesOf_18 (by decide) (q := 21) rfl (fun c2 => ?_) (fun c2 => ?_)
    · rw [if_neg c2] at h
      refine J_pick [0, 1, 2, 3] rfl ?_
      exact tX1_pagesOf_b27 ha0 h hc hr
    · rw [if_pos c2] at h
      refine J_iload_n (z := 2) dX1_pagesOf_21 rfl rfl (q := 22) rfl ?_
      refine J_iconst (x := 1) dX1_pagesOf_22 (by decide) (q := 23) rfl ?_
      refine J_iload_n (z := 3) dX1_pagesOf_23 rfl rfl (q := 24) rfl ?_
      refine J_ishl dX1_pagesOf_24  (q := 25) rfl ?_
      refine J_ior dX1_pagesOf_25  (q := 26) rfl ?_
      refine J_istore_n (lv' := [(2, .int (a2 ||| (shlI 1 a3))), (0, .ref a0), (1, .int a1), (3, .int a3)]) dX1_pagesOf_26 rfl (by decide) rfl (q := 27) rfl ?_
      refine J_pick [1, 2, 0, 3] rfl ?_
      exact tX1_pagesOf_b27 ha0 h hc hr

def fX1_pagesOf_w4 (a0 : Nat) (a1 : Int32) (a2 : Int32) (a3 : Int32) (σ : Mm) : Option (Int32) :=
  wh (fun a : Int32 × Int32 => fX1_pagesOf_l4 a0 a1 a.1 a.2 σ) BIG (a2, a3)
set_option maxRecDepth 20000 in
set_option maxHeartbeats 2000000 in
theorem tX1_pagesOf_w4 {X : XS} {n : Nat} {σ : Mm} {F : Nat × Option Value × Mm} {a0 : Nat} {a1 : Int32} {a2 : Int32} {a3 : Int32} (ha0 : RT n a0 101) {res : Int32} (h : fX1_pagesOf_w4 a0 a1 a2 a3 σ = some res) (hr : ∀ (v : Int32), res = v → F = (n, some (.int v), σ)) : J X mX1_pagesOf 3 0 0 F 4 [(0, .ref a0), (1, .int a1), (2, .int a2), (3, .int a3)] [] n σ := by
  unfold fX1_pagesOf_w4 at h
  refine wh_rule (P := fun a : Int32 × Int32 => J X mX1_pagesOf 3 0 0 F 4 [(0, .ref a0), (1, .int a1), (2, .int a.1), (3, .int a.2)] [] n σ) (K := fun b => b = res) ?_ _ _ _ h rfl
  intro a
  refine ⟨fun a2 hb hP => ?_, fun b hb hK => ?_⟩
  · exact tX1_pagesOf_l4 ha0 hb (fun _ _ e => by cases e; exact hP) (fun _ e => by cases e)
  · subst hK
    exact tX1_pagesOf_l4 ha0 hb (fun _ _ e => by cases e) (fun v0 e => hr v0 (Sum.inr.inj e))

def fX1_pagesOf (a0 : Nat) (a1 : Int32) (σ : Mm) : Option (Int32) :=
  (fX1_pagesOf_w4 a0 a1 0 0 σ).bind (fun o4 => some o4)
set_option maxRecDepth 20000 in
set_option maxHeartbeats 2000000 in
theorem tX1_pagesOf {X : XS} {n : Nat} {σ : Mm} {a0 : Nat} {a1 : Int32} (ha0 : RT n a0 101) {res : Int32} (h : fX1_pagesOf a0 a1 σ = some res) : MT X yX1_pagesOf mX1_pagesOf 3 0 0 [.ref a0, .int a1] n σ (n, some (.int res), σ) := by
  unfold fX1_pagesOf at h
  refine MT_of (by decide +kernel) rfl (fun h => by cases h) (Nat.le_of_ble_eq_true rfl) ?_
  show J X mX1_pagesOf 3 0 0 (n, some (.int res), σ) 0 [(0, .ref a0), (1, .int a1)] [] n σ
  refine J_iconst (x := 0) dX1_pagesOf_0 (by decide) (q := 1) rfl ?_
  refine J_istore_n (lv' := [(2, .int 0), (0, .ref a0), (1, .int a1)]) dX1_pagesOf_1 rfl (by decide) rfl (q := 2) rfl ?_
  refine J_iconst (x := 0) dX1_pagesOf_2 (by decide) (q := 3) rfl ?_
  refine J_istore_n (lv' := [(3, .int 0), (2, .int 0), (0, .ref a0), (1, .int a1)]) dX1_pagesOf_3 rfl (by decide) rfl (q := 4) rfl ?_
  obtain ⟨o4, hlo4, h⟩ := bindS h
  refine J_pick [2, 3, 1, 0] rfl ?_
  refine tX1_pagesOf_w4 ha0 hlo4 ?_
  · intro vo4 qo4
    rw [qo4] at h
    try dsimp only [Sum.elim_inl, Sum.elim_inr] at h
    have h := Option.some.inj h
    subst h
    rfl

def fX8_pagesThere_b30 (a0 : Nat) (a1 : Nat) (a2 : Int32) (a3 : Int32) (σ : Mm) : Option ((Int32 × Int32) ⊕ (Int32)) :=
  some (Sum.inl (a2, (a3 + 1)))
set_option maxRecDepth 20000 in
set_option maxHeartbeats 2000000 in
theorem tX8_pagesThere_b30 {X : XS} {n : Nat} {σ : Mm} {F : Nat × Option Value × Mm} {a0 : Nat} {a1 : Nat} {a2 : Int32} {a3 : Int32} (ha0 : RT n a0 108) (ha1 : RT n a1 106) {res : (Int32 × Int32) ⊕ (Int32)} (h : fX8_pagesThere_b30 a0 a1 a2 a3 σ = some res) (hc : ∀ (b2 : Int32) (b3 : Int32), res = .inl (b2, b3) → J X mX8_pagesThere 1 0 0 F 4 [(0, .ref a0), (1, .ref a1), (2, .int b2), (3, .int b3)] [] n σ) (hr : ∀ (v : Int32), res = .inr v → F = (n, some (.int v), σ)) : J X mX8_pagesThere 1 0 0 F 30 [(0, .ref a0), (1, .ref a1), (2, .int a2), (3, .int a3)] [] n σ := by
  unfold fX8_pagesThere_b30 at h
  refine J_iinc (z := 3) (y := (a3 + 1)) (lv' := [(3, .int (a3 + 1)), (0, .ref a0), (1, .ref a1), (2, .int a2)]) dX8_pagesThere_30 rfl rfl (by decide) rfl (q := 33) rfl ?_
  refine J_goto (tgt := 4) dX8_pagesThere_33 (by decide) ?_
  have h := Option.some.inj h
  refine J_pick [1, 2, 3, 0] rfl ?_
  exact hc _ _ h.symm

def fX8_pagesThere_l4 (a0 : Nat) (a1 : Nat) (a2 : Int32) (a3 : Int32) (σ : Mm) : Option ((Int32 × Int32) ⊕ (Int32)) :=
  (gR σ a0 0).bind fun r1 => if (gI σ r1 4) ≤ a3 then some (Sum.inr a2) else (gR σ a1 0).bind fun r3 => if ixB a3 (ln r3) = true then if (gI σ r3 (Int32.toNatClampNeg a3)) ≤ 0 then fX8_pagesThere_b30 a0 a1 a2 a3 σ else fX8_pagesThere_b30 a0 a1 (a2 ||| (shlI 1 a3)) a3 σ else none
set_option maxRecDepth 20000 in
set_option maxHeartbeats 2000000 in
theorem tX8_pagesThere_l4 {X : XS} {n : Nat} {σ : Mm} {F : Nat × Option Value × Mm} {a0 : Nat} {a1 : Nat} {a2 : Int32} {a3 : Int32} (ha0 : RT n a0 108) (ha1 : RT n a1 106) {res : (Int32 × Int32) ⊕ (Int32)} (h : fX8_pagesThere_l4 a0 a1 a2 a3 σ = some res) (hc : ∀ (b2 : Int32) (b3 : Int32), res = .inl (b2, b3) → J X mX8_pagesThere 1 0 0 F 4 [(0, .ref a0), (1, .ref a1), (2, .int b2), (3, .int b3)] [] n σ) (hr : ∀ (v : Int32), res = .inr v → F = (n, some (.int v), σ)) : J X mX8_pagesThere 1 0 0 F 4 [(0, .ref a0), (1, .ref a1), (2, .int a2), (3, .int a3)] [] n σ := by
  unfold fX8_pagesThere_l4 at h
  refine J_iload_n (z := 3) dX8_pagesThere_4 rfl rfl (q := 5) rfl ?_
  refine J_aload_n (z := 0) dX8_pagesThere_5 rfl rfl (q := 6) rfl ?_
  obtain ⟨r1, er1, h⟩ := bindS h
  refine J_getR dX8_pagesThere_6 lRX8_15 ha0 rfl (by decide) er1 (q := 9) rfl (fun fr1 => ?_)
  refine J_getI dX8_pagesThere_9 lRX8_76 fr1 rfl (q := 12) rfl ?_
  refine J_icmp_ge (tgt := 36) dX8_pagesThere_12 (by decide) (q := 15) rfl (fun c1 => ?_) (fun c1 => ?_)
  · rw [if_pos c1] at h
    refine J_iload_n (z := 2) dX8_pagesThere_36 rfl rfl (q := 37) rfl ?_
    have h := Option.some.inj h
    exact J_ireturn dX8_pagesThere_37 rfl rfl (hr _ h.symm)
  · rw [if_neg c1] at h
    refine J_aload_n (z := 1) dX8_pagesThere_15 rfl rfl (q := 16) rfl ?_
    obtain ⟨r3, er3, h⟩ := bindS h
    refine J_getR dX8_pagesThere_16 lRX8_52 ha1 rfl (by decide) er3 (q := 19) rfl (fun fr3 => ?_)
    refine J_iload_n (z := 3) dX8_pagesThere_19 rfl rfl (q := 20) rfl ?_
    obtain ⟨g4, h⟩ := iteS h
    refine J_iald dX8_pagesThere_20 fr3 (ixB_ok g4) (q := 21) rfl ?_
    refine J_if_le (tgt := 30) dX8_pagesThere_21 (by decide) (q := 24) rfl (fun c4 => ?_) (fun c4 => ?_)
    · rw [if_pos c4] at h
      refine J_pick [0, 1, 2, 3] rfl ?_
      exact tX8_pagesThere_b30 ha0 ha1 h hc hr
    · rw [if_neg c4] at h
      refine J_iload_n (z := 2) dX8_pagesThere_24 rfl rfl (q := 25) rfl ?_
      refine J_iconst (x := 1) dX8_pagesThere_25 (by decide) (q := 26) rfl ?_
      refine J_iload_n (z := 3) dX8_pagesThere_26 rfl rfl (q := 27) rfl ?_
      refine J_ishl dX8_pagesThere_27  (q := 28) rfl ?_
      refine J_ior dX8_pagesThere_28  (q := 29) rfl ?_
      refine J_istore_n (lv' := [(2, .int (a2 ||| (shlI 1 a3))), (0, .ref a0), (1, .ref a1), (3, .int a3)]) dX8_pagesThere_29 rfl (by decide) rfl (q := 30) rfl ?_
      refine J_pick [1, 2, 0, 3] rfl ?_
      exact tX8_pagesThere_b30 ha0 ha1 h hc hr

def fX8_pagesThere_w4 (a0 : Nat) (a1 : Nat) (a2 : Int32) (a3 : Int32) (σ : Mm) : Option (Int32) :=
  wh (fun a : Int32 × Int32 => fX8_pagesThere_l4 a0 a1 a.1 a.2 σ) BIG (a2, a3)
set_option maxRecDepth 20000 in
set_option maxHeartbeats 2000000 in
theorem tX8_pagesThere_w4 {X : XS} {n : Nat} {σ : Mm} {F : Nat × Option Value × Mm} {a0 : Nat} {a1 : Nat} {a2 : Int32} {a3 : Int32} (ha0 : RT n a0 108) (ha1 : RT n a1 106) {res : Int32} (h : fX8_pagesThere_w4 a0 a1 a2 a3 σ = some res) (hr : ∀ (v : Int32), res = v → F = (n, some (.int v), σ)) : J X mX8_pagesThere 1 0 0 F 4 [(0, .ref a0), (1, .ref a1), (2, .int a2), (3, .int a3)] [] n σ := by
  unfold fX8_pagesThere_w4 at h
  refine wh_rule (P := fun a : Int32 × Int32 => J X mX8_pagesThere 1 0 0 F 4 [(0, .ref a0), (1, .ref a1), (2, .int a.1), (3, .int a.2)] [] n σ) (K := fun b => b = res) ?_ _ _ _ h rfl
  intro a
  refine ⟨fun a2 hb hP => ?_, fun b hb hK => ?_⟩
  · exact tX8_pagesThere_l4 ha0 ha1 hb (fun _ _ e => by cases e; exact hP) (fun _ e => by cases e)
  · subst hK
    exact tX8_pagesThere_l4 ha0 ha1 hb (fun _ _ e => by cases e) (fun v0 e => hr v0 (Sum.inr.inj e))

def fX8_pagesThere (a0 : Nat) (a1 : Nat) (σ : Mm) : Option (Int32) :=
  (fX8_pagesThere_w4 a0 a1 0 0 σ).bind (fun o6 => some o6)
set_option maxRecDepth 20000 in
set_option maxHeartbeats 2000000 in
theorem tX8_pagesThere {X : XS} {n : Nat} {σ : Mm} {a0 : Nat} {a1 : Nat} (ha0 : RT n a0 108) (ha1 : RT n a1 106) {res : Int32} (h : fX8_pagesThere a0 a1 σ = some res) : MT X yX8_pagesThere mX8_pagesThere 1 0 0 [.ref a0, .ref a1] n σ (n, some (.int res), σ) := by
  unfold fX8_pagesThere at h
  refine MT_of (by decide +kernel) rfl (fun h => by cases h) (Nat.le_of_ble_eq_true rfl) ?_
  show J X mX8_pagesThere 1 0 0 (n, some (.int res), σ) 0 [(0, .ref a0), (1, .ref a1)] [] n σ
  refine J_iconst (x := 0) dX8_pagesThere_0 (by decide) (q := 1) rfl ?_
  refine J_istore_n (lv' := [(2, .int 0), (0, .ref a0), (1, .ref a1)]) dX8_pagesThere_1 rfl (by decide) rfl (q := 2) rfl ?_
  refine J_iconst (x := 0) dX8_pagesThere_2 (by decide) (q := 3) rfl ?_
  refine J_istore_n (lv' := [(3, .int 0), (2, .int 0), (0, .ref a0), (1, .ref a1)]) dX8_pagesThere_3 rfl (by decide) rfl (q := 4) rfl ?_
  obtain ⟨o6, hlo6, h⟩ := bindS h
  refine J_pick [2, 3, 1, 0] rfl ?_
  refine tX8_pagesThere_w4 ha0 ha1 hlo6 ?_
  · intro vo6 qo6
    rw [qo6] at h
    try dsimp only [Sum.elim_inl, Sum.elim_inr] at h
    have h := Option.some.inj h
    subst h
    rfl

def fJ6_bitCount_0f7a4 (a0 : Int32) (σ : Mm) : Option (Int32) :=
  some ((((((((a0 - ((ushrI a0 1) &&& 1431655765)) &&& 858993459) + ((ushrI (a0 - ((ushrI a0 1) &&& 1431655765)) 2) &&& 858993459)) + (ushrI (((a0 - ((ushrI a0 1) &&& 1431655765)) &&& 858993459) + ((ushrI (a0 - ((ushrI a0 1) &&& 1431655765)) 2) &&& 858993459)) 4)) &&& 252645135) + (ushrI (((((a0 - ((ushrI a0 1) &&& 1431655765)) &&& 858993459) + ((ushrI (a0 - ((ushrI a0 1) &&& 1431655765)) 2) &&& 858993459)) + (ushrI (((a0 - ((ushrI a0 1) &&& 1431655765)) &&& 858993459) + ((ushrI (a0 - ((ushrI a0 1) &&& 1431655765)) 2) &&& 858993459)) 4)) &&& 252645135) 8)) + (ushrI ((((((a0 - ((ushrI a0 1) &&& 1431655765)) &&& 858993459) + ((ushrI (a0 - ((ushrI a0 1) &&& 1431655765)) 2) &&& 858993459)) + (ushrI (((a0 - ((ushrI a0 1) &&& 1431655765)) &&& 858993459) + ((ushrI (a0 - ((ushrI a0 1) &&& 1431655765)) 2) &&& 858993459)) 4)) &&& 252645135) + (ushrI (((((a0 - ((ushrI a0 1) &&& 1431655765)) &&& 858993459) + ((ushrI (a0 - ((ushrI a0 1) &&& 1431655765)) 2) &&& 858993459)) + (ushrI (((a0 - ((ushrI a0 1) &&& 1431655765)) &&& 858993459) + ((ushrI (a0 - ((ushrI a0 1) &&& 1431655765)) 2) &&& 858993459)) 4)) &&& 252645135) 8)) 16)) &&& 63)
set_option maxRecDepth 20000 in
set_option maxHeartbeats 2000000 in
theorem tJ6_bitCount_0f7a4 {X : XS} {n : Nat} {σ : Mm} {a0 : Int32} {res : Int32} (h : fJ6_bitCount_0f7a4 a0 σ = some res) : MT X yJ6_bitCount_0f7a4 mJ6_bitCount_0f7a4 1 0 0 [.int a0] n σ (n, some (.int res), σ) := by
  unfold fJ6_bitCount_0f7a4 at h
  refine MT_of (by decide +kernel) rfl (fun h => by cases h) (Nat.le_of_ble_eq_true rfl) ?_
  show J X mJ6_bitCount_0f7a4 1 0 0 (n, some (.int res), σ) 0 [(0, .int a0)] [] n σ
  refine J_iload_n (z := 0) dJ6_bitCount_0f7a4_0 rfl rfl (q := 1) rfl ?_
  refine J_iload_n (z := 0) dJ6_bitCount_0f7a4_1 rfl rfl (q := 2) rfl ?_
  refine J_iconst (x := 1) dJ6_bitCount_0f7a4_2 (by decide) (q := 3) rfl ?_
  refine J_iushr dJ6_bitCount_0f7a4_3  (q := 4) rfl ?_
  refine J_ldcw (x := 1431655765) dJ6_bitCount_0f7a4_4 kRJ6_265 (q := 7) rfl ?_
  refine J_iand dJ6_bitCount_0f7a4_7  (q := 8) rfl ?_
  refine J_isub dJ6_bitCount_0f7a4_8  (q := 9) rfl ?_
  refine J_istore_n (lv' := [(0, .int (a0 - ((ushrI a0 1) &&& 1431655765)))]) dJ6_bitCount_0f7a4_9 rfl (by decide) rfl (q := 10) rfl ?_
  refine J_iload_n (z := 0) dJ6_bitCount_0f7a4_10 rfl rfl (q := 11) rfl ?_
  refine J_ldcw (x := 858993459) dJ6_bitCount_0f7a4_11 kRJ6_266 (q := 14) rfl ?_
  refine J_iand dJ6_bitCount_0f7a4_14  (q := 15) rfl ?_
  refine J_iload_n (z := 0) dJ6_bitCount_0f7a4_15 rfl rfl (q := 16) rfl ?_
  refine J_iconst (x := 2) dJ6_bitCount_0f7a4_16 (by decide) (q := 17) rfl ?_
  refine J_iushr dJ6_bitCount_0f7a4_17  (q := 18) rfl ?_
  refine J_ldcw (x := 858993459) dJ6_bitCount_0f7a4_18 kRJ6_266 (q := 21) rfl ?_
  refine J_iand dJ6_bitCount_0f7a4_21  (q := 22) rfl ?_
  refine J_iadd dJ6_bitCount_0f7a4_22  (q := 23) rfl ?_
  refine J_istore_n (lv' := [(0, .int (((a0 - ((ushrI a0 1) &&& 1431655765)) &&& 858993459) + ((ushrI (a0 - ((ushrI a0 1) &&& 1431655765)) 2) &&& 858993459)))]) dJ6_bitCount_0f7a4_23 rfl (by decide) rfl (q := 24) rfl ?_
  refine J_iload_n (z := 0) dJ6_bitCount_0f7a4_24 rfl rfl (q := 25) rfl ?_
  refine J_iload_n (z := 0) dJ6_bitCount_0f7a4_25 rfl rfl (q := 26) rfl ?_
  refine J_iconst (x := 4) dJ6_bitCount_0f7a4_26 (by decide) (q := 27) rfl ?_
  refine J_iushr dJ6_bitCount_0f7a4_27  (q := 28) rfl ?_
  refine J_iadd dJ6_bitCount_0f7a4_28  (q := 29) rfl ?_
  refine J_ldcw (x := 252645135) dJ6_bitCount_0f7a4_29 kRJ6_267 (q := 32) rfl ?_
  refine J_iand dJ6_bitCount_0f7a4_32  (q := 33) rfl ?_
  refine J_istore_n (lv' := [(0, .int (((((a0 - ((ushrI a0 1) &&& 1431655765)) &&& 858993459) + ((ushrI (a0 - ((ushrI a0 1) &&& 1431655765)) 2) &&& 858993459)) + (ushrI (((a0 - ((ushrI a0 1) &&& 1431655765)) &&& 858993459) + ((ushrI (a0 - ((ushrI a0 1) &&& 1431655765)) 2) &&& 858993459)) 4)) &&& 252645135))]) dJ6_bitCount_0f7a4_33 rfl (by decide) rfl (q := 34) rfl ?_
  refine J_iload_n (z := 0) dJ6_bitCount_0f7a4_34 rfl rfl (q := 35) rfl ?_
  refine J_iload_n (z := 0) dJ6_bitCount_0f7a4_35 rfl rfl (q := 36) rfl ?_
  refine J_bipush (x := 8) dJ6_bitCount_0f7a4_36 (by decide) (q := 38) rfl ?_
  refine J_iushr dJ6_bitCount_0f7a4_38  (q := 39) rfl ?_
  refine J_iadd dJ6_bitCount_0f7a4_39  (q := 40) rfl ?_
  refine J_istore_n (lv' := [(0, .int ((((((a0 - ((ushrI a0 1) &&& 1431655765)) &&& 858993459) + ((ushrI (a0 - ((ushrI a0 1) &&& 1431655765)) 2) &&& 858993459)) + (ushrI (((a0 - ((ushrI a0 1) &&& 1431655765)) &&& 858993459) + ((ushrI (a0 - ((ushrI a0 1) &&& 1431655765)) 2) &&& 858993459)) 4)) &&& 252645135) + (ushrI (((((a0 - ((ushrI a0 1) &&& 1431655765)) &&& 858993459) + ((ushrI (a0 - ((ushrI a0 1) &&& 1431655765)) 2) &&& 858993459)) + (ushrI (((a0 - ((ushrI a0 1) &&& 1431655765)) &&& 858993459) + ((ushrI (a0 - ((ushrI a0 1) &&& 1431655765)) 2) &&& 858993459)) 4)) &&& 252645135) 8)))]) dJ6_bitCount_0f7a4_40 rfl (by decide) rfl (q := 41) rfl ?_
  refine J_iload_n (z := 0) dJ6_bitCount_0f7a4_41 rfl rfl (q := 42) rfl ?_
  refine J_iload_n (z := 0) dJ6_bitCount_0f7a4_42 rfl rfl (q := 43) rfl ?_
  refine J_bipush (x := 16) dJ6_bitCount_0f7a4_43 (by decide) (q := 45) rfl ?_
  refine J_iushr dJ6_bitCount_0f7a4_45  (q := 46) rfl ?_
  refine J_iadd dJ6_bitCount_0f7a4_46  (q := 47) rfl ?_
  refine J_istore_n (lv' := [(0, .int (((((((a0 - ((ushrI a0 1) &&& 1431655765)) &&& 858993459) + ((ushrI (a0 - ((ushrI a0 1) &&& 1431655765)) 2) &&& 858993459)) + (ushrI (((a0 - ((ushrI a0 1) &&& 1431655765)) &&& 858993459) + ((ushrI (a0 - ((ushrI a0 1) &&& 1431655765)) 2) &&& 858993459)) 4)) &&& 252645135) + (ushrI (((((a0 - ((ushrI a0 1) &&& 1431655765)) &&& 858993459) + ((ushrI (a0 - ((ushrI a0 1) &&& 1431655765)) 2) &&& 858993459)) + (ushrI (((a0 - ((ushrI a0 1) &&& 1431655765)) &&& 858993459) + ((ushrI (a0 - ((ushrI a0 1) &&& 1431655765)) 2) &&& 858993459)) 4)) &&& 252645135) 8)) + (ushrI ((((((a0 - ((ushrI a0 1) &&& 1431655765)) &&& 858993459) + ((ushrI (a0 - ((ushrI a0 1) &&& 1431655765)) 2) &&& 858993459)) + (ushrI (((a0 - ((ushrI a0 1) &&& 1431655765)) &&& 858993459) + ((ushrI (a0 - ((ushrI a0 1) &&& 1431655765)) 2) &&& 858993459)) 4)) &&& 252645135) + (ushrI (((((a0 - ((ushrI a0 1) &&& 1431655765)) &&& 858993459) + ((ushrI (a0 - ((ushrI a0 1) &&& 1431655765)) 2) &&& 858993459)) + (ushrI (((a0 - ((ushrI a0 1) &&& 1431655765)) &&& 858993459) + ((ushrI (a0 - ((ushrI a0 1) &&& 1431655765)) 2) &&& 858993459)) 4)) &&& 252645135) 8)) 16)))]) dJ6_bitCount_0f7a4_47 rfl (by decide) rfl (q := 48) rfl ?_
  refine J_iload_n (z := 0) dJ6_bitCount_0f7a4_48 rfl rfl (q := 49) rfl ?_
  refine J_bipush (x := 63) dJ6_bitCount_0f7a4_49 (by decide) (q := 51) rfl ?_
  refine J_iand dJ6_bitCount_0f7a4_51  (q := 52) rfl ?_
  have h := Option.some.inj h
  subst h
  exact J_ireturn dJ6_bitCount_0f7a4_52 rfl rfl rfl

def fX0_findOrder_b77 (a0 : Nat) (a2 : Int32) (a4 : Int32) (σ : Mm) : Option (Int32 × Mm) :=
  (gX0 100 a0 0 a2 a4 0 0 σ).bind fun sk14 => if (gI sk14 a0 7) = (-1) then some (0, sk14) else some (1, sk14)
set_option maxRecDepth 20000 in
set_option maxHeartbeats 2000000 in
theorem tX0_findOrder_b77 {X : XS} {n : Nat} {σ : Mm} {a0 : Nat} {a2 : Int32} {a4 : Int32} (ha0 : RT n a0 100) {res : Int32 × Mm} (h : fX0_findOrder_b77 a0 a2 a4 σ = some res) : J X mX0_findOrder 107 0 0 (n, some (.int res.1), res.2) 77 [(0, .ref a0), (2, .int a2), (4, .int a4)] [] n σ := by
  unfold fX0_findOrder_b77 at h
  refine J_aload_n (z := 0) dX0_findOrder_77 rfl rfl (q := 78) rfl ?_
  refine J_iconst (x := 0) dX0_findOrder_78 (by decide) (q := 79) rfl ?_
  refine J_iload_n (z := 1) dX0_findOrder_79 rfl rfl (q := 80) rfl ?_
  refine J_iload (z := 2) dX0_findOrder_80 rfl (q := 82) rfl ?_
  refine J_iconst (x := 0) dX0_findOrder_82 (by decide) (q := 83) rfl ?_
  refine J_iconst (x := 0) dX0_findOrder_83 (by decide) (q := 84) rfl ?_
  obtain ⟨sk14, hk14, h⟩ := bindS h
  refine J_cVv (as := [.int 0, .int a2, .int a4, .int 0, .int 0]) dX0_findOrder_84 mRX0_72 ha0 ((tgX0 100) ha0 hk14) rfl (Nat.le_of_ble_eq_true rfl) (Nat.le_of_ble_eq_true rfl) (Nat.le_of_ble_eq_true rfl) (q := 87) rfl ?_
  refine J_aload_n (z := 0) dX0_findOrder_87 rfl rfl (q := 88) rfl ?_
  refine J_getI dX0_findOrder_88 lRX0_54 ha0 rfl (q := 91) rfl ?_
  refine J_iconst (x := (-1)) dX0_findOrder_91 (by decide) (q := 92) rfl ?_
  refine J_icmp_eq (tgt := 99) dX0_findOrder_92 (by decide) (q := 95) rfl (fun c14 => ?_) (fun c14 => ?_)
  · rw [if_pos c14] at h
    refine J_iconst (x := 0) dX0_findOrder_99 (by decide) (q := 100) rfl ?_
    have h := Option.some.inj h
    subst h
    exact J_ireturn dX0_findOrder_100 rfl rfl rfl
  · rw [if_neg c14] at h
    refine J_iconst (x := 1) dX0_findOrder_95 (by decide) (q := 96) rfl ?_
    refine J_goto (tgt := 100) dX0_findOrder_96 (by decide) ?_
    have h := Option.some.inj h
    subst h
    exact J_ireturn dX0_findOrder_100 rfl rfl rfl

def fX0_findOrder (a0 : Nat) (a1 : Nat) (a2 : Int32) (a3 : Int32) (σ : Mm) : Option (Int32 × Mm) :=
  (gR σ a0 1).bind fun r1 => (fX8_pagesThere r1 a1 σ).bind fun vk2 => (gR σ a0 0).bind fun r3 => (fX1_pagesOf r3 a3 σ).bind fun vk4 => if (vk2 &&& vk4) = 0 then some (0, σ) else (fJ6_bitCount_0f7a4 (vk2 &&& vk4) σ).bind fun vk6 => if vk6 ≤ 5 then (gR σ a0 2).bind fun r8 => if ixB 0 (ln r8) = true then (gR σ r8 (Int32.toNatClampNeg 0)).bind fun r10 => (fX6_takeFrom r10 a1 (sI (sI σ a0 7 (-1)) a0 6 (-1))).bind fun sk11 => (fX6_hasDone a1 a2 sk11).bind fun vk12 => if vk12 = 0 then fX0_findOrder_b77 a0 a2 (vk2 &&& vk4) sk11 else (gR sk11 a0 1).bind fun r16 => (gR sk11 a0 2).bind fun r17 => if ixB 0 (ln r17) = true then (gR sk11 r17 (Int32.toNatClampNeg 0)).bind fun r19 => bnd2 (fX8_fallNight r16 r19 sk11) fun vk20 sk20 => fX0_findOrder_b77 a0 a2 (vk2 &&& vk4) sk20 else none else none else some (0, σ)
set_option maxRecDepth 20000 in
set_option maxHeartbeats 2000000 in
theorem tX0_findOrder {X : XS} {n : Nat} {σ : Mm} {a0 : Nat} {a1 : Nat} {a2 : Int32} {a3 : Int32} (ha0 : RT n a0 100) (ha1 : RT n a1 106) {res : Int32 × Mm} (h : fX0_findOrder a0 a1 a2 a3 σ = some res) : MT X yX0_findOrder mX0_findOrder 107 0 0 [.ref a0, .ref a1, .int a2, .int a3] n σ (n, some (.int res.1), res.2) := by
  unfold fX0_findOrder at h
  refine MT_of (by decide +kernel) rfl (fun h => by cases h) (Nat.le_of_ble_eq_true rfl) ?_
  show J X mX0_findOrder 107 0 0 (n, some (.int res.1), res.2) 0 [(0, .ref a0), (1, .ref a1), (2, .int a2), (3, .int a3)] [] n σ
  refine J_aload_n (z := 0) dX0_findOrder_0 rfl rfl (q := 1) rfl ?_
  obtain ⟨r1, er1, h⟩ := bindS h
  refine J_getR dX0_findOrder_1 lRX0_32 ha0 rfl (by decide) er1 (q := 4) rfl (fun fr1 => ?_)
  refine J_aload_n (z := 1) dX0_findOrder_4 rfl rfl (q := 5) rfl ?_
  obtain ⟨vk2, hk2, h⟩ := bindS h
  refine J_cVi (as := [.ref a1]) dX0_findOrder_5 mRX0_37 fr1 (tX8_pagesThere fr1 ha1 hk2) rfl (Nat.le_of_ble_eq_true rfl) (Nat.le_of_ble_eq_true rfl) (Nat.le_of_ble_eq_true rfl) (q := 8) rfl ?_
  intro bk2
  refine J_aload_n (z := 0) dX0_findOrder_8 rfl rfl (q := 9) rfl ?_
  obtain ⟨r3, er3, h⟩ := bindS h
  refine J_getR dX0_findOrder_9 lRX0_28 ha0 rfl (by decide) er3 (q := 12) rfl (fun fr3 => ?_)
  refine J_iload_n (z := 3) dX0_findOrder_12 rfl rfl (q := 13) rfl ?_
  obtain ⟨vk4, hk4, h⟩ := bindS h
  refine J_cVi (as := [.int a3]) dX0_findOrder_13 mRX0_43 fr3 (tX1_pagesOf fr3 hk4) rfl (Nat.le_of_ble_eq_true rfl) (Nat.le_of_ble_eq_true rfl) (Nat.le_of_ble_eq_true rfl) (q := 16) rfl ?_
  intro bk4
  refine J_iand dX0_findOrder_16  (q := 17) rfl ?_
  refine J_istore (lv' := [(4, .int (vk2 &&& vk4)), (0, .ref a0), (1, .ref a1), (2, .int a2), (3, .int a3)]) dX0_findOrder_17 (by decide) rfl (q := 19) rfl ?_
  refine J_iload (z := 0) dX0_findOrder_19 rfl (q := 21) rfl ?_
  refine J_if_eq (tgt := 33) dX0_findOrder_21 (by decide) (q := 24) rfl (fun c4 => ?_) (fun c4 => ?_)
  · rw [if_pos c4] at h
    refine J_iconst (x := 0) dX0_findOrder_33 (by decide) (q := 34) rfl ?_
    have h := Option.some.inj h
    subst h
    exact J_ireturn dX0_findOrder_34 rfl rfl rfl
  · rw [if_neg c4] at h
    refine J_iload (z := 0) dX0_findOrder_24 rfl (q := 26) rfl ?_
    obtain ⟨vk6, hk6, h⟩ := bindS h
    refine J_cSi (as := [.int (vk2 &&& vk4)]) dX0_findOrder_26 mRX0_49 (tJ6_bitCount_0f7a4  hk6) rfl (Nat.le_of_ble_eq_true rfl) (Nat.le_of_ble_eq_true rfl) (Nat.le_of_ble_eq_true rfl) (q := 29) rfl ?_
    intro bk6
    refine J_iconst (x := 5) dX0_findOrder_29 (by decide) (q := 30) rfl ?_
    refine J_icmp_le (tgt := 35) dX0_findOrder_30 (by decide) (q := 33) rfl (fun c6 => ?_) (fun c6 => ?_)
    · rw [if_pos c6] at h
      refine J_aload_n (z := 1) dX0_findOrder_35 rfl rfl (q := 36) rfl ?_
      refine J_iconst (x := (-1)) dX0_findOrder_36 (by decide) (q := 37) rfl ?_
      refine J_putI dX0_findOrder_37 lRX0_54 (fun h => by cases h) ha0 rfl (q := 40) rfl ?_
      refine J_aload_n (z := 1) dX0_findOrder_40 rfl rfl (q := 41) rfl ?_
      refine J_iconst (x := (-1)) dX0_findOrder_41 (by decide) (q := 42) rfl ?_
      refine J_putI dX0_findOrder_42 lRX0_58 (fun h => by cases h) ha0 rfl (q := 45) rfl ?_
      refine J_aload_n (z := 1) dX0_findOrder_45 rfl rfl (q := 46) rfl ?_
      obtain ⟨r8, er8, h⟩ := bindS h
      refine J_getR dX0_findOrder_46 lRX0_11 ha0 rfl (by decide) er8 (q := 49) rfl (fun fr8 => ?_)
      refine J_iconst (x := 0) dX0_findOrder_49 (by decide) (q := 50) rfl ?_
      obtain ⟨g9, h⟩ := iteS h
      obtain ⟨r10, er10, h⟩ := bindS h
      refine J_aald (t := 5) dX0_findOrder_50 fr8 (by decide) (ixB_ok g9) er10 (q := 51) rfl (fun fr10 => ?_)
      refine J_aload_n (z := 2) dX0_findOrder_51 rfl rfl (q := 52) rfl ?_
      obtain ⟨sk11, hk11, h⟩ := bindS h
      refine J_cVv (as := [.ref a1]) dX0_findOrder_52 mRX0_61 fr10 (tX6_takeFrom fr10 ha1 hk11) rfl (Nat.le_of_ble_eq_true rfl) (Nat.le_of_ble_eq_true rfl) (Nat.le_of_ble_eq_true rfl) (q := 55) rfl ?_
      refine J_aload_n (z := 2) dX0_findOrder_55 rfl rfl (q := 56) rfl ?_
      refine J_iload_n (z := 3) dX0_findOrder_56 rfl rfl (q := 57) rfl ?_
      obtain ⟨vk12, hk12, h⟩ := bindS h
      refine J_cVi (as := [.int a2]) dX0_findOrder_57 mRX0_65 ha1 (tX6_hasDone ha1 hk12) rfl (Nat.le_of_ble_eq_true rfl) (Nat.le_of_ble_eq_true rfl) (Nat.le_of_ble_eq_true rfl) (q := 60) rfl ?_
      intro bk12
      refine J_if_eq (tgt := 77) dX0_findOrder_60 (by decide) (q := 63) rfl (fun c12 => ?_) (fun c12 => ?_)
      · rw [if_pos c12] at h
        refine J_pick [1, 3, 0] rfl ?_
        exact tX0_findOrder_b77 ha0 h
      · rw [if_neg c12] at h
        refine J_aload_n (z := 1) dX0_findOrder_63 rfl rfl (q := 64) rfl ?_
        obtain ⟨r16, er16, h⟩ := bindS h
        refine J_getR dX0_findOrder_64 lRX0_32 ha0 rfl (by decide) er16 (q := 67) rfl (fun fr16 => ?_)
        refine J_aload_n (z := 1) dX0_findOrder_67 rfl rfl (q := 68) rfl ?_
        obtain ⟨r17, er17, h⟩ := bindS h
        refine J_getR dX0_findOrder_68 lRX0_11 ha0 rfl (by decide) er17 (q := 71) rfl (fun fr17 => ?_)
        refine J_iconst (x := 0) dX0_findOrder_71 (by decide) (q := 72) rfl ?_
        obtain ⟨g18, h⟩ := iteS h
        obtain ⟨r19, er19, h⟩ := bindS h
        refine J_aald (t := 5) dX0_findOrder_72 fr17 (by decide) (ixB_ok g18) er19 (q := 73) rfl (fun fr19 => ?_)
        obtain ⟨vk20, sk20, hk20, h⟩ := bnd2S h
        refine J_cVi (as := [.ref r19]) dX0_findOrder_73 mRX0_69 fr16 (tX8_fallNight fr16 fr19 hk20) rfl (Nat.le_of_ble_eq_true rfl) (Nat.le_of_ble_eq_true rfl) (Nat.le_of_ble_eq_true rfl) (q := 76) rfl ?_
        intro bk20
        refine J_pop dX0_findOrder_76 rfl (q := 77) rfl ?_
        refine J_pick [1, 3, 0] rfl ?_
        exact tX0_findOrder_b77 ha0 h
    · rw [if_neg c6] at h
      refine J_iconst (x := 0) dX0_findOrder_33 (by decide) (q := 34) rfl ?_
      have h := Option.some.inj h
      subst h
      exact J_ireturn dX0_findOrder_34 rfl rfl rfl

def fX8_lossIn_b63 (a0 : Nat) (a1 : Nat) (a2 : Int32) (a3 : Int32) (a4 : Int32) (a5 : Int32) (a6 : Int32) (σ : Mm) : Option ((Int32 × Int32 × Mm) ⊕ (Int32 × Mm)) :=
  some (Sum.inl (a5, (a6 + 1), σ))
set_option maxRecDepth 20000 in
set_option maxHeartbeats 2000000 in
theorem tX8_lossIn_b63 {X : XS} {n : Nat} {σ : Mm} {F : Nat × Option Value × Mm} {a0 : Nat} {a1 : Nat} {a2 : Int32} {a3 : Int32} {a4 : Int32} {a5 : Int32} {a6 : Int32} (ha0 : RT n a0 108) (ha1 : RT n a1 106) {res : (Int32 × Int32 × Mm) ⊕ (Int32 × Mm)} (h : fX8_lossIn_b63 a0 a1 a2 a3 a4 a5 a6 σ = some res) (hc : ∀ (b5 : Int32) (b6 : Int32) (s : Mm), res = .inl (b5, b6, s) → J X mX8_lossIn 4 0 0 F 15 [(0, .ref a0), (1, .ref a1), (2, .int a2), (3, .int a3), (4, .int a4), (5, .int b5), (6, .int b6)] [] n s) (hr : ∀ (v : Int32) (s : Mm), res = .inr (v, s) → F = (n, some (.int v), s)) : J X mX8_lossIn 4 0 0 F 63 [(0, .ref a0), (1, .ref a1), (2, .int a2), (3, .int a3), (4, .int a4), (5, .int a5), (6, .int a6)] [] n σ := by
  unfold fX8_lossIn_b63 at h
  refine J_iinc (z := 6) (y := (a6 + 1)) (lv' := [(6, .int (a6 + 1)), (0, .ref a0), (1, .ref a1), (2, .int a2), (3, .int a3), (4, .int a4), (5, .int a5)]) dX8_lossIn_63 rfl rfl (by decide) rfl (q := 66) rfl ?_
  refine J_goto (tgt := 15) dX8_lossIn_66 (by decide) ?_
  have h := Option.some.inj h
  refine J_pick [1, 2, 3, 4, 5, 6, 0] rfl ?_
  exact hc _ _ _ h.symm

def fX8_lossIn_l15 (a0 : Nat) (a1 : Nat) (a2 : Int32) (a3 : Int32) (a4 : Int32) (a5 : Int32) (a6 : Int32) (σ : Mm) : Option ((Int32 × Int32 × Mm) ⊕ (Int32 × Mm)) :=
  (gR σ a0 0).bind fun r2 => if (gI σ r2 4) ≤ a6 then some (Sum.inr (a5, σ)) else (gR σ a1 0).bind fun r4 => if ixB a6 (ln r4) = true then if (gI σ r4 (Int32.toNatClampNeg a6)) ≤ 0 then fX8_lossIn_b63 a0 a1 a2 a3 a4 a5 a6 σ else if ixB a6 (ln r4) = true then bnd2 (fX8_meltBy a0 a1 a2 a6 a3 a4 σ) fun vk8 sk8 => fX8_lossIn_b63 a0 a1 a2 a3 a4 (a5 + (minI (gI σ r4 (Int32.toNatClampNeg a6)) vk8)) a6 sk8 else none else none
set_option maxRecDepth 20000 in
set_option maxHeartbeats 2000000 in
theorem tX8_lossIn_l15 {X : XS} {n : Nat} {σ : Mm} {F : Nat × Option Value × Mm} {a0 : Nat} {a1 : Nat} {a2 : Int32} {a3 : Int32} {a4 : Int32} {a5 : Int32} {a6 : Int32} (ha0 : RT n a0 108) (ha1 : RT n a1 106) {res : (Int32 × Int32 × Mm) ⊕ (Int32 × Mm)} (h : fX8_lossIn_l15 a0 a1 a2 a3 a4 a5 a6 σ = some res) (hc : ∀ (b5 : Int32) (b6 : Int32) (s : Mm), res = .inl (b5, b6, s) → J X mX8_lossIn 4 0 0 F 15 [(0, .ref a0), (1, .ref a1), (2, .int a2), (3, .int a3), (4, .int a4), (5, .int b5), (6, .int b6)] [] n s) (hr : ∀ (v : Int32) (s : Mm), res = .inr (v, s) → F = (n, some (.int v), s)) : J X mX8_lossIn 4 0 0 F 15 [(0, .ref a0), (1, .ref a1), (2, .int a2), (3, .int a3), (4, .int a4), (5, .int a5), (6, .int a6)] [] n σ := by
  unfold fX8_lossIn_l15 at h
  refine J_iload (z := 6) dX8_lossIn_15 rfl (q := 17) rfl ?_
  refine J_aload_n (z := 0) dX8_lossIn_17 rfl rfl (q := 18) rfl ?_
  obtain ⟨r2, er2, h⟩ := bindS h
  refine J_getR dX8_lossIn_18 lRX8_15 ha0 rfl (by decide) er2 (q := 21) rfl (fun fr2 => ?_)
  refine J_getI dX8_lossIn_21 lRX8_76 fr2 rfl (q := 24) rfl ?_
  refine J_icmp_ge (tgt := 69) dX8_lossIn_24 (by decide) (q := 27) rfl (fun c2 => ?_) (fun c2 => ?_)
  · rw [if_pos c2] at h
    refine J_iload (z := 5) dX8_lossIn_69 rfl (q := 71) rfl ?_
    have h := Option.some.inj h
    exact J_ireturn dX8_lossIn_71 rfl rfl (hr _ _ h.symm)
  · rw [if_neg c2] at h
    refine J_aload_n (z := 1) dX8_lossIn_27 rfl rfl (q := 28) rfl ?_
    obtain ⟨r4, er4, h⟩ := bindS h
    refine J_getR dX8_lossIn_28 lRX8_52 ha1 rfl (by decide) er4 (q := 31) rfl (fun fr4 => ?_)
    refine J_iload (z := 6) dX8_lossIn_31 rfl (q := 33) rfl ?_
    obtain ⟨g5, h⟩ := iteS h
    refine J_iald dX8_lossIn_33 fr4 (ixB_ok g5) (q := 34) rfl ?_
    refine J_if_le (tgt := 63) dX8_lossIn_34 (by decide) (q := 37) rfl (fun c5 => ?_) (fun c5 => ?_)
    · rw [if_pos c5] at h
      refine J_pick [0, 1, 2, 3, 4, 5, 6] rfl ?_
      exact tX8_lossIn_b63 ha0 ha1 h hc hr
    · rw [if_neg c5] at h
      refine J_iload (z := 5) dX8_lossIn_37 rfl (q := 39) rfl ?_
      refine J_aload_n (z := 1) dX8_lossIn_39 rfl rfl (q := 40) rfl ?_
      refine J_getR dX8_lossIn_40 lRX8_52 ha1 rfl (by decide) er4 (q := 43) rfl (fun _ => ?_)
      refine J_iload (z := 6) dX8_lossIn_43 rfl (q := 45) rfl ?_
      obtain ⟨g7, h⟩ := iteS h
      refine J_iald dX8_lossIn_45 fr4 (ixB_ok g7) (q := 46) rfl ?_
      refine J_aload_n (z := 0) dX8_lossIn_46 rfl rfl (q := 47) rfl ?_
      refine J_aload_n (z := 1) dX8_lossIn_47 rfl rfl (q := 48) rfl ?_
      refine J_iload_n (z := 2) dX8_lossIn_48 rfl rfl (q := 49) rfl ?_
      refine J_iload (z := 6) dX8_lossIn_49 rfl (q := 51) rfl ?_
      refine J_iload_n (z := 3) dX8_lossIn_51 rfl rfl (q := 52) rfl ?_
      refine J_iload (z := 4) dX8_lossIn_52 rfl (q := 54) rfl ?_
      obtain ⟨vk8, sk8, hk8, h⟩ := bnd2S h
      refine J_cVi (as := [.ref a1, .int a2, .int a6, .int a3, .int a4]) dX8_lossIn_54 mRX8_79 ha0 (tX8_meltBy ha0 ha1 hk8) rfl (Nat.le_of_ble_eq_true rfl) (Nat.le_of_ble_eq_true rfl) (Nat.le_of_ble_eq_true rfl) (q := 57) rfl ?_
      intro bk8
      refine J_mmin dX8_lossIn_57 pRX8_64 q_static_mmin q_init_math q_code_mmin (Nat.le_of_ble_eq_true rfl) (Nat.le_of_ble_eq_true rfl) (q := 60) rfl ?_
      refine J_iadd dX8_lossIn_60  (q := 61) rfl ?_
      refine J_istore (lv' := [(5, .int (a5 + (minI (gI σ r4 (Int32.toNatClampNeg a6)) vk8))), (0, .ref a0), (1, .ref a1), (2, .int a2), (3, .int a3), (4, .int a4), (6, .int a6)]) dX8_lossIn_61 (by decide) rfl (q := 63) rfl ?_
      refine J_pick [1, 2, 3, 4, 5, 0, 6] rfl ?_
      exact tX8_lossIn_b63 ha0 ha1 h hc hr

def fX8_lossIn_w15 (a0 : Nat) (a1 : Nat) (a2 : Int32) (a3 : Int32) (a4 : Int32) (a5 : Int32) (a6 : Int32) (σ : Mm) : Option (Int32 × Mm) :=
  wh (fun a : Int32 × Int32 × Mm => fX8_lossIn_l15 a0 a1 a2 a3 a4 a.1 a.2.1 a.2.2) BIG (a5, a6, σ)
set_option maxRecDepth 20000 in
set_option maxHeartbeats 2000000 in
theorem tX8_lossIn_w15 {X : XS} {n : Nat} {σ : Mm} {F : Nat × Option Value × Mm} {a0 : Nat} {a1 : Nat} {a2 : Int32} {a3 : Int32} {a4 : Int32} {a5 : Int32} {a6 : Int32} (ha0 : RT n a0 108) (ha1 : RT n a1 106) {res : Int32 × Mm} (h : fX8_lossIn_w15 a0 a1 a2 a3 a4 a5 a6 σ = some res) (hr : ∀ (v : Int32) (s : Mm), res = (v, s) → F = (n, some (.int v), s)) : J X mX8_lossIn 4 0 0 F 15 [(0, .ref a0), (1, .ref a1), (2, .int a2), (3, .int a3), (4, .int a4), (5, .int a5), (6, .int a6)] [] n σ := by
  unfold fX8_lossIn_w15 at h
  refine wh_rule (P := fun a : Int32 × Int32 × Mm => J X mX8_lossIn 4 0 0 F 15 [(0, .ref a0), (1, .ref a1), (2, .int a2), (3, .int a3), (4, .int a4), (5, .int a.1), (6, .int a.2.1)] [] n a.2.2) (K := fun b => b = res) ?_ _ _ _ h rfl
  intro a
  refine ⟨fun a2 hb hP => ?_, fun b hb hK => ?_⟩
  · exact tX8_lossIn_l15 ha0 ha1 hb (fun _ _ _ e => by cases e; exact hP) (fun _ _ e => by cases e)
  · subst hK
    exact tX8_lossIn_l15 ha0 ha1 hb (fun _ _ _ e => by cases e) (fun v0 v1 e => hr v0 v1 (Sum.inr.inj e))

def fX8_lossIn (a0 : Nat) (a1 : Nat) (a2 : Int32) (a3 : Int32) (σ : Mm) : Option (Int32 × Mm) :=
  (fX8_othersIn a0 a1 a2 a3 σ).bind fun vk1 => (fX8_lossIn_w15 a0 a1 a2 a3 vk1 0 0 σ).bind (fun o9 => some o9)
set_option maxRecDepth 20000 in
set_option maxHeartbeats 2000000 in
theorem tX8_lossIn {X : XS} {n : Nat} {σ : Mm} {a0 : Nat} {a1 : Nat} {a2 : Int32} {a3 : Int32} (ha0 : RT n a0 108) (ha1 : RT n a1 106) {res : Int32 × Mm} (h : fX8_lossIn a0 a1 a2 a3 σ = some res) : MT X yX8_lossIn mX8_lossIn 4 0 0 [.ref a0, .ref a1, .int a2, .int a3] n σ (n, some (.int res.1), res.2) := by
  unfold fX8_lossIn at h
  refine MT_of (by decide +kernel) rfl (fun h => by cases h) (Nat.le_of_ble_eq_true rfl) ?_
  show J X mX8_lossIn 4 0 0 (n, some (.int res.1), res.2) 0 [(0, .ref a0), (1, .ref a1), (2, .int a2), (3, .int a3)] [] n σ
  refine J_aload_n (z := 0) dX8_lossIn_0 rfl rfl (q := 1) rfl ?_
  refine J_aload_n (z := 1) dX8_lossIn_1 rfl rfl (q := 2) rfl ?_
  refine J_iload_n (z := 2) dX8_lossIn_2 rfl rfl (q := 3) rfl ?_
  refine J_iload_n (z := 3) dX8_lossIn_3 rfl rfl (q := 4) rfl ?_
  obtain ⟨vk1, hk1, h⟩ := bindS h
  refine J_cVi (as := [.ref a1, .int a2, .int a3]) dX8_lossIn_4 mRX8_72 ha0 (tX8_othersIn ha0 ha1 hk1) rfl (Nat.le_of_ble_eq_true rfl) (Nat.le_of_ble_eq_true rfl) (Nat.le_of_ble_eq_true rfl) (q := 7) rfl ?_
  intro bk1
  refine J_istore (lv' := [(4, .int vk1), (0, .ref a0), (1, .ref a1), (2, .int a2), (3, .int a3)]) dX8_lossIn_7 (by decide) rfl (q := 9) rfl ?_
  refine J_iconst (x := 0) dX8_lossIn_9 (by decide) (q := 10) rfl ?_
  refine J_istore (lv' := [(5, .int 0), (4, .int vk1), (0, .ref a0), (1, .ref a1), (2, .int a2), (3, .int a3)]) dX8_lossIn_10 (by decide) rfl (q := 12) rfl ?_
  refine J_iconst (x := 0) dX8_lossIn_12 (by decide) (q := 13) rfl ?_
  refine J_istore (lv' := [(6, .int 0), (5, .int 0), (4, .int vk1), (0, .ref a0), (1, .ref a1), (2, .int a2), (3, .int a3)]) dX8_lossIn_13 (by decide) rfl (q := 15) rfl ?_
  obtain ⟨o9, hlo9, h⟩ := bindS h
  refine J_pick [3, 4, 5, 6, 2, 1, 0] rfl ?_
  refine tX8_lossIn_w15 ha0 ha1 hlo9 ?_
  · intro vo9 so9 qo9
    rw [qo9] at h
    try dsimp only [Sum.elim_inl, Sum.elim_inr] at h
    have h := Option.some.inj h
    subst h
    rfl

def fX0_shareOut_b44 (a0 : Nat) (a1 : Nat) (a2 : Int32) (a3 : Int32) (z0 : Nat) (z1 : Int32) (z2 : Int32) (σ : Mm) : Option ((Int32 × Mm) ⊕ (Mm)) :=
  if ixB z1 (ln z0) = true then some (Sum.inl ((a3 + 1), (sI σ z0 (Int32.toNatClampNeg z1) z2))) else none
set_option maxRecDepth 20000 in
set_option maxHeartbeats 2000000 in
theorem tX0_shareOut_b44 {X : XS} {n : Nat} {σ : Mm} {F : Nat × Option Value × Mm} {a0 : Nat} {a1 : Nat} {a2 : Int32} {a3 : Int32} {z0 : Nat} {z1 : Int32} {z2 : Int32} (ha0 : RT n a0 100) (ha1 : RT n a1 106) (hz0 : RT n z0 200) {res : (Int32 × Mm) ⊕ (Mm)} (h : fX0_shareOut_b44 a0 a1 a2 a3 z0 z1 z2 σ = some res) (hc : ∀ (b3 : Int32) (s : Mm), res = .inl (b3, s) → J X mX0_shareOut 5 0 0 F 2 [(0, .ref a0), (1, .ref a1), (2, .int a2), (3, .int b3)] [] n s) (he0 : ∀  (s : Mm), res = .inr s → J X mX0_shareOut 5 0 0 F 51 [(0, .ref a0)] [] n s) : J X mX0_shareOut 5 0 0 F 44 [(0, .ref a0), (1, .ref a1), (2, .int a2), (3, .int a3)] [.int z2, .int z1, .ref z0] n σ := by
  unfold fX0_shareOut_b44 at h
  obtain ⟨g6, h⟩ := iteS h
  refine J_iast dX0_shareOut_44 hz0 (ixB_ok g6) (q := 45) rfl ?_
  refine J_iinc (z := 3) (y := (a3 + 1)) (lv' := [(3, .int (a3 + 1)), (0, .ref a0), (1, .ref a1), (2, .int a2)]) dX0_shareOut_45 rfl rfl (by decide) rfl (q := 48) rfl ?_
  refine J_goto (tgt := 2) dX0_shareOut_48 (by decide) ?_
  have h := Option.some.inj h
  refine J_pick [1, 2, 3, 0] rfl ?_
  exact hc _ _ h.symm

def fX0_shareOut_l2 (a0 : Nat) (a1 : Nat) (a2 : Int32) (a3 : Int32) (σ : Mm) : Option ((Int32 × Mm) ⊕ (Mm)) :=
  (gR σ a0 4).bind fun r1 => if (nI (ln r1)) ≤ a3 then some (Sum.inr σ) else (gR σ a0 1).bind fun r3 => (fX8_reaches r3 a1 a3 a2 σ).bind fun vk4 => if vk4 = 0 then fX0_shareOut_b44 a0 a1 a2 a3 r1 a3 1000000 σ else bnd2 (fX8_lossIn r3 a1 a3 a2 σ) fun vk7 sk7 => fX0_shareOut_b44 a0 a1 a2 a3 r1 a3 vk7 sk7
set_option maxRecDepth 20000 in
set_option maxHeartbeats 2000000 in
theorem tX0_shareOut_l2 {X : XS} {n : Nat} {σ : Mm} {F : Nat × Option Value × Mm} {a0 : Nat} {a1 : Nat} {a2 : Int32} {a3 : Int32} (ha0 : RT n a0 100) (ha1 : RT n a1 106) {res : (Int32 × Mm) ⊕ (Mm)} (h : fX0_shareOut_l2 a0 a1 a2 a3 σ = some res) (hc : ∀ (b3 : Int32) (s : Mm), res = .inl (b3, s) → J X mX0_shareOut 5 0 0 F 2 [(0, .ref a0), (1, .ref a1), (2, .int a2), (3, .int b3)] [] n s) (he0 : ∀  (s : Mm), res = .inr s → J X mX0_shareOut 5 0 0 F 51 [(0, .ref a0)] [] n s) : J X mX0_shareOut 5 0 0 F 2 [(0, .ref a0), (1, .ref a1), (2, .int a2), (3, .int a3)] [] n σ := by
  unfold fX0_shareOut_l2 at h
  refine J_iload_n (z := 3) dX0_shareOut_2 rfl rfl (q := 3) rfl ?_
  refine J_aload_n (z := 0) dX0_shareOut_3 rfl rfl (q := 4) rfl ?_
  obtain ⟨r1, er1, h⟩ := bindS h
  refine J_getR dX0_shareOut_4 lRX0_21 ha0 rfl (by decide) er1 (q := 7) rfl (fun fr1 => ?_)
  refine J_alen (t := 0) dX0_shareOut_7 fr1 (by decide) rfl (q := 8) rfl ?_
  refine J_icmp_ge (tgt := 51) dX0_shareOut_8 (by decide) (q := 11) rfl (fun c1 => ?_) (fun c1 => ?_)
  · rw [if_pos c1] at h
    have h := Option.some.inj h
    refine J_pick [0] rfl ?_
    exact he0 _ h.symm
  · rw [if_neg c1] at h
    refine J_aload_n (z := 0) dX0_shareOut_11 rfl rfl (q := 12) rfl ?_
    refine J_getR dX0_shareOut_12 lRX0_21 ha0 rfl (by decide) er1 (q := 15) rfl (fun _ => ?_)
    refine J_iload_n (z := 3) dX0_shareOut_15 rfl rfl (q := 16) rfl ?_
    refine J_aload_n (z := 0) dX0_shareOut_16 rfl rfl (q := 17) rfl ?_
    obtain ⟨r3, er3, h⟩ := bindS h
    refine J_getR dX0_shareOut_17 lRX0_32 ha0 rfl (by decide) er3 (q := 20) rfl (fun fr3 => ?_)
    refine J_aload_n (z := 1) dX0_shareOut_20 rfl rfl (q := 21) rfl ?_
    refine J_iload_n (z := 3) dX0_shareOut_21 rfl rfl (q := 22) rfl ?_
    refine J_iload_n (z := 2) dX0_shareOut_22 rfl rfl (q := 23) rfl ?_
    obtain ⟨vk4, hk4, h⟩ := bindS h
    refine J_cVi (as := [.ref a1, .int a3, .int a2]) dX0_shareOut_23 mRX0_101 fr3 (tX8_reaches fr3 ha1 hk4) rfl (Nat.le_of_ble_eq_true rfl) (Nat.le_of_ble_eq_true rfl) (Nat.le_of_ble_eq_true rfl) (q := 26) rfl ?_
    intro bk4
    refine J_if_eq (tgt := 42) dX0_shareOut_26 (by decide) (q := 29) rfl (fun c4 => ?_) (fun c4 => ?_)
    · rw [if_pos c4] at h
      refine J_ldc (x := 1000000) dX0_shareOut_42 kRX0_87 (q := 44) rfl ?_
      refine J_pick [0, 1, 2, 3] rfl ?_
      exact tX0_shareOut_b44 ha0 ha1 fr1 h hc he0
    · rw [if_neg c4] at h
      refine J_aload_n (z := 0) dX0_shareOut_29 rfl rfl (q := 30) rfl ?_
      refine J_getR dX0_shareOut_30 lRX0_32 ha0 rfl (by decide) er3 (q := 33) rfl (fun _ => ?_)
      refine J_aload_n (z := 1) dX0_shareOut_33 rfl rfl (q := 34) rfl ?_
      refine J_iload_n (z := 3) dX0_shareOut_34 rfl rfl (q := 35) rfl ?_
      refine J_iload_n (z := 2) dX0_shareOut_35 rfl rfl (q := 36) rfl ?_
      obtain ⟨vk7, sk7, hk7, h⟩ := bnd2S h
      refine J_cVi (as := [.ref a1, .int a3, .int a2]) dX0_shareOut_36 mRX0_105 fr3 (tX8_lossIn fr3 ha1 hk7) rfl (Nat.le_of_ble_eq_true rfl) (Nat.le_of_ble_eq_true rfl) (Nat.le_of_ble_eq_true rfl) (q := 39) rfl ?_
      intro bk7
      refine J_goto (tgt := 44) dX0_shareOut_39 (by decide) ?_
      refine J_pick [0, 1, 2, 3] rfl ?_
      exact tX0_shareOut_b44 ha0 ha1 fr1 h hc he0

def fX0_shareOut_w2 (a0 : Nat) (a1 : Nat) (a2 : Int32) (a3 : Int32) (σ : Mm) : Option (Mm) :=
  wh (fun a : Int32 × Mm => fX0_shareOut_l2 a0 a1 a2 a.1 a.2) BIG (a3, σ)
set_option maxRecDepth 20000 in
set_option maxHeartbeats 2000000 in
theorem tX0_shareOut_w2 {X : XS} {n : Nat} {σ : Mm} {F : Nat × Option Value × Mm} {a0 : Nat} {a1 : Nat} {a2 : Int32} {a3 : Int32} (ha0 : RT n a0 100) (ha1 : RT n a1 106) {res : Mm} (h : fX0_shareOut_w2 a0 a1 a2 a3 σ = some res) (he0 : ∀  (s : Mm), res = s → J X mX0_shareOut 5 0 0 F 51 [(0, .ref a0)] [] n s) : J X mX0_shareOut 5 0 0 F 2 [(0, .ref a0), (1, .ref a1), (2, .int a2), (3, .int a3)] [] n σ := by
  unfold fX0_shareOut_w2 at h
  refine wh_rule (P := fun a : Int32 × Mm => J X mX0_shareOut 5 0 0 F 2 [(0, .ref a0), (1, .ref a1), (2, .int a2), (3, .int a.1)] [] n a.2) (K := fun b => b = res) ?_ _ _ _ h rfl
  intro a
  refine ⟨fun a2 hb hP => ?_, fun b hb hK => ?_⟩
  · exact tX0_shareOut_l2 ha0 ha1 hb (fun _ _ e => by cases e; exact hP) (fun _ e => by cases e)
  · subst hK
    exact tX0_shareOut_l2 ha0 ha1 hb (fun _ _ e => by cases e) (fun v0 e => he0 v0 (Sum.inr.inj e))

def fX0_shareOut_b122 (a0 : Nat) (a3 : Int32) (a4 : Int32) (σ : Mm) : Option ((Int32 × Mm) ⊕ (Mm)) :=
  some (Sum.inl ((a4 + 1), σ))
set_option maxRecDepth 20000 in
set_option maxHeartbeats 2000000 in
theorem tX0_shareOut_b122 {X : XS} {n : Nat} {σ : Mm} {F : Nat × Option Value × Mm} {a0 : Nat} {a3 : Int32} {a4 : Int32} (ha0 : RT n a0 100) {res : (Int32 × Mm) ⊕ (Mm)} (h : fX0_shareOut_b122 a0 a3 a4 σ = some res) (hc : ∀ (b4 : Int32) (s : Mm), res = .inl (b4, s) → J X mX0_shareOut 5 0 0 F 66 [(0, .ref a0), (3, .int a3), (4, .int b4)] [] n s) (he0 : ∀  (s : Mm), res = .inr s → J X mX0_shareOut 5 0 0 F 128 [(0, .ref a0), (3, .int a3)] [] n s) : J X mX0_shareOut 5 0 0 F 122 [(0, .ref a0), (3, .int a3), (4, .int a4)] [] n σ := by
  unfold fX0_shareOut_b122 at h
  refine J_iinc (z := 2) (y := (a4 + 1)) (lv' := [(4, .int (a4 + 1)), (0, .ref a0), (3, .int a3)]) dX0_shareOut_122 rfl rfl (by decide) rfl (q := 125) rfl ?_
  refine J_goto (tgt := 66) dX0_shareOut_125 (by decide) ?_
  have h := Option.some.inj h
  refine J_pick [1, 2, 0] rfl ?_
  exact hc _ _ h.symm

def fX0_shareOut_l66 (a0 : Nat) (a3 : Int32) (a4 : Int32) (σ : Mm) : Option ((Int32 × Mm) ⊕ (Mm)) :=
  (gR σ a0 4).bind fun r11 => if (nI (ln r11)) ≤ a4 then some (Sum.inr σ) else if (a3 &&& ((shlI 1 a4) ^^^ (-1))) = a3 then fX0_shareOut_b122 a0 a3 a4 σ else (gR σ a0 3).bind fun r14 => if ixB a3 (ln r14) = true then if ixB (a3 &&& ((shlI 1 a4) ^^^ (-1))) (ln r14) = true then if ixB a4 (ln r11) = true then if ixB a3 (ln r14) = true then fX0_shareOut_b122 a0 a3 a4 (sI σ r14 (Int32.toNatClampNeg a3) (minI (gI σ r14 (Int32.toNatClampNeg a3)) ((gI σ r14 (Int32.toNatClampNeg (a3 &&& ((shlI 1 a4) ^^^ (-1))))) + (gI σ r11 (Int32.toNatClampNeg a4))))) else none else none else none else none
set_option maxRecDepth 20000 in
set_option maxHeartbeats 2000000 in
theorem tX0_shareOut_l66 {X : XS} {n : Nat} {σ : Mm} {F : Nat × Option Value × Mm} {a0 : Nat} {a3 : Int32} {a4 : Int32} (ha0 : RT n a0 100) {res : (Int32 × Mm) ⊕ (Mm)} (h : fX0_shareOut_l66 a0 a3 a4 σ = some res) (hc : ∀ (b4 : Int32) (s : Mm), res = .inl (b4, s) → J X mX0_shareOut 5 0 0 F 66 [(0, .ref a0), (3, .int a3), (4, .int b4)] [] n s) (he0 : ∀  (s : Mm), res = .inr s → J X mX0_shareOut 5 0 0 F 128 [(0, .ref a0), (3, .int a3)] [] n s) : J X mX0_shareOut 5 0 0 F 66 [(0, .ref a0), (3, .int a3), (4, .int a4)] [] n σ := by
  unfold fX0_shareOut_l66 at h
  refine J_iload (z := 2) dX0_shareOut_66 rfl (q := 68) rfl ?_
  refine J_aload_n (z := 0) dX0_shareOut_68 rfl rfl (q := 69) rfl ?_
  obtain ⟨r11, er11, h⟩ := bindS h
  refine J_getR dX0_shareOut_69 lRX0_21 ha0 rfl (by decide) er11 (q := 72) rfl (fun fr11 => ?_)
  refine J_alen (t := 0) dX0_shareOut_72 fr11 (by decide) rfl (q := 73) rfl ?_
  refine J_icmp_ge (tgt := 128) dX0_shareOut_73 (by decide) (q := 76) rfl (fun c11 => ?_) (fun c11 => ?_)
  · rw [if_pos c11] at h
    have h := Option.some.inj h
    refine J_pick [0, 1] rfl ?_
    exact he0 _ h.symm
  · rw [if_neg c11] at h
    refine J_iload_n (z := 1) dX0_shareOut_76 rfl rfl (q := 77) rfl ?_
    refine J_iconst (x := 1) dX0_shareOut_77 (by decide) (q := 78) rfl ?_
    refine J_iload (z := 2) dX0_shareOut_78 rfl (q := 80) rfl ?_
    refine J_ishl dX0_shareOut_80  (q := 81) rfl ?_
    refine J_iconst (x := (-1)) dX0_shareOut_81 (by decide) (q := 82) rfl ?_
    refine J_ixor dX0_shareOut_82  (q := 83) rfl ?_
    refine J_iand dX0_shareOut_83  (q := 84) rfl ?_
    refine J_istore (lv' := [(5, .int (a3 &&& ((shlI 1 a4) ^^^ (-1)))), (0, .ref a0), (3, .int a3), (4, .int a4)]) dX0_shareOut_84 (by decide) rfl (q := 86) rfl ?_
    refine J_iload (z := 0) dX0_shareOut_86 rfl (q := 88) rfl ?_
    refine J_iload_n (z := 2) dX0_shareOut_88 rfl rfl (q := 89) rfl ?_
    refine J_icmp_eq (tgt := 122) dX0_shareOut_89 (by decide) (q := 92) rfl (fun c12 => ?_) (fun c12 => ?_)
    · rw [if_pos c12] at h
      refine J_pick [1, 2, 3] rfl ?_
      exact tX0_shareOut_b122 ha0 h hc he0
    · rw [if_neg c12] at h
      refine J_aload_n (z := 1) dX0_shareOut_92 rfl rfl (q := 93) rfl ?_
      obtain ⟨r14, er14, h⟩ := bindS h
      refine J_getR dX0_shareOut_93 lRX0_17 ha0 rfl (by decide) er14 (q := 96) rfl (fun fr14 => ?_)
      refine J_iload_n (z := 2) dX0_shareOut_96 rfl rfl (q := 97) rfl ?_
      refine J_aload_n (z := 1) dX0_shareOut_97 rfl rfl (q := 98) rfl ?_
      refine J_getR dX0_shareOut_98 lRX0_17 ha0 rfl (by decide) er14 (q := 101) rfl (fun _ => ?_)
      refine J_iload_n (z := 2) dX0_shareOut_101 rfl rfl (q := 102) rfl ?_
      obtain ⟨g15, h⟩ := iteS h
      refine J_iald dX0_shareOut_102 fr14 (ixB_ok g15) (q := 103) rfl ?_
      refine J_aload_n (z := 1) dX0_shareOut_103 rfl rfl (q := 104) rfl ?_
      refine J_getR dX0_shareOut_104 lRX0_17 ha0 rfl (by decide) er14 (q := 107) rfl (fun _ => ?_)
      refine J_iload (z := 0) dX0_shareOut_107 rfl (q := 109) rfl ?_
      obtain ⟨g16, h⟩ := iteS h
      refine J_iald dX0_shareOut_109 fr14 (ixB_ok g16) (q := 110) rfl ?_
      refine J_aload_n (z := 1) dX0_shareOut_110 rfl rfl (q := 111) rfl ?_
      refine J_getR dX0_shareOut_111 lRX0_21 ha0 rfl (by decide) er11 (q := 114) rfl (fun _ => ?_)
      refine J_iload (z := 3) dX0_shareOut_114 rfl (q := 116) rfl ?_
      obtain ⟨g17, h⟩ := iteS h
      refine J_iald dX0_shareOut_116 fr11 (ixB_ok g17) (q := 117) rfl ?_
      refine J_iadd dX0_shareOut_117  (q := 118) rfl ?_
      refine J_mmin dX0_shareOut_118 pRX0_109 q_static_mmin q_init_math q_code_mmin (Nat.le_of_ble_eq_true rfl) (Nat.le_of_ble_eq_true rfl) (q := 121) rfl ?_
      obtain ⟨g18, h⟩ := iteS h
      refine J_iast dX0_shareOut_121 fr14 (ixB_ok g18) (q := 122) rfl ?_
      refine J_pick [1, 2, 3] rfl ?_
      exact tX0_shareOut_b122 ha0 h hc he0

def fX0_shareOut_w66 (a0 : Nat) (a3 : Int32) (a4 : Int32) (σ : Mm) : Option (Mm) :=
  wh (fun a : Int32 × Mm => fX0_shareOut_l66 a0 a3 a.1 a.2) BIG (a4, σ)
set_option maxRecDepth 20000 in
set_option maxHeartbeats 2000000 in
theorem tX0_shareOut_w66 {X : XS} {n : Nat} {σ : Mm} {F : Nat × Option Value × Mm} {a0 : Nat} {a3 : Int32} {a4 : Int32} (ha0 : RT n a0 100) {res : Mm} (h : fX0_shareOut_w66 a0 a3 a4 σ = some res) (he0 : ∀  (s : Mm), res = s → J X mX0_shareOut 5 0 0 F 128 [(0, .ref a0), (3, .int a3)] [] n s) : J X mX0_shareOut 5 0 0 F 66 [(0, .ref a0), (3, .int a3), (4, .int a4)] [] n σ := by
  unfold fX0_shareOut_w66 at h
  refine wh_rule (P := fun a : Int32 × Mm => J X mX0_shareOut 5 0 0 F 66 [(0, .ref a0), (3, .int a3), (4, .int a.1)] [] n a.2) (K := fun b => b = res) ?_ _ _ _ h rfl
  intro a
  refine ⟨fun a2 hb hP => ?_, fun b hb hK => ?_⟩
  · exact tX0_shareOut_l66 ha0 hb (fun _ _ e => by cases e; exact hP) (fun _ e => by cases e)
  · subst hK
    exact tX0_shareOut_l66 ha0 hb (fun _ _ e => by cases e) (fun v0 e => he0 v0 (Sum.inr.inj e))

def fX0_shareOut_l59 (a0 : Nat) (a3 : Int32) (σ : Mm) : Option ((Int32 × Mm) ⊕ (Mm)) :=
  if a3 ≤ 0 then some (Sum.inr σ) else (fX0_shareOut_w66 a0 a3 0 σ).bind (fun o19 => (fun so19 => some (Sum.inl ((a3 + (-1)), so19))) o19)
set_option maxRecDepth 20000 in
set_option maxHeartbeats 2000000 in
theorem tX0_shareOut_l59 {X : XS} {n : Nat} {σ : Mm} {F : Nat × Option Value × Mm} {a0 : Nat} {a3 : Int32} (ha0 : RT n a0 100) {res : (Int32 × Mm) ⊕ (Mm)} (h : fX0_shareOut_l59 a0 a3 σ = some res) (hc : ∀ (b3 : Int32) (s : Mm), res = .inl (b3, s) → J X mX0_shareOut 5 0 0 F 59 [(0, .ref a0), (3, .int b3)] [] n s) (hr : ∀ (s : Mm), res = .inr s → F = (n, none, s)) : J X mX0_shareOut 5 0 0 F 59 [(0, .ref a0), (3, .int a3)] [] n σ := by
  unfold fX0_shareOut_l59 at h
  refine J_iload_n (z := 1) dX0_shareOut_59 rfl rfl (q := 60) rfl ?_
  refine J_if_le (tgt := 134) dX0_shareOut_60 (by decide) (q := 63) rfl (fun c9 => ?_) (fun c9 => ?_)
  · rw [if_pos c9] at h
    have h := Option.some.inj h
    exact J_return dX0_shareOut_134 rfl (hr _ h.symm)
  · rw [if_neg c9] at h
    refine J_iconst (x := 0) dX0_shareOut_63 (by decide) (q := 64) rfl ?_
    refine J_istore (lv' := [(4, .int 0), (0, .ref a0), (3, .int a3)]) dX0_shareOut_64 (by decide) rfl (q := 66) rfl ?_
    obtain ⟨o19, hlo19, h⟩ := bindS h
    refine J_pick [1, 2, 0] rfl ?_
    refine tX0_shareOut_w66 ha0 hlo19 ?_
    · intro so19 qo19
      rw [qo19] at h
      try dsimp only [Sum.elim_inl, Sum.elim_inr] at h
      refine J_iinc (z := 1) (y := (a3 + (-1))) (lv' := [(3, .int (a3 + (-1))), (0, .ref a0)]) dX0_shareOut_128 rfl rfl (by decide) rfl (q := 131) rfl ?_
      refine J_goto (tgt := 59) dX0_shareOut_131 (by decide) ?_
      have h := Option.some.inj h
      refine J_pick [1, 0] rfl ?_
      exact hc _ _ h.symm

def fX0_shareOut_w59 (a0 : Nat) (a3 : Int32) (σ : Mm) : Option (Mm) :=
  wh (fun a : Int32 × Mm => fX0_shareOut_l59 a0 a.1 a.2) BIG (a3, σ)
set_option maxRecDepth 20000 in
set_option maxHeartbeats 2000000 in
theorem tX0_shareOut_w59 {X : XS} {n : Nat} {σ : Mm} {F : Nat × Option Value × Mm} {a0 : Nat} {a3 : Int32} (ha0 : RT n a0 100) {res : Mm} (h : fX0_shareOut_w59 a0 a3 σ = some res) (hr : ∀ (s : Mm), res = s → F = (n, none, s)) : J X mX0_shareOut 5 0 0 F 59 [(0, .ref a0), (3, .int a3)] [] n σ := by
  unfold fX0_shareOut_w59 at h
  refine wh_rule (P := fun a : Int32 × Mm => J X mX0_shareOut 5 0 0 F 59 [(0, .ref a0), (3, .int a.1)] [] n a.2) (K := fun b => b = res) ?_ _ _ _ h rfl
  intro a
  refine ⟨fun a2 hb hP => ?_, fun b hb hK => ?_⟩
  · exact tX0_shareOut_l59 ha0 hb (fun _ _ e => by cases e; exact hP) (fun _ e => by cases e)
  · subst hK
    exact tX0_shareOut_l59 ha0 hb (fun _ _ e => by cases e) (fun v0 e => hr v0 (Sum.inr.inj e))

def fX0_shareOut (a0 : Nat) (a1 : Nat) (a2 : Int32) (σ : Mm) : Option (Mm) :=
  (fX0_shareOut_w2 a0 a1 a2 0 σ).bind (fun o8 => (fun so8 => (gR so8 a0 3).bind fun r9 => (fX0_shareOut_w59 a0 ((nI (ln r9)) - 1) so8).bind (fun o20 => some o20)) o8)
set_option maxRecDepth 20000 in
set_option maxHeartbeats 2000000 in
theorem tX0_shareOut {X : XS} {n : Nat} {σ : Mm} {a0 : Nat} {a1 : Nat} {a2 : Int32} (ha0 : RT n a0 100) (ha1 : RT n a1 106) {res : Mm} (h : fX0_shareOut a0 a1 a2 σ = some res) : MT X yX0_shareOut mX0_shareOut 5 0 0 [.ref a0, .ref a1, .int a2] n σ (n, none, res) := by
  unfold fX0_shareOut at h
  refine MT_of (by decide +kernel) rfl (fun h => by cases h) (Nat.le_of_ble_eq_true rfl) ?_
  show J X mX0_shareOut 5 0 0 (n, none, res) 0 [(0, .ref a0), (1, .ref a1), (2, .int a2)] [] n σ
  refine J_iconst (x := 0) dX0_shareOut_0 (by decide) (q := 1) rfl ?_
  refine J_istore_n (lv' := [(3, .int 0), (0, .ref a0), (1, .ref a1), (2, .int a2)]) dX0_shareOut_1 rfl (by decide) rfl (q := 2) rfl ?_
  obtain ⟨o8, hlo8, h⟩ := bindS h
  refine J_pick [1, 2, 3, 0] rfl ?_
  refine tX0_shareOut_w2 ha0 ha1 hlo8 ?_
  · intro so8 qo8
    rw [qo8] at h
    try dsimp only [Sum.elim_inl, Sum.elim_inr] at h
    refine J_aload_n (z := 0) dX0_shareOut_51 rfl rfl (q := 52) rfl ?_
    obtain ⟨r9, er9, h⟩ := bindS h
    refine J_getR dX0_shareOut_52 lRX0_17 ha0 rfl (by decide) er9 (q := 55) rfl (fun fr9 => ?_)
    refine J_alen (t := 0) dX0_shareOut_55 fr9 (by decide) rfl (q := 56) rfl ?_
    refine J_iconst (x := 1) dX0_shareOut_56 (by decide) (q := 57) rfl ?_
    refine J_isub dX0_shareOut_57  (q := 58) rfl ?_
    refine J_istore_n (lv' := [(3, .int ((nI (ln r9)) - 1)), (0, .ref a0)]) dX0_shareOut_58 rfl (by decide) rfl (q := 59) rfl ?_
    obtain ⟨o20, hlo20, h⟩ := bindS h
    refine J_pick [1, 0] rfl ?_
    refine tX0_shareOut_w59 ha0 hlo20 ?_
    · intro so20 qo20
      rw [qo20] at h
      try dsimp only [Sum.elim_inl, Sum.elim_inr] at h
      have h := Option.some.inj h
      subst h
      rfl

