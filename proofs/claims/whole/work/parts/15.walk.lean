def fX9_page (a0 : Nat) (a1 : Int32) (a2 : Int32) (σ : Mm) : Option (Int32) :=
  (gR σ a0 1).bind fun r1 => (fX1_hasPage r1 a1 σ).bind fun vk2 => if vk2 = 0 then some (-1) else if a2 = 0 then (fX1_pageCell r1 a1 σ).bind fun vk4 => some vk4 else if a2 = 1 then (gR σ a0 7).bind fun r5 => (gR σ r5 0).bind fun r6 => if ixB a1 (ln r6) = true then some (gI σ r6 (Int32.toNatClampNeg a1)) else none else if a2 = 2 then (fX1_pageBook r1 a1 σ).bind fun vk8 => some vk8 else if a2 = 3 then (gR σ a0 7).bind fun r9 => (gR σ r9 1).bind fun r10 => if ixB a1 (ln r10) = true then some (gI σ r10 (Int32.toNatClampNeg a1)) else none else some (-1)
set_option maxRecDepth 20000 in
set_option maxHeartbeats 2000000 in
theorem tX9_page {X : XS} {n : Nat} {σ : Mm} {a0 : Nat} {a1 : Int32} {a2 : Int32} (ha0 : RT n a0 109) {res : Int32} (h : fX9_page a0 a1 a2 σ = some res) : MT X yX9_page mX9_page 3 0 0 [.ref a0, .int a1, .int a2] n σ (n, some (.int res), σ) := by
  unfold fX9_page at h
  refine MT_of (by decide +kernel) rfl (fun h => by cases h) (Nat.le_of_ble_eq_true rfl) ?_
  show J X mX9_page 3 0 0 (n, some (.int res), σ) 0 [(0, .ref a0), (1, .int a1), (2, .int a2)] [] n σ
  refine J_aload_n (z := 0) dX9_page_0 rfl rfl (q := 1) rfl ?_
  obtain ⟨r1, er1, h⟩ := bindS h
  refine J_getR dX9_page_1 lRX9_21 ha0 rfl (by decide) er1 (q := 4) rfl (fun fr1 => ?_)
  refine J_iload_n (z := 1) dX9_page_4 rfl rfl (q := 5) rfl ?_
  obtain ⟨vk2, hk2, h⟩ := bindS h
  refine J_cVi (as := [.int a1]) dX9_page_5 mRX9_169 fr1 (tX1_hasPage fr1 hk2) rfl (Nat.le_of_ble_eq_true rfl) (Nat.le_of_ble_eq_true rfl) (Nat.le_of_ble_eq_true rfl) (q := 8) rfl ?_
  intro bk2
  refine J_if_ne (tgt := 13) dX9_page_8 (by decide) (q := 11) rfl (fun c2 => ?_) (fun c2 => ?_)
  · rw [if_neg c2] at h
    refine J_iload_n (z := 2) dX9_page_13 rfl rfl (q := 14) rfl ?_
    refine J_table dX9_page_14 [(0, 44), (1, 53), (2, 63), (3, 72)] 82 (by decide) (by decide) (by decide) ?_ ?_
    · refine List.forall_mem_cons.mpr ⟨fun hx => ?_, List.forall_mem_cons.mpr ⟨fun hx => ?_, List.forall_mem_cons.mpr ⟨fun hx => ?_, List.forall_mem_cons.mpr ⟨fun hx => ?_, fun _ hh => absurd hh List.not_mem_nil⟩⟩⟩⟩
      · replace hx : a2 = 0 := hx
        rw [if_pos hx] at h
        refine J_aload_n (z := 0) dX9_page_44 rfl rfl (q := 45) rfl ?_
        refine J_getR dX9_page_45 lRX9_21 ha0 rfl (by decide) er1 (q := 48) rfl (fun _ => ?_)
        refine J_iload_n (z := 1) dX9_page_48 rfl rfl (q := 49) rfl ?_
        obtain ⟨vk4, hk4, h⟩ := bindS h
        refine J_cVi (as := [.int a1]) dX9_page_49 mRX9_172 fr1 (tX1_pageCell fr1 hk4) rfl (Nat.le_of_ble_eq_true rfl) (Nat.le_of_ble_eq_true rfl) (Nat.le_of_ble_eq_true rfl) (q := 52) rfl ?_
        intro bk4
        have h := Option.some.inj h
        subst h
        exact J_ireturn dX9_page_52 rfl rfl rfl
      · replace hx : a2 = 1 := hx
        rw [if_neg (by rw [hx]; decide), if_pos hx] at h
        refine J_aload_n (z := 0) dX9_page_53 rfl rfl (q := 54) rfl ?_
        obtain ⟨r5, er5, h⟩ := bindS h
        refine J_getR dX9_page_54 lRX9_63 ha0 rfl (by decide) er5 (q := 57) rfl (fun fr5 => ?_)
        obtain ⟨r6, er6, h⟩ := bindS h
        refine J_getR dX9_page_57 lRX9_175 fr5 rfl (by decide) er6 (q := 60) rfl (fun fr6 => ?_)
        refine J_iload_n (z := 1) dX9_page_60 rfl rfl (q := 61) rfl ?_
        obtain ⟨g7, h⟩ := iteS h
        refine J_iald dX9_page_61 fr6 (ixB_ok g7) (q := 62) rfl ?_
        have h := Option.some.inj h
        subst h
        exact J_ireturn dX9_page_62 rfl rfl rfl
      · replace hx : a2 = 2 := hx
        rw [if_neg (by rw [hx]; decide), if_neg (by rw [hx]; decide), if_pos hx] at h
        refine J_aload_n (z := 0) dX9_page_63 rfl rfl (q := 64) rfl ?_
        refine J_getR dX9_page_64 lRX9_21 ha0 rfl (by decide) er1 (q := 67) rfl (fun _ => ?_)
        refine J_iload_n (z := 1) dX9_page_67 rfl rfl (q := 68) rfl ?_
        obtain ⟨vk8, hk8, h⟩ := bindS h
        refine J_cVi (as := [.int a1]) dX9_page_68 mRX9_179 fr1 (tX1_pageBook fr1 hk8) rfl (Nat.le_of_ble_eq_true rfl) (Nat.le_of_ble_eq_true rfl) (Nat.le_of_ble_eq_true rfl) (q := 71) rfl ?_
        intro bk8
        have h := Option.some.inj h
        subst h
        exact J_ireturn dX9_page_71 rfl rfl rfl
      · replace hx : a2 = 3 := hx
        rw [if_neg (by rw [hx]; decide), if_neg (by rw [hx]; decide), if_neg (by rw [hx]; decide), if_pos hx] at h
        refine J_aload_n (z := 0) dX9_page_72 rfl rfl (q := 73) rfl ?_
        obtain ⟨r9, er9, h⟩ := bindS h
        refine J_getR dX9_page_73 lRX9_63 ha0 rfl (by decide) er9 (q := 76) rfl (fun fr9 => ?_)
        obtain ⟨r10, er10, h⟩ := bindS h
        refine J_getR dX9_page_76 lRX9_182 fr9 rfl (by decide) er10 (q := 79) rfl (fun fr10 => ?_)
        refine J_iload_n (z := 1) dX9_page_79 rfl rfl (q := 80) rfl ?_
        obtain ⟨g11, h⟩ := iteS h
        refine J_iald dX9_page_80 fr10 (ixB_ok g11) (q := 81) rfl ?_
        have h := Option.some.inj h
        subst h
        exact J_ireturn dX9_page_81 rfl rfl rfl
    · intro hx
      rw [if_neg (hx (0, 44) (by decide)), if_neg (hx (1, 53) (by decide)), if_neg (hx (2, 63) (by decide)), if_neg (hx (3, 72) (by decide))] at h
      refine J_iconst (x := (-1)) dX9_page_82 (by decide) (q := 83) rfl ?_
      have h := Option.some.inj h
      subst h
      exact J_ireturn dX9_page_83 rfl rfl rfl
  · rw [if_pos c2] at h
    refine J_iconst (x := (-1)) dX9_page_11 (by decide) (q := 12) rfl ?_
    have h := Option.some.inj h
    subst h
    exact J_ireturn dX9_page_12 rfl rfl rfl

def fX9_memory (a0 : Nat) (a1 : Int32) (a2 : Int32) (σ : Mm) : Option (Int32) :=
  (gR σ a0 1).bind fun r1 => (fX1_hasReader r1 a1 σ).bind fun vk2 => if vk2 = 0 then some (-1) else (fX1_hasPage r1 a2 σ).bind fun vk4 => if vk4 = 0 then some (-1) else (gR σ a0 7).bind fun r6 => (fX6_recall r6 a1 a2 σ).bind fun vk7 => some vk7
set_option maxRecDepth 20000 in
set_option maxHeartbeats 2000000 in
theorem tX9_memory {X : XS} {n : Nat} {σ : Mm} {a0 : Nat} {a1 : Int32} {a2 : Int32} (ha0 : RT n a0 109) {res : Int32} (h : fX9_memory a0 a1 a2 σ = some res) : MT X yX9_memory mX9_memory 3 0 0 [.ref a0, .int a1, .int a2] n σ (n, some (.int res), σ) := by
  unfold fX9_memory at h
  refine MT_of (by decide +kernel) rfl (fun h => by cases h) (Nat.le_of_ble_eq_true rfl) ?_
  show J X mX9_memory 3 0 0 (n, some (.int res), σ) 0 [(0, .ref a0), (1, .int a1), (2, .int a2)] [] n σ
  refine J_aload_n (z := 0) dX9_memory_0 rfl rfl (q := 1) rfl ?_
  obtain ⟨r1, er1, h⟩ := bindS h
  refine J_getR dX9_memory_1 lRX9_21 ha0 rfl (by decide) er1 (q := 4) rfl (fun fr1 => ?_)
  refine J_iload_n (z := 1) dX9_memory_4 rfl rfl (q := 5) rfl ?_
  obtain ⟨vk2, hk2, h⟩ := bindS h
  refine J_cVi (as := [.int a1]) dX9_memory_5 mRX9_185 fr1 (tX1_hasReader fr1 hk2) rfl (Nat.le_of_ble_eq_true rfl) (Nat.le_of_ble_eq_true rfl) (Nat.le_of_ble_eq_true rfl) (q := 8) rfl ?_
  intro bk2
  refine J_if_eq (tgt := 34) dX9_memory_8 (by decide) (q := 11) rfl (fun c2 => ?_) (fun c2 => ?_)
  · rw [if_pos c2] at h
    refine J_iconst (x := (-1)) dX9_memory_34 (by decide) (q := 35) rfl ?_
    have h := Option.some.inj h
    subst h
    exact J_ireturn dX9_memory_35 rfl rfl rfl
  · rw [if_neg c2] at h
    refine J_aload_n (z := 0) dX9_memory_11 rfl rfl (q := 12) rfl ?_
    refine J_getR dX9_memory_12 lRX9_21 ha0 rfl (by decide) er1 (q := 15) rfl (fun _ => ?_)
    refine J_iload_n (z := 2) dX9_memory_15 rfl rfl (q := 16) rfl ?_
    obtain ⟨vk4, hk4, h⟩ := bindS h
    refine J_cVi (as := [.int a2]) dX9_memory_16 mRX9_169 fr1 (tX1_hasPage fr1 hk4) rfl (Nat.le_of_ble_eq_true rfl) (Nat.le_of_ble_eq_true rfl) (Nat.le_of_ble_eq_true rfl) (q := 19) rfl ?_
    intro bk4
    refine J_if_eq (tgt := 34) dX9_memory_19 (by decide) (q := 22) rfl (fun c4 => ?_) (fun c4 => ?_)
    · rw [if_pos c4] at h
      refine J_iconst (x := (-1)) dX9_memory_34 (by decide) (q := 35) rfl ?_
      have h := Option.some.inj h
      subst h
      exact J_ireturn dX9_memory_35 rfl rfl rfl
    · rw [if_neg c4] at h
      refine J_aload_n (z := 0) dX9_memory_22 rfl rfl (q := 23) rfl ?_
      obtain ⟨r6, er6, h⟩ := bindS h
      refine J_getR dX9_memory_23 lRX9_63 ha0 rfl (by decide) er6 (q := 26) rfl (fun fr6 => ?_)
      refine J_iload_n (z := 1) dX9_memory_26 rfl rfl (q := 27) rfl ?_
      refine J_iload_n (z := 2) dX9_memory_27 rfl rfl (q := 28) rfl ?_
      obtain ⟨vk7, hk7, h⟩ := bindS h
      refine J_cVi (as := [.int a1, .int a2]) dX9_memory_28 mRX9_213 fr6 (tX6_recall fr6 hk7) rfl (Nat.le_of_ble_eq_true rfl) (Nat.le_of_ble_eq_true rfl) (Nat.le_of_ble_eq_true rfl) (q := 31) rfl ?_
      intro bk7
      refine J_goto (tgt := 35) dX9_memory_31 (by decide) ?_
      have h := Option.some.inj h
      subst h
      exact J_ireturn dX9_memory_35 rfl rfl rfl

def fX9_law_b47 (z0 : Nat) (z1 : Nat) (σ : Mm) : Option (Int32 × Mm) :=
  some (1, (sR σ z0 2 (some z1)))
set_option maxRecDepth 20000 in
set_option maxHeartbeats 2000000 in
theorem tX9_law_b47 {X : XS} {n : Nat} {σ : Mm} {z0 : Nat} {z1 : Nat} (hz0 : RT n z0 108) (hz1 : RT n z1 103) {res : Int32 × Mm} (h : fX9_law_b47 z0 z1 σ = some res) : J X mX9_law 1 0 0 (n, some (.int res.1), res.2) 47 [] [.ref z1, .ref z0] n σ := by
  unfold fX9_law_b47 at h
  refine J_putR dX9_law_47 lRX9_217 (Or.inl ⟨_, rfl⟩) (fun h => by cases h) hz0 rfl (by decide) hz1 (q := 50) rfl ?_
  refine J_iconst (x := 1) dX9_law_50 (by decide) (q := 51) rfl ?_
  have h := Option.some.inj h
  subst h
  exact J_ireturn dX9_law_51 rfl rfl rfl

def fX9_law_b47n (z0 : Nat) (σ : Mm) : Option (Int32 × Mm) :=
  some (1, (sR σ z0 2 none))
set_option maxRecDepth 20000 in
set_option maxHeartbeats 2000000 in
theorem tX9_law_b47n {X : XS} {n : Nat} {σ : Mm} {z0 : Nat} (hz0 : RT n z0 108) {res : Int32 × Mm} (h : fX9_law_b47n z0 σ = some res) : J X mX9_law 1 0 0 (n, some (.int res.1), res.2) 47 [] [.null, .ref z0] n σ := by
  unfold fX9_law_b47n at h
  refine J_putN dX9_law_47 lRX9_217 (Or.inl ⟨_, rfl⟩) (fun h => by cases h) hz0 rfl (by decide) (q := 50) rfl ?_
  refine J_iconst (x := 1) dX9_law_50 (by decide) (q := 51) rfl ?_
  have h := Option.some.inj h
  subst h
  exact J_ireturn dX9_law_51 rfl rfl rfl

def fX9_law (a0 : Nat) (a1 : Int32) (σ : Mm) : Option (Int32 × Mm) :=
  if a1 < (-1) then some (0, σ) else if (gI σ a0 14) ≤ a1 then some (0, σ) else (gR σ a0 5).bind fun r3 => if a1 < (nI (ln r3)) then (gR σ a0 3).bind fun r5 => if 0 ≤ a1 then if ixB a1 (ln r3) = true then (gR σ r3 (Int32.toNatClampNeg a1)).bind fun r8 => fX9_law_b47 r5 r8 (sI σ a0 16 a1) else none else fX9_law_b47n r5 (sI σ a0 16 a1) else some (0, σ)
set_option maxRecDepth 20000 in
set_option maxHeartbeats 2000000 in
theorem tX9_law {X : XS} {n : Nat} {σ : Mm} {a0 : Nat} {a1 : Int32} (ha0 : RT n a0 109) {res : Int32 × Mm} (h : fX9_law a0 a1 σ = some res) : MT X yX9_law mX9_law 1 0 0 [.ref a0, .int a1] n σ (n, some (.int res.1), res.2) := by
  unfold fX9_law at h
  refine MT_of (by decide +kernel) rfl (fun h => by cases h) (Nat.le_of_ble_eq_true rfl) ?_
  show J X mX9_law 1 0 0 (n, some (.int res.1), res.2) 0 [(0, .ref a0), (1, .int a1)] [] n σ
  refine J_iload_n (z := 1) dX9_law_0 rfl rfl (q := 1) rfl ?_
  refine J_iconst (x := (-1)) dX9_law_1 (by decide) (q := 2) rfl ?_
  refine J_icmp_lt (tgt := 22) dX9_law_2 (by decide) (q := 5) rfl (fun c0 => ?_) (fun c0 => ?_)
  · rw [if_pos c0] at h
    refine J_iconst (x := 0) dX9_law_22 (by decide) (q := 23) rfl ?_
    have h := Option.some.inj h
    subst h
    exact J_ireturn dX9_law_23 rfl rfl rfl
  · rw [if_neg c0] at h
    refine J_iload_n (z := 1) dX9_law_5 rfl rfl (q := 6) rfl ?_
    refine J_aload_n (z := 0) dX9_law_6 rfl rfl (q := 7) rfl ?_
    refine J_getI dX9_law_7 lRX9_116 ha0 rfl (q := 10) rfl ?_
    refine J_icmp_ge (tgt := 22) dX9_law_10 (by decide) (q := 13) rfl (fun c1 => ?_) (fun c1 => ?_)
    · rw [if_pos c1] at h
      refine J_iconst (x := 0) dX9_law_22 (by decide) (q := 23) rfl ?_
      have h := Option.some.inj h
      subst h
      exact J_ireturn dX9_law_23 rfl rfl rfl
    · rw [if_neg c1] at h
      refine J_iload_n (z := 1) dX9_law_13 rfl rfl (q := 14) rfl ?_
      refine J_aload_n (z := 0) dX9_law_14 rfl rfl (q := 15) rfl ?_
      obtain ⟨r3, er3, h⟩ := bindS h
      refine J_getR dX9_law_15 lRX9_48 ha0 rfl (by decide) er3 (q := 18) rfl (fun fr3 => ?_)
      refine J_alen (t := 3) dX9_law_18 fr3 (by decide) rfl (q := 19) rfl ?_
      refine J_icmp_lt (tgt := 24) dX9_law_19 (by decide) (q := 22) rfl (fun c3 => ?_) (fun c3 => ?_)
      · rw [if_pos c3] at h
        refine J_aload_n (z := 0) dX9_law_24 rfl rfl (q := 25) rfl ?_
        refine J_iload_n (z := 1) dX9_law_25 rfl rfl (q := 26) rfl ?_
        refine J_putI dX9_law_26 lRX9_90 (fun h => by cases h) ha0 rfl (q := 29) rfl ?_
        refine J_aload_n (z := 0) dX9_law_29 rfl rfl (q := 30) rfl ?_
        obtain ⟨r5, er5, h⟩ := bindS h
        refine J_getR dX9_law_30 lRX9_33 ha0 rfl (by decide) er5 (q := 33) rfl (fun fr5 => ?_)
        refine J_iload_n (z := 1) dX9_law_33 rfl rfl (q := 34) rfl ?_
        refine J_if_ge (tgt := 41) dX9_law_34 (by decide) (q := 37) rfl (fun c5 => ?_) (fun c5 => ?_)
        · rw [if_pos c5] at h
          refine J_aload_n (z := 0) dX9_law_41 rfl rfl (q := 42) rfl ?_
          refine J_getR dX9_law_42 lRX9_48 ha0 rfl (by decide) er3 (q := 45) rfl (fun _ => ?_)
          refine J_iload_n (z := 1) dX9_law_45 rfl rfl (q := 46) rfl ?_
          obtain ⟨g7, h⟩ := iteS h
          obtain ⟨r8, er8, h⟩ := bindS h
          refine J_aald (t := 3) dX9_law_46 fr3 (by decide) (ixB_ok g7) er8 (q := 47) rfl (fun fr8 => ?_)
          refine J_pick [] rfl ?_
          exact tX9_law_b47 fr5 fr8 h
        · rw [if_neg c5] at h
          refine J_null dX9_law_37 (q := 38) rfl ?_
          refine J_goto (tgt := 47) dX9_law_38 (by decide) ?_
          refine J_pick [] rfl ?_
          exact tX9_law_b47n fr5 h
      · rw [if_neg c3] at h
        refine J_iconst (x := 0) dX9_law_22 (by decide) (q := 23) rfl ?_
        have h := Option.some.inj h
        subst h
        exact J_ireturn dX9_law_23 rfl rfl rfl

def fX9_slips (a0 : Nat) (a1 : Int32) (σ : Mm) : Option (Int32 × Mm) :=
  if a1 < 0 then some (0, σ) else if 99 < a1 then some (0, σ) else if a1 = (gI σ a0 17) then some (0, σ) else some (1, (sI σ a0 17 a1))
set_option maxRecDepth 20000 in
set_option maxHeartbeats 2000000 in
theorem tX9_slips {X : XS} {n : Nat} {σ : Mm} {a0 : Nat} {a1 : Int32} (ha0 : RT n a0 109) {res : Int32 × Mm} (h : fX9_slips a0 a1 σ = some res) : MT X yX9_slips mX9_slips 1 0 0 [.ref a0, .int a1] n σ (n, some (.int res.1), res.2) := by
  unfold fX9_slips at h
  refine MT_of (by decide +kernel) rfl (fun h => by cases h) (Nat.le_of_ble_eq_true rfl) ?_
  show J X mX9_slips 1 0 0 (n, some (.int res.1), res.2) 0 [(0, .ref a0), (1, .int a1)] [] n σ
  refine J_iload_n (z := 1) dX9_slips_0 rfl rfl (q := 1) rfl ?_
  refine J_if_lt (tgt := 18) dX9_slips_1 (by decide) (q := 4) rfl (fun c0 => ?_) (fun c0 => ?_)
  · rw [if_pos c0] at h
    refine J_iconst (x := 0) dX9_slips_18 (by decide) (q := 19) rfl ?_
    have h := Option.some.inj h
    subst h
    exact J_ireturn dX9_slips_19 rfl rfl rfl
  · rw [if_neg c0] at h
    refine J_iload_n (z := 1) dX9_slips_4 rfl rfl (q := 5) rfl ?_
    refine J_bipush (x := 99) dX9_slips_5 (by decide) (q := 7) rfl ?_
    refine J_icmp_gt (tgt := 18) dX9_slips_7 (by decide) (q := 10) rfl (fun c1 => ?_) (fun c1 => ?_)
    · rw [if_pos c1] at h
      refine J_iconst (x := 0) dX9_slips_18 (by decide) (q := 19) rfl ?_
      have h := Option.some.inj h
      subst h
      exact J_ireturn dX9_slips_19 rfl rfl rfl
    · rw [if_neg c1] at h
      refine J_iload_n (z := 1) dX9_slips_10 rfl rfl (q := 11) rfl ?_
      refine J_aload_n (z := 0) dX9_slips_11 rfl rfl (q := 12) rfl ?_
      refine J_getI dX9_slips_12 lRX9_221 ha0 rfl (q := 15) rfl ?_
      refine J_icmp_ne (tgt := 20) dX9_slips_15 (by decide) (q := 18) rfl (fun c2 => ?_) (fun c2 => ?_)
      · rw [if_neg c2] at h
        refine J_aload_n (z := 0) dX9_slips_20 rfl rfl (q := 21) rfl ?_
        refine J_iload_n (z := 1) dX9_slips_21 rfl rfl (q := 22) rfl ?_
        refine J_putI dX9_slips_22 lRX9_221 (fun h => by cases h) ha0 rfl (q := 25) rfl ?_
        refine J_iconst (x := 1) dX9_slips_25 (by decide) (q := 26) rfl ?_
        have h := Option.some.inj h
        subst h
        exact J_ireturn dX9_slips_26 rfl rfl rfl
      · rw [if_pos c2] at h
        refine J_iconst (x := 0) dX9_slips_18 (by decide) (q := 19) rfl ?_
        have h := Option.some.inj h
        subst h
        exact J_ireturn dX9_slips_19 rfl rfl rfl

def fX9_isThere (a0 : Nat) (a1 : Int32) (σ : Mm) : Option (Int32) :=
  (gR σ a0 1).bind fun r1 => (fX1_hasPage r1 a1 σ).bind fun vk2 => if vk2 = 0 then some 0 else (gR σ a0 7).bind fun r4 => (gR σ r4 0).bind fun r5 => if ixB a1 (ln r5) = true then if (gI σ r5 (Int32.toNatClampNeg a1)) ≤ 0 then some 0 else some 1 else none
set_option maxRecDepth 20000 in
set_option maxHeartbeats 2000000 in
theorem tX9_isThere {X : XS} {n : Nat} {σ : Mm} {a0 : Nat} {a1 : Int32} (ha0 : RT n a0 109) {res : Int32} (h : fX9_isThere a0 a1 σ = some res) : MT X yX9_isThere mX9_isThere 2 0 0 [.ref a0, .int a1] n σ (n, some (.int res), σ) := by
  unfold fX9_isThere at h
  refine MT_of (by decide +kernel) rfl (fun h => by cases h) (Nat.le_of_ble_eq_true rfl) ?_
  show J X mX9_isThere 2 0 0 (n, some (.int res), σ) 0 [(0, .ref a0), (1, .int a1)] [] n σ
  refine J_aload_n (z := 0) dX9_isThere_0 rfl rfl (q := 1) rfl ?_
  obtain ⟨r1, er1, h⟩ := bindS h
  refine J_getR dX9_isThere_1 lRX9_21 ha0 rfl (by decide) er1 (q := 4) rfl (fun fr1 => ?_)
  refine J_iload_n (z := 1) dX9_isThere_4 rfl rfl (q := 5) rfl ?_
  obtain ⟨vk2, hk2, h⟩ := bindS h
  refine J_cVi (as := [.int a1]) dX9_isThere_5 mRX9_169 fr1 (tX1_hasPage fr1 hk2) rfl (Nat.le_of_ble_eq_true rfl) (Nat.le_of_ble_eq_true rfl) (Nat.le_of_ble_eq_true rfl) (q := 8) rfl ?_
  intro bk2
  refine J_if_eq (tgt := 27) dX9_isThere_8 (by decide) (q := 11) rfl (fun c2 => ?_) (fun c2 => ?_)
  · rw [if_pos c2] at h
    refine J_iconst (x := 0) dX9_isThere_27 (by decide) (q := 28) rfl ?_
    have h := Option.some.inj h
    subst h
    exact J_ireturn dX9_isThere_28 rfl rfl rfl
  · rw [if_neg c2] at h
    refine J_aload_n (z := 0) dX9_isThere_11 rfl rfl (q := 12) rfl ?_
    obtain ⟨r4, er4, h⟩ := bindS h
    refine J_getR dX9_isThere_12 lRX9_63 ha0 rfl (by decide) er4 (q := 15) rfl (fun fr4 => ?_)
    obtain ⟨r5, er5, h⟩ := bindS h
    refine J_getR dX9_isThere_15 lRX9_175 fr4 rfl (by decide) er5 (q := 18) rfl (fun fr5 => ?_)
    refine J_iload_n (z := 1) dX9_isThere_18 rfl rfl (q := 19) rfl ?_
    obtain ⟨g6, h⟩ := iteS h
    refine J_iald dX9_isThere_19 fr5 (ixB_ok g6) (q := 20) rfl ?_
    refine J_if_le (tgt := 27) dX9_isThere_20 (by decide) (q := 23) rfl (fun c6 => ?_) (fun c6 => ?_)
    · rw [if_pos c6] at h
      refine J_iconst (x := 0) dX9_isThere_27 (by decide) (q := 28) rfl ?_
      have h := Option.some.inj h
      subst h
      exact J_ireturn dX9_isThere_28 rfl rfl rfl
    · rw [if_neg c6] at h
      refine J_iconst (x := 1) dX9_isThere_23 (by decide) (q := 24) rfl ?_
      refine J_goto (tgt := 28) dX9_isThere_24 (by decide) ?_
      have h := Option.some.inj h
      subst h
      exact J_ireturn dX9_isThere_28 rfl rfl rfl

def fX9_melt (a0 : Nat) (a1 : Int32) (a2 : Int32) (a3 : Int32) (σ : Mm) : Option (Int32 × Mm) :=
  (gR σ a0 1).bind fun r1 => (fX1_hasReader r1 a1 σ).bind fun vk2 => if vk2 = 0 then some ((-1), σ) else (fX1_hasCell r1 a3 σ).bind fun vk4 => if vk4 = 0 then some ((-1), σ) else (fX9_isThere a0 a2 σ).bind fun vk6 => if vk6 = 0 then some ((-1), σ) else (gR σ a0 3).bind fun r8 => (gR σ a0 7).bind fun r9 => (fX8_othersIn r8 r9 a1 a3 σ).bind fun vk10 => bnd2 (fX8_meltBy r8 r9 a1 a2 a3 vk10 σ) fun vk11 sk11 => some (vk11, sk11)
set_option maxRecDepth 20000 in
set_option maxHeartbeats 2000000 in
theorem tX9_melt {X : XS} {n : Nat} {σ : Mm} {a0 : Nat} {a1 : Int32} {a2 : Int32} {a3 : Int32} (ha0 : RT n a0 109) {res : Int32 × Mm} (h : fX9_melt a0 a1 a2 a3 σ = some res) : MT X yX9_melt mX9_melt 4 0 0 [.ref a0, .int a1, .int a2, .int a3] n σ (n, some (.int res.1), res.2) := by
  unfold fX9_melt at h
  refine MT_of (by decide +kernel) rfl (fun h => by cases h) (Nat.le_of_ble_eq_true rfl) ?_
  show J X mX9_melt 4 0 0 (n, some (.int res.1), res.2) 0 [(0, .ref a0), (1, .int a1), (2, .int a2), (3, .int a3)] [] n σ
  refine J_aload_n (z := 0) dX9_melt_0 rfl rfl (q := 1) rfl ?_
  obtain ⟨r1, er1, h⟩ := bindS h
  refine J_getR dX9_melt_1 lRX9_21 ha0 rfl (by decide) er1 (q := 4) rfl (fun fr1 => ?_)
  refine J_iload_n (z := 1) dX9_melt_4 rfl rfl (q := 5) rfl ?_
  obtain ⟨vk2, hk2, h⟩ := bindS h
  refine J_cVi (as := [.int a1]) dX9_melt_5 mRX9_185 fr1 (tX1_hasReader fr1 hk2) rfl (Nat.le_of_ble_eq_true rfl) (Nat.le_of_ble_eq_true rfl) (Nat.le_of_ble_eq_true rfl) (q := 8) rfl ?_
  intro bk2
  refine J_if_eq (tgt := 30) dX9_melt_8 (by decide) (q := 11) rfl (fun c2 => ?_) (fun c2 => ?_)
  · rw [if_pos c2] at h
    refine J_iconst (x := (-1)) dX9_melt_30 (by decide) (q := 31) rfl ?_
    have h := Option.some.inj h
    subst h
    exact J_ireturn dX9_melt_31 rfl rfl rfl
  · rw [if_neg c2] at h
    refine J_aload_n (z := 0) dX9_melt_11 rfl rfl (q := 12) rfl ?_
    refine J_getR dX9_melt_12 lRX9_21 ha0 rfl (by decide) er1 (q := 15) rfl (fun _ => ?_)
    refine J_iload_n (z := 3) dX9_melt_15 rfl rfl (q := 16) rfl ?_
    obtain ⟨vk4, hk4, h⟩ := bindS h
    refine J_cVi (as := [.int a3]) dX9_melt_16 mRX9_224 fr1 (tX1_hasCell fr1 hk4) rfl (Nat.le_of_ble_eq_true rfl) (Nat.le_of_ble_eq_true rfl) (Nat.le_of_ble_eq_true rfl) (q := 19) rfl ?_
    intro bk4
    refine J_if_eq (tgt := 30) dX9_melt_19 (by decide) (q := 22) rfl (fun c4 => ?_) (fun c4 => ?_)
    · rw [if_pos c4] at h
      refine J_iconst (x := (-1)) dX9_melt_30 (by decide) (q := 31) rfl ?_
      have h := Option.some.inj h
      subst h
      exact J_ireturn dX9_melt_31 rfl rfl rfl
    · rw [if_neg c4] at h
      refine J_aload_n (z := 0) dX9_melt_22 rfl rfl (q := 23) rfl ?_
      refine J_iload_n (z := 2) dX9_melt_23 rfl rfl (q := 24) rfl ?_
      obtain ⟨vk6, hk6, h⟩ := bindS h
      refine J_cVi (as := [.int a2]) dX9_melt_24 mRX9_227 ha0 (tX9_isThere ha0 hk6) rfl (Nat.le_of_ble_eq_true rfl) (Nat.le_of_ble_eq_true rfl) (Nat.le_of_ble_eq_true rfl) (q := 27) rfl ?_
      intro bk6
      refine J_if_ne (tgt := 32) dX9_melt_27 (by decide) (q := 30) rfl (fun c6 => ?_) (fun c6 => ?_)
      · rw [if_neg c6] at h
        refine J_aload_n (z := 0) dX9_melt_32 rfl rfl (q := 33) rfl ?_
        obtain ⟨r8, er8, h⟩ := bindS h
        refine J_getR dX9_melt_33 lRX9_33 ha0 rfl (by decide) er8 (q := 36) rfl (fun fr8 => ?_)
        refine J_aload_n (z := 0) dX9_melt_36 rfl rfl (q := 37) rfl ?_
        obtain ⟨r9, er9, h⟩ := bindS h
        refine J_getR dX9_melt_37 lRX9_63 ha0 rfl (by decide) er9 (q := 40) rfl (fun fr9 => ?_)
        refine J_iload_n (z := 1) dX9_melt_40 rfl rfl (q := 41) rfl ?_
        refine J_iload_n (z := 2) dX9_melt_41 rfl rfl (q := 42) rfl ?_
        refine J_iload_n (z := 3) dX9_melt_42 rfl rfl (q := 43) rfl ?_
        refine J_aload_n (z := 0) dX9_melt_43 rfl rfl (q := 44) rfl ?_
        refine J_getR dX9_melt_44 lRX9_33 ha0 rfl (by decide) er8 (q := 47) rfl (fun _ => ?_)
        refine J_aload_n (z := 0) dX9_melt_47 rfl rfl (q := 48) rfl ?_
        refine J_getR dX9_melt_48 lRX9_63 ha0 rfl (by decide) er9 (q := 51) rfl (fun _ => ?_)
        refine J_iload_n (z := 1) dX9_melt_51 rfl rfl (q := 52) rfl ?_
        refine J_iload_n (z := 3) dX9_melt_52 rfl rfl (q := 53) rfl ?_
        obtain ⟨vk10, hk10, h⟩ := bindS h
        refine J_cVi (as := [.ref r9, .int a1, .int a3]) dX9_melt_53 mRX9_230 fr8 (tX8_othersIn fr8 fr9 hk10) rfl (Nat.le_of_ble_eq_true rfl) (Nat.le_of_ble_eq_true rfl) (Nat.le_of_ble_eq_true rfl) (q := 56) rfl ?_
        intro bk10
        obtain ⟨vk11, sk11, hk11, h⟩ := bnd2S h
        refine J_cVi (as := [.ref r9, .int a1, .int a2, .int a3, .int vk10]) dX9_melt_56 mRX9_234 fr8 (tX8_meltBy fr8 fr9 hk11) rfl (Nat.le_of_ble_eq_true rfl) (Nat.le_of_ble_eq_true rfl) (Nat.le_of_ble_eq_true rfl) (q := 59) rfl ?_
        intro bk11
        have h := Option.some.inj h
        subst h
        exact J_ireturn dX9_melt_59 rfl rfl rfl
      · rw [if_pos c6] at h
        refine J_iconst (x := (-1)) dX9_melt_30 (by decide) (q := 31) rfl ?_
        have h := Option.some.inj h
        subst h
        exact J_ireturn dX9_melt_31 rfl rfl rfl

def fX9_act (a0 : Nat) (a1 : Int32) (a2 : Int32) (a3 : Int32) (σ : Mm) : Option (Mm) :=
  (gR σ a0 9).bind fun r1 => (gR σ a0 7).bind fun r2 => (fX4_keep r1 r2 σ).bind fun sk3 => (gR sk3 a0 3).bind fun r4 => (gR sk3 a0 7).bind fun r5 => bnd2 (fX8_carryOut r4 r5 a1 a2 a3 sk3) fun vk6 sk6 => (gR sk6 a0 10).bind fun r7 => (fX2_add r7 a1 a2 a3 vk6 sk6).bind fun sk8 => some sk8
set_option maxRecDepth 20000 in
set_option maxHeartbeats 2000000 in
theorem tX9_act {X : XS} {n : Nat} {σ : Mm} {a0 : Nat} {a1 : Int32} {a2 : Int32} {a3 : Int32} (ha0 : RT n a0 109) {res : Mm} (h : fX9_act a0 a1 a2 a3 σ = some res) : MT X yX9_act mX9_act 6 0 0 [.ref a0, .int a1, .int a2, .int a3] n σ (n, none, res) := by
  unfold fX9_act at h
  refine MT_of (by decide +kernel) rfl (fun h => by cases h) (Nat.le_of_ble_eq_true rfl) ?_
  show J X mX9_act 6 0 0 (n, none, res) 0 [(0, .ref a0), (1, .int a1), (2, .int a2), (3, .int a3)] [] n σ
  refine J_aload_n (z := 0) dX9_act_0 rfl rfl (q := 1) rfl ?_
  obtain ⟨r1, er1, h⟩ := bindS h
  refine J_getR dX9_act_1 lRX9_73 ha0 rfl (by decide) er1 (q := 4) rfl (fun fr1 => ?_)
  refine J_aload_n (z := 0) dX9_act_4 rfl rfl (q := 5) rfl ?_
  obtain ⟨r2, er2, h⟩ := bindS h
  refine J_getR dX9_act_5 lRX9_63 ha0 rfl (by decide) er2 (q := 8) rfl (fun fr2 => ?_)
  obtain ⟨sk3, hk3, h⟩ := bindS h
  refine J_cVv (as := [.ref r2]) dX9_act_8 mRX9_238 fr1 (tX4_keep fr1 fr2 hk3) rfl (Nat.le_of_ble_eq_true rfl) (Nat.le_of_ble_eq_true rfl) (Nat.le_of_ble_eq_true rfl) (q := 11) rfl ?_
  refine J_aload_n (z := 0) dX9_act_11 rfl rfl (q := 12) rfl ?_
  obtain ⟨r4, er4, h⟩ := bindS h
  refine J_getR dX9_act_12 lRX9_33 ha0 rfl (by decide) er4 (q := 15) rfl (fun fr4 => ?_)
  refine J_aload_n (z := 0) dX9_act_15 rfl rfl (q := 16) rfl ?_
  obtain ⟨r5, er5, h⟩ := bindS h
  refine J_getR dX9_act_16 lRX9_63 ha0 rfl (by decide) er5 (q := 19) rfl (fun fr5 => ?_)
  refine J_iload_n (z := 1) dX9_act_19 rfl rfl (q := 20) rfl ?_
  refine J_iload_n (z := 2) dX9_act_20 rfl rfl (q := 21) rfl ?_
  refine J_iload_n (z := 3) dX9_act_21 rfl rfl (q := 22) rfl ?_
  obtain ⟨vk6, sk6, hk6, h⟩ := bnd2S h
  refine J_cVi (as := [.ref r5, .int a1, .int a2, .int a3]) dX9_act_22 mRX9_242 fr4 (tX8_carryOut fr4 fr5 hk6) rfl (Nat.le_of_ble_eq_true rfl) (Nat.le_of_ble_eq_true rfl) (Nat.le_of_ble_eq_true rfl) (q := 25) rfl ?_
  intro bk6
  refine J_istore (lv' := [(4, .int vk6), (0, .ref a0), (1, .int a1), (2, .int a2), (3, .int a3)]) dX9_act_25 (by decide) rfl (q := 27) rfl ?_
  refine J_aload_n (z := 1) dX9_act_27 rfl rfl (q := 28) rfl ?_
  obtain ⟨r7, er7, h⟩ := bindS h
  refine J_getR dX9_act_28 lRX9_80 ha0 rfl (by decide) er7 (q := 31) rfl (fun fr7 => ?_)
  refine J_iload_n (z := 2) dX9_act_31 rfl rfl (q := 32) rfl ?_
  refine J_iload_n (z := 3) dX9_act_32 rfl rfl (q := 33) rfl ?_
  refine J_iload_n (z := 4) dX9_act_33 rfl rfl (q := 34) rfl ?_
  refine J_iload (z := 0) dX9_act_34 rfl (q := 36) rfl ?_
  obtain ⟨sk8, hk8, h⟩ := bindS h
  refine J_cVv (as := [.int a1, .int a2, .int a3, .int vk6]) dX9_act_36 mRX9_246 fr7 (tX2_add fr7 hk8) rfl (Nat.le_of_ble_eq_true rfl) (Nat.le_of_ble_eq_true rfl) (Nat.le_of_ble_eq_true rfl) (q := 39) rfl ?_
  have h := Option.some.inj h
  subst h
  exact J_return dX9_act_39 rfl rfl

def fX9_read (a0 : Nat) (a1 : Int32) (a2 : Int32) (σ : Mm) : Option (Int32 × Mm) :=
  (gR σ a0 3).bind fun r1 => (gR σ a0 7).bind fun r2 => (fX8_may r1 r2 0 a1 a2 σ).bind fun vk3 => if vk3 = 0 then some ((-1), σ) else (gR σ a0 1).bind fun r5 => (fX1_hasPage r5 a2 σ).bind fun vk6 => if vk6 = 0 then some ((-1), σ) else (fX9_act a0 0 a1 a2 σ).bind fun sk8 => (gR sk8 a0 7).bind fun r9 => (gR sk8 r9 1).bind fun r10 => if ixB a2 (ln r10) = true then some ((gI sk8 r10 (Int32.toNatClampNeg a2)), sk8) else none
set_option maxRecDepth 20000 in
set_option maxHeartbeats 2000000 in
theorem tX9_read {X : XS} {n : Nat} {σ : Mm} {a0 : Nat} {a1 : Int32} {a2 : Int32} (ha0 : RT n a0 109) {res : Int32 × Mm} (h : fX9_read a0 a1 a2 σ = some res) : MT X yX9_read mX9_read 7 0 0 [.ref a0, .int a1, .int a2] n σ (n, some (.int res.1), res.2) := by
  unfold fX9_read at h
  refine MT_of (by decide +kernel) rfl (fun h => by cases h) (Nat.le_of_ble_eq_true rfl) ?_
  show J X mX9_read 7 0 0 (n, some (.int res.1), res.2) 0 [(0, .ref a0), (1, .int a1), (2, .int a2)] [] n σ
  refine J_aload_n (z := 0) dX9_read_0 rfl rfl (q := 1) rfl ?_
  obtain ⟨r1, er1, h⟩ := bindS h
  refine J_getR dX9_read_1 lRX9_33 ha0 rfl (by decide) er1 (q := 4) rfl (fun fr1 => ?_)
  refine J_aload_n (z := 0) dX9_read_4 rfl rfl (q := 5) rfl ?_
  obtain ⟨r2, er2, h⟩ := bindS h
  refine J_getR dX9_read_5 lRX9_63 ha0 rfl (by decide) er2 (q := 8) rfl (fun fr2 => ?_)
  refine J_iconst (x := 0) dX9_read_8 (by decide) (q := 9) rfl ?_
  refine J_iload_n (z := 1) dX9_read_9 rfl rfl (q := 10) rfl ?_
  refine J_iload_n (z := 2) dX9_read_10 rfl rfl (q := 11) rfl ?_
  obtain ⟨vk3, hk3, h⟩ := bindS h
  refine J_cVi (as := [.ref r2, .int 0, .int a1, .int a2]) dX9_read_11 mRX9_250 fr1 (tX8_may fr1 fr2 hk3) rfl (Nat.le_of_ble_eq_true rfl) (Nat.le_of_ble_eq_true rfl) (Nat.le_of_ble_eq_true rfl) (q := 14) rfl ?_
  intro bk3
  refine J_if_eq (tgt := 28) dX9_read_14 (by decide) (q := 17) rfl (fun c3 => ?_) (fun c3 => ?_)
  · rw [if_pos c3] at h
    refine J_iconst (x := (-1)) dX9_read_28 (by decide) (q := 29) rfl ?_
    have h := Option.some.inj h
    subst h
    exact J_ireturn dX9_read_29 rfl rfl rfl
  · rw [if_neg c3] at h
    refine J_aload_n (z := 0) dX9_read_17 rfl rfl (q := 18) rfl ?_
    obtain ⟨r5, er5, h⟩ := bindS h
    refine J_getR dX9_read_18 lRX9_21 ha0 rfl (by decide) er5 (q := 21) rfl (fun fr5 => ?_)
    refine J_iload_n (z := 2) dX9_read_21 rfl rfl (q := 22) rfl ?_
    obtain ⟨vk6, hk6, h⟩ := bindS h
    refine J_cVi (as := [.int a2]) dX9_read_22 mRX9_169 fr5 (tX1_hasPage fr5 hk6) rfl (Nat.le_of_ble_eq_true rfl) (Nat.le_of_ble_eq_true rfl) (Nat.le_of_ble_eq_true rfl) (q := 25) rfl ?_
    intro bk6
    refine J_if_ne (tgt := 30) dX9_read_25 (by decide) (q := 28) rfl (fun c6 => ?_) (fun c6 => ?_)
    · rw [if_neg c6] at h
      refine J_aload_n (z := 0) dX9_read_30 rfl rfl (q := 31) rfl ?_
      refine J_iconst (x := 0) dX9_read_31 (by decide) (q := 32) rfl ?_
      refine J_iload_n (z := 1) dX9_read_32 rfl rfl (q := 33) rfl ?_
      refine J_iload_n (z := 2) dX9_read_33 rfl rfl (q := 34) rfl ?_
      obtain ⟨sk8, hk8, h⟩ := bindS h
      refine J_cVv (as := [.int 0, .int a1, .int a2]) dX9_read_34 mRX9_254 ha0 (tX9_act ha0 hk8) rfl (Nat.le_of_ble_eq_true rfl) (Nat.le_of_ble_eq_true rfl) (Nat.le_of_ble_eq_true rfl) (q := 37) rfl ?_
      refine J_aload_n (z := 0) dX9_read_37 rfl rfl (q := 38) rfl ?_
      obtain ⟨r9, er9, h⟩ := bindS h
      refine J_getR dX9_read_38 lRX9_63 ha0 rfl (by decide) er9 (q := 41) rfl (fun fr9 => ?_)
      obtain ⟨r10, er10, h⟩ := bindS h
      refine J_getR dX9_read_41 lRX9_182 fr9 rfl (by decide) er10 (q := 44) rfl (fun fr10 => ?_)
      refine J_iload_n (z := 2) dX9_read_44 rfl rfl (q := 45) rfl ?_
      obtain ⟨g11, h⟩ := iteS h
      refine J_iald dX9_read_45 fr10 (ixB_ok g11) (q := 46) rfl ?_
      have h := Option.some.inj h
      subst h
      exact J_ireturn dX9_read_46 rfl rfl rfl
    · rw [if_pos c6] at h
      refine J_iconst (x := (-1)) dX9_read_28 (by decide) (q := 29) rfl ?_
      have h := Option.some.inj h
      subst h
      exact J_ireturn dX9_read_29 rfl rfl rfl

def fX9_recut (a0 : Nat) (a1 : Int32) (a2 : Int32) (σ : Mm) : Option (Int32 × Mm) :=
  (gR σ a0 3).bind fun r1 => (gR σ a0 7).bind fun r2 => (fX8_may r1 r2 1 a1 a2 σ).bind fun vk3 => if vk3 = 0 then some ((-1), σ) else (gR σ a0 1).bind fun r5 => (fX1_hasPage r5 a2 σ).bind fun vk6 => if vk6 = 0 then some ((-1), σ) else (fX9_act a0 1 a1 a2 σ).bind fun sk8 => (gR sk8 a0 7).bind fun r9 => (gR sk8 r9 1).bind fun r10 => if ixB a2 (ln r10) = true then some ((gI sk8 r10 (Int32.toNatClampNeg a2)), sk8) else none
set_option maxRecDepth 20000 in
set_option maxHeartbeats 2000000 in
theorem tX9_recut {X : XS} {n : Nat} {σ : Mm} {a0 : Nat} {a1 : Int32} {a2 : Int32} (ha0 : RT n a0 109) {res : Int32 × Mm} (h : fX9_recut a0 a1 a2 σ = some res) : MT X yX9_recut mX9_recut 7 0 0 [.ref a0, .int a1, .int a2] n σ (n, some (.int res.1), res.2) := by
  unfold fX9_recut at h
  refine MT_of (by decide +kernel) rfl (fun h => by cases h) (Nat.le_of_ble_eq_true rfl) ?_
  show J X mX9_recut 7 0 0 (n, some (.int res.1), res.2) 0 [(0, .ref a0), (1, .int a1), (2, .int a2)] [] n σ
  refine J_aload_n (z := 0) dX9_recut_0 rfl rfl (q := 1) rfl ?_
  obtain ⟨r1, er1, h⟩ := bindS h
  refine J_getR dX9_recut_1 lRX9_33 ha0 rfl (by decide) er1 (q := 4) rfl (fun fr1 => ?_)
  refine J_aload_n (z := 0) dX9_recut_4 rfl rfl (q := 5) rfl ?_
  obtain ⟨r2, er2, h⟩ := bindS h
  refine J_getR dX9_recut_5 lRX9_63 ha0 rfl (by decide) er2 (q := 8) rfl (fun fr2 => ?_)
  refine J_iconst (x := 1) dX9_recut_8 (by decide) (q := 9) rfl ?_
  refine J_iload_n (z := 1) dX9_recut_9 rfl rfl (q := 10) rfl ?_
  refine J_iload_n (z := 2) dX9_recut_10 rfl rfl (q := 11) rfl ?_
  obtain ⟨vk3, hk3, h⟩ := bindS h
  refine J_cVi (as := [.ref r2, .int 1, .int a1, .int a2]) dX9_recut_11 mRX9_250 fr1 (tX8_may fr1 fr2 hk3) rfl (Nat.le_of_ble_eq_true rfl) (Nat.le_of_ble_eq_true rfl) (Nat.le_of_ble_eq_true rfl) (q := 14) rfl ?_
  intro bk3
  refine J_if_eq (tgt := 28) dX9_recut_14 (by decide) (q := 17) rfl (fun c3 => ?_) (fun c3 => ?_)
  · rw [if_pos c3] at h
    refine J_iconst (x := (-1)) dX9_recut_28 (by decide) (q := 29) rfl ?_
    have h := Option.some.inj h
    subst h
    exact J_ireturn dX9_recut_29 rfl rfl rfl
  · rw [if_neg c3] at h
    refine J_aload_n (z := 0) dX9_recut_17 rfl rfl (q := 18) rfl ?_
    obtain ⟨r5, er5, h⟩ := bindS h
    refine J_getR dX9_recut_18 lRX9_21 ha0 rfl (by decide) er5 (q := 21) rfl (fun fr5 => ?_)
    refine J_iload_n (z := 2) dX9_recut_21 rfl rfl (q := 22) rfl ?_
    obtain ⟨vk6, hk6, h⟩ := bindS h
    refine J_cVi (as := [.int a2]) dX9_recut_22 mRX9_169 fr5 (tX1_hasPage fr5 hk6) rfl (Nat.le_of_ble_eq_true rfl) (Nat.le_of_ble_eq_true rfl) (Nat.le_of_ble_eq_true rfl) (q := 25) rfl ?_
    intro bk6
    refine J_if_ne (tgt := 30) dX9_recut_25 (by decide) (q := 28) rfl (fun c6 => ?_) (fun c6 => ?_)
    · rw [if_neg c6] at h
      refine J_aload_n (z := 0) dX9_recut_30 rfl rfl (q := 31) rfl ?_
      refine J_iconst (x := 1) dX9_recut_31 (by decide) (q := 32) rfl ?_
      refine J_iload_n (z := 1) dX9_recut_32 rfl rfl (q := 33) rfl ?_
      refine J_iload_n (z := 2) dX9_recut_33 rfl rfl (q := 34) rfl ?_
      obtain ⟨sk8, hk8, h⟩ := bindS h
      refine J_cVv (as := [.int 1, .int a1, .int a2]) dX9_recut_34 mRX9_254 ha0 (tX9_act ha0 hk8) rfl (Nat.le_of_ble_eq_true rfl) (Nat.le_of_ble_eq_true rfl) (Nat.le_of_ble_eq_true rfl) (q := 37) rfl ?_
      refine J_aload_n (z := 0) dX9_recut_37 rfl rfl (q := 38) rfl ?_
      obtain ⟨r9, er9, h⟩ := bindS h
      refine J_getR dX9_recut_38 lRX9_63 ha0 rfl (by decide) er9 (q := 41) rfl (fun fr9 => ?_)
      obtain ⟨r10, er10, h⟩ := bindS h
      refine J_getR dX9_recut_41 lRX9_182 fr9 rfl (by decide) er10 (q := 44) rfl (fun fr10 => ?_)
      refine J_iload_n (z := 2) dX9_recut_44 rfl rfl (q := 45) rfl ?_
      obtain ⟨g11, h⟩ := iteS h
      refine J_iald dX9_recut_45 fr10 (ixB_ok g11) (q := 46) rfl ?_
      have h := Option.some.inj h
      subst h
      exact J_ireturn dX9_recut_46 rfl rfl rfl
    · rw [if_pos c6] at h
      refine J_iconst (x := (-1)) dX9_recut_28 (by decide) (q := 29) rfl ?_
      have h := Option.some.inj h
      subst h
      exact J_ireturn dX9_recut_29 rfl rfl rfl

def fX9_go (a0 : Nat) (a1 : Int32) (a2 : Int32) (σ : Mm) : Option (Int32 × Mm) :=
  (gR σ a0 3).bind fun r1 => (gR σ a0 7).bind fun r2 => (fX8_may r1 r2 2 a1 a2 σ).bind fun vk3 => if vk3 = 0 then some ((-1), σ) else (gR σ a0 1).bind fun r5 => (fX1_hasReader r5 a1 σ).bind fun vk6 => if vk6 = 0 then some ((-1), σ) else (gR σ r2 2).bind fun r8 => if ixB a1 (ln r8) = true then (fX1_steps r5 (gI σ r8 (Int32.toNatClampNeg a1)) a2 σ).bind fun vk10 => (fX9_act a0 2 a1 a2 σ).bind fun sk11 => some (vk10, sk11) else none
set_option maxRecDepth 20000 in
set_option maxHeartbeats 2000000 in
theorem tX9_go {X : XS} {n : Nat} {σ : Mm} {a0 : Nat} {a1 : Int32} {a2 : Int32} (ha0 : RT n a0 109) {res : Int32 × Mm} (h : fX9_go a0 a1 a2 σ = some res) : MT X yX9_go mX9_go 7 0 0 [.ref a0, .int a1, .int a2] n σ (n, some (.int res.1), res.2) := by
  unfold fX9_go at h
  refine MT_of (by decide +kernel) rfl (fun h => by cases h) (Nat.le_of_ble_eq_true rfl) ?_
  show J X mX9_go 7 0 0 (n, some (.int res.1), res.2) 0 [(0, .ref a0), (1, .int a1), (2, .int a2)] [] n σ
  refine J_aload_n (z := 0) dX9_go_0 rfl rfl (q := 1) rfl ?_
  obtain ⟨r1, er1, h⟩ := bindS h
  refine J_getR dX9_go_1 lRX9_33 ha0 rfl (by decide) er1 (q := 4) rfl (fun fr1 => ?_)
  refine J_aload_n (z := 0) dX9_go_4 rfl rfl (q := 5) rfl ?_
  obtain ⟨r2, er2, h⟩ := bindS h
  refine J_getR dX9_go_5 lRX9_63 ha0 rfl (by decide) er2 (q := 8) rfl (fun fr2 => ?_)
  refine J_iconst (x := 2) dX9_go_8 (by decide) (q := 9) rfl ?_
  refine J_iload_n (z := 1) dX9_go_9 rfl rfl (q := 10) rfl ?_
  refine J_iload_n (z := 2) dX9_go_10 rfl rfl (q := 11) rfl ?_
  obtain ⟨vk3, hk3, h⟩ := bindS h
  refine J_cVi (as := [.ref r2, .int 2, .int a1, .int a2]) dX9_go_11 mRX9_250 fr1 (tX8_may fr1 fr2 hk3) rfl (Nat.le_of_ble_eq_true rfl) (Nat.le_of_ble_eq_true rfl) (Nat.le_of_ble_eq_true rfl) (q := 14) rfl ?_
  intro bk3
  refine J_if_eq (tgt := 28) dX9_go_14 (by decide) (q := 17) rfl (fun c3 => ?_) (fun c3 => ?_)
  · rw [if_pos c3] at h
    refine J_iconst (x := (-1)) dX9_go_28 (by decide) (q := 29) rfl ?_
    have h := Option.some.inj h
    subst h
    exact J_ireturn dX9_go_29 rfl rfl rfl
  · rw [if_neg c3] at h
    refine J_aload_n (z := 0) dX9_go_17 rfl rfl (q := 18) rfl ?_
    obtain ⟨r5, er5, h⟩ := bindS h
    refine J_getR dX9_go_18 lRX9_21 ha0 rfl (by decide) er5 (q := 21) rfl (fun fr5 => ?_)
    refine J_iload_n (z := 1) dX9_go_21 rfl rfl (q := 22) rfl ?_
    obtain ⟨vk6, hk6, h⟩ := bindS h
    refine J_cVi (as := [.int a1]) dX9_go_22 mRX9_185 fr5 (tX1_hasReader fr5 hk6) rfl (Nat.le_of_ble_eq_true rfl) (Nat.le_of_ble_eq_true rfl) (Nat.le_of_ble_eq_true rfl) (q := 25) rfl ?_
    intro bk6
    refine J_if_ne (tgt := 30) dX9_go_25 (by decide) (q := 28) rfl (fun c6 => ?_) (fun c6 => ?_)
    · rw [if_neg c6] at h
      refine J_aload_n (z := 0) dX9_go_30 rfl rfl (q := 31) rfl ?_
      refine J_getR dX9_go_31 lRX9_21 ha0 rfl (by decide) er5 (q := 34) rfl (fun _ => ?_)
      refine J_aload_n (z := 0) dX9_go_34 rfl rfl (q := 35) rfl ?_
      refine J_getR dX9_go_35 lRX9_63 ha0 rfl (by decide) er2 (q := 38) rfl (fun _ => ?_)
      obtain ⟨r8, er8, h⟩ := bindS h
      refine J_getR dX9_go_38 lRX9_195 fr2 rfl (by decide) er8 (q := 41) rfl (fun fr8 => ?_)
      refine J_iload_n (z := 1) dX9_go_41 rfl rfl (q := 42) rfl ?_
      obtain ⟨g9, h⟩ := iteS h
      refine J_iald dX9_go_42 fr8 (ixB_ok g9) (q := 43) rfl ?_
      refine J_iload_n (z := 2) dX9_go_43 rfl rfl (q := 44) rfl ?_
      obtain ⟨vk10, hk10, h⟩ := bindS h
      refine J_cVi (as := [.int (gI σ r8 (Int32.toNatClampNeg a1)), .int a2]) dX9_go_44 mRX9_258 fr5 (tX1_steps fr5 hk10) rfl (Nat.le_of_ble_eq_true rfl) (Nat.le_of_ble_eq_true rfl) (Nat.le_of_ble_eq_true rfl) (q := 47) rfl ?_
      intro bk10
      refine J_istore_n (lv' := [(3, .int vk10), (0, .ref a0), (1, .int a1), (2, .int a2)]) dX9_go_47 rfl (by decide) rfl (q := 48) rfl ?_
      refine J_aload_n (z := 1) dX9_go_48 rfl rfl (q := 49) rfl ?_
      refine J_iconst (x := 2) dX9_go_49 (by decide) (q := 50) rfl ?_
      refine J_iload_n (z := 2) dX9_go_50 rfl rfl (q := 51) rfl ?_
      refine J_iload_n (z := 3) dX9_go_51 rfl rfl (q := 52) rfl ?_
      obtain ⟨sk11, hk11, h⟩ := bindS h
      refine J_cVv (as := [.int 2, .int a1, .int a2]) dX9_go_52 mRX9_254 ha0 (tX9_act ha0 hk11) rfl (Nat.le_of_ble_eq_true rfl) (Nat.le_of_ble_eq_true rfl) (Nat.le_of_ble_eq_true rfl) (q := 55) rfl ?_
      refine J_iload_n (z := 0) dX9_go_55 rfl rfl (q := 56) rfl ?_
      have h := Option.some.inj h
      subst h
      exact J_ireturn dX9_go_56 rfl rfl rfl
    · rw [if_pos c6] at h
      refine J_iconst (x := (-1)) dX9_go_28 (by decide) (q := 29) rfl ?_
      have h := Option.some.inj h
      subst h
      exact J_ireturn dX9_go_29 rfl rfl rfl

def fX9_tell (a0 : Nat) (a1 : Int32) (a2 : Int32) (σ : Mm) : Option (Int32 × Mm) :=
  (gR σ a0 3).bind fun r1 => (gR σ a0 7).bind fun r2 => (fX8_may r1 r2 3 a1 a2 σ).bind fun vk3 => if vk3 = 0 then some ((-1), σ) else (fX6_pagesKnownBy r2 a1 σ).bind fun vk5 => (fX6_pagesKnownBy r2 a2 σ).bind fun vk6 => (fX9_act a0 3 a1 a2 σ).bind fun sk7 => (fJ6_bitCount_0f7a4 (vk5 &&& (vk6 ^^^ (-1))) sk7).bind fun vk8 => some (vk8, sk7)
set_option maxRecDepth 20000 in
set_option maxHeartbeats 2000000 in
theorem tX9_tell {X : XS} {n : Nat} {σ : Mm} {a0 : Nat} {a1 : Int32} {a2 : Int32} (ha0 : RT n a0 109) {res : Int32 × Mm} (h : fX9_tell a0 a1 a2 σ = some res) : MT X yX9_tell mX9_tell 7 0 0 [.ref a0, .int a1, .int a2] n σ (n, some (.int res.1), res.2) := by
  unfold fX9_tell at h
  refine MT_of (by decide +kernel) rfl (fun h => by cases h) (Nat.le_of_ble_eq_true rfl) ?_
  show J X mX9_tell 7 0 0 (n, some (.int res.1), res.2) 0 [(0, .ref a0), (1, .int a1), (2, .int a2)] [] n σ
  refine J_aload_n (z := 0) dX9_tell_0 rfl rfl (q := 1) rfl ?_
  obtain ⟨r1, er1, h⟩ := bindS h
  refine J_getR dX9_tell_1 lRX9_33 ha0 rfl (by decide) er1 (q := 4) rfl (fun fr1 => ?_)
  refine J_aload_n (z := 0) dX9_tell_4 rfl rfl (q := 5) rfl ?_
  obtain ⟨r2, er2, h⟩ := bindS h
  refine J_getR dX9_tell_5 lRX9_63 ha0 rfl (by decide) er2 (q := 8) rfl (fun fr2 => ?_)
  refine J_iconst (x := 3) dX9_tell_8 (by decide) (q := 9) rfl ?_
  refine J_iload_n (z := 1) dX9_tell_9 rfl rfl (q := 10) rfl ?_
  refine J_iload_n (z := 2) dX9_tell_10 rfl rfl (q := 11) rfl ?_
  obtain ⟨vk3, hk3, h⟩ := bindS h
  refine J_cVi (as := [.ref r2, .int 3, .int a1, .int a2]) dX9_tell_11 mRX9_250 fr1 (tX8_may fr1 fr2 hk3) rfl (Nat.le_of_ble_eq_true rfl) (Nat.le_of_ble_eq_true rfl) (Nat.le_of_ble_eq_true rfl) (q := 14) rfl ?_
  intro bk3
  refine J_if_ne (tgt := 19) dX9_tell_14 (by decide) (q := 17) rfl (fun c3 => ?_) (fun c3 => ?_)
  · rw [if_neg c3] at h
    refine J_aload_n (z := 0) dX9_tell_19 rfl rfl (q := 20) rfl ?_
    refine J_getR dX9_tell_20 lRX9_63 ha0 rfl (by decide) er2 (q := 23) rfl (fun _ => ?_)
    refine J_iload_n (z := 1) dX9_tell_23 rfl rfl (q := 24) rfl ?_
    obtain ⟨vk5, hk5, h⟩ := bindS h
    refine J_cVi (as := [.int a1]) dX9_tell_24 mRX9_210 fr2 (tX6_pagesKnownBy fr2 hk5) rfl (Nat.le_of_ble_eq_true rfl) (Nat.le_of_ble_eq_true rfl) (Nat.le_of_ble_eq_true rfl) (q := 27) rfl ?_
    intro bk5
    refine J_aload_n (z := 0) dX9_tell_27 rfl rfl (q := 28) rfl ?_
    refine J_getR dX9_tell_28 lRX9_63 ha0 rfl (by decide) er2 (q := 31) rfl (fun _ => ?_)
    refine J_iload_n (z := 2) dX9_tell_31 rfl rfl (q := 32) rfl ?_
    obtain ⟨vk6, hk6, h⟩ := bindS h
    refine J_cVi (as := [.int a2]) dX9_tell_32 mRX9_210 fr2 (tX6_pagesKnownBy fr2 hk6) rfl (Nat.le_of_ble_eq_true rfl) (Nat.le_of_ble_eq_true rfl) (Nat.le_of_ble_eq_true rfl) (q := 35) rfl ?_
    intro bk6
    refine J_iconst (x := (-1)) dX9_tell_35 (by decide) (q := 36) rfl ?_
    refine J_ixor dX9_tell_36  (q := 37) rfl ?_
    refine J_iand dX9_tell_37  (q := 38) rfl ?_
    refine J_istore_n (lv' := [(3, .int (vk5 &&& (vk6 ^^^ (-1)))), (0, .ref a0), (1, .int a1), (2, .int a2)]) dX9_tell_38 rfl (by decide) rfl (q := 39) rfl ?_
    refine J_aload_n (z := 1) dX9_tell_39 rfl rfl (q := 40) rfl ?_
    refine J_iconst (x := 3) dX9_tell_40 (by decide) (q := 41) rfl ?_
    refine J_iload_n (z := 2) dX9_tell_41 rfl rfl (q := 42) rfl ?_
    refine J_iload_n (z := 3) dX9_tell_42 rfl rfl (q := 43) rfl ?_
    obtain ⟨sk7, hk7, h⟩ := bindS h
    refine J_cVv (as := [.int 3, .int a1, .int a2]) dX9_tell_43 mRX9_254 ha0 (tX9_act ha0 hk7) rfl (Nat.le_of_ble_eq_true rfl) (Nat.le_of_ble_eq_true rfl) (Nat.le_of_ble_eq_true rfl) (q := 46) rfl ?_
    refine J_iload_n (z := 0) dX9_tell_46 rfl rfl (q := 47) rfl ?_
    obtain ⟨vk8, hk8, h⟩ := bindS h
    refine J_cSi (as := [.int (vk5 &&& (vk6 ^^^ (-1)))]) dX9_tell_47 mRX9_261 (tJ6_bitCount_0f7a4  hk8) rfl (Nat.le_of_ble_eq_true rfl) (Nat.le_of_ble_eq_true rfl) (Nat.le_of_ble_eq_true rfl) (q := 50) rfl ?_
    intro bk8
    have h := Option.some.inj h
    subst h
    exact J_ireturn dX9_tell_50 rfl rfl rfl
  · rw [if_pos c3] at h
    refine J_iconst (x := (-1)) dX9_tell_17 (by decide) (q := 18) rfl ?_
    have h := Option.some.inj h
    subst h
    exact J_ireturn dX9_tell_18 rfl rfl rfl

def fX9_night (a0 : Nat) (σ : Mm) : Option (Int32 × Mm) :=
  (gR σ a0 3).bind fun r1 => (gR σ a0 7).bind fun r2 => (fX8_may r1 r2 4 (-1) (-1) σ).bind fun vk3 => if vk3 = 0 then some ((-1), σ) else (fX9_act a0 4 (-1) (-1) σ).bind fun sk5 => (gR sk5 a0 7).bind fun r6 => some ((gI sk5 r6 6), sk5)
set_option maxRecDepth 20000 in
set_option maxHeartbeats 2000000 in
theorem tX9_night {X : XS} {n : Nat} {σ : Mm} {a0 : Nat} (ha0 : RT n a0 109) {res : Int32 × Mm} (h : fX9_night a0 σ = some res) : MT X yX9_night mX9_night 7 0 0 [.ref a0] n σ (n, some (.int res.1), res.2) := by
  unfold fX9_night at h
  refine MT_of (by decide +kernel) rfl (fun h => by cases h) (Nat.le_of_ble_eq_true rfl) ?_
  show J X mX9_night 7 0 0 (n, some (.int res.1), res.2) 0 [(0, .ref a0)] [] n σ
  refine J_aload_n (z := 0) dX9_night_0 rfl rfl (q := 1) rfl ?_
  obtain ⟨r1, er1, h⟩ := bindS h
  refine J_getR dX9_night_1 lRX9_33 ha0 rfl (by decide) er1 (q := 4) rfl (fun fr1 => ?_)
  refine J_aload_n (z := 0) dX9_night_4 rfl rfl (q := 5) rfl ?_
  obtain ⟨r2, er2, h⟩ := bindS h
  refine J_getR dX9_night_5 lRX9_63 ha0 rfl (by decide) er2 (q := 8) rfl (fun fr2 => ?_)
  refine J_iconst (x := 4) dX9_night_8 (by decide) (q := 9) rfl ?_
  refine J_iconst (x := (-1)) dX9_night_9 (by decide) (q := 10) rfl ?_
  refine J_iconst (x := (-1)) dX9_night_10 (by decide) (q := 11) rfl ?_
  obtain ⟨vk3, hk3, h⟩ := bindS h
  refine J_cVi (as := [.ref r2, .int 4, .int (-1), .int (-1)]) dX9_night_11 mRX9_250 fr1 (tX8_may fr1 fr2 hk3) rfl (Nat.le_of_ble_eq_true rfl) (Nat.le_of_ble_eq_true rfl) (Nat.le_of_ble_eq_true rfl) (q := 14) rfl ?_
  intro bk3
  refine J_if_ne (tgt := 19) dX9_night_14 (by decide) (q := 17) rfl (fun c3 => ?_) (fun c3 => ?_)
  · rw [if_neg c3] at h
    refine J_aload_n (z := 0) dX9_night_19 rfl rfl (q := 20) rfl ?_
    refine J_iconst (x := 4) dX9_night_20 (by decide) (q := 21) rfl ?_
    refine J_iconst (x := (-1)) dX9_night_21 (by decide) (q := 22) rfl ?_
    refine J_iconst (x := (-1)) dX9_night_22 (by decide) (q := 23) rfl ?_
    obtain ⟨sk5, hk5, h⟩ := bindS h
    refine J_cVv (as := [.int 4, .int (-1), .int (-1)]) dX9_night_23 mRX9_254 ha0 (tX9_act ha0 hk5) rfl (Nat.le_of_ble_eq_true rfl) (Nat.le_of_ble_eq_true rfl) (Nat.le_of_ble_eq_true rfl) (q := 26) rfl ?_
    refine J_aload_n (z := 0) dX9_night_26 rfl rfl (q := 27) rfl ?_
    obtain ⟨r6, er6, h⟩ := bindS h
    refine J_getR dX9_night_27 lRX9_63 ha0 rfl (by decide) er6 (q := 30) rfl (fun fr6 => ?_)
    refine J_getI dX9_night_30 lRX9_266 fr6 rfl (q := 33) rfl ?_
    have h := Option.some.inj h
    subst h
    exact J_ireturn dX9_night_33 rfl rfl rfl
  · rw [if_pos c3] at h
    refine J_iconst (x := (-1)) dX9_night_17 (by decide) (q := 18) rfl ?_
    have h := Option.some.inj h
    subst h
    exact J_ireturn dX9_night_18 rfl rfl rfl

def fX9_hare (a0 : Nat) (a1 : Int32) (σ : Mm) : Option (Int32 × Mm) :=
  (gR σ a0 3).bind fun r1 => (gR σ a0 7).bind fun r2 => (fX8_may r1 r2 5 (-1) a1 σ).bind fun vk3 => if vk3 = 0 then some ((-1), σ) else (fX9_act a0 5 (-1) a1 σ).bind fun sk5 => (gR sk5 a0 10).bind fun r6 => (fX2_entry r6 0 3 sk5).bind fun vk7 => some (vk7, sk5)
set_option maxRecDepth 20000 in
set_option maxHeartbeats 2000000 in
theorem tX9_hare {X : XS} {n : Nat} {σ : Mm} {a0 : Nat} {a1 : Int32} (ha0 : RT n a0 109) {res : Int32 × Mm} (h : fX9_hare a0 a1 σ = some res) : MT X yX9_hare mX9_hare 7 0 0 [.ref a0, .int a1] n σ (n, some (.int res.1), res.2) := by
  unfold fX9_hare at h
  refine MT_of (by decide +kernel) rfl (fun h => by cases h) (Nat.le_of_ble_eq_true rfl) ?_
  show J X mX9_hare 7 0 0 (n, some (.int res.1), res.2) 0 [(0, .ref a0), (1, .int a1)] [] n σ
  refine J_aload_n (z := 0) dX9_hare_0 rfl rfl (q := 1) rfl ?_
  obtain ⟨r1, er1, h⟩ := bindS h
  refine J_getR dX9_hare_1 lRX9_33 ha0 rfl (by decide) er1 (q := 4) rfl (fun fr1 => ?_)
  refine J_aload_n (z := 0) dX9_hare_4 rfl rfl (q := 5) rfl ?_
  obtain ⟨r2, er2, h⟩ := bindS h
  refine J_getR dX9_hare_5 lRX9_63 ha0 rfl (by decide) er2 (q := 8) rfl (fun fr2 => ?_)
  refine J_iconst (x := 5) dX9_hare_8 (by decide) (q := 9) rfl ?_
  refine J_iconst (x := (-1)) dX9_hare_9 (by decide) (q := 10) rfl ?_
  refine J_iload_n (z := 1) dX9_hare_10 rfl rfl (q := 11) rfl ?_
  obtain ⟨vk3, hk3, h⟩ := bindS h
  refine J_cVi (as := [.ref r2, .int 5, .int (-1), .int a1]) dX9_hare_11 mRX9_250 fr1 (tX8_may fr1 fr2 hk3) rfl (Nat.le_of_ble_eq_true rfl) (Nat.le_of_ble_eq_true rfl) (Nat.le_of_ble_eq_true rfl) (q := 14) rfl ?_
  intro bk3
  refine J_if_ne (tgt := 19) dX9_hare_14 (by decide) (q := 17) rfl (fun c3 => ?_) (fun c3 => ?_)
  · rw [if_neg c3] at h
    refine J_aload_n (z := 0) dX9_hare_19 rfl rfl (q := 20) rfl ?_
    refine J_iconst (x := 5) dX9_hare_20 (by decide) (q := 21) rfl ?_
    refine J_iconst (x := (-1)) dX9_hare_21 (by decide) (q := 22) rfl ?_
    refine J_iload_n (z := 1) dX9_hare_22 rfl rfl (q := 23) rfl ?_
    obtain ⟨sk5, hk5, h⟩ := bindS h
    refine J_cVv (as := [.int 5, .int (-1), .int a1]) dX9_hare_23 mRX9_254 ha0 (tX9_act ha0 hk5) rfl (Nat.le_of_ble_eq_true rfl) (Nat.le_of_ble_eq_true rfl) (Nat.le_of_ble_eq_true rfl) (q := 26) rfl ?_
    refine J_aload_n (z := 0) dX9_hare_26 rfl rfl (q := 27) rfl ?_
    obtain ⟨r6, er6, h⟩ := bindS h
    refine J_getR dX9_hare_27 lRX9_80 ha0 rfl (by decide) er6 (q := 30) rfl (fun fr6 => ?_)
    refine J_iconst (x := 0) dX9_hare_30 (by decide) (q := 31) rfl ?_
    refine J_iconst (x := 3) dX9_hare_31 (by decide) (q := 32) rfl ?_
    obtain ⟨vk7, hk7, h⟩ := bindS h
    refine J_cVi (as := [.int 0, .int 3]) dX9_hare_32 mRX9_269 fr6 (tX2_entry fr6 hk7) rfl (Nat.le_of_ble_eq_true rfl) (Nat.le_of_ble_eq_true rfl) (Nat.le_of_ble_eq_true rfl) (q := 35) rfl ?_
    intro bk7
    have h := Option.some.inj h
    subst h
    exact J_ireturn dX9_hare_35 rfl rfl rfl
  · rw [if_pos c3] at h
    refine J_iconst (x := (-1)) dX9_hare_17 (by decide) (q := 18) rfl ?_
    have h := Option.some.inj h
    subst h
    exact J_ireturn dX9_hare_18 rfl rfl rfl

def fX9_draw (a0 : Nat) (a1 : Int32) (σ : Mm) : Option (Int32 × Mm) :=
  if 1 ≤ a1 then if (Int32.toInt64 a1) = 0 then none else some ((Int64.toInt32 (remL (ushrL (gL (sL σ a0 18 (((gL σ a0 18) * 6364136223846793005) + 1442695040888963407)) a0 18) 33) (Int32.toInt64 a1))), (sL σ a0 18 (((gL σ a0 18) * 6364136223846793005) + 1442695040888963407))) else some (0, (sL σ a0 18 (((gL σ a0 18) * 6364136223846793005) + 1442695040888963407)))
set_option maxRecDepth 20000 in
set_option maxHeartbeats 2000000 in
theorem tX9_draw {X : XS} {n : Nat} {σ : Mm} {a0 : Nat} {a1 : Int32} (ha0 : RT n a0 109) {res : Int32 × Mm} (h : fX9_draw a0 a1 σ = some res) : MT X yX9_draw mX9_draw 1 0 0 [.ref a0, .int a1] n σ (n, some (.int res.1), res.2) := by
  unfold fX9_draw at h
  refine MT_of (by decide +kernel) rfl (fun h => by cases h) (Nat.le_of_ble_eq_true rfl) ?_
  show J X mX9_draw 1 0 0 (n, some (.int res.1), res.2) 0 [(0, .ref a0), (1, .int a1)] [] n σ
  refine J_aload_n (z := 0) dX9_draw_0 rfl rfl (q := 1) rfl ?_
  refine J_aload_n (z := 0) dX9_draw_1 rfl rfl (q := 2) rfl ?_
  refine J_getL dX9_draw_2 lRX9_272 ha0 rfl (q := 5) rfl ?_
  refine J_ldc2 (x := 6364136223846793005) dX9_draw_5 kRX9_289 (q := 8) rfl ?_
  refine J_lmul dX9_draw_8  (q := 9) rfl ?_
  refine J_ldc2 (x := 1442695040888963407) dX9_draw_9 kRX9_291 (q := 12) rfl ?_
  refine J_ladd dX9_draw_12  (q := 13) rfl ?_
  refine J_putL dX9_draw_13 lRX9_272 (fun h => by cases h) ha0 rfl (q := 16) rfl ?_
  refine J_iload_n (z := 1) dX9_draw_16 rfl rfl (q := 17) rfl ?_
  refine J_iconst (x := 1) dX9_draw_17 (by decide) (q := 18) rfl ?_
  refine J_icmp_ge (tgt := 25) dX9_draw_18 (by decide) (q := 21) rfl (fun c0 => ?_) (fun c0 => ?_)
  · rw [if_pos c0] at h
    refine J_aload_n (z := 0) dX9_draw_25 rfl rfl (q := 26) rfl ?_
    refine J_getL dX9_draw_26 lRX9_272 ha0 rfl (q := 29) rfl ?_
    refine J_bipush (x := 33) dX9_draw_29 (by decide) (q := 31) rfl ?_
    refine J_lushr dX9_draw_31  (q := 32) rfl ?_
    refine J_iload_n (z := 1) dX9_draw_32 rfl rfl (q := 33) rfl ?_
    refine J_i2l dX9_draw_33  (q := 34) rfl ?_
    obtain ⟨g2, h⟩ := iteN h
    refine J_lrem dX9_draw_34 g2 (q := 35) rfl ?_
    refine J_l2i dX9_draw_35  (q := 36) rfl ?_
    have h := Option.some.inj h
    subst h
    exact J_ireturn dX9_draw_36 rfl rfl rfl
  · rw [if_neg c0] at h
    refine J_iconst (x := 0) dX9_draw_21 (by decide) (q := 22) rfl ?_
    refine J_goto (tgt := 36) dX9_draw_22 (by decide) ?_
    have h := Option.some.inj h
    subst h
    exact J_ireturn dX9_draw_36 rfl rfl rfl

def fX9_tryPage (a0 : Nat) (a1 : Int32) (a2 : Int32) (σ : Mm) : Option (Mm) :=
  (gR σ a0 3).bind fun r1 => (gR σ a0 7).bind fun r2 => (fX8_may r1 r2 0 a1 a2 σ).bind fun vk3 => if vk3 = 0 then (fX9_isThere a0 a2 σ).bind fun vk5 => if vk5 = 0 then (fX8_may r1 r2 1 a1 a2 σ).bind fun vk7 => if vk7 = 0 then some σ else (fX9_act a0 1 a1 a2 σ).bind fun sk9 => bnd2 (fX9_draw a0 100 sk9) fun vk10 sk10 => if (gI sk10 a0 17) ≤ vk10 then some sk10 else (gR sk10 a0 7).bind fun r12 => (fX6_slip r12 a1 a2 sk10).bind fun sk13 => some sk13 else some σ else (fX9_act a0 0 a1 a2 σ).bind fun sk14 => some sk14
set_option maxRecDepth 20000 in
set_option maxHeartbeats 2000000 in
theorem tX9_tryPage {X : XS} {n : Nat} {σ : Mm} {a0 : Nat} {a1 : Int32} {a2 : Int32} (ha0 : RT n a0 109) {res : Mm} (h : fX9_tryPage a0 a1 a2 σ = some res) : MT X yX9_tryPage mX9_tryPage 7 0 0 [.ref a0, .int a1, .int a2] n σ (n, none, res) := by
  unfold fX9_tryPage at h
  refine MT_of (by decide +kernel) rfl (fun h => by cases h) (Nat.le_of_ble_eq_true rfl) ?_
  show J X mX9_tryPage 7 0 0 (n, none, res) 0 [(0, .ref a0), (1, .int a1), (2, .int a2)] [] n σ
  refine J_aload_n (z := 0) dX9_tryPage_0 rfl rfl (q := 1) rfl ?_
  obtain ⟨r1, er1, h⟩ := bindS h
  refine J_getR dX9_tryPage_1 lRX9_33 ha0 rfl (by decide) er1 (q := 4) rfl (fun fr1 => ?_)
  refine J_aload_n (z := 0) dX9_tryPage_4 rfl rfl (q := 5) rfl ?_
  obtain ⟨r2, er2, h⟩ := bindS h
  refine J_getR dX9_tryPage_5 lRX9_63 ha0 rfl (by decide) er2 (q := 8) rfl (fun fr2 => ?_)
  refine J_iconst (x := 0) dX9_tryPage_8 (by decide) (q := 9) rfl ?_
  refine J_iload_n (z := 1) dX9_tryPage_9 rfl rfl (q := 10) rfl ?_
  refine J_iload_n (z := 2) dX9_tryPage_10 rfl rfl (q := 11) rfl ?_
  obtain ⟨vk3, hk3, h⟩ := bindS h
  refine J_cVi (as := [.ref r2, .int 0, .int a1, .int a2]) dX9_tryPage_11 mRX9_250 fr1 (tX8_may fr1 fr2 hk3) rfl (Nat.le_of_ble_eq_true rfl) (Nat.le_of_ble_eq_true rfl) (Nat.le_of_ble_eq_true rfl) (q := 14) rfl ?_
  intro bk3
  refine J_if_eq (tgt := 27) dX9_tryPage_14 (by decide) (q := 17) rfl (fun c3 => ?_) (fun c3 => ?_)
  · rw [if_pos c3] at h
    refine J_aload_n (z := 0) dX9_tryPage_27 rfl rfl (q := 28) rfl ?_
    refine J_iload_n (z := 2) dX9_tryPage_28 rfl rfl (q := 29) rfl ?_
    obtain ⟨vk5, hk5, h⟩ := bindS h
    refine J_cVi (as := [.int a2]) dX9_tryPage_29 mRX9_227 ha0 (tX9_isThere ha0 hk5) rfl (Nat.le_of_ble_eq_true rfl) (Nat.le_of_ble_eq_true rfl) (Nat.le_of_ble_eq_true rfl) (q := 32) rfl ?_
    intro bk5
    refine J_if_ne (tgt := 81) dX9_tryPage_32 (by decide) (q := 35) rfl (fun c5 => ?_) (fun c5 => ?_)
    · rw [if_neg c5] at h
      have h := Option.some.inj h
      subst h
      exact J_return dX9_tryPage_81 rfl rfl
    · rw [if_pos c5] at h
      refine J_aload_n (z := 0) dX9_tryPage_35 rfl rfl (q := 36) rfl ?_
      refine J_getR dX9_tryPage_36 lRX9_33 ha0 rfl (by decide) er1 (q := 39) rfl (fun _ => ?_)
      refine J_aload_n (z := 0) dX9_tryPage_39 rfl rfl (q := 40) rfl ?_
      refine J_getR dX9_tryPage_40 lRX9_63 ha0 rfl (by decide) er2 (q := 43) rfl (fun _ => ?_)
      refine J_iconst (x := 1) dX9_tryPage_43 (by decide) (q := 44) rfl ?_
      refine J_iload_n (z := 1) dX9_tryPage_44 rfl rfl (q := 45) rfl ?_
      refine J_iload_n (z := 2) dX9_tryPage_45 rfl rfl (q := 46) rfl ?_
      obtain ⟨vk7, hk7, h⟩ := bindS h
      refine J_cVi (as := [.ref r2, .int 1, .int a1, .int a2]) dX9_tryPage_46 mRX9_250 fr1 (tX8_may fr1 fr2 hk7) rfl (Nat.le_of_ble_eq_true rfl) (Nat.le_of_ble_eq_true rfl) (Nat.le_of_ble_eq_true rfl) (q := 49) rfl ?_
      intro bk7
      refine J_if_eq (tgt := 81) dX9_tryPage_49 (by decide) (q := 52) rfl (fun c7 => ?_) (fun c7 => ?_)
      · rw [if_pos c7] at h
        have h := Option.some.inj h
        subst h
        exact J_return dX9_tryPage_81 rfl rfl
      · rw [if_neg c7] at h
        refine J_aload_n (z := 0) dX9_tryPage_52 rfl rfl (q := 53) rfl ?_
        refine J_iconst (x := 1) dX9_tryPage_53 (by decide) (q := 54) rfl ?_
        refine J_iload_n (z := 1) dX9_tryPage_54 rfl rfl (q := 55) rfl ?_
        refine J_iload_n (z := 2) dX9_tryPage_55 rfl rfl (q := 56) rfl ?_
        obtain ⟨sk9, hk9, h⟩ := bindS h
        refine J_cVv (as := [.int 1, .int a1, .int a2]) dX9_tryPage_56 mRX9_254 ha0 (tX9_act ha0 hk9) rfl (Nat.le_of_ble_eq_true rfl) (Nat.le_of_ble_eq_true rfl) (Nat.le_of_ble_eq_true rfl) (q := 59) rfl ?_
        refine J_aload_n (z := 0) dX9_tryPage_59 rfl rfl (q := 60) rfl ?_
        refine J_bipush (x := 100) dX9_tryPage_60 (by decide) (q := 62) rfl ?_
        obtain ⟨vk10, sk10, hk10, h⟩ := bnd2S h
        refine J_cVi (as := [.int 100]) dX9_tryPage_62 mRX9_279 ha0 (tX9_draw ha0 hk10) rfl (Nat.le_of_ble_eq_true rfl) (Nat.le_of_ble_eq_true rfl) (Nat.le_of_ble_eq_true rfl) (q := 65) rfl ?_
        intro bk10
        refine J_aload_n (z := 0) dX9_tryPage_65 rfl rfl (q := 66) rfl ?_
        refine J_getI dX9_tryPage_66 lRX9_221 ha0 rfl (q := 69) rfl ?_
        refine J_icmp_ge (tgt := 81) dX9_tryPage_69 (by decide) (q := 72) rfl (fun c10 => ?_) (fun c10 => ?_)
        · rw [if_pos c10] at h
          have h := Option.some.inj h
          subst h
          exact J_return dX9_tryPage_81 rfl rfl
        · rw [if_neg c10] at h
          refine J_aload_n (z := 0) dX9_tryPage_72 rfl rfl (q := 73) rfl ?_
          obtain ⟨r12, er12, h⟩ := bindS h
          refine J_getR dX9_tryPage_73 lRX9_63 ha0 rfl (by decide) er12 (q := 76) rfl (fun fr12 => ?_)
          refine J_iload_n (z := 1) dX9_tryPage_76 rfl rfl (q := 77) rfl ?_
          refine J_iload_n (z := 2) dX9_tryPage_77 rfl rfl (q := 78) rfl ?_
          obtain ⟨sk13, hk13, h⟩ := bindS h
          refine J_cVv (as := [.int a1, .int a2]) dX9_tryPage_78 mRX9_286 fr12 (tX6_slip fr12 hk13) rfl (Nat.le_of_ble_eq_true rfl) (Nat.le_of_ble_eq_true rfl) (Nat.le_of_ble_eq_true rfl) (q := 81) rfl ?_
          have h := Option.some.inj h
          subst h
          exact J_return dX9_tryPage_81 rfl rfl
  · rw [if_neg c3] at h
    refine J_aload_n (z := 0) dX9_tryPage_17 rfl rfl (q := 18) rfl ?_
    refine J_iconst (x := 0) dX9_tryPage_18 (by decide) (q := 19) rfl ?_
    refine J_iload_n (z := 1) dX9_tryPage_19 rfl rfl (q := 20) rfl ?_
    refine J_iload_n (z := 2) dX9_tryPage_20 rfl rfl (q := 21) rfl ?_
    obtain ⟨sk14, hk14, h⟩ := bindS h
    refine J_cVv (as := [.int 0, .int a1, .int a2]) dX9_tryPage_21 mRX9_254 ha0 (tX9_act ha0 hk14) rfl (Nat.le_of_ble_eq_true rfl) (Nat.le_of_ble_eq_true rfl) (Nat.le_of_ble_eq_true rfl) (q := 24) rfl ?_
    refine J_goto (tgt := 81) dX9_tryPage_24 (by decide) ?_
    have h := Option.some.inj h
    subst h
    exact J_return dX9_tryPage_81 rfl rfl

def fX9_centuries_b81 (a0 : Nat) (a1 : Int32) (a4 : Int32) (a5 : Int32) (σ : Mm) : Option ((Int32 × Mm) ⊕ (Mm)) :=
  some (Sum.inl ((a5 + 1), σ))
set_option maxRecDepth 20000 in
set_option maxHeartbeats 2000000 in
theorem tX9_centuries_b81 {X : XS} {n : Nat} {σ : Mm} {F : Nat × Option Value × Mm} {a0 : Nat} {a1 : Int32} {a4 : Int32} {a5 : Int32} (ha0 : RT n a0 109) {res : (Int32 × Mm) ⊕ (Mm)} (h : fX9_centuries_b81 a0 a1 a4 a5 σ = some res) (hc : ∀ (b5 : Int32) (s : Mm), res = .inl (b5, s) → J X mX9_centuries 8 0 0 F 40 [(0, .ref a0), (1, .int a1), (4, .int a4), (5, .int b5)] [] n s) (he0 : ∀  (s : Mm), res = .inr s → J X mX9_centuries 8 0 0 F 87 [(0, .ref a0), (1, .int a1), (4, .int a4)] [] n s) : J X mX9_centuries 8 0 0 F 81 [(0, .ref a0), (1, .int a1), (4, .int a4), (5, .int a5)] [] n σ := by
  unfold fX9_centuries_b81 at h
  refine J_iinc (z := 3) (y := (a5 + 1)) (lv' := [(5, .int (a5 + 1)), (0, .ref a0), (1, .int a1), (4, .int a4)]) dX9_centuries_81 rfl rfl (by decide) rfl (q := 84) rfl ?_
  refine J_goto (tgt := 40) dX9_centuries_84 (by decide) ?_
  have h := Option.some.inj h
  refine J_pick [1, 2, 3, 0] rfl ?_
  exact hc _ _ h.symm

def fX9_centuries_l40 (a0 : Nat) (a1 : Int32) (a4 : Int32) (a5 : Int32) (σ : Mm) : Option ((Int32 × Mm) ⊕ (Mm)) :=
  (gR σ a0 1).bind fun r7 => if (gI σ r7 5) ≤ a5 then some (Sum.inr σ) else (gR σ a0 7).bind fun r9 => (fX6_hasDone r9 a5 σ).bind fun vk10 => if vk10 = 0 then bnd2 (fX9_draw a0 (gI σ r7 4) σ) fun vk12 sk12 => (fX9_tryPage a0 a5 vk12 sk12).bind fun sk13 => fX9_centuries_b81 a0 a1 a4 a5 sk13 else fX9_centuries_b81 a0 a1 a4 a5 σ
set_option maxRecDepth 20000 in
set_option maxHeartbeats 2000000 in
theorem tX9_centuries_l40 {X : XS} {n : Nat} {σ : Mm} {F : Nat × Option Value × Mm} {a0 : Nat} {a1 : Int32} {a4 : Int32} {a5 : Int32} (ha0 : RT n a0 109) {res : (Int32 × Mm) ⊕ (Mm)} (h : fX9_centuries_l40 a0 a1 a4 a5 σ = some res) (hc : ∀ (b5 : Int32) (s : Mm), res = .inl (b5, s) → J X mX9_centuries 8 0 0 F 40 [(0, .ref a0), (1, .int a1), (4, .int a4), (5, .int b5)] [] n s) (he0 : ∀  (s : Mm), res = .inr s → J X mX9_centuries 8 0 0 F 87 [(0, .ref a0), (1, .int a1), (4, .int a4)] [] n s) : J X mX9_centuries 8 0 0 F 40 [(0, .ref a0), (1, .int a1), (4, .int a4), (5, .int a5)] [] n σ := by
  unfold fX9_centuries_l40 at h
  refine J_iload (z := 3) dX9_centuries_40 rfl (q := 42) rfl ?_
  refine J_aload_n (z := 0) dX9_centuries_42 rfl rfl (q := 43) rfl ?_
  obtain ⟨r7, er7, h⟩ := bindS h
  refine J_getR dX9_centuries_43 lRX9_21 ha0 rfl (by decide) er7 (q := 46) rfl (fun fr7 => ?_)
  refine J_getI dX9_centuries_46 lRX9_276 fr7 rfl (q := 49) rfl ?_
  refine J_icmp_ge (tgt := 87) dX9_centuries_49 (by decide) (q := 52) rfl (fun c7 => ?_) (fun c7 => ?_)
  · rw [if_pos c7] at h
    have h := Option.some.inj h
    refine J_pick [0, 1, 2] rfl ?_
    exact he0 _ h.symm
  · rw [if_neg c7] at h
    refine J_aload_n (z := 0) dX9_centuries_52 rfl rfl (q := 53) rfl ?_
    obtain ⟨r9, er9, h⟩ := bindS h
    refine J_getR dX9_centuries_53 lRX9_63 ha0 rfl (by decide) er9 (q := 56) rfl (fun fr9 => ?_)
    refine J_iload (z := 3) dX9_centuries_56 rfl (q := 58) rfl ?_
    obtain ⟨vk10, hk10, h⟩ := bindS h
    refine J_cVi (as := [.int a5]) dX9_centuries_58 mRX9_207 fr9 (tX6_hasDone fr9 hk10) rfl (Nat.le_of_ble_eq_true rfl) (Nat.le_of_ble_eq_true rfl) (Nat.le_of_ble_eq_true rfl) (q := 61) rfl ?_
    intro bk10
    refine J_if_ne (tgt := 81) dX9_centuries_61 (by decide) (q := 64) rfl (fun c10 => ?_) (fun c10 => ?_)
    · rw [if_neg c10] at h
      refine J_pick [0, 1, 2, 3] rfl ?_
      exact tX9_centuries_b81 ha0 h hc he0
    · rw [if_pos c10] at h
      refine J_aload_n (z := 0) dX9_centuries_64 rfl rfl (q := 65) rfl ?_
      refine J_iload (z := 3) dX9_centuries_65 rfl (q := 67) rfl ?_
      refine J_aload_n (z := 0) dX9_centuries_67 rfl rfl (q := 68) rfl ?_
      refine J_aload_n (z := 0) dX9_centuries_68 rfl rfl (q := 69) rfl ?_
      refine J_getR dX9_centuries_69 lRX9_21 ha0 rfl (by decide) er7 (q := 72) rfl (fun _ => ?_)
      refine J_getI dX9_centuries_72 lRX9_148 fr7 rfl (q := 75) rfl ?_
      obtain ⟨vk12, sk12, hk12, h⟩ := bnd2S h
      refine J_cVi (as := [.int (gI σ r7 4)]) dX9_centuries_75 mRX9_279 ha0 (tX9_draw ha0 hk12) rfl (Nat.le_of_ble_eq_true rfl) (Nat.le_of_ble_eq_true rfl) (Nat.le_of_ble_eq_true rfl) (q := 78) rfl ?_
      intro bk12
      obtain ⟨sk13, hk13, h⟩ := bindS h
      refine J_cVv (as := [.int a5, .int vk12]) dX9_centuries_78 mRX9_282 ha0 (tX9_tryPage ha0 hk13) rfl (Nat.le_of_ble_eq_true rfl) (Nat.le_of_ble_eq_true rfl) (Nat.le_of_ble_eq_true rfl) (q := 81) rfl ?_
      refine J_pick [0, 1, 2, 3] rfl ?_
      exact tX9_centuries_b81 ha0 h hc he0

def fX9_centuries_w40 (a0 : Nat) (a1 : Int32) (a4 : Int32) (a5 : Int32) (σ : Mm) : Option (Mm) :=
  wh (fun a : Int32 × Mm => fX9_centuries_l40 a0 a1 a4 a.1 a.2) BIG (a5, σ)
set_option maxRecDepth 20000 in
set_option maxHeartbeats 2000000 in
theorem tX9_centuries_w40 {X : XS} {n : Nat} {σ : Mm} {F : Nat × Option Value × Mm} {a0 : Nat} {a1 : Int32} {a4 : Int32} {a5 : Int32} (ha0 : RT n a0 109) {res : Mm} (h : fX9_centuries_w40 a0 a1 a4 a5 σ = some res) (he0 : ∀  (s : Mm), res = s → J X mX9_centuries 8 0 0 F 87 [(0, .ref a0), (1, .int a1), (4, .int a4)] [] n s) : J X mX9_centuries 8 0 0 F 40 [(0, .ref a0), (1, .int a1), (4, .int a4), (5, .int a5)] [] n σ := by
  unfold fX9_centuries_w40 at h
  refine wh_rule (P := fun a : Int32 × Mm => J X mX9_centuries 8 0 0 F 40 [(0, .ref a0), (1, .int a1), (4, .int a4), (5, .int a.1)] [] n a.2) (K := fun b => b = res) ?_ _ _ _ h rfl
  intro a
  refine ⟨fun a2 hb hP => ?_, fun b hb hK => ?_⟩
  · exact tX9_centuries_l40 ha0 hb (fun _ _ e => by cases e; exact hP) (fun _ e => by cases e)
  · subst hK
    exact tX9_centuries_l40 ha0 hb (fun _ _ e => by cases e) (fun v0 e => he0 v0 (Sum.inr.inj e))

def fX9_centuries_l31 (a0 : Nat) (a1 : Int32) (a4 : Int32) (σ : Mm) : Option ((Int32 × Mm) ⊕ (Mm)) :=
  if a1 ≤ a4 then some (Sum.inr σ) else (fX9_centuries_w40 a0 a1 a4 0 σ).bind (fun o14 => (fun so14 => (fX9_act a0 4 (-1) (-1) so14).bind fun sk15 => some (Sum.inl ((a4 + 1), sk15))) o14)
set_option maxRecDepth 20000 in
set_option maxHeartbeats 2000000 in
theorem tX9_centuries_l31 {X : XS} {n : Nat} {σ : Mm} {F : Nat × Option Value × Mm} {a0 : Nat} {a1 : Int32} {a4 : Int32} (ha0 : RT n a0 109) {res : (Int32 × Mm) ⊕ (Mm)} (h : fX9_centuries_l31 a0 a1 a4 σ = some res) (hc : ∀ (b4 : Int32) (s : Mm), res = .inl (b4, s) → J X mX9_centuries 8 0 0 F 31 [(0, .ref a0), (1, .int a1), (4, .int b4)] [] n s) (he0 : ∀  (s : Mm), res = .inr s → J X mX9_centuries 8 0 0 F 100 [(0, .ref a0)] [] n s) : J X mX9_centuries 8 0 0 F 31 [(0, .ref a0), (1, .int a1), (4, .int a4)] [] n σ := by
  unfold fX9_centuries_l31 at h
  refine J_iload (z := 2) dX9_centuries_31 rfl (q := 33) rfl ?_
  refine J_iload_n (z := 1) dX9_centuries_33 rfl rfl (q := 34) rfl ?_
  refine J_icmp_ge (tgt := 100) dX9_centuries_34 (by decide) (q := 37) rfl (fun c5 => ?_) (fun c5 => ?_)
  · rw [if_pos c5] at h
    have h := Option.some.inj h
    refine J_pick [0] rfl ?_
    exact he0 _ h.symm
  · rw [if_neg c5] at h
    refine J_iconst (x := 0) dX9_centuries_37 (by decide) (q := 38) rfl ?_
    refine J_istore (lv' := [(5, .int 0), (0, .ref a0), (1, .int a1), (4, .int a4)]) dX9_centuries_38 (by decide) rfl (q := 40) rfl ?_
    obtain ⟨o14, hlo14, h⟩ := bindS h
    refine J_pick [1, 2, 3, 0] rfl ?_
    refine tX9_centuries_w40 ha0 hlo14 ?_
    · intro so14 qo14
      rw [qo14] at h
      try dsimp only [Sum.elim_inl, Sum.elim_inr] at h
      refine J_aload_n (z := 0) dX9_centuries_87 rfl rfl (q := 88) rfl ?_
      refine J_iconst (x := 4) dX9_centuries_88 (by decide) (q := 89) rfl ?_
      refine J_iconst (x := (-1)) dX9_centuries_89 (by decide) (q := 90) rfl ?_
      refine J_iconst (x := (-1)) dX9_centuries_90 (by decide) (q := 91) rfl ?_
      obtain ⟨sk15, hk15, h⟩ := bindS h
      refine J_cVv (as := [.int 4, .int (-1), .int (-1)]) dX9_centuries_91 mRX9_254 ha0 (tX9_act ha0 hk15) rfl (Nat.le_of_ble_eq_true rfl) (Nat.le_of_ble_eq_true rfl) (Nat.le_of_ble_eq_true rfl) (q := 94) rfl ?_
      refine J_iinc (z := 2) (y := (a4 + 1)) (lv' := [(4, .int (a4 + 1)), (0, .ref a0), (1, .int a1)]) dX9_centuries_94 rfl rfl (by decide) rfl (q := 97) rfl ?_
      refine J_goto (tgt := 31) dX9_centuries_97 (by decide) ?_
      have h := Option.some.inj h
      refine J_pick [1, 2, 0] rfl ?_
      exact hc _ _ h.symm

def fX9_centuries_w31 (a0 : Nat) (a1 : Int32) (a4 : Int32) (σ : Mm) : Option (Mm) :=
  wh (fun a : Int32 × Mm => fX9_centuries_l31 a0 a1 a.1 a.2) BIG (a4, σ)
set_option maxRecDepth 20000 in
set_option maxHeartbeats 2000000 in
theorem tX9_centuries_w31 {X : XS} {n : Nat} {σ : Mm} {F : Nat × Option Value × Mm} {a0 : Nat} {a1 : Int32} {a4 : Int32} (ha0 : RT n a0 109) {res : Mm} (h : fX9_centuries_w31 a0 a1 a4 σ = some res) (he0 : ∀  (s : Mm), res = s → J X mX9_centuries 8 0 0 F 100 [(0, .ref a0)] [] n s) : J X mX9_centuries 8 0 0 F 31 [(0, .ref a0), (1, .int a1), (4, .int a4)] [] n σ := by
  unfold fX9_centuries_w31 at h
  refine wh_rule (P := fun a : Int32 × Mm => J X mX9_centuries 8 0 0 F 31 [(0, .ref a0), (1, .int a1), (4, .int a.1)] [] n a.2) (K := fun b => b = res) ?_ _ _ _ h rfl
  intro a
  refine ⟨fun a2 hb hP => ?_, fun b hb hK => ?_⟩
  · exact tX9_centuries_l31 ha0 hb (fun _ _ e => by cases e; exact hP) (fun _ e => by cases e)
  · subst hK
    exact tX9_centuries_l31 ha0 hb (fun _ _ e => by cases e) (fun v0 e => he0 v0 (Sum.inr.inj e))

def fX9_centuries (a0 : Nat) (a1 : Int32) (a2 : Int64) (σ : Mm) : Option (Int32 × Mm) :=
  (gR σ a0 1).bind fun r1 => (fX1_isOpen r1 σ).bind fun vk2 => if vk2 = 0 then some ((-1), σ) else if a1 < 1 then some ((-1), σ) else if a1 ≤ 60 then (fX9_centuries_w31 a0 a1 0 (sL σ a0 18 a2)).bind (fun o16 => (fun so16 => (gR so16 a0 7).bind fun r17 => some ((gI so16 r17 6), so16)) o16) else some ((-1), σ)
set_option maxRecDepth 20000 in
set_option maxHeartbeats 2000000 in
theorem tX9_centuries {X : XS} {n : Nat} {σ : Mm} {a0 : Nat} {a1 : Int32} {a2 : Int64} (ha0 : RT n a0 109) {res : Int32 × Mm} (h : fX9_centuries a0 a1 a2 σ = some res) : MT X yX9_centuries mX9_centuries 8 0 0 [.ref a0, .int a1, .long a2] n σ (n, some (.int res.1), res.2) := by
  unfold fX9_centuries at h
  refine MT_of (by decide +kernel) rfl (fun h => by cases h) (Nat.le_of_ble_eq_true rfl) ?_
  show J X mX9_centuries 8 0 0 (n, some (.int res.1), res.2) 0 [(0, .ref a0), (1, .int a1), (2, .long a2)] [] n σ
  refine J_aload_n (z := 0) dX9_centuries_0 rfl rfl (q := 1) rfl ?_
  obtain ⟨r1, er1, h⟩ := bindS h
  refine J_getR dX9_centuries_1 lRX9_21 ha0 rfl (by decide) er1 (q := 4) rfl (fun fr1 => ?_)
  obtain ⟨vk2, hk2, h⟩ := bindS h
  refine J_cVi (as := []) dX9_centuries_4 mRX9_151 fr1 (tX1_isOpen fr1 hk2) rfl (Nat.le_of_ble_eq_true rfl) (Nat.le_of_ble_eq_true rfl) (Nat.le_of_ble_eq_true rfl) (q := 7) rfl ?_
  intro bk2
  refine J_if_eq (tgt := 21) dX9_centuries_7 (by decide) (q := 10) rfl (fun c2 => ?_) (fun c2 => ?_)
  · rw [if_pos c2] at h
    refine J_iconst (x := (-1)) dX9_centuries_21 (by decide) (q := 22) rfl ?_
    have h := Option.some.inj h
    subst h
    exact J_ireturn dX9_centuries_22 rfl rfl rfl
  · rw [if_neg c2] at h
    refine J_iload_n (z := 1) dX9_centuries_10 rfl rfl (q := 11) rfl ?_
    refine J_iconst (x := 1) dX9_centuries_11 (by decide) (q := 12) rfl ?_
    refine J_icmp_lt (tgt := 21) dX9_centuries_12 (by decide) (q := 15) rfl (fun c3 => ?_) (fun c3 => ?_)
    · rw [if_pos c3] at h
      refine J_iconst (x := (-1)) dX9_centuries_21 (by decide) (q := 22) rfl ?_
      have h := Option.some.inj h
      subst h
      exact J_ireturn dX9_centuries_22 rfl rfl rfl
    · rw [if_neg c3] at h
      refine J_iload_n (z := 1) dX9_centuries_15 rfl rfl (q := 16) rfl ?_
      refine J_bipush (x := 60) dX9_centuries_16 (by decide) (q := 18) rfl ?_
      refine J_icmp_le (tgt := 23) dX9_centuries_18 (by decide) (q := 21) rfl (fun c4 => ?_) (fun c4 => ?_)
      · rw [if_pos c4] at h
        refine J_aload_n (z := 0) dX9_centuries_23 rfl rfl (q := 24) rfl ?_
        refine J_lload_n (z := 2) dX9_centuries_24 rfl rfl (q := 25) rfl ?_
        refine J_putL dX9_centuries_25 lRX9_272 (fun h => by cases h) ha0 rfl (q := 28) rfl ?_
        refine J_iconst (x := 0) dX9_centuries_28 (by decide) (q := 29) rfl ?_
        refine J_istore (lv' := [(4, .int 0), (0, .ref a0), (1, .int a1), (2, .long a2)]) dX9_centuries_29 (by decide) rfl (q := 31) rfl ?_
        obtain ⟨o16, hlo16, h⟩ := bindS h
        refine J_pick [1, 2, 0] rfl ?_
        refine tX9_centuries_w31 ha0 hlo16 ?_
        · intro so16 qo16
          rw [qo16] at h
          try dsimp only [Sum.elim_inl, Sum.elim_inr] at h
          refine J_aload_n (z := 0) dX9_centuries_100 rfl rfl (q := 101) rfl ?_
          obtain ⟨r17, er17, h⟩ := bindS h
          refine J_getR dX9_centuries_101 lRX9_63 ha0 rfl (by decide) er17 (q := 104) rfl (fun fr17 => ?_)
          refine J_getI dX9_centuries_104 lRX9_266 fr17 rfl (q := 107) rfl ?_
          have h := Option.some.inj h
          subst h
          exact J_ireturn dX9_centuries_107 rfl rfl rfl
      · rw [if_neg c4] at h
        refine J_iconst (x := (-1)) dX9_centuries_21 (by decide) (q := 22) rfl ?_
        have h := Option.some.inj h
        subst h
        exact J_ireturn dX9_centuries_22 rfl rfl rfl

def fX9_undo (a0 : Nat) (σ : Mm) : Option (Int32 × Mm) :=
  (gR σ a0 9).bind fun r1 => (gR σ a0 7).bind fun r2 => bnd2 (fX4_giveBack r1 r2 σ) fun vk3 sk3 => if vk3 = 0 then some ((-1), sk3) else (gR sk3 a0 10).bind fun r5 => (fX2_dropLatest r5 sk3).bind fun sk6 => (gR sk6 a0 9).bind fun r7 => some ((gI sk6 r7 1), sk6)
set_option maxRecDepth 20000 in
set_option maxHeartbeats 2000000 in
theorem tX9_undo {X : XS} {n : Nat} {σ : Mm} {a0 : Nat} (ha0 : RT n a0 109) {res : Int32 × Mm} (h : fX9_undo a0 σ = some res) : MT X yX9_undo mX9_undo 3 0 0 [.ref a0] n σ (n, some (.int res.1), res.2) := by
  unfold fX9_undo at h
  refine MT_of (by decide +kernel) rfl (fun h => by cases h) (Nat.le_of_ble_eq_true rfl) ?_
  show J X mX9_undo 3 0 0 (n, some (.int res.1), res.2) 0 [(0, .ref a0)] [] n σ
  refine J_aload_n (z := 0) dX9_undo_0 rfl rfl (q := 1) rfl ?_
  obtain ⟨r1, er1, h⟩ := bindS h
  refine J_getR dX9_undo_1 lRX9_73 ha0 rfl (by decide) er1 (q := 4) rfl (fun fr1 => ?_)
  refine J_aload_n (z := 0) dX9_undo_4 rfl rfl (q := 5) rfl ?_
  obtain ⟨r2, er2, h⟩ := bindS h
  refine J_getR dX9_undo_5 lRX9_63 ha0 rfl (by decide) er2 (q := 8) rfl (fun fr2 => ?_)
  obtain ⟨vk3, sk3, hk3, h⟩ := bnd2S h
  refine J_cVi (as := [.ref r2]) dX9_undo_8 mRX9_293 fr1 (tX4_giveBack fr1 fr2 hk3) rfl (Nat.le_of_ble_eq_true rfl) (Nat.le_of_ble_eq_true rfl) (Nat.le_of_ble_eq_true rfl) (q := 11) rfl ?_
  intro bk3
  refine J_if_ne (tgt := 16) dX9_undo_11 (by decide) (q := 14) rfl (fun c3 => ?_) (fun c3 => ?_)
  · rw [if_neg c3] at h
    refine J_aload_n (z := 0) dX9_undo_16 rfl rfl (q := 17) rfl ?_
    obtain ⟨r5, er5, h⟩ := bindS h
    refine J_getR dX9_undo_17 lRX9_80 ha0 rfl (by decide) er5 (q := 20) rfl (fun fr5 => ?_)
    obtain ⟨sk6, hk6, h⟩ := bindS h
    refine J_cVv (as := []) dX9_undo_20 mRX9_297 fr5 (tX2_dropLatest fr5 hk6) rfl (Nat.le_of_ble_eq_true rfl) (Nat.le_of_ble_eq_true rfl) (Nat.le_of_ble_eq_true rfl) (q := 23) rfl ?_
    refine J_aload_n (z := 0) dX9_undo_23 rfl rfl (q := 24) rfl ?_
    obtain ⟨r7, er7, h⟩ := bindS h
    refine J_getR dX9_undo_24 lRX9_73 ha0 rfl (by decide) er7 (q := 27) rfl (fun fr7 => ?_)
    refine J_getI dX9_undo_27 lRX9_300 fr7 rfl (q := 30) rfl ?_
    have h := Option.some.inj h
    subst h
    exact J_ireturn dX9_undo_30 rfl rfl rfl
  · rw [if_pos c3] at h
    refine J_iconst (x := (-1)) dX9_undo_14 (by decide) (q := 15) rfl ?_
    have h := Option.some.inj h
    subst h
    exact J_ireturn dX9_undo_15 rfl rfl rfl

def fX9_log (a0 : Nat) (a1 : Int32) (a2 : Int32) (σ : Mm) : Option (Int32) :=
  (gR σ a0 10).bind fun r1 => (fX2_entry r1 a1 a2 σ).bind fun vk2 => some vk2
set_option maxRecDepth 20000 in
set_option maxHeartbeats 2000000 in
theorem tX9_log {X : XS} {n : Nat} {σ : Mm} {a0 : Nat} {a1 : Int32} {a2 : Int32} (ha0 : RT n a0 109) {res : Int32} (h : fX9_log a0 a1 a2 σ = some res) : MT X yX9_log mX9_log 3 0 0 [.ref a0, .int a1, .int a2] n σ (n, some (.int res), σ) := by
  unfold fX9_log at h
  refine MT_of (by decide +kernel) rfl (fun h => by cases h) (Nat.le_of_ble_eq_true rfl) ?_
  show J X mX9_log 3 0 0 (n, some (.int res), σ) 0 [(0, .ref a0), (1, .int a1), (2, .int a2)] [] n σ
  refine J_aload_n (z := 0) dX9_log_0 rfl rfl (q := 1) rfl ?_
  obtain ⟨r1, er1, h⟩ := bindS h
  refine J_getR dX9_log_1 lRX9_80 ha0 rfl (by decide) er1 (q := 4) rfl (fun fr1 => ?_)
  refine J_iload_n (z := 1) dX9_log_4 rfl rfl (q := 5) rfl ?_
  refine J_iload_n (z := 2) dX9_log_5 rfl rfl (q := 6) rfl ?_
  obtain ⟨vk2, hk2, h⟩ := bindS h
  refine J_cVi (as := [.int a1, .int a2]) dX9_log_6 mRX9_269 fr1 (tX2_entry fr1 hk2) rfl (Nat.le_of_ble_eq_true rfl) (Nat.le_of_ble_eq_true rfl) (Nat.le_of_ble_eq_true rfl) (q := 9) rfl ?_
  intro bk2
  have h := Option.some.inj h
  subst h
  exact J_ireturn dX9_log_9 rfl rfl rfl

def fX9_hasPlan (a0 : Nat) (a1 : Int32) (σ : Mm) : Option (Int32) :=
  if a1 < 0 then some 0 else if (gI σ a0 15) ≤ a1 then some 0 else (gR σ a0 6).bind fun r3 => if (nI (ln r3)) ≤ a1 then some 0 else some 1
set_option maxRecDepth 20000 in
set_option maxHeartbeats 2000000 in
theorem tX9_hasPlan {X : XS} {n : Nat} {σ : Mm} {a0 : Nat} {a1 : Int32} (ha0 : RT n a0 109) {res : Int32} (h : fX9_hasPlan a0 a1 σ = some res) : MT X yX9_hasPlan mX9_hasPlan 1 0 0 [.ref a0, .int a1] n σ (n, some (.int res), σ) := by
  unfold fX9_hasPlan at h
  refine MT_of (by decide +kernel) rfl (fun h => by cases h) (Nat.le_of_ble_eq_true rfl) ?_
  show J X mX9_hasPlan 1 0 0 (n, some (.int res), σ) 0 [(0, .ref a0), (1, .int a1)] [] n σ
  refine J_iload_n (z := 1) dX9_hasPlan_0 rfl rfl (q := 1) rfl ?_
  refine J_if_lt (tgt := 25) dX9_hasPlan_1 (by decide) (q := 4) rfl (fun c0 => ?_) (fun c0 => ?_)
  · rw [if_pos c0] at h
    refine J_iconst (x := 0) dX9_hasPlan_25 (by decide) (q := 26) rfl ?_
    have h := Option.some.inj h
    subst h
    exact J_ireturn dX9_hasPlan_26 rfl rfl rfl
  · rw [if_neg c0] at h
    refine J_iload_n (z := 1) dX9_hasPlan_4 rfl rfl (q := 5) rfl ?_
    refine J_aload_n (z := 0) dX9_hasPlan_5 rfl rfl (q := 6) rfl ?_
    refine J_getI dX9_hasPlan_6 lRX9_122 ha0 rfl (q := 9) rfl ?_
    refine J_icmp_ge (tgt := 25) dX9_hasPlan_9 (by decide) (q := 12) rfl (fun c1 => ?_) (fun c1 => ?_)
    · rw [if_pos c1] at h
      refine J_iconst (x := 0) dX9_hasPlan_25 (by decide) (q := 26) rfl ?_
      have h := Option.some.inj h
      subst h
      exact J_ireturn dX9_hasPlan_26 rfl rfl rfl
    · rw [if_neg c1] at h
      refine J_iload_n (z := 1) dX9_hasPlan_12 rfl rfl (q := 13) rfl ?_
      refine J_aload_n (z := 0) dX9_hasPlan_13 rfl rfl (q := 14) rfl ?_
      obtain ⟨r3, er3, h⟩ := bindS h
      refine J_getR dX9_hasPlan_14 lRX9_55 ha0 rfl (by decide) er3 (q := 17) rfl (fun fr3 => ?_)
      refine J_alen (t := 4) dX9_hasPlan_17 fr3 (by decide) rfl (q := 18) rfl ?_
      refine J_icmp_ge (tgt := 25) dX9_hasPlan_18 (by decide) (q := 21) rfl (fun c3 => ?_) (fun c3 => ?_)
      · rw [if_pos c3] at h
        refine J_iconst (x := 0) dX9_hasPlan_25 (by decide) (q := 26) rfl ?_
        have h := Option.some.inj h
        subst h
        exact J_ireturn dX9_hasPlan_26 rfl rfl rfl
      · rw [if_neg c3] at h
        refine J_iconst (x := 1) dX9_hasPlan_21 (by decide) (q := 22) rfl ?_
        refine J_goto (tgt := 26) dX9_hasPlan_22 (by decide) ?_
        have h := Option.some.inj h
        subst h
        exact J_ireturn dX9_hasPlan_26 rfl rfl rfl

def fX9_step (a0 : Nat) (a1 : Int32) (a2 : Int32) (a3 : Int32) (σ : Mm) : Option (Int32) :=
  (fX9_hasPlan a0 a1 σ).bind fun vk1 => if vk1 = 0 then some (-1000000) else (gR σ a0 6).bind fun r3 => if ixB a1 (ln r3) = true then (gR σ r3 (Int32.toNatClampNeg a1)).bind fun r5 => (fX5_tellStep r5 a2 a3 σ).bind fun vk6 => some vk6 else none
set_option maxRecDepth 20000 in
set_option maxHeartbeats 2000000 in
theorem tX9_step {X : XS} {n : Nat} {σ : Mm} {a0 : Nat} {a1 : Int32} {a2 : Int32} {a3 : Int32} (ha0 : RT n a0 109) {res : Int32} (h : fX9_step a0 a1 a2 a3 σ = some res) : MT X yX9_step mX9_step 3 0 0 [.ref a0, .int a1, .int a2, .int a3] n σ (n, some (.int res), σ) := by
  unfold fX9_step at h
  refine MT_of (by decide +kernel) rfl (fun h => by cases h) (Nat.le_of_ble_eq_true rfl) ?_
  show J X mX9_step 3 0 0 (n, some (.int res), σ) 0 [(0, .ref a0), (1, .int a1), (2, .int a2), (3, .int a3)] [] n σ
  refine J_aload_n (z := 0) dX9_step_0 rfl rfl (q := 1) rfl ?_
  refine J_iload_n (z := 1) dX9_step_1 rfl rfl (q := 2) rfl ?_
  obtain ⟨vk1, hk1, h⟩ := bindS h
  refine J_cVi (as := [.int a1]) dX9_step_2 mRX9_301 ha0 (tX9_hasPlan ha0 hk1) rfl (Nat.le_of_ble_eq_true rfl) (Nat.le_of_ble_eq_true rfl) (Nat.le_of_ble_eq_true rfl) (q := 5) rfl ?_
  intro bk1
  refine J_if_eq (tgt := 22) dX9_step_5 (by decide) (q := 8) rfl (fun c1 => ?_) (fun c1 => ?_)
  · rw [if_pos c1] at h
    refine J_ldcw (x := (-1000000)) dX9_step_22 kRX9_307 (q := 25) rfl ?_
    have h := Option.some.inj h
    subst h
    exact J_ireturn dX9_step_25 rfl rfl rfl
  · rw [if_neg c1] at h
    refine J_aload_n (z := 0) dX9_step_8 rfl rfl (q := 9) rfl ?_
    obtain ⟨r3, er3, h⟩ := bindS h
    refine J_getR dX9_step_9 lRX9_55 ha0 rfl (by decide) er3 (q := 12) rfl (fun fr3 => ?_)
    refine J_iload_n (z := 1) dX9_step_12 rfl rfl (q := 13) rfl ?_
    obtain ⟨g4, h⟩ := iteS h
    obtain ⟨r5, er5, h⟩ := bindS h
    refine J_aald (t := 4) dX9_step_13 fr3 (by decide) (ixB_ok g4) er5 (q := 14) rfl (fun fr5 => ?_)
    refine J_iload_n (z := 2) dX9_step_14 rfl rfl (q := 15) rfl ?_
    refine J_iload_n (z := 3) dX9_step_15 rfl rfl (q := 16) rfl ?_
    obtain ⟨vk6, hk6, h⟩ := bindS h
    refine J_cVi (as := [.int a2, .int a3]) dX9_step_16 mRX9_304 fr5 (tX5_tellStep fr5 hk6) rfl (Nat.le_of_ble_eq_true rfl) (Nat.le_of_ble_eq_true rfl) (Nat.le_of_ble_eq_true rfl) (q := 19) rfl ?_
    intro bk6
    refine J_goto (tgt := 25) dX9_step_19 (by decide) ?_
    have h := Option.some.inj h
    subst h
    exact J_ireturn dX9_step_25 rfl rfl rfl

def fX9_mayStep (a0 : Nat) (a1 : Nat) (a2 : Nat) (a3 : Int32) (σ : Mm) : Option (Int32) :=
  (gR σ a0 3).bind fun r1 => (fX5_actOf a2 a3 σ).bind fun vk2 => (fX5_readerOf a2 a3 σ).bind fun vk3 => (fX5_targetOf a2 a3 σ).bind fun vk4 => (fX8_may r1 a1 vk2 vk3 vk4 σ).bind fun vk5 => some vk5
set_option maxRecDepth 20000 in
set_option maxHeartbeats 2000000 in
theorem tX9_mayStep {X : XS} {n : Nat} {σ : Mm} {a0 : Nat} {a1 : Nat} {a2 : Nat} {a3 : Int32} (ha0 : RT n a0 109) (ha1 : RT n a1 106) (ha2 : RT n a2 105) {res : Int32} (h : fX9_mayStep a0 a1 a2 a3 σ = some res) : MT X yX9_mayStep mX9_mayStep 5 0 0 [.ref a0, .ref a1, .ref a2, .int a3] n σ (n, some (.int res), σ) := by
  unfold fX9_mayStep at h
  refine MT_of (by decide +kernel) rfl (fun h => by cases h) (Nat.le_of_ble_eq_true rfl) ?_
  show J X mX9_mayStep 5 0 0 (n, some (.int res), σ) 0 [(0, .ref a0), (1, .ref a1), (2, .ref a2), (3, .int a3)] [] n σ
  refine J_aload_n (z := 0) dX9_mayStep_0 rfl rfl (q := 1) rfl ?_
  obtain ⟨r1, er1, h⟩ := bindS h
  refine J_getR dX9_mayStep_1 lRX9_33 ha0 rfl (by decide) er1 (q := 4) rfl (fun fr1 => ?_)
  refine J_aload_n (z := 1) dX9_mayStep_4 rfl rfl (q := 5) rfl ?_
  refine J_aload_n (z := 2) dX9_mayStep_5 rfl rfl (q := 6) rfl ?_
  refine J_iload_n (z := 3) dX9_mayStep_6 rfl rfl (q := 7) rfl ?_
  obtain ⟨vk2, hk2, h⟩ := bindS h
  refine J_cVi (as := [.int a3]) dX9_mayStep_7 mRX9_315 ha2 (tX5_actOf ha2 hk2) rfl (Nat.le_of_ble_eq_true rfl) (Nat.le_of_ble_eq_true rfl) (Nat.le_of_ble_eq_true rfl) (q := 10) rfl ?_
  intro bk2
  refine J_aload_n (z := 2) dX9_mayStep_10 rfl rfl (q := 11) rfl ?_
  refine J_iload_n (z := 3) dX9_mayStep_11 rfl rfl (q := 12) rfl ?_
  obtain ⟨vk3, hk3, h⟩ := bindS h
  refine J_cVi (as := [.int a3]) dX9_mayStep_12 mRX9_318 ha2 (tX5_readerOf ha2 hk3) rfl (Nat.le_of_ble_eq_true rfl) (Nat.le_of_ble_eq_true rfl) (Nat.le_of_ble_eq_true rfl) (q := 15) rfl ?_
  intro bk3
  refine J_aload_n (z := 2) dX9_mayStep_15 rfl rfl (q := 16) rfl ?_
  refine J_iload_n (z := 3) dX9_mayStep_16 rfl rfl (q := 17) rfl ?_
  obtain ⟨vk4, hk4, h⟩ := bindS h
  refine J_cVi (as := [.int a3]) dX9_mayStep_17 mRX9_321 ha2 (tX5_targetOf ha2 hk4) rfl (Nat.le_of_ble_eq_true rfl) (Nat.le_of_ble_eq_true rfl) (Nat.le_of_ble_eq_true rfl) (q := 20) rfl ?_
  intro bk4
  obtain ⟨vk5, hk5, h⟩ := bindS h
  refine J_cVi (as := [.ref a1, .int vk2, .int vk3, .int vk4]) dX9_mayStep_20 mRX9_250 fr1 (tX8_may fr1 ha1 hk5) rfl (Nat.le_of_ble_eq_true rfl) (Nat.le_of_ble_eq_true rfl) (Nat.le_of_ble_eq_true rfl) (q := 23) rfl ?_
  intro bk5
  have h := Option.some.inj h
  subst h
  exact J_ireturn dX9_mayStep_23 rfl bk5 rfl

def fX9_run_b27 (σ : Mm) : Option (Int32 × Mm) :=
  some ((-1000000), σ)
set_option maxRecDepth 20000 in
set_option maxHeartbeats 2000000 in
theorem tX9_run_b27 {X : XS} {n : Nat} {σ : Mm} {res : Int32 × Mm} (h : fX9_run_b27  σ = some res) : J X mX9_run 6 0 0 (n, some (.int res.1), res.2) 27 [] [] n σ := by
  unfold fX9_run_b27 at h
  refine J_ldcw (x := (-1000000)) dX9_run_27 kRX9_307 (q := 30) rfl ?_
  have h := Option.some.inj h
  subst h
  exact J_ireturn dX9_run_30 rfl rfl rfl

def fX9_run_l52 (a0 : Nat) (a2 : Int32) (a3 : Nat) (a4 : Int32) (σ : Mm) : Option ((Int32 × Mm) ⊕ (Int32 × Mm)) :=
  if (gI σ a3 4) ≤ a4 then some (Sum.inr (a4, σ)) else (gR σ a0 8).bind fun r15 => (fX9_mayStep a0 r15 a3 a4 σ).bind fun vk16 => if vk16 = 0 then some (Sum.inr (a4, σ)) else (gR σ a0 3).bind fun r18 => (fX5_actOf a3 a4 σ).bind fun vk19 => (fX5_readerOf a3 a4 σ).bind fun vk20 => (fX5_targetOf a3 a4 σ).bind fun vk21 => bnd2 (fX8_carryOut r18 r15 vk19 vk20 vk21 σ) fun vk22 sk22 => some (Sum.inl ((a4 + 1), sk22))
set_option maxRecDepth 20000 in
set_option maxHeartbeats 2000000 in
theorem tX9_run_l52 {X : XS} {n : Nat} {σ : Mm} {F : Nat × Option Value × Mm} {a0 : Nat} {a2 : Int32} {a3 : Nat} {a4 : Int32} (ha0 : RT n a0 109) (ha3 : RT n a3 105) {res : (Int32 × Mm) ⊕ (Int32 × Mm)} (h : fX9_run_l52 a0 a2 a3 a4 σ = some res) (hc : ∀ (b4 : Int32) (s : Mm), res = .inl (b4, s) → J X mX9_run 6 0 0 F 52 [(0, .ref a0), (2, .int a2), (3, .ref a3), (4, .int b4)] [] n s) (he0 : ∀ (b4 : Int32) (s : Mm), res = .inr (b4, s) → J X mX9_run 6 0 0 F 111 [(0, .ref a0), (2, .int a2), (3, .ref a3), (4, .int b4)] [] n s) : J X mX9_run 6 0 0 F 52 [(0, .ref a0), (2, .int a2), (3, .ref a3), (4, .int a4)] [] n σ := by
  unfold fX9_run_l52 at h
  refine J_iload (z := 3) dX9_run_52 rfl (q := 54) rfl ?_
  refine J_aload_n (z := 2) dX9_run_54 rfl rfl (q := 55) rfl ?_
  refine J_getI dX9_run_55 lRX9_310 ha3 rfl (q := 58) rfl ?_
  refine J_icmp_ge (tgt := 111) dX9_run_58 (by decide) (q := 61) rfl (fun c13 => ?_) (fun c13 => ?_)
  · rw [if_pos c13] at h
    have h := Option.some.inj h
    refine J_pick [0, 1, 2, 3] rfl ?_
    exact he0 _ _ h.symm
  · rw [if_neg c13] at h
    refine J_aload_n (z := 0) dX9_run_61 rfl rfl (q := 62) rfl ?_
    refine J_aload_n (z := 0) dX9_run_62 rfl rfl (q := 63) rfl ?_
    obtain ⟨r15, er15, h⟩ := bindS h
    refine J_getR dX9_run_63 lRX9_67 ha0 rfl (by decide) er15 (q := 66) rfl (fun fr15 => ?_)
    refine J_aload_n (z := 2) dX9_run_66 rfl rfl (q := 67) rfl ?_
    refine J_iload (z := 3) dX9_run_67 rfl (q := 69) rfl ?_
    obtain ⟨vk16, hk16, h⟩ := bindS h
    refine J_cVi (as := [.ref r15, .ref a3, .int a4]) dX9_run_69 mRX9_311 ha0 (tX9_mayStep ha0 fr15 ha3 hk16) rfl (Nat.le_of_ble_eq_true rfl) (Nat.le_of_ble_eq_true rfl) (Nat.le_of_ble_eq_true rfl) (q := 72) rfl ?_
    intro bk16
    refine J_if_eq (tgt := 111) dX9_run_72 (by decide) (q := 75) rfl (fun c16 => ?_) (fun c16 => ?_)
    · rw [if_pos c16] at h
      have h := Option.some.inj h
      refine J_pick [0, 1, 2, 3] rfl ?_
      exact he0 _ _ h.symm
    · rw [if_neg c16] at h
      refine J_aload_n (z := 0) dX9_run_75 rfl rfl (q := 76) rfl ?_
      obtain ⟨r18, er18, h⟩ := bindS h
      refine J_getR dX9_run_76 lRX9_33 ha0 rfl (by decide) er18 (q := 79) rfl (fun fr18 => ?_)
      refine J_aload_n (z := 0) dX9_run_79 rfl rfl (q := 80) rfl ?_
      refine J_getR dX9_run_80 lRX9_67 ha0 rfl (by decide) er15 (q := 83) rfl (fun _ => ?_)
      refine J_aload_n (z := 2) dX9_run_83 rfl rfl (q := 84) rfl ?_
      refine J_iload (z := 3) dX9_run_84 rfl (q := 86) rfl ?_
      obtain ⟨vk19, hk19, h⟩ := bindS h
      refine J_cVi (as := [.int a4]) dX9_run_86 mRX9_315 ha3 (tX5_actOf ha3 hk19) rfl (Nat.le_of_ble_eq_true rfl) (Nat.le_of_ble_eq_true rfl) (Nat.le_of_ble_eq_true rfl) (q := 89) rfl ?_
      intro bk19
      refine J_aload_n (z := 2) dX9_run_89 rfl rfl (q := 90) rfl ?_
      refine J_iload (z := 3) dX9_run_90 rfl (q := 92) rfl ?_
      obtain ⟨vk20, hk20, h⟩ := bindS h
      refine J_cVi (as := [.int a4]) dX9_run_92 mRX9_318 ha3 (tX5_readerOf ha3 hk20) rfl (Nat.le_of_ble_eq_true rfl) (Nat.le_of_ble_eq_true rfl) (Nat.le_of_ble_eq_true rfl) (q := 95) rfl ?_
      intro bk20
      refine J_aload_n (z := 2) dX9_run_95 rfl rfl (q := 96) rfl ?_
      refine J_iload (z := 3) dX9_run_96 rfl (q := 98) rfl ?_
      obtain ⟨vk21, hk21, h⟩ := bindS h
      refine J_cVi (as := [.int a4]) dX9_run_98 mRX9_321 ha3 (tX5_targetOf ha3 hk21) rfl (Nat.le_of_ble_eq_true rfl) (Nat.le_of_ble_eq_true rfl) (Nat.le_of_ble_eq_true rfl) (q := 101) rfl ?_
      intro bk21
      obtain ⟨vk22, sk22, hk22, h⟩ := bnd2S h
      refine J_cVi (as := [.ref r15, .int vk19, .int vk20, .int vk21]) dX9_run_101 mRX9_242 fr18 (tX8_carryOut fr18 fr15 hk22) rfl (Nat.le_of_ble_eq_true rfl) (Nat.le_of_ble_eq_true rfl) (Nat.le_of_ble_eq_true rfl) (q := 104) rfl ?_
      intro bk22
      refine J_pop dX9_run_104 rfl (q := 105) rfl ?_
      refine J_iinc (z := 3) (y := (a4 + 1)) (lv' := [(4, .int (a4 + 1)), (0, .ref a0), (2, .int a2), (3, .ref a3)]) dX9_run_105 rfl rfl (by decide) rfl (q := 108) rfl ?_
      refine J_goto (tgt := 52) dX9_run_108 (by decide) ?_
      have h := Option.some.inj h
      refine J_pick [1, 2, 3, 0] rfl ?_
      exact hc _ _ h.symm

def fX9_run_w52 (a0 : Nat) (a2 : Int32) (a3 : Nat) (a4 : Int32) (σ : Mm) : Option (Int32 × Mm) :=
  wh (fun a : Int32 × Mm => fX9_run_l52 a0 a2 a3 a.1 a.2) BIG (a4, σ)
set_option maxRecDepth 20000 in
set_option maxHeartbeats 2000000 in
theorem tX9_run_w52 {X : XS} {n : Nat} {σ : Mm} {F : Nat × Option Value × Mm} {a0 : Nat} {a2 : Int32} {a3 : Nat} {a4 : Int32} (ha0 : RT n a0 109) (ha3 : RT n a3 105) {res : Int32 × Mm} (h : fX9_run_w52 a0 a2 a3 a4 σ = some res) (he0 : ∀ (b4 : Int32) (s : Mm), res = (b4, s) → J X mX9_run 6 0 0 F 111 [(0, .ref a0), (2, .int a2), (3, .ref a3), (4, .int b4)] [] n s) : J X mX9_run 6 0 0 F 52 [(0, .ref a0), (2, .int a2), (3, .ref a3), (4, .int a4)] [] n σ := by
  unfold fX9_run_w52 at h
  refine wh_rule (P := fun a : Int32 × Mm => J X mX9_run 6 0 0 F 52 [(0, .ref a0), (2, .int a2), (3, .ref a3), (4, .int a.1)] [] n a.2) (K := fun b => b = res) ?_ _ _ _ h rfl
  intro a
  refine ⟨fun a2 hb hP => ?_, fun b hb hK => ?_⟩
  · exact tX9_run_l52 ha0 ha3 hb (fun _ _ e => by cases e; exact hP) (fun _ _ e => by cases e)
  · subst hK
    exact tX9_run_l52 ha0 ha3 hb (fun _ _ e => by cases e) (fun v0 v1 e => he0 v0 v1 (Sum.inr.inj e))

def fX9_run_b111 (a0 : Nat) (a2 : Int32) (a3 : Nat) (a4 : Int32) (σ : Mm) : Option (Int32 × Mm) :=
  if a2 = 1 then (gR σ a0 1).bind fun r26 => (gR σ a0 3).bind fun r27 => (gR σ a0 8).bind fun r28 => (fX8_pagesThere r27 r28 σ).bind fun vk29 => (fJ6_bitCount_0f7a4 vk29 σ).bind fun vk30 => some (((gI σ r26 4) - vk30), σ) else if a4 = (gI σ a3 4) then some ((-1), σ) else some (a4, σ)
set_option maxRecDepth 20000 in
set_option maxHeartbeats 2000000 in
theorem tX9_run_b111 {X : XS} {n : Nat} {σ : Mm} {a0 : Nat} {a2 : Int32} {a3 : Nat} {a4 : Int32} (ha0 : RT n a0 109) (ha3 : RT n a3 105) {res : Int32 × Mm} (h : fX9_run_b111 a0 a2 a3 a4 σ = some res) : J X mX9_run 6 0 0 (n, some (.int res.1), res.2) 111 [(0, .ref a0), (2, .int a2), (3, .ref a3), (4, .int a4)] [] n σ := by
  unfold fX9_run_b111 at h
  refine J_iload_n (z := 1) dX9_run_111 rfl rfl (q := 112) rfl ?_
  refine J_iconst (x := 1) dX9_run_112 (by decide) (q := 113) rfl ?_
  refine J_icmp_ne (tgt := 139) dX9_run_113 (by decide) (q := 116) rfl (fun c23 => ?_) (fun c23 => ?_)
  · rw [if_neg c23] at h
    refine J_iload (z := 3) dX9_run_139 rfl (q := 141) rfl ?_
    refine J_aload_n (z := 2) dX9_run_141 rfl rfl (q := 142) rfl ?_
    refine J_getI dX9_run_142 lRX9_310 ha3 rfl (q := 145) rfl ?_
    refine J_icmp_ne (tgt := 152) dX9_run_145 (by decide) (q := 148) rfl (fun c24 => ?_) (fun c24 => ?_)
    · rw [if_neg c24] at h
      refine J_iload (z := 3) dX9_run_152 rfl (q := 154) rfl ?_
      have h := Option.some.inj h
      subst h
      exact J_ireturn dX9_run_154 rfl rfl rfl
    · rw [if_pos c24] at h
      refine J_iconst (x := (-1)) dX9_run_148 (by decide) (q := 149) rfl ?_
      refine J_goto (tgt := 154) dX9_run_149 (by decide) ?_
      have h := Option.some.inj h
      subst h
      exact J_ireturn dX9_run_154 rfl rfl rfl
  · rw [if_pos c23] at h
    refine J_aload_n (z := 0) dX9_run_116 rfl rfl (q := 117) rfl ?_
    obtain ⟨r26, er26, h⟩ := bindS h
    refine J_getR dX9_run_117 lRX9_21 ha0 rfl (by decide) er26 (q := 120) rfl (fun fr26 => ?_)
    refine J_getI dX9_run_120 lRX9_148 fr26 rfl (q := 123) rfl ?_
    refine J_aload_n (z := 0) dX9_run_123 rfl rfl (q := 124) rfl ?_
    obtain ⟨r27, er27, h⟩ := bindS h
    refine J_getR dX9_run_124 lRX9_33 ha0 rfl (by decide) er27 (q := 127) rfl (fun fr27 => ?_)
    refine J_aload_n (z := 0) dX9_run_127 rfl rfl (q := 128) rfl ?_
    obtain ⟨r28, er28, h⟩ := bindS h
    refine J_getR dX9_run_128 lRX9_67 ha0 rfl (by decide) er28 (q := 131) rfl (fun fr28 => ?_)
    obtain ⟨vk29, hk29, h⟩ := bindS h
    refine J_cVi (as := [.ref r28]) dX9_run_131 mRX9_324 fr27 (tX8_pagesThere fr27 fr28 hk29) rfl (Nat.le_of_ble_eq_true rfl) (Nat.le_of_ble_eq_true rfl) (Nat.le_of_ble_eq_true rfl) (q := 134) rfl ?_
    intro bk29
    obtain ⟨vk30, hk30, h⟩ := bindS h
    refine J_cSi (as := [.int vk29]) dX9_run_134 mRX9_261 (tJ6_bitCount_0f7a4  hk30) rfl (Nat.le_of_ble_eq_true rfl) (Nat.le_of_ble_eq_true rfl) (Nat.le_of_ble_eq_true rfl) (q := 137) rfl ?_
    intro bk30
    refine J_isub dX9_run_137  (q := 138) rfl ?_
    have h := Option.some.inj h
    subst h
    exact J_ireturn dX9_run_138 rfl rfl rfl

def fX9_run (a0 : Nat) (a1 : Int32) (a2 : Int32) (σ : Mm) : Option (Int32 × Mm) :=
  (gR σ a0 1).bind fun r1 => (fX1_isOpen r1 σ).bind fun vk2 => if vk2 = 0 then fX9_run_b27  σ else (fX9_hasPlan a0 a1 σ).bind fun vk4 => if vk4 = 0 then fX9_run_b27  σ else if a2 < 0 then fX9_run_b27  σ else if a2 ≤ 1 then (gR σ a0 6).bind fun r8 => if ixB a1 (ln r8) = true then (gR σ r8 (Int32.toNatClampNeg a1)).bind fun r10 => (gR σ a0 8).bind fun r11 => (gR σ a0 7).bind fun r12 => (fX6_takeFrom r11 r12 σ).bind fun sk13 => (fX9_run_w52 a0 a2 r10 0 sk13).bind (fun o23 => (fun xo23_4 so23 => fX9_run_b111 a0 a2 r10 xo23_4 so23) o23.1 o23.2) else none else fX9_run_b27  σ
set_option maxRecDepth 20000 in
set_option maxHeartbeats 2000000 in
theorem tX9_run {X : XS} {n : Nat} {σ : Mm} {a0 : Nat} {a1 : Int32} {a2 : Int32} (ha0 : RT n a0 109) {res : Int32 × Mm} (h : fX9_run a0 a1 a2 σ = some res) : MT X yX9_run mX9_run 6 0 0 [.ref a0, .int a1, .int a2] n σ (n, some (.int res.1), res.2) := by
  unfold fX9_run at h
  refine MT_of (by decide +kernel) rfl (fun h => by cases h) (Nat.le_of_ble_eq_true rfl) ?_
  show J X mX9_run 6 0 0 (n, some (.int res.1), res.2) 0 [(0, .ref a0), (1, .int a1), (2, .int a2)] [] n σ
  refine J_aload_n (z := 0) dX9_run_0 rfl rfl (q := 1) rfl ?_
  obtain ⟨r1, er1, h⟩ := bindS h
  refine J_getR dX9_run_1 lRX9_21 ha0 rfl (by decide) er1 (q := 4) rfl (fun fr1 => ?_)
  obtain ⟨vk2, hk2, h⟩ := bindS h
  refine J_cVi (as := []) dX9_run_4 mRX9_151 fr1 (tX1_isOpen fr1 hk2) rfl (Nat.le_of_ble_eq_true rfl) (Nat.le_of_ble_eq_true rfl) (Nat.le_of_ble_eq_true rfl) (q := 7) rfl ?_
  intro bk2
  refine J_if_eq (tgt := 27) dX9_run_7 (by decide) (q := 10) rfl (fun c2 => ?_) (fun c2 => ?_)
  · rw [if_pos c2] at h
    refine J_pick [] rfl ?_
    exact tX9_run_b27  h
  · rw [if_neg c2] at h
    refine J_aload_n (z := 0) dX9_run_10 rfl rfl (q := 11) rfl ?_
    refine J_iload_n (z := 1) dX9_run_11 rfl rfl (q := 12) rfl ?_
    obtain ⟨vk4, hk4, h⟩ := bindS h
    refine J_cVi (as := [.int a1]) dX9_run_12 mRX9_301 ha0 (tX9_hasPlan ha0 hk4) rfl (Nat.le_of_ble_eq_true rfl) (Nat.le_of_ble_eq_true rfl) (Nat.le_of_ble_eq_true rfl) (q := 15) rfl ?_
    intro bk4
    refine J_if_eq (tgt := 27) dX9_run_15 (by decide) (q := 18) rfl (fun c4 => ?_) (fun c4 => ?_)
    · rw [if_pos c4] at h
      refine J_pick [] rfl ?_
      exact tX9_run_b27  h
    · rw [if_neg c4] at h
      refine J_iload_n (z := 2) dX9_run_18 rfl rfl (q := 19) rfl ?_
      refine J_if_lt (tgt := 27) dX9_run_19 (by decide) (q := 22) rfl (fun c5 => ?_) (fun c5 => ?_)
      · rw [if_pos c5] at h
        refine J_pick [] rfl ?_
        exact tX9_run_b27  h
      · rw [if_neg c5] at h
        refine J_iload_n (z := 2) dX9_run_22 rfl rfl (q := 23) rfl ?_
        refine J_iconst (x := 1) dX9_run_23 (by decide) (q := 24) rfl ?_
        refine J_icmp_le (tgt := 31) dX9_run_24 (by decide) (q := 27) rfl (fun c6 => ?_) (fun c6 => ?_)
        · rw [if_pos c6] at h
          refine J_aload_n (z := 0) dX9_run_31 rfl rfl (q := 32) rfl ?_
          obtain ⟨r8, er8, h⟩ := bindS h
          refine J_getR dX9_run_32 lRX9_55 ha0 rfl (by decide) er8 (q := 35) rfl (fun fr8 => ?_)
          refine J_iload_n (z := 1) dX9_run_35 rfl rfl (q := 36) rfl ?_
          obtain ⟨g9, h⟩ := iteS h
          obtain ⟨r10, er10, h⟩ := bindS h
          refine J_aald (t := 4) dX9_run_36 fr8 (by decide) (ixB_ok g9) er10 (q := 37) rfl (fun fr10 => ?_)
          refine J_astore_n (lv' := [(3, .ref r10), (0, .ref a0), (1, .int a1), (2, .int a2)]) dX9_run_37 rfl (by decide) rfl (q := 38) rfl ?_
          refine J_aload_n (z := 1) dX9_run_38 rfl rfl (q := 39) rfl ?_
          obtain ⟨r11, er11, h⟩ := bindS h
          refine J_getR dX9_run_39 lRX9_67 ha0 rfl (by decide) er11 (q := 42) rfl (fun fr11 => ?_)
          refine J_aload_n (z := 1) dX9_run_42 rfl rfl (q := 43) rfl ?_
          obtain ⟨r12, er12, h⟩ := bindS h
          refine J_getR dX9_run_43 lRX9_63 ha0 rfl (by decide) er12 (q := 46) rfl (fun fr12 => ?_)
          obtain ⟨sk13, hk13, h⟩ := bindS h
          refine J_cVv (as := [.ref r12]) dX9_run_46 mRX9_308 fr11 (tX6_takeFrom fr11 fr12 hk13) rfl (Nat.le_of_ble_eq_true rfl) (Nat.le_of_ble_eq_true rfl) (Nat.le_of_ble_eq_true rfl) (q := 49) rfl ?_
          refine J_iconst (x := 0) dX9_run_49 (by decide) (q := 50) rfl ?_
          refine J_istore (lv' := [(4, .int 0), (3, .ref r10), (0, .ref a0), (1, .int a1), (2, .int a2)]) dX9_run_50 (by decide) rfl (q := 52) rfl ?_
          obtain ⟨o23, hlo23, h⟩ := bindS h
          refine J_pick [2, 4, 1, 0] rfl ?_
          refine tX9_run_w52 ha0 fr10 hlo23 ?_
          · intro xo23_4 so23 qo23
            rw [qo23] at h
            try dsimp only [Sum.elim_inl, Sum.elim_inr] at h
            refine J_pick [0, 1, 2, 3] rfl ?_
            exact tX9_run_b111 ha0 fr10 h
        · rw [if_neg c6] at h
          refine J_pick [] rfl ?_
          exact tX9_run_b27  h

def fX9_perform_l29 (a0 : Nat) (a2 : Nat) (a3 : Int32) (σ : Mm) : Option ((Int32 × Mm) ⊕ (Int32 × Mm)) :=
  if (gI σ a2 4) ≤ a3 then some (Sum.inr (a3, σ)) else (gR σ a0 7).bind fun r10 => (fX9_mayStep a0 r10 a2 a3 σ).bind fun vk11 => if vk11 = 0 then some (Sum.inr (a3, σ)) else (fX5_actOf a2 a3 σ).bind fun vk13 => (fX5_readerOf a2 a3 σ).bind fun vk14 => (fX5_targetOf a2 a3 σ).bind fun vk15 => (fX9_act a0 vk13 vk14 vk15 σ).bind fun sk16 => some (Sum.inl ((a3 + 1), sk16))
set_option maxRecDepth 20000 in
set_option maxHeartbeats 2000000 in
theorem tX9_perform_l29 {X : XS} {n : Nat} {σ : Mm} {F : Nat × Option Value × Mm} {a0 : Nat} {a2 : Nat} {a3 : Int32} (ha0 : RT n a0 109) (ha2 : RT n a2 105) {res : (Int32 × Mm) ⊕ (Int32 × Mm)} (h : fX9_perform_l29 a0 a2 a3 σ = some res) (hc : ∀ (b3 : Int32) (s : Mm), res = .inl (b3, s) → J X mX9_perform 7 0 0 F 29 [(0, .ref a0), (2, .ref a2), (3, .int b3)] [] n s) (hr : ∀ (v : Int32) (s : Mm), res = .inr (v, s) → F = (n, some (.int v), s)) : J X mX9_perform 7 0 0 F 29 [(0, .ref a0), (2, .ref a2), (3, .int a3)] [] n σ := by
  unfold fX9_perform_l29 at h
  refine J_iload_n (z := 2) dX9_perform_29 rfl rfl (q := 30) rfl ?_
  refine J_aload_n (z := 1) dX9_perform_30 rfl rfl (q := 31) rfl ?_
  refine J_getI dX9_perform_31 lRX9_310 ha2 rfl (q := 34) rfl ?_
  refine J_icmp_ge (tgt := 75) dX9_perform_34 (by decide) (q := 37) rfl (fun c8 => ?_) (fun c8 => ?_)
  · rw [if_pos c8] at h
    refine J_iload_n (z := 2) dX9_perform_75 rfl rfl (q := 76) rfl ?_
    have h := Option.some.inj h
    exact J_ireturn dX9_perform_76 rfl rfl (hr _ _ h.symm)
  · rw [if_neg c8] at h
    refine J_aload_n (z := 0) dX9_perform_37 rfl rfl (q := 38) rfl ?_
    refine J_aload_n (z := 0) dX9_perform_38 rfl rfl (q := 39) rfl ?_
    obtain ⟨r10, er10, h⟩ := bindS h
    refine J_getR dX9_perform_39 lRX9_63 ha0 rfl (by decide) er10 (q := 42) rfl (fun fr10 => ?_)
    refine J_aload_n (z := 1) dX9_perform_42 rfl rfl (q := 43) rfl ?_
    refine J_iload_n (z := 2) dX9_perform_43 rfl rfl (q := 44) rfl ?_
    obtain ⟨vk11, hk11, h⟩ := bindS h
    refine J_cVi (as := [.ref r10, .ref a2, .int a3]) dX9_perform_44 mRX9_311 ha0 (tX9_mayStep ha0 fr10 ha2 hk11) rfl (Nat.le_of_ble_eq_true rfl) (Nat.le_of_ble_eq_true rfl) (Nat.le_of_ble_eq_true rfl) (q := 47) rfl ?_
    intro bk11
    refine J_if_eq (tgt := 75) dX9_perform_47 (by decide) (q := 50) rfl (fun c11 => ?_) (fun c11 => ?_)
    · rw [if_pos c11] at h
      refine J_iload_n (z := 2) dX9_perform_75 rfl rfl (q := 76) rfl ?_
      have h := Option.some.inj h
      exact J_ireturn dX9_perform_76 rfl rfl (hr _ _ h.symm)
    · rw [if_neg c11] at h
      refine J_aload_n (z := 0) dX9_perform_50 rfl rfl (q := 51) rfl ?_
      refine J_aload_n (z := 1) dX9_perform_51 rfl rfl (q := 52) rfl ?_
      refine J_iload_n (z := 2) dX9_perform_52 rfl rfl (q := 53) rfl ?_
      obtain ⟨vk13, hk13, h⟩ := bindS h
      refine J_cVi (as := [.int a3]) dX9_perform_53 mRX9_315 ha2 (tX5_actOf ha2 hk13) rfl (Nat.le_of_ble_eq_true rfl) (Nat.le_of_ble_eq_true rfl) (Nat.le_of_ble_eq_true rfl) (q := 56) rfl ?_
      intro bk13
      refine J_aload_n (z := 1) dX9_perform_56 rfl rfl (q := 57) rfl ?_
      refine J_iload_n (z := 2) dX9_perform_57 rfl rfl (q := 58) rfl ?_
      obtain ⟨vk14, hk14, h⟩ := bindS h
      refine J_cVi (as := [.int a3]) dX9_perform_58 mRX9_318 ha2 (tX5_readerOf ha2 hk14) rfl (Nat.le_of_ble_eq_true rfl) (Nat.le_of_ble_eq_true rfl) (Nat.le_of_ble_eq_true rfl) (q := 61) rfl ?_
      intro bk14
      refine J_aload_n (z := 1) dX9_perform_61 rfl rfl (q := 62) rfl ?_
      refine J_iload_n (z := 2) dX9_perform_62 rfl rfl (q := 63) rfl ?_
      obtain ⟨vk15, hk15, h⟩ := bindS h
      refine J_cVi (as := [.int a3]) dX9_perform_63 mRX9_321 ha2 (tX5_targetOf ha2 hk15) rfl (Nat.le_of_ble_eq_true rfl) (Nat.le_of_ble_eq_true rfl) (Nat.le_of_ble_eq_true rfl) (q := 66) rfl ?_
      intro bk15
      obtain ⟨sk16, hk16, h⟩ := bindS h
      refine J_cVv (as := [.int vk13, .int vk14, .int vk15]) dX9_perform_66 mRX9_254 ha0 (tX9_act ha0 hk16) rfl (Nat.le_of_ble_eq_true rfl) (Nat.le_of_ble_eq_true rfl) (Nat.le_of_ble_eq_true rfl) (q := 69) rfl ?_
      refine J_iinc (z := 2) (y := (a3 + 1)) (lv' := [(3, .int (a3 + 1)), (0, .ref a0), (2, .ref a2)]) dX9_perform_69 rfl rfl (by decide) rfl (q := 72) rfl ?_
      refine J_goto (tgt := 29) dX9_perform_72 (by decide) ?_
      have h := Option.some.inj h
      refine J_pick [1, 2, 0] rfl ?_
      exact hc _ _ h.symm

def fX9_perform_w29 (a0 : Nat) (a2 : Nat) (a3 : Int32) (σ : Mm) : Option (Int32 × Mm) :=
  wh (fun a : Int32 × Mm => fX9_perform_l29 a0 a2 a.1 a.2) BIG (a3, σ)
set_option maxRecDepth 20000 in
set_option maxHeartbeats 2000000 in
theorem tX9_perform_w29 {X : XS} {n : Nat} {σ : Mm} {F : Nat × Option Value × Mm} {a0 : Nat} {a2 : Nat} {a3 : Int32} (ha0 : RT n a0 109) (ha2 : RT n a2 105) {res : Int32 × Mm} (h : fX9_perform_w29 a0 a2 a3 σ = some res) (hr : ∀ (v : Int32) (s : Mm), res = (v, s) → F = (n, some (.int v), s)) : J X mX9_perform 7 0 0 F 29 [(0, .ref a0), (2, .ref a2), (3, .int a3)] [] n σ := by
  unfold fX9_perform_w29 at h
  refine wh_rule (P := fun a : Int32 × Mm => J X mX9_perform 7 0 0 F 29 [(0, .ref a0), (2, .ref a2), (3, .int a.1)] [] n a.2) (K := fun b => b = res) ?_ _ _ _ h rfl
  intro a
  refine ⟨fun a2 hb hP => ?_, fun b hb hK => ?_⟩
  · exact tX9_perform_l29 ha0 ha2 hb (fun _ _ e => by cases e; exact hP) (fun _ _ e => by cases e)
  · subst hK
    exact tX9_perform_l29 ha0 ha2 hb (fun _ _ e => by cases e) (fun v0 v1 e => hr v0 v1 (Sum.inr.inj e))

def fX9_perform (a0 : Nat) (a1 : Int32) (σ : Mm) : Option (Int32 × Mm) :=
  (gR σ a0 1).bind fun r1 => (fX1_isOpen r1 σ).bind fun vk2 => if vk2 = 0 then some ((-1), σ) else (fX9_hasPlan a0 a1 σ).bind fun vk4 => if vk4 = 0 then some ((-1), σ) else (gR σ a0 6).bind fun r6 => if ixB a1 (ln r6) = true then (gR σ r6 (Int32.toNatClampNeg a1)).bind fun r8 => (fX9_perform_w29 a0 r8 0 σ).bind (fun o17 => some o17) else none
set_option maxRecDepth 20000 in
set_option maxHeartbeats 2000000 in
theorem tX9_perform {X : XS} {n : Nat} {σ : Mm} {a0 : Nat} {a1 : Int32} (ha0 : RT n a0 109) {res : Int32 × Mm} (h : fX9_perform a0 a1 σ = some res) : MT X yX9_perform mX9_perform 7 0 0 [.ref a0, .int a1] n σ (n, some (.int res.1), res.2) := by
  unfold fX9_perform at h
  refine MT_of (by decide +kernel) rfl (fun h => by cases h) (Nat.le_of_ble_eq_true rfl) ?_
  show J X mX9_perform 7 0 0 (n, some (.int res.1), res.2) 0 [(0, .ref a0), (1, .int a1)] [] n σ
  refine J_aload_n (z := 0) dX9_perform_0 rfl rfl (q := 1) rfl ?_
  obtain ⟨r1, er1, h⟩ := bindS h
  refine J_getR dX9_perform_1 lRX9_21 ha0 rfl (by decide) er1 (q := 4) rfl (fun fr1 => ?_)
  obtain ⟨vk2, hk2, h⟩ := bindS h
  refine J_cVi (as := []) dX9_perform_4 mRX9_151 fr1 (tX1_isOpen fr1 hk2) rfl (Nat.le_of_ble_eq_true rfl) (Nat.le_of_ble_eq_true rfl) (Nat.le_of_ble_eq_true rfl) (q := 7) rfl ?_
  intro bk2
  refine J_if_eq (tgt := 18) dX9_perform_7 (by decide) (q := 10) rfl (fun c2 => ?_) (fun c2 => ?_)
  · rw [if_pos c2] at h
    refine J_iconst (x := (-1)) dX9_perform_18 (by decide) (q := 19) rfl ?_
    have h := Option.some.inj h
    subst h
    exact J_ireturn dX9_perform_19 rfl rfl rfl
  · rw [if_neg c2] at h
    refine J_aload_n (z := 0) dX9_perform_10 rfl rfl (q := 11) rfl ?_
    refine J_iload_n (z := 1) dX9_perform_11 rfl rfl (q := 12) rfl ?_
    obtain ⟨vk4, hk4, h⟩ := bindS h
    refine J_cVi (as := [.int a1]) dX9_perform_12 mRX9_301 ha0 (tX9_hasPlan ha0 hk4) rfl (Nat.le_of_ble_eq_true rfl) (Nat.le_of_ble_eq_true rfl) (Nat.le_of_ble_eq_true rfl) (q := 15) rfl ?_
    intro bk4
    refine J_if_ne (tgt := 20) dX9_perform_15 (by decide) (q := 18) rfl (fun c4 => ?_) (fun c4 => ?_)
    · rw [if_neg c4] at h
      refine J_aload_n (z := 0) dX9_perform_20 rfl rfl (q := 21) rfl ?_
      obtain ⟨r6, er6, h⟩ := bindS h
      refine J_getR dX9_perform_21 lRX9_55 ha0 rfl (by decide) er6 (q := 24) rfl (fun fr6 => ?_)
      refine J_iload_n (z := 1) dX9_perform_24 rfl rfl (q := 25) rfl ?_
      obtain ⟨g7, h⟩ := iteS h
      obtain ⟨r8, er8, h⟩ := bindS h
      refine J_aald (t := 4) dX9_perform_25 fr6 (by decide) (ixB_ok g7) er8 (q := 26) rfl (fun fr8 => ?_)
      refine J_astore_n (lv' := [(2, .ref r8), (0, .ref a0), (1, .int a1)]) dX9_perform_26 rfl (by decide) rfl (q := 27) rfl ?_
      refine J_iconst (x := 0) dX9_perform_27 (by decide) (q := 28) rfl ?_
      refine J_istore_n (lv' := [(3, .int 0), (2, .ref r8), (0, .ref a0), (1, .int a1)]) dX9_perform_28 rfl (by decide) rfl (q := 29) rfl ?_
      obtain ⟨o17, hlo17, h⟩ := bindS h
      refine J_pick [2, 1, 0] rfl ?_
      refine tX9_perform_w29 ha0 fr8 hlo17 ?_
      · intro vo17 so17 qo17
        rw [qo17] at h
        try dsimp only [Sum.elim_inl, Sum.elim_inr] at h
        have h := Option.some.inj h
        subst h
        rfl
    · rw [if_pos c4] at h
      refine J_iconst (x := (-1)) dX9_perform_18 (by decide) (q := 19) rfl ?_
      have h := Option.some.inj h
      subst h
      exact J_ireturn dX9_perform_19 rfl rfl rfl

def fX9_loss (a0 : Nat) (a1 : Int32) (a2 : Int32) (σ : Mm) : Option (Int32 × Mm) :=
  (gR σ a0 1).bind fun r1 => (fX1_hasReader r1 a1 σ).bind fun vk2 => if vk2 = 0 then some ((-1), σ) else (fX9_isThere a0 a2 σ).bind fun vk4 => if vk4 = 0 then some ((-1), σ) else (gR σ a0 3).bind fun r6 => (gR σ a0 7).bind fun r7 => (fX1_pageCell r1 a2 σ).bind fun vk8 => bnd2 (fX8_lossIn r6 r7 a1 vk8 σ) fun vk9 sk9 => some (vk9, sk9)
set_option maxRecDepth 20000 in
set_option maxHeartbeats 2000000 in
theorem tX9_loss {X : XS} {n : Nat} {σ : Mm} {a0 : Nat} {a1 : Int32} {a2 : Int32} (ha0 : RT n a0 109) {res : Int32 × Mm} (h : fX9_loss a0 a1 a2 σ = some res) : MT X yX9_loss mX9_loss 5 0 0 [.ref a0, .int a1, .int a2] n σ (n, some (.int res.1), res.2) := by
  unfold fX9_loss at h
  refine MT_of (by decide +kernel) rfl (fun h => by cases h) (Nat.le_of_ble_eq_true rfl) ?_
  show J X mX9_loss 5 0 0 (n, some (.int res.1), res.2) 0 [(0, .ref a0), (1, .int a1), (2, .int a2)] [] n σ
  refine J_aload_n (z := 0) dX9_loss_0 rfl rfl (q := 1) rfl ?_
  obtain ⟨r1, er1, h⟩ := bindS h
  refine J_getR dX9_loss_1 lRX9_21 ha0 rfl (by decide) er1 (q := 4) rfl (fun fr1 => ?_)
  refine J_iload_n (z := 1) dX9_loss_4 rfl rfl (q := 5) rfl ?_
  obtain ⟨vk2, hk2, h⟩ := bindS h
  refine J_cVi (as := [.int a1]) dX9_loss_5 mRX9_185 fr1 (tX1_hasReader fr1 hk2) rfl (Nat.le_of_ble_eq_true rfl) (Nat.le_of_ble_eq_true rfl) (Nat.le_of_ble_eq_true rfl) (q := 8) rfl ?_
  intro bk2
  refine J_if_eq (tgt := 19) dX9_loss_8 (by decide) (q := 11) rfl (fun c2 => ?_) (fun c2 => ?_)
  · rw [if_pos c2] at h
    refine J_iconst (x := (-1)) dX9_loss_19 (by decide) (q := 20) rfl ?_
    have h := Option.some.inj h
    subst h
    exact J_ireturn dX9_loss_20 rfl rfl rfl
  · rw [if_neg c2] at h
    refine J_aload_n (z := 0) dX9_loss_11 rfl rfl (q := 12) rfl ?_
    refine J_iload_n (z := 2) dX9_loss_12 rfl rfl (q := 13) rfl ?_
    obtain ⟨vk4, hk4, h⟩ := bindS h
    refine J_cVi (as := [.int a2]) dX9_loss_13 mRX9_227 ha0 (tX9_isThere ha0 hk4) rfl (Nat.le_of_ble_eq_true rfl) (Nat.le_of_ble_eq_true rfl) (Nat.le_of_ble_eq_true rfl) (q := 16) rfl ?_
    intro bk4
    refine J_if_ne (tgt := 21) dX9_loss_16 (by decide) (q := 19) rfl (fun c4 => ?_) (fun c4 => ?_)
    · rw [if_neg c4] at h
      refine J_aload_n (z := 0) dX9_loss_21 rfl rfl (q := 22) rfl ?_
      obtain ⟨r6, er6, h⟩ := bindS h
      refine J_getR dX9_loss_22 lRX9_33 ha0 rfl (by decide) er6 (q := 25) rfl (fun fr6 => ?_)
      refine J_aload_n (z := 0) dX9_loss_25 rfl rfl (q := 26) rfl ?_
      obtain ⟨r7, er7, h⟩ := bindS h
      refine J_getR dX9_loss_26 lRX9_63 ha0 rfl (by decide) er7 (q := 29) rfl (fun fr7 => ?_)
      refine J_iload_n (z := 1) dX9_loss_29 rfl rfl (q := 30) rfl ?_
      refine J_aload_n (z := 0) dX9_loss_30 rfl rfl (q := 31) rfl ?_
      refine J_getR dX9_loss_31 lRX9_21 ha0 rfl (by decide) er1 (q := 34) rfl (fun _ => ?_)
      refine J_iload_n (z := 2) dX9_loss_34 rfl rfl (q := 35) rfl ?_
      obtain ⟨vk8, hk8, h⟩ := bindS h
      refine J_cVi (as := [.int a2]) dX9_loss_35 mRX9_172 fr1 (tX1_pageCell fr1 hk8) rfl (Nat.le_of_ble_eq_true rfl) (Nat.le_of_ble_eq_true rfl) (Nat.le_of_ble_eq_true rfl) (q := 38) rfl ?_
      intro bk8
      obtain ⟨vk9, sk9, hk9, h⟩ := bnd2S h
      refine J_cVi (as := [.ref r7, .int a1, .int vk8]) dX9_loss_38 mRX9_328 fr6 (tX8_lossIn fr6 fr7 hk9) rfl (Nat.le_of_ble_eq_true rfl) (Nat.le_of_ble_eq_true rfl) (Nat.le_of_ble_eq_true rfl) (q := 41) rfl ?_
      intro bk9
      have h := Option.some.inj h
      subst h
      exact J_ireturn dX9_loss_41 rfl rfl rfl
    · rw [if_pos c4] at h
      refine J_iconst (x := (-1)) dX9_loss_19 (by decide) (q := 20) rfl ?_
      have h := Option.some.inj h
      subst h
      exact J_ireturn dX9_loss_20 rfl rfl rfl

def fX9_left_l35 (a0 : Nat) (a1 : Int32) (a2 : Int32) (σ : Mm) : Option ((Int32 × Mm) ⊕ (Mm)) :=
  if a1 ≤ a2 then some (Sum.inr σ) else (gR σ a0 3).bind fun r10 => (gR σ a0 8).bind fun r11 => bnd2 (fX8_fallNight r10 r11 σ) fun vk12 sk12 => some (Sum.inl ((a2 + 1), sk12))
set_option maxRecDepth 20000 in
set_option maxHeartbeats 2000000 in
theorem tX9_left_l35 {X : XS} {n : Nat} {σ : Mm} {F : Nat × Option Value × Mm} {a0 : Nat} {a1 : Int32} {a2 : Int32} (ha0 : RT n a0 109) {res : (Int32 × Mm) ⊕ (Mm)} (h : fX9_left_l35 a0 a1 a2 σ = some res) (hc : ∀ (b2 : Int32) (s : Mm), res = .inl (b2, s) → J X mX9_left 3 0 0 F 35 [(0, .ref a0), (1, .int a1), (2, .int b2)] [] n s) (he0 : ∀  (s : Mm), res = .inr s → J X mX9_left 3 0 0 F 58 [(0, .ref a0)] [] n s) : J X mX9_left 3 0 0 F 35 [(0, .ref a0), (1, .int a1), (2, .int a2)] [] n σ := by
  unfold fX9_left_l35 at h
  refine J_iload_n (z := 2) dX9_left_35 rfl rfl (q := 36) rfl ?_
  refine J_iload_n (z := 1) dX9_left_36 rfl rfl (q := 37) rfl ?_
  refine J_icmp_ge (tgt := 58) dX9_left_37 (by decide) (q := 40) rfl (fun c8 => ?_) (fun c8 => ?_)
  · rw [if_pos c8] at h
    have h := Option.some.inj h
    refine J_pick [0] rfl ?_
    exact he0 _ h.symm
  · rw [if_neg c8] at h
    refine J_aload_n (z := 0) dX9_left_40 rfl rfl (q := 41) rfl ?_
    obtain ⟨r10, er10, h⟩ := bindS h
    refine J_getR dX9_left_41 lRX9_33 ha0 rfl (by decide) er10 (q := 44) rfl (fun fr10 => ?_)
    refine J_aload_n (z := 0) dX9_left_44 rfl rfl (q := 45) rfl ?_
    obtain ⟨r11, er11, h⟩ := bindS h
    refine J_getR dX9_left_45 lRX9_67 ha0 rfl (by decide) er11 (q := 48) rfl (fun fr11 => ?_)
    obtain ⟨vk12, sk12, hk12, h⟩ := bnd2S h
    refine J_cVi (as := [.ref r11]) dX9_left_48 mRX9_331 fr10 (tX8_fallNight fr10 fr11 hk12) rfl (Nat.le_of_ble_eq_true rfl) (Nat.le_of_ble_eq_true rfl) (Nat.le_of_ble_eq_true rfl) (q := 51) rfl ?_
    intro bk12
    refine J_pop dX9_left_51 rfl (q := 52) rfl ?_
    refine J_iinc (z := 2) (y := (a2 + 1)) (lv' := [(2, .int (a2 + 1)), (0, .ref a0), (1, .int a1)]) dX9_left_52 rfl rfl (by decide) rfl (q := 55) rfl ?_
    refine J_goto (tgt := 35) dX9_left_55 (by decide) ?_
    have h := Option.some.inj h
    refine J_pick [1, 2, 0] rfl ?_
    exact hc _ _ h.symm

def fX9_left_w35 (a0 : Nat) (a1 : Int32) (a2 : Int32) (σ : Mm) : Option (Mm) :=
  wh (fun a : Int32 × Mm => fX9_left_l35 a0 a1 a.1 a.2) BIG (a2, σ)
set_option maxRecDepth 20000 in
set_option maxHeartbeats 2000000 in
theorem tX9_left_w35 {X : XS} {n : Nat} {σ : Mm} {F : Nat × Option Value × Mm} {a0 : Nat} {a1 : Int32} {a2 : Int32} (ha0 : RT n a0 109) {res : Mm} (h : fX9_left_w35 a0 a1 a2 σ = some res) (he0 : ∀  (s : Mm), res = s → J X mX9_left 3 0 0 F 58 [(0, .ref a0)] [] n s) : J X mX9_left 3 0 0 F 35 [(0, .ref a0), (1, .int a1), (2, .int a2)] [] n σ := by
  unfold fX9_left_w35 at h
  refine wh_rule (P := fun a : Int32 × Mm => J X mX9_left 3 0 0 F 35 [(0, .ref a0), (1, .int a1), (2, .int a.1)] [] n a.2) (K := fun b => b = res) ?_ _ _ _ h rfl
  intro a
  refine ⟨fun a2 hb hP => ?_, fun b hb hK => ?_⟩
  · exact tX9_left_l35 ha0 hb (fun _ _ e => by cases e; exact hP) (fun _ e => by cases e)
  · subst hK
    exact tX9_left_l35 ha0 hb (fun _ _ e => by cases e) (fun v0 e => he0 v0 (Sum.inr.inj e))

def fX9_left (a0 : Nat) (a1 : Int32) (σ : Mm) : Option (Int32 × Mm) :=
  (gR σ a0 1).bind fun r1 => (fX1_isOpen r1 σ).bind fun vk2 => if vk2 = 0 then some ((-1), σ) else if a1 < 0 then some ((-1), σ) else if a1 ≤ 99 then (gR σ a0 8).bind fun r6 => (gR σ a0 7).bind fun r7 => (fX6_takeFrom r6 r7 σ).bind fun sk8 => (fX9_left_w35 a0 a1 0 sk8).bind (fun o13 => (fun so13 => (gR so13 a0 3).bind fun r14 => (gR so13 a0 8).bind fun r15 => (fX8_pagesThere r14 r15 so13).bind fun vk16 => some (vk16, so13)) o13) else some ((-1), σ)
set_option maxRecDepth 20000 in
set_option maxHeartbeats 2000000 in
theorem tX9_left {X : XS} {n : Nat} {σ : Mm} {a0 : Nat} {a1 : Int32} (ha0 : RT n a0 109) {res : Int32 × Mm} (h : fX9_left a0 a1 σ = some res) : MT X yX9_left mX9_left 3 0 0 [.ref a0, .int a1] n σ (n, some (.int res.1), res.2) := by
  unfold fX9_left at h
  refine MT_of (by decide +kernel) rfl (fun h => by cases h) (Nat.le_of_ble_eq_true rfl) ?_
  show J X mX9_left 3 0 0 (n, some (.int res.1), res.2) 0 [(0, .ref a0), (1, .int a1)] [] n σ
  refine J_aload_n (z := 0) dX9_left_0 rfl rfl (q := 1) rfl ?_
  obtain ⟨r1, er1, h⟩ := bindS h
  refine J_getR dX9_left_1 lRX9_21 ha0 rfl (by decide) er1 (q := 4) rfl (fun fr1 => ?_)
  obtain ⟨vk2, hk2, h⟩ := bindS h
  refine J_cVi (as := []) dX9_left_4 mRX9_151 fr1 (tX1_isOpen fr1 hk2) rfl (Nat.le_of_ble_eq_true rfl) (Nat.le_of_ble_eq_true rfl) (Nat.le_of_ble_eq_true rfl) (q := 7) rfl ?_
  intro bk2
  refine J_if_eq (tgt := 20) dX9_left_7 (by decide) (q := 10) rfl (fun c2 => ?_) (fun c2 => ?_)
  · rw [if_pos c2] at h
    refine J_iconst (x := (-1)) dX9_left_20 (by decide) (q := 21) rfl ?_
    have h := Option.some.inj h
    subst h
    exact J_ireturn dX9_left_21 rfl rfl rfl
  · rw [if_neg c2] at h
    refine J_iload_n (z := 1) dX9_left_10 rfl rfl (q := 11) rfl ?_
    refine J_if_lt (tgt := 20) dX9_left_11 (by decide) (q := 14) rfl (fun c3 => ?_) (fun c3 => ?_)
    · rw [if_pos c3] at h
      refine J_iconst (x := (-1)) dX9_left_20 (by decide) (q := 21) rfl ?_
      have h := Option.some.inj h
      subst h
      exact J_ireturn dX9_left_21 rfl rfl rfl
    · rw [if_neg c3] at h
      refine J_iload_n (z := 1) dX9_left_14 rfl rfl (q := 15) rfl ?_
      refine J_bipush (x := 99) dX9_left_15 (by decide) (q := 17) rfl ?_
      refine J_icmp_le (tgt := 22) dX9_left_17 (by decide) (q := 20) rfl (fun c4 => ?_) (fun c4 => ?_)
      · rw [if_pos c4] at h
        refine J_aload_n (z := 0) dX9_left_22 rfl rfl (q := 23) rfl ?_
        obtain ⟨r6, er6, h⟩ := bindS h
        refine J_getR dX9_left_23 lRX9_67 ha0 rfl (by decide) er6 (q := 26) rfl (fun fr6 => ?_)
        refine J_aload_n (z := 0) dX9_left_26 rfl rfl (q := 27) rfl ?_
        obtain ⟨r7, er7, h⟩ := bindS h
        refine J_getR dX9_left_27 lRX9_63 ha0 rfl (by decide) er7 (q := 30) rfl (fun fr7 => ?_)
        obtain ⟨sk8, hk8, h⟩ := bindS h
        refine J_cVv (as := [.ref r7]) dX9_left_30 mRX9_308 fr6 (tX6_takeFrom fr6 fr7 hk8) rfl (Nat.le_of_ble_eq_true rfl) (Nat.le_of_ble_eq_true rfl) (Nat.le_of_ble_eq_true rfl) (q := 33) rfl ?_
        refine J_iconst (x := 0) dX9_left_33 (by decide) (q := 34) rfl ?_
        refine J_istore_n (lv' := [(2, .int 0), (0, .ref a0), (1, .int a1)]) dX9_left_34 rfl (by decide) rfl (q := 35) rfl ?_
        obtain ⟨o13, hlo13, h⟩ := bindS h
        refine J_pick [1, 2, 0] rfl ?_
        refine tX9_left_w35 ha0 hlo13 ?_
        · intro so13 qo13
          rw [qo13] at h
          try dsimp only [Sum.elim_inl, Sum.elim_inr] at h
          refine J_aload_n (z := 0) dX9_left_58 rfl rfl (q := 59) rfl ?_
          obtain ⟨r14, er14, h⟩ := bindS h
          refine J_getR dX9_left_59 lRX9_33 ha0 rfl (by decide) er14 (q := 62) rfl (fun fr14 => ?_)
          refine J_aload_n (z := 0) dX9_left_62 rfl rfl (q := 63) rfl ?_
          obtain ⟨r15, er15, h⟩ := bindS h
          refine J_getR dX9_left_63 lRX9_67 ha0 rfl (by decide) er15 (q := 66) rfl (fun fr15 => ?_)
          obtain ⟨vk16, hk16, h⟩ := bindS h
          refine J_cVi (as := [.ref r15]) dX9_left_66 mRX9_324 fr14 (tX8_pagesThere fr14 fr15 hk16) rfl (Nat.le_of_ble_eq_true rfl) (Nat.le_of_ble_eq_true rfl) (Nat.le_of_ble_eq_true rfl) (q := 69) rfl ?_
          intro bk16
          have h := Option.some.inj h
          subst h
          exact J_ireturn dX9_left_69 rfl rfl rfl
      · rw [if_neg c4] at h
        refine J_iconst (x := (-1)) dX9_left_20 (by decide) (q := 21) rfl ?_
        have h := Option.some.inj h
        subst h
        exact J_ireturn dX9_left_21 rfl rfl rfl

def fX9_last_l26 (a0 : Nat) (a1 : Int32) (a2 : Int32) (σ : Mm) : Option ((Int32 × Mm) ⊕ (Int32 × Mm)) :=
  if 99 < a2 then some (Sum.inr ((-1), σ)) else (gR σ a0 8).bind fun r8 => (gR σ r8 0).bind fun r9 => if ixB a1 (ln r9) = true then if (gI σ r9 (Int32.toNatClampNeg a1)) = 0 then some (Sum.inr (a2, σ)) else (gR σ a0 3).bind fun r12 => bnd2 (fX8_fallNight r12 r8 σ) fun vk13 sk13 => some (Sum.inl ((a2 + 1), sk13)) else none
set_option maxRecDepth 20000 in
set_option maxHeartbeats 2000000 in
theorem tX9_last_l26 {X : XS} {n : Nat} {σ : Mm} {F : Nat × Option Value × Mm} {a0 : Nat} {a1 : Int32} {a2 : Int32} (ha0 : RT n a0 109) {res : (Int32 × Mm) ⊕ (Int32 × Mm)} (h : fX9_last_l26 a0 a1 a2 σ = some res) (hc : ∀ (b2 : Int32) (s : Mm), res = .inl (b2, s) → J X mX9_last 3 0 0 F 26 [(0, .ref a0), (1, .int a1), (2, .int b2)] [] n s) (hr : ∀ (v : Int32) (s : Mm), res = .inr (v, s) → F = (n, some (.int v), s)) : J X mX9_last 3 0 0 F 26 [(0, .ref a0), (1, .int a1), (2, .int a2)] [] n σ := by
  unfold fX9_last_l26 at h
  refine J_iload_n (z := 2) dX9_last_26 rfl rfl (q := 27) rfl ?_
  refine J_bipush (x := 99) dX9_last_27 (by decide) (q := 29) rfl ?_
  refine J_icmp_gt (tgt := 64) dX9_last_29 (by decide) (q := 32) rfl (fun c6 => ?_) (fun c6 => ?_)
  · rw [if_pos c6] at h
    refine J_iconst (x := (-1)) dX9_last_64 (by decide) (q := 65) rfl ?_
    have h := Option.some.inj h
    exact J_ireturn dX9_last_65 rfl rfl (hr _ _ h.symm)
  · rw [if_neg c6] at h
    refine J_aload_n (z := 0) dX9_last_32 rfl rfl (q := 33) rfl ?_
    obtain ⟨r8, er8, h⟩ := bindS h
    refine J_getR dX9_last_33 lRX9_67 ha0 rfl (by decide) er8 (q := 36) rfl (fun fr8 => ?_)
    obtain ⟨r9, er9, h⟩ := bindS h
    refine J_getR dX9_last_36 lRX9_175 fr8 rfl (by decide) er9 (q := 39) rfl (fun fr9 => ?_)
    refine J_iload_n (z := 1) dX9_last_39 rfl rfl (q := 40) rfl ?_
    obtain ⟨g10, h⟩ := iteS h
    refine J_iald dX9_last_40 fr9 (ixB_ok g10) (q := 41) rfl ?_
    refine J_if_ne (tgt := 46) dX9_last_41 (by decide) (q := 44) rfl (fun c10 => ?_) (fun c10 => ?_)
    · rw [if_neg c10] at h
      refine J_aload_n (z := 0) dX9_last_46 rfl rfl (q := 47) rfl ?_
      obtain ⟨r12, er12, h⟩ := bindS h
      refine J_getR dX9_last_47 lRX9_33 ha0 rfl (by decide) er12 (q := 50) rfl (fun fr12 => ?_)
      refine J_aload_n (z := 0) dX9_last_50 rfl rfl (q := 51) rfl ?_
      refine J_getR dX9_last_51 lRX9_67 ha0 rfl (by decide) er8 (q := 54) rfl (fun _ => ?_)
      obtain ⟨vk13, sk13, hk13, h⟩ := bnd2S h
      refine J_cVi (as := [.ref r8]) dX9_last_54 mRX9_331 fr12 (tX8_fallNight fr12 fr8 hk13) rfl (Nat.le_of_ble_eq_true rfl) (Nat.le_of_ble_eq_true rfl) (Nat.le_of_ble_eq_true rfl) (q := 57) rfl ?_
      intro bk13
      refine J_pop dX9_last_57 rfl (q := 58) rfl ?_
      refine J_iinc (z := 2) (y := (a2 + 1)) (lv' := [(2, .int (a2 + 1)), (0, .ref a0), (1, .int a1)]) dX9_last_58 rfl rfl (by decide) rfl (q := 61) rfl ?_
      refine J_goto (tgt := 26) dX9_last_61 (by decide) ?_
      have h := Option.some.inj h
      refine J_pick [1, 2, 0] rfl ?_
      exact hc _ _ h.symm
    · rw [if_pos c10] at h
      refine J_iload_n (z := 2) dX9_last_44 rfl rfl (q := 45) rfl ?_
      have h := Option.some.inj h
      exact J_ireturn dX9_last_45 rfl rfl (hr _ _ h.symm)

def fX9_last_w26 (a0 : Nat) (a1 : Int32) (a2 : Int32) (σ : Mm) : Option (Int32 × Mm) :=
  wh (fun a : Int32 × Mm => fX9_last_l26 a0 a1 a.1 a.2) BIG (a2, σ)
set_option maxRecDepth 20000 in
set_option maxHeartbeats 2000000 in
theorem tX9_last_w26 {X : XS} {n : Nat} {σ : Mm} {F : Nat × Option Value × Mm} {a0 : Nat} {a1 : Int32} {a2 : Int32} (ha0 : RT n a0 109) {res : Int32 × Mm} (h : fX9_last_w26 a0 a1 a2 σ = some res) (hr : ∀ (v : Int32) (s : Mm), res = (v, s) → F = (n, some (.int v), s)) : J X mX9_last 3 0 0 F 26 [(0, .ref a0), (1, .int a1), (2, .int a2)] [] n σ := by
  unfold fX9_last_w26 at h
  refine wh_rule (P := fun a : Int32 × Mm => J X mX9_last 3 0 0 F 26 [(0, .ref a0), (1, .int a1), (2, .int a.1)] [] n a.2) (K := fun b => b = res) ?_ _ _ _ h rfl
  intro a
  refine ⟨fun a2 hb hP => ?_, fun b hb hK => ?_⟩
  · exact tX9_last_l26 ha0 hb (fun _ _ e => by cases e; exact hP) (fun _ _ e => by cases e)
  · subst hK
    exact tX9_last_l26 ha0 hb (fun _ _ e => by cases e) (fun v0 v1 e => hr v0 v1 (Sum.inr.inj e))

def fX9_last (a0 : Nat) (a1 : Int32) (σ : Mm) : Option (Int32 × Mm) :=
  (gR σ a0 1).bind fun r1 => (fX1_hasPage r1 a1 σ).bind fun vk2 => if vk2 = 0 then some ((-1), σ) else (gR σ a0 8).bind fun r4 => (gR σ a0 7).bind fun r5 => (fX6_takeFrom r4 r5 σ).bind fun sk6 => (fX9_last_w26 a0 a1 0 sk6).bind (fun o14 => some o14)
set_option maxRecDepth 20000 in
set_option maxHeartbeats 2000000 in
theorem tX9_last {X : XS} {n : Nat} {σ : Mm} {a0 : Nat} {a1 : Int32} (ha0 : RT n a0 109) {res : Int32 × Mm} (h : fX9_last a0 a1 σ = some res) : MT X yX9_last mX9_last 3 0 0 [.ref a0, .int a1] n σ (n, some (.int res.1), res.2) := by
  unfold fX9_last at h
  refine MT_of (by decide +kernel) rfl (fun h => by cases h) (Nat.le_of_ble_eq_true rfl) ?_
  show J X mX9_last 3 0 0 (n, some (.int res.1), res.2) 0 [(0, .ref a0), (1, .int a1)] [] n σ
  refine J_aload_n (z := 0) dX9_last_0 rfl rfl (q := 1) rfl ?_
  obtain ⟨r1, er1, h⟩ := bindS h
  refine J_getR dX9_last_1 lRX9_21 ha0 rfl (by decide) er1 (q := 4) rfl (fun fr1 => ?_)
  refine J_iload_n (z := 1) dX9_last_4 rfl rfl (q := 5) rfl ?_
  obtain ⟨vk2, hk2, h⟩ := bindS h
  refine J_cVi (as := [.int a1]) dX9_last_5 mRX9_169 fr1 (tX1_hasPage fr1 hk2) rfl (Nat.le_of_ble_eq_true rfl) (Nat.le_of_ble_eq_true rfl) (Nat.le_of_ble_eq_true rfl) (q := 8) rfl ?_
  intro bk2
  refine J_if_ne (tgt := 13) dX9_last_8 (by decide) (q := 11) rfl (fun c2 => ?_) (fun c2 => ?_)
  · rw [if_neg c2] at h
    refine J_aload_n (z := 0) dX9_last_13 rfl rfl (q := 14) rfl ?_
    obtain ⟨r4, er4, h⟩ := bindS h
    refine J_getR dX9_last_14 lRX9_67 ha0 rfl (by decide) er4 (q := 17) rfl (fun fr4 => ?_)
    refine J_aload_n (z := 0) dX9_last_17 rfl rfl (q := 18) rfl ?_
    obtain ⟨r5, er5, h⟩ := bindS h
    refine J_getR dX9_last_18 lRX9_63 ha0 rfl (by decide) er5 (q := 21) rfl (fun fr5 => ?_)
    obtain ⟨sk6, hk6, h⟩ := bindS h
    refine J_cVv (as := [.ref r5]) dX9_last_21 mRX9_308 fr4 (tX6_takeFrom fr4 fr5 hk6) rfl (Nat.le_of_ble_eq_true rfl) (Nat.le_of_ble_eq_true rfl) (Nat.le_of_ble_eq_true rfl) (q := 24) rfl ?_
    refine J_iconst (x := 0) dX9_last_24 (by decide) (q := 25) rfl ?_
    refine J_istore_n (lv' := [(2, .int 0), (0, .ref a0), (1, .int a1)]) dX9_last_25 rfl (by decide) rfl (q := 26) rfl ?_
    obtain ⟨o14, hlo14, h⟩ := bindS h
    refine J_pick [1, 2, 0] rfl ?_
    refine tX9_last_w26 ha0 hlo14 ?_
    · intro vo14 so14 qo14
      rw [qo14] at h
      try dsimp only [Sum.elim_inl, Sum.elim_inr] at h
      have h := Option.some.inj h
      subst h
      rfl
  · rw [if_pos c2] at h
    refine J_iconst (x := (-1)) dX9_last_11 (by decide) (q := 12) rfl ?_
    have h := Option.some.inj h
    subst h
    exact J_ireturn dX9_last_12 rfl rfl rfl

def fX9_isBook (a0 : Int32) (σ : Mm) : Option (Int32) :=
  if a0 < 0 then some 0 else if 5 ≤ a0 then some 0 else some 1
set_option maxRecDepth 20000 in
set_option maxHeartbeats 2000000 in
theorem tX9_isBook {X : XS} {n : Nat} {σ : Mm} {a0 : Int32} {res : Int32} (h : fX9_isBook a0 σ = some res) : MT X yX9_isBook mX9_isBook 1 0 0 [.int a0] n σ (n, some (.int res), σ) := by
  unfold fX9_isBook at h
  refine MT_of (by decide +kernel) rfl (fun h => by cases h) (Nat.le_of_ble_eq_true rfl) ?_
  show J X mX9_isBook 1 0 0 (n, some (.int res), σ) 0 [(0, .int a0)] [] n σ
  refine J_iload_n (z := 0) dX9_isBook_0 rfl rfl (q := 1) rfl ?_
  refine J_if_lt (tgt := 13) dX9_isBook_1 (by decide) (q := 4) rfl (fun c0 => ?_) (fun c0 => ?_)
  · rw [if_pos c0] at h
    refine J_iconst (x := 0) dX9_isBook_13 (by decide) (q := 14) rfl ?_
    have h := Option.some.inj h
    subst h
    exact J_ireturn dX9_isBook_14 rfl rfl rfl
  · rw [if_neg c0] at h
    refine J_iload_n (z := 0) dX9_isBook_4 rfl rfl (q := 5) rfl ?_
    refine J_iconst (x := 5) dX9_isBook_5 (by decide) (q := 6) rfl ?_
    refine J_icmp_ge (tgt := 13) dX9_isBook_6 (by decide) (q := 9) rfl (fun c1 => ?_) (fun c1 => ?_)
    · rw [if_pos c1] at h
      refine J_iconst (x := 0) dX9_isBook_13 (by decide) (q := 14) rfl ?_
      have h := Option.some.inj h
      subst h
      exact J_ireturn dX9_isBook_14 rfl rfl rfl
    · rw [if_neg c1] at h
      refine J_iconst (x := 1) dX9_isBook_9 (by decide) (q := 10) rfl ?_
      refine J_goto (tgt := 14) dX9_isBook_10 (by decide) ?_
      have h := Option.some.inj h
      subst h
      exact J_ireturn dX9_isBook_14 rfl rfl rfl

def fX9_order_b27 (σ : Mm) : Option (Int32 × Mm) :=
  some ((-1000000), σ)
set_option maxRecDepth 20000 in
set_option maxHeartbeats 2000000 in
theorem tX9_order_b27 {X : XS} {n : Nat} {σ : Mm} {res : Int32 × Mm} (h : fX9_order_b27  σ = some res) : J X mX9_order 108 0 0 (n, some (.int res.1), res.2) 27 [] [] n σ := by
  unfold fX9_order_b27 at h
  refine J_ldcw (x := (-1000000)) dX9_order_27 kRX9_307 (q := 30) rfl ?_
  have h := Option.some.inj h
  subst h
  exact J_ireturn dX9_order_30 rfl rfl rfl

def fX9_order (a0 : Nat) (a1 : Int32) (a2 : Int32) (a3 : Int32) (σ : Mm) : Option (Int32 × Mm) :=
  (gR σ a0 1).bind fun r1 => (fX1_hasReader r1 a1 σ).bind fun vk2 => if vk2 = 0 then fX9_order_b27  σ else (fX9_isBook a2 σ).bind fun vk4 => if vk4 = 0 then fX9_order_b27  σ else if a3 < 0 then fX9_order_b27  σ else if a3 ≤ 1 then (gR σ a0 4).bind fun r8 => (gR σ a0 7).bind fun r9 => bnd2 (fX0_findOrder r8 r9 a1 a2 σ) fun vk10 sk10 => if vk10 = 0 then some ((-1000000), sk10) else if a3 = 0 then (gR sk10 a0 4).bind fun r14 => some ((gI sk10 r14 6), sk10) else (gR sk10 a0 4).bind fun r13 => some ((gI sk10 r13 7), sk10) else fX9_order_b27  σ
set_option maxRecDepth 20000 in
set_option maxHeartbeats 2000000 in
theorem tX9_order {X : XS} {n : Nat} {σ : Mm} {a0 : Nat} {a1 : Int32} {a2 : Int32} {a3 : Int32} (ha0 : RT n a0 109) {res : Int32 × Mm} (h : fX9_order a0 a1 a2 a3 σ = some res) : MT X yX9_order mX9_order 108 0 0 [.ref a0, .int a1, .int a2, .int a3] n σ (n, some (.int res.1), res.2) := by
  unfold fX9_order at h
  refine MT_of (by decide +kernel) rfl (fun h => by cases h) (Nat.le_of_ble_eq_true rfl) ?_
  show J X mX9_order 108 0 0 (n, some (.int res.1), res.2) 0 [(0, .ref a0), (1, .int a1), (2, .int a2), (3, .int a3)] [] n σ
  refine J_aload_n (z := 0) dX9_order_0 rfl rfl (q := 1) rfl ?_
  obtain ⟨r1, er1, h⟩ := bindS h
  refine J_getR dX9_order_1 lRX9_21 ha0 rfl (by decide) er1 (q := 4) rfl (fun fr1 => ?_)
  refine J_iload_n (z := 1) dX9_order_4 rfl rfl (q := 5) rfl ?_
  obtain ⟨vk2, hk2, h⟩ := bindS h
  refine J_cVi (as := [.int a1]) dX9_order_5 mRX9_185 fr1 (tX1_hasReader fr1 hk2) rfl (Nat.le_of_ble_eq_true rfl) (Nat.le_of_ble_eq_true rfl) (Nat.le_of_ble_eq_true rfl) (q := 8) rfl ?_
  intro bk2
  refine J_if_eq (tgt := 27) dX9_order_8 (by decide) (q := 11) rfl (fun c2 => ?_) (fun c2 => ?_)
  · rw [if_pos c2] at h
    refine J_pick [] rfl ?_
    exact tX9_order_b27  h
  · rw [if_neg c2] at h
    refine J_iload_n (z := 2) dX9_order_11 rfl rfl (q := 12) rfl ?_
    obtain ⟨vk4, hk4, h⟩ := bindS h
    refine J_cSi (as := [.int a2]) dX9_order_12 mRX9_334 (tX9_isBook  hk4) rfl (Nat.le_of_ble_eq_true rfl) (Nat.le_of_ble_eq_true rfl) (Nat.le_of_ble_eq_true rfl) (q := 15) rfl ?_
    intro bk4
    refine J_if_eq (tgt := 27) dX9_order_15 (by decide) (q := 18) rfl (fun c4 => ?_) (fun c4 => ?_)
    · rw [if_pos c4] at h
      refine J_pick [] rfl ?_
      exact tX9_order_b27  h
    · rw [if_neg c4] at h
      refine J_iload_n (z := 3) dX9_order_18 rfl rfl (q := 19) rfl ?_
      refine J_if_lt (tgt := 27) dX9_order_19 (by decide) (q := 22) rfl (fun c5 => ?_) (fun c5 => ?_)
      · rw [if_pos c5] at h
        refine J_pick [] rfl ?_
        exact tX9_order_b27  h
      · rw [if_neg c5] at h
        refine J_iload_n (z := 3) dX9_order_22 rfl rfl (q := 23) rfl ?_
        refine J_iconst (x := 1) dX9_order_23 (by decide) (q := 24) rfl ?_
        refine J_icmp_le (tgt := 31) dX9_order_24 (by decide) (q := 27) rfl (fun c6 => ?_) (fun c6 => ?_)
        · rw [if_pos c6] at h
          refine J_aload_n (z := 0) dX9_order_31 rfl rfl (q := 32) rfl ?_
          obtain ⟨r8, er8, h⟩ := bindS h
          refine J_getR dX9_order_32 lRX9_42 ha0 rfl (by decide) er8 (q := 35) rfl (fun fr8 => ?_)
          refine J_aload_n (z := 0) dX9_order_35 rfl rfl (q := 36) rfl ?_
          obtain ⟨r9, er9, h⟩ := bindS h
          refine J_getR dX9_order_36 lRX9_63 ha0 rfl (by decide) er9 (q := 39) rfl (fun fr9 => ?_)
          refine J_iload_n (z := 1) dX9_order_39 rfl rfl (q := 40) rfl ?_
          refine J_iload_n (z := 2) dX9_order_40 rfl rfl (q := 41) rfl ?_
          obtain ⟨vk10, sk10, hk10, h⟩ := bnd2S h
          refine J_cVi (as := [.ref r9, .int a1, .int a2]) dX9_order_41 mRX9_337 fr8 (tX0_findOrder fr8 fr9 hk10) rfl (Nat.le_of_ble_eq_true rfl) (Nat.le_of_ble_eq_true rfl) (Nat.le_of_ble_eq_true rfl) (q := 44) rfl ?_
          intro bk10
          refine J_if_ne (tgt := 51) dX9_order_44 (by decide) (q := 47) rfl (fun c10 => ?_) (fun c10 => ?_)
          · rw [if_neg c10] at h
            refine J_iload_n (z := 3) dX9_order_51 rfl rfl (q := 52) rfl ?_
            refine J_if_ne (tgt := 65) dX9_order_52 (by decide) (q := 55) rfl (fun c11 => ?_) (fun c11 => ?_)
            · rw [if_neg c11] at h
              refine J_aload_n (z := 0) dX9_order_65 rfl rfl (q := 66) rfl ?_
              obtain ⟨r13, er13, h⟩ := bindS h
              refine J_getR dX9_order_66 lRX9_42 ha0 rfl (by decide) er13 (q := 69) rfl (fun fr13 => ?_)
              refine J_getI dX9_order_69 lRX9_344 fr13 rfl (q := 72) rfl ?_
              have h := Option.some.inj h
              subst h
              exact J_ireturn dX9_order_72 rfl rfl rfl
            · rw [if_pos c11] at h
              refine J_aload_n (z := 0) dX9_order_55 rfl rfl (q := 56) rfl ?_
              obtain ⟨r14, er14, h⟩ := bindS h
              refine J_getR dX9_order_56 lRX9_42 ha0 rfl (by decide) er14 (q := 59) rfl (fun fr14 => ?_)
              refine J_getI dX9_order_59 lRX9_341 fr14 rfl (q := 62) rfl ?_
              refine J_goto (tgt := 72) dX9_order_62 (by decide) ?_
              have h := Option.some.inj h
              subst h
              exact J_ireturn dX9_order_72 rfl rfl rfl
          · rw [if_pos c10] at h
            refine J_ldcw (x := (-1000000)) dX9_order_47 kRX9_307 (q := 50) rfl ?_
            have h := Option.some.inj h
            subst h
            exact J_ireturn dX9_order_50 rfl rfl rfl
        · rw [if_neg c6] at h
          refine J_pick [] rfl ?_
          exact tX9_order_b27  h

def fX9_share (a0 : Nat) (a1 : Int32) (a2 : Int32) (σ : Mm) : Option (Int32 × Mm) :=
  (gR σ a0 1).bind fun r1 => (fX1_isOpen r1 σ).bind fun vk2 => if vk2 = 0 then some ((-1), σ) else (fX9_isBook a1 σ).bind fun vk4 => if vk4 = 0 then some ((-1), σ) else if a2 < 0 then some ((-1), σ) else if a2 ≤ 1 then (gR σ a0 4).bind fun r8 => (gR σ a0 7).bind fun r9 => bnd2 (fX0_findShare r8 r9 a1 σ) fun vk10 sk10 => if a2 = 0 then (fJ6_bitCount_0f7a4 vk10 sk10).bind fun vk14 => some (vk14, sk10) else (gR sk10 a0 4).bind fun r12 => (fX0_shareLoss r12 vk10 sk10).bind fun vk13 => some (vk13, sk10) else some ((-1), σ)
set_option maxRecDepth 20000 in
set_option maxHeartbeats 2000000 in
theorem tX9_share {X : XS} {n : Nat} {σ : Mm} {a0 : Nat} {a1 : Int32} {a2 : Int32} (ha0 : RT n a0 109) {res : Int32 × Mm} (h : fX9_share a0 a1 a2 σ = some res) : MT X yX9_share mX9_share 7 0 0 [.ref a0, .int a1, .int a2] n σ (n, some (.int res.1), res.2) := by
  unfold fX9_share at h
  refine MT_of (by decide +kernel) rfl (fun h => by cases h) (Nat.le_of_ble_eq_true rfl) ?_
  show J X mX9_share 7 0 0 (n, some (.int res.1), res.2) 0 [(0, .ref a0), (1, .int a1), (2, .int a2)] [] n σ
  refine J_aload_n (z := 0) dX9_share_0 rfl rfl (q := 1) rfl ?_
  obtain ⟨r1, er1, h⟩ := bindS h
  refine J_getR dX9_share_1 lRX9_21 ha0 rfl (by decide) er1 (q := 4) rfl (fun fr1 => ?_)
  obtain ⟨vk2, hk2, h⟩ := bindS h
  refine J_cVi (as := []) dX9_share_4 mRX9_151 fr1 (tX1_isOpen fr1 hk2) rfl (Nat.le_of_ble_eq_true rfl) (Nat.le_of_ble_eq_true rfl) (Nat.le_of_ble_eq_true rfl) (q := 7) rfl ?_
  intro bk2
  refine J_if_eq (tgt := 26) dX9_share_7 (by decide) (q := 10) rfl (fun c2 => ?_) (fun c2 => ?_)
  · rw [if_pos c2] at h
    refine J_iconst (x := (-1)) dX9_share_26 (by decide) (q := 27) rfl ?_
    have h := Option.some.inj h
    subst h
    exact J_ireturn dX9_share_27 rfl rfl rfl
  · rw [if_neg c2] at h
    refine J_iload_n (z := 1) dX9_share_10 rfl rfl (q := 11) rfl ?_
    obtain ⟨vk4, hk4, h⟩ := bindS h
    refine J_cSi (as := [.int a1]) dX9_share_11 mRX9_334 (tX9_isBook  hk4) rfl (Nat.le_of_ble_eq_true rfl) (Nat.le_of_ble_eq_true rfl) (Nat.le_of_ble_eq_true rfl) (q := 14) rfl ?_
    intro bk4
    refine J_if_eq (tgt := 26) dX9_share_14 (by decide) (q := 17) rfl (fun c4 => ?_) (fun c4 => ?_)
    · rw [if_pos c4] at h
      refine J_iconst (x := (-1)) dX9_share_26 (by decide) (q := 27) rfl ?_
      have h := Option.some.inj h
      subst h
      exact J_ireturn dX9_share_27 rfl rfl rfl
    · rw [if_neg c4] at h
      refine J_iload_n (z := 2) dX9_share_17 rfl rfl (q := 18) rfl ?_
      refine J_if_lt (tgt := 26) dX9_share_18 (by decide) (q := 21) rfl (fun c5 => ?_) (fun c5 => ?_)
      · rw [if_pos c5] at h
        refine J_iconst (x := (-1)) dX9_share_26 (by decide) (q := 27) rfl ?_
        have h := Option.some.inj h
        subst h
        exact J_ireturn dX9_share_27 rfl rfl rfl
      · rw [if_neg c5] at h
        refine J_iload_n (z := 2) dX9_share_21 rfl rfl (q := 22) rfl ?_
        refine J_iconst (x := 1) dX9_share_22 (by decide) (q := 23) rfl ?_
        refine J_icmp_le (tgt := 28) dX9_share_23 (by decide) (q := 26) rfl (fun c6 => ?_) (fun c6 => ?_)
        · rw [if_pos c6] at h
          refine J_aload_n (z := 0) dX9_share_28 rfl rfl (q := 29) rfl ?_
          obtain ⟨r8, er8, h⟩ := bindS h
          refine J_getR dX9_share_29 lRX9_42 ha0 rfl (by decide) er8 (q := 32) rfl (fun fr8 => ?_)
          refine J_aload_n (z := 0) dX9_share_32 rfl rfl (q := 33) rfl ?_
          obtain ⟨r9, er9, h⟩ := bindS h
          refine J_getR dX9_share_33 lRX9_63 ha0 rfl (by decide) er9 (q := 36) rfl (fun fr9 => ?_)
          refine J_iload_n (z := 1) dX9_share_36 rfl rfl (q := 37) rfl ?_
          obtain ⟨vk10, sk10, hk10, h⟩ := bnd2S h
          refine J_cVi (as := [.ref r9, .int a1]) dX9_share_37 mRX9_347 fr8 (tX0_findShare fr8 fr9 hk10) rfl (Nat.le_of_ble_eq_true rfl) (Nat.le_of_ble_eq_true rfl) (Nat.le_of_ble_eq_true rfl) (q := 40) rfl ?_
          intro bk10
          refine J_istore_n (lv' := [(3, .int vk10), (0, .ref a0), (1, .int a1), (2, .int a2)]) dX9_share_40 rfl (by decide) rfl (q := 41) rfl ?_
          refine J_iload_n (z := 3) dX9_share_41 rfl rfl (q := 42) rfl ?_
          refine J_if_ne (tgt := 52) dX9_share_42 (by decide) (q := 45) rfl (fun c10 => ?_) (fun c10 => ?_)
          · rw [if_neg c10] at h
            refine J_aload_n (z := 1) dX9_share_52 rfl rfl (q := 53) rfl ?_
            obtain ⟨r12, er12, h⟩ := bindS h
            refine J_getR dX9_share_53 lRX9_42 ha0 rfl (by decide) er12 (q := 56) rfl (fun fr12 => ?_)
            refine J_iload_n (z := 0) dX9_share_56 rfl rfl (q := 57) rfl ?_
            obtain ⟨vk13, hk13, h⟩ := bindS h
            refine J_cVi (as := [.int vk10]) dX9_share_57 mRX9_351 fr12 (tX0_shareLoss fr12 hk13) rfl (Nat.le_of_ble_eq_true rfl) (Nat.le_of_ble_eq_true rfl) (Nat.le_of_ble_eq_true rfl) (q := 60) rfl ?_
            intro bk13
            have h := Option.some.inj h
            subst h
            exact J_ireturn dX9_share_60 rfl rfl rfl
          · rw [if_pos c10] at h
            refine J_iload_n (z := 0) dX9_share_45 rfl rfl (q := 46) rfl ?_
            obtain ⟨vk14, hk14, h⟩ := bindS h
            refine J_cSi (as := [.int vk10]) dX9_share_46 mRX9_261 (tJ6_bitCount_0f7a4  hk14) rfl (Nat.le_of_ble_eq_true rfl) (Nat.le_of_ble_eq_true rfl) (Nat.le_of_ble_eq_true rfl) (q := 49) rfl ?_
            intro bk14
            refine J_goto (tgt := 60) dX9_share_49 (by decide) ?_
            have h := Option.some.inj h
            subst h
            exact J_ireturn dX9_share_60 rfl rfl rfl
        · rw [if_neg c6] at h
          refine J_iconst (x := (-1)) dX9_share_26 (by decide) (q := 27) rfl ?_
          have h := Option.some.inj h
          subst h
          exact J_ireturn dX9_share_27 rfl rfl rfl

def fX9_who (a0 : Nat) (a1 : Int32) (σ : Mm) : Option (Int32) :=
  (gR σ a0 1).bind fun r1 => (fX1_isOpen r1 σ).bind fun vk2 => if vk2 = 0 then some (-1) else (fX9_isBook a1 σ).bind fun vk4 => if vk4 = 0 then some (-1) else (gR σ a0 4).bind fun r6 => (gR σ a0 7).bind fun r7 => (fX0_fewestWhoKnow r6 r7 a1 σ).bind fun vk8 => some vk8
set_option maxRecDepth 20000 in
set_option maxHeartbeats 2000000 in
theorem tX9_who {X : XS} {n : Nat} {σ : Mm} {a0 : Nat} {a1 : Int32} (ha0 : RT n a0 109) {res : Int32} (h : fX9_who a0 a1 σ = some res) : MT X yX9_who mX9_who 6 0 0 [.ref a0, .int a1] n σ (n, some (.int res), σ) := by
  unfold fX9_who at h
  refine MT_of (by decide +kernel) rfl (fun h => by cases h) (Nat.le_of_ble_eq_true rfl) ?_
  show J X mX9_who 6 0 0 (n, some (.int res), σ) 0 [(0, .ref a0), (1, .int a1)] [] n σ
  refine J_aload_n (z := 0) dX9_who_0 rfl rfl (q := 1) rfl ?_
  obtain ⟨r1, er1, h⟩ := bindS h
  refine J_getR dX9_who_1 lRX9_21 ha0 rfl (by decide) er1 (q := 4) rfl (fun fr1 => ?_)
  obtain ⟨vk2, hk2, h⟩ := bindS h
  refine J_cVi (as := []) dX9_who_4 mRX9_151 fr1 (tX1_isOpen fr1 hk2) rfl (Nat.le_of_ble_eq_true rfl) (Nat.le_of_ble_eq_true rfl) (Nat.le_of_ble_eq_true rfl) (q := 7) rfl ?_
  intro bk2
  refine J_if_eq (tgt := 32) dX9_who_7 (by decide) (q := 10) rfl (fun c2 => ?_) (fun c2 => ?_)
  · rw [if_pos c2] at h
    refine J_iconst (x := (-1)) dX9_who_32 (by decide) (q := 33) rfl ?_
    have h := Option.some.inj h
    subst h
    exact J_ireturn dX9_who_33 rfl rfl rfl
  · rw [if_neg c2] at h
    refine J_iload_n (z := 1) dX9_who_10 rfl rfl (q := 11) rfl ?_
    obtain ⟨vk4, hk4, h⟩ := bindS h
    refine J_cSi (as := [.int a1]) dX9_who_11 mRX9_334 (tX9_isBook  hk4) rfl (Nat.le_of_ble_eq_true rfl) (Nat.le_of_ble_eq_true rfl) (Nat.le_of_ble_eq_true rfl) (q := 14) rfl ?_
    intro bk4
    refine J_if_eq (tgt := 32) dX9_who_14 (by decide) (q := 17) rfl (fun c4 => ?_) (fun c4 => ?_)
    · rw [if_pos c4] at h
      refine J_iconst (x := (-1)) dX9_who_32 (by decide) (q := 33) rfl ?_
      have h := Option.some.inj h
      subst h
      exact J_ireturn dX9_who_33 rfl rfl rfl
    · rw [if_neg c4] at h
      refine J_aload_n (z := 0) dX9_who_17 rfl rfl (q := 18) rfl ?_
      obtain ⟨r6, er6, h⟩ := bindS h
      refine J_getR dX9_who_18 lRX9_42 ha0 rfl (by decide) er6 (q := 21) rfl (fun fr6 => ?_)
      refine J_aload_n (z := 0) dX9_who_21 rfl rfl (q := 22) rfl ?_
      obtain ⟨r7, er7, h⟩ := bindS h
      refine J_getR dX9_who_22 lRX9_63 ha0 rfl (by decide) er7 (q := 25) rfl (fun fr7 => ?_)
      refine J_iload_n (z := 1) dX9_who_25 rfl rfl (q := 26) rfl ?_
      obtain ⟨vk8, hk8, h⟩ := bindS h
      refine J_cVi (as := [.ref r7, .int a1]) dX9_who_26 mRX9_354 fr6 (tX0_fewestWhoKnow fr6 fr7 hk8) rfl (Nat.le_of_ble_eq_true rfl) (Nat.le_of_ble_eq_true rfl) (Nat.le_of_ble_eq_true rfl) (q := 29) rfl ?_
      intro bk8
      refine J_goto (tgt := 33) dX9_who_29 (by decide) ?_
      have h := Option.some.inj h
      subst h
      exact J_ireturn dX9_who_33 rfl rfl rfl

def fX9_first_b84 (a0 : Nat) (a1 : Int32) (a2 : Int32) (a3 : Int32) (σ : Mm) : Option ((Int32 × Int32) ⊕ (Int32)) :=
  some (Sum.inl (a2, (a3 + 1)))
set_option maxRecDepth 20000 in
set_option maxHeartbeats 2000000 in
theorem tX9_first_b84 {X : XS} {n : Nat} {σ : Mm} {F : Nat × Option Value × Mm} {a0 : Nat} {a1 : Int32} {a2 : Int32} {a3 : Int32} (ha0 : RT n a0 109) {res : (Int32 × Int32) ⊕ (Int32)} (h : fX9_first_b84 a0 a1 a2 a3 σ = some res) (hc : ∀ (b2 : Int32) (b3 : Int32), res = .inl (b2, b3) → J X mX9_first 5 0 0 F 16 [(0, .ref a0), (1, .int a1), (2, .int b2), (3, .int b3)] [] n σ) (hr : ∀ (v : Int32), res = .inr v → F = (n, some (.int v), σ)) : J X mX9_first 5 0 0 F 84 [(0, .ref a0), (1, .int a1), (2, .int a2), (3, .int a3)] [] n σ := by
  unfold fX9_first_b84 at h
  refine J_iinc (z := 3) (y := (a3 + 1)) (lv' := [(3, .int (a3 + 1)), (0, .ref a0), (1, .int a1), (2, .int a2)]) dX9_first_84 rfl rfl (by decide) rfl (q := 87) rfl ?_
  refine J_goto (tgt := 16) dX9_first_87 (by decide) ?_
  have h := Option.some.inj h
  refine J_pick [1, 2, 3, 0] rfl ?_
  exact hc _ _ h.symm

def fX9_first_b82 (a0 : Nat) (a1 : Int32) (a3 : Int32) (σ : Mm) : Option ((Int32 × Int32) ⊕ (Int32)) :=
  fX9_first_b84 a0 a1 a3 a3 σ
set_option maxRecDepth 20000 in
set_option maxHeartbeats 2000000 in
theorem tX9_first_b82 {X : XS} {n : Nat} {σ : Mm} {F : Nat × Option Value × Mm} {a0 : Nat} {a1 : Int32} {a3 : Int32} (ha0 : RT n a0 109) {res : (Int32 × Int32) ⊕ (Int32)} (h : fX9_first_b82 a0 a1 a3 σ = some res) (hc : ∀ (b2 : Int32) (b3 : Int32), res = .inl (b2, b3) → J X mX9_first 5 0 0 F 16 [(0, .ref a0), (1, .int a1), (2, .int b2), (3, .int b3)] [] n σ) (hr : ∀ (v : Int32), res = .inr v → F = (n, some (.int v), σ)) : J X mX9_first 5 0 0 F 82 [(0, .ref a0), (1, .int a1), (3, .int a3)] [] n σ := by
  unfold fX9_first_b82 at h
  refine J_iload_n (z := 2) dX9_first_82 rfl rfl (q := 83) rfl ?_
  refine J_istore_n (lv' := [(2, .int a3), (0, .ref a0), (1, .int a1), (3, .int a3)]) dX9_first_83 rfl (by decide) rfl (q := 84) rfl ?_
  refine J_pick [1, 2, 0, 3] rfl ?_
  exact tX9_first_b84 ha0 h hc hr

def fX9_first_b49 (a0 : Nat) (a1 : Int32) (a2 : Int32) (a3 : Int32) (z0 : Int32) (σ : Mm) : Option ((Int32 × Int32) ⊕ (Int32)) :=
  if z0 = 0 then fX9_first_b84 a0 a1 a2 a3 σ else if a2 = (-1) then fX9_first_b82 a0 a1 a3 σ else (gR σ a0 7).bind fun r10 => (gR σ r10 0).bind fun r11 => if ixB a3 (ln r11) = true then if ixB a2 (ln r11) = true then if (gI σ r11 (Int32.toNatClampNeg a2)) ≤ (gI σ r11 (Int32.toNatClampNeg a3)) then fX9_first_b84 a0 a1 a2 a3 σ else fX9_first_b82 a0 a1 a3 σ else none else none
set_option maxRecDepth 20000 in
set_option maxHeartbeats 2000000 in
theorem tX9_first_b49 {X : XS} {n : Nat} {σ : Mm} {F : Nat × Option Value × Mm} {a0 : Nat} {a1 : Int32} {a2 : Int32} {a3 : Int32} {z0 : Int32} (ha0 : RT n a0 109) {res : (Int32 × Int32) ⊕ (Int32)} (h : fX9_first_b49 a0 a1 a2 a3 z0 σ = some res) (hc : ∀ (b2 : Int32) (b3 : Int32), res = .inl (b2, b3) → J X mX9_first 5 0 0 F 16 [(0, .ref a0), (1, .int a1), (2, .int b2), (3, .int b3)] [] n σ) (hr : ∀ (v : Int32), res = .inr v → F = (n, some (.int v), σ)) : J X mX9_first 5 0 0 F 49 [(0, .ref a0), (1, .int a1), (2, .int a2), (3, .int a3)] [.int z0] n σ := by
  unfold fX9_first_b49 at h
  refine J_istore (lv' := [(4, .int z0), (0, .ref a0), (1, .int a1), (2, .int a2), (3, .int a3)]) dX9_first_49 (by decide) rfl (q := 51) rfl ?_
  refine J_iload (z := 0) dX9_first_51 rfl (q := 53) rfl ?_
  refine J_if_eq (tgt := 84) dX9_first_53 (by decide) (q := 56) rfl (fun c7 => ?_) (fun c7 => ?_)
  · rw [if_pos c7] at h
    refine J_pick [1, 2, 3, 4] rfl ?_
    exact tX9_first_b84 ha0 h hc hr
  · rw [if_neg c7] at h
    refine J_iload_n (z := 3) dX9_first_56 rfl rfl (q := 57) rfl ?_
    refine J_iconst (x := (-1)) dX9_first_57 (by decide) (q := 58) rfl ?_
    refine J_icmp_eq (tgt := 82) dX9_first_58 (by decide) (q := 61) rfl (fun c8 => ?_) (fun c8 => ?_)
    · rw [if_pos c8] at h
      refine J_pick [1, 2, 4] rfl ?_
      exact tX9_first_b82 ha0 h hc hr
    · rw [if_neg c8] at h
      refine J_aload_n (z := 1) dX9_first_61 rfl rfl (q := 62) rfl ?_
      obtain ⟨r10, er10, h⟩ := bindS h
      refine J_getR dX9_first_62 lRX9_63 ha0 rfl (by decide) er10 (q := 65) rfl (fun fr10 => ?_)
      obtain ⟨r11, er11, h⟩ := bindS h
      refine J_getR dX9_first_65 lRX9_175 fr10 rfl (by decide) er11 (q := 68) rfl (fun fr11 => ?_)
      refine J_iload_n (z := 4) dX9_first_68 rfl rfl (q := 69) rfl ?_
      obtain ⟨g12, h⟩ := iteS h
      refine J_iald dX9_first_69 fr11 (ixB_ok g12) (q := 70) rfl ?_
      refine J_aload_n (z := 1) dX9_first_70 rfl rfl (q := 71) rfl ?_
      refine J_getR dX9_first_71 lRX9_63 ha0 rfl (by decide) er10 (q := 74) rfl (fun _ => ?_)
      refine J_getR dX9_first_74 lRX9_175 fr10 rfl (by decide) er11 (q := 77) rfl (fun _ => ?_)
      refine J_iload_n (z := 3) dX9_first_77 rfl rfl (q := 78) rfl ?_
      obtain ⟨g13, h⟩ := iteS h
      refine J_iald dX9_first_78 fr11 (ixB_ok g13) (q := 79) rfl ?_
      refine J_icmp_ge (tgt := 84) dX9_first_79 (by decide) (q := 82) rfl (fun c13 => ?_) (fun c13 => ?_)
      · rw [if_pos c13] at h
        refine J_pick [1, 2, 3, 4] rfl ?_
        exact tX9_first_b84 ha0 h hc hr
      · rw [if_neg c13] at h
        refine J_pick [1, 2, 4] rfl ?_
        exact tX9_first_b82 ha0 h hc hr

def fX9_first_b48 (a0 : Nat) (a1 : Int32) (a2 : Int32) (a3 : Int32) (σ : Mm) : Option ((Int32 × Int32) ⊕ (Int32)) :=
  fX9_first_b49 a0 a1 a2 a3 0 σ
set_option maxRecDepth 20000 in
set_option maxHeartbeats 2000000 in
theorem tX9_first_b48 {X : XS} {n : Nat} {σ : Mm} {F : Nat × Option Value × Mm} {a0 : Nat} {a1 : Int32} {a2 : Int32} {a3 : Int32} (ha0 : RT n a0 109) {res : (Int32 × Int32) ⊕ (Int32)} (h : fX9_first_b48 a0 a1 a2 a3 σ = some res) (hc : ∀ (b2 : Int32) (b3 : Int32), res = .inl (b2, b3) → J X mX9_first 5 0 0 F 16 [(0, .ref a0), (1, .int a1), (2, .int b2), (3, .int b3)] [] n σ) (hr : ∀ (v : Int32), res = .inr v → F = (n, some (.int v), σ)) : J X mX9_first 5 0 0 F 48 [(0, .ref a0), (1, .int a1), (2, .int a2), (3, .int a3)] [] n σ := by
  unfold fX9_first_b48 at h
  refine J_iconst (x := 0) dX9_first_48 (by decide) (q := 49) rfl ?_
  refine J_pick [0, 1, 2, 3] rfl ?_
  exact tX9_first_b49 ha0 h hc hr

def fX9_first_l16 (a0 : Nat) (a1 : Int32) (a2 : Int32) (a3 : Int32) (σ : Mm) : Option ((Int32 × Int32) ⊕ (Int32)) :=
  (gR σ a0 1).bind fun r4 => if (gI σ r4 4) ≤ a3 then some (Sum.inr a2) else (fX9_isThere a0 a3 σ).bind fun vk6 => if vk6 = 0 then fX9_first_b48 a0 a1 a2 a3 σ else if ((shrI a1 a3) &&& 1) = 1 then fX9_first_b49 a0 a1 a2 a3 1 σ else fX9_first_b48 a0 a1 a2 a3 σ
set_option maxRecDepth 20000 in
set_option maxHeartbeats 2000000 in
theorem tX9_first_l16 {X : XS} {n : Nat} {σ : Mm} {F : Nat × Option Value × Mm} {a0 : Nat} {a1 : Int32} {a2 : Int32} {a3 : Int32} (ha0 : RT n a0 109) {res : (Int32 × Int32) ⊕ (Int32)} (h : fX9_first_l16 a0 a1 a2 a3 σ = some res) (hc : ∀ (b2 : Int32) (b3 : Int32), res = .inl (b2, b3) → J X mX9_first 5 0 0 F 16 [(0, .ref a0), (1, .int a1), (2, .int b2), (3, .int b3)] [] n σ) (hr : ∀ (v : Int32), res = .inr v → F = (n, some (.int v), σ)) : J X mX9_first 5 0 0 F 16 [(0, .ref a0), (1, .int a1), (2, .int a2), (3, .int a3)] [] n σ := by
  unfold fX9_first_l16 at h
  refine J_iload_n (z := 3) dX9_first_16 rfl rfl (q := 17) rfl ?_
  refine J_aload_n (z := 0) dX9_first_17 rfl rfl (q := 18) rfl ?_
  obtain ⟨r4, er4, h⟩ := bindS h
  refine J_getR dX9_first_18 lRX9_21 ha0 rfl (by decide) er4 (q := 21) rfl (fun fr4 => ?_)
  refine J_getI dX9_first_21 lRX9_148 fr4 rfl (q := 24) rfl ?_
  refine J_icmp_ge (tgt := 90) dX9_first_24 (by decide) (q := 27) rfl (fun c4 => ?_) (fun c4 => ?_)
  · rw [if_pos c4] at h
    refine J_iload_n (z := 2) dX9_first_90 rfl rfl (q := 91) rfl ?_
    have h := Option.some.inj h
    exact J_ireturn dX9_first_91 rfl rfl (hr _ h.symm)
  · rw [if_neg c4] at h
    refine J_aload_n (z := 0) dX9_first_27 rfl rfl (q := 28) rfl ?_
    refine J_iload_n (z := 3) dX9_first_28 rfl rfl (q := 29) rfl ?_
    obtain ⟨vk6, hk6, h⟩ := bindS h
    refine J_cVi (as := [.int a3]) dX9_first_29 mRX9_227 ha0 (tX9_isThere ha0 hk6) rfl (Nat.le_of_ble_eq_true rfl) (Nat.le_of_ble_eq_true rfl) (Nat.le_of_ble_eq_true rfl) (q := 32) rfl ?_
    intro bk6
    refine J_if_eq (tgt := 48) dX9_first_32 (by decide) (q := 35) rfl (fun c6 => ?_) (fun c6 => ?_)
    · rw [if_pos c6] at h
      refine J_pick [0, 1, 2, 3] rfl ?_
      exact tX9_first_b48 ha0 h hc hr
    · rw [if_neg c6] at h
      refine J_iload_n (z := 1) dX9_first_35 rfl rfl (q := 36) rfl ?_
      refine J_iload_n (z := 3) dX9_first_36 rfl rfl (q := 37) rfl ?_
      refine J_ishr dX9_first_37  (q := 38) rfl ?_
      refine J_iconst (x := 1) dX9_first_38 (by decide) (q := 39) rfl ?_
      refine J_iand dX9_first_39  (q := 40) rfl ?_
      refine J_iconst (x := 1) dX9_first_40 (by decide) (q := 41) rfl ?_
      refine J_icmp_ne (tgt := 48) dX9_first_41 (by decide) (q := 44) rfl (fun c14 => ?_) (fun c14 => ?_)
      · rw [if_neg c14] at h
        refine J_pick [0, 1, 2, 3] rfl ?_
        exact tX9_first_b48 ha0 h hc hr
      · rw [if_pos c14] at h
        refine J_iconst (x := 1) dX9_first_44 (by decide) (q := 45) rfl ?_
        refine J_goto (tgt := 49) dX9_first_45 (by decide) ?_
        refine J_pick [0, 1, 2, 3] rfl ?_
        exact tX9_first_b49 ha0 h hc hr

def fX9_first_w16 (a0 : Nat) (a1 : Int32) (a2 : Int32) (a3 : Int32) (σ : Mm) : Option (Int32) :=
  wh (fun a : Int32 × Int32 => fX9_first_l16 a0 a1 a.1 a.2 σ) BIG (a2, a3)
set_option maxRecDepth 20000 in
set_option maxHeartbeats 2000000 in
theorem tX9_first_w16 {X : XS} {n : Nat} {σ : Mm} {F : Nat × Option Value × Mm} {a0 : Nat} {a1 : Int32} {a2 : Int32} {a3 : Int32} (ha0 : RT n a0 109) {res : Int32} (h : fX9_first_w16 a0 a1 a2 a3 σ = some res) (hr : ∀ (v : Int32), res = v → F = (n, some (.int v), σ)) : J X mX9_first 5 0 0 F 16 [(0, .ref a0), (1, .int a1), (2, .int a2), (3, .int a3)] [] n σ := by
  unfold fX9_first_w16 at h
  refine wh_rule (P := fun a : Int32 × Int32 => J X mX9_first 5 0 0 F 16 [(0, .ref a0), (1, .int a1), (2, .int a.1), (3, .int a.2)] [] n σ) (K := fun b => b = res) ?_ _ _ _ h rfl
  intro a
  refine ⟨fun a2 hb hP => ?_, fun b hb hK => ?_⟩
  · exact tX9_first_l16 ha0 hb (fun _ _ e => by cases e; exact hP) (fun _ e => by cases e)
  · subst hK
    exact tX9_first_l16 ha0 hb (fun _ _ e => by cases e) (fun v0 e => hr v0 (Sum.inr.inj e))

def fX9_first (a0 : Nat) (σ : Mm) : Option (Int32) :=
  (gR σ a0 3).bind fun r1 => (gR σ a0 7).bind fun r2 => (fX8_pagesKnown r1 r2 σ).bind fun vk3 => (fX9_first_w16 a0 vk3 (-1) 0 σ).bind (fun o16 => some o16)
set_option maxRecDepth 20000 in
set_option maxHeartbeats 2000000 in
theorem tX9_first {X : XS} {n : Nat} {σ : Mm} {a0 : Nat} (ha0 : RT n a0 109) {res : Int32} (h : fX9_first a0 σ = some res) : MT X yX9_first mX9_first 5 0 0 [.ref a0] n σ (n, some (.int res), σ) := by
  unfold fX9_first at h
  refine MT_of (by decide +kernel) rfl (fun h => by cases h) (Nat.le_of_ble_eq_true rfl) ?_
  show J X mX9_first 5 0 0 (n, some (.int res), σ) 0 [(0, .ref a0)] [] n σ
  refine J_aload_n (z := 0) dX9_first_0 rfl rfl (q := 1) rfl ?_
  obtain ⟨r1, er1, h⟩ := bindS h
  refine J_getR dX9_first_1 lRX9_33 ha0 rfl (by decide) er1 (q := 4) rfl (fun fr1 => ?_)
  refine J_aload_n (z := 0) dX9_first_4 rfl rfl (q := 5) rfl ?_
  obtain ⟨r2, er2, h⟩ := bindS h
  refine J_getR dX9_first_5 lRX9_63 ha0 rfl (by decide) er2 (q := 8) rfl (fun fr2 => ?_)
  obtain ⟨vk3, hk3, h⟩ := bindS h
  refine J_cVi (as := [.ref r2]) dX9_first_8 mRX9_357 fr1 (tX8_pagesKnown fr1 fr2 hk3) rfl (Nat.le_of_ble_eq_true rfl) (Nat.le_of_ble_eq_true rfl) (Nat.le_of_ble_eq_true rfl) (q := 11) rfl ?_
  intro bk3
  refine J_istore_n (lv' := [(1, .int vk3), (0, .ref a0)]) dX9_first_11 rfl (by decide) rfl (q := 12) rfl ?_
  refine J_iconst (x := (-1)) dX9_first_12 (by decide) (q := 13) rfl ?_
  refine J_istore_n (lv' := [(2, .int (-1)), (1, .int vk3), (0, .ref a0)]) dX9_first_13 rfl (by decide) rfl (q := 14) rfl ?_
  refine J_iconst (x := 0) dX9_first_14 (by decide) (q := 15) rfl ?_
  refine J_istore_n (lv' := [(3, .int 0), (2, .int (-1)), (1, .int vk3), (0, .ref a0)]) dX9_first_15 rfl (by decide) rfl (q := 16) rfl ?_
  obtain ⟨o16, hlo16, h⟩ := bindS h
  refine J_pick [3, 2, 1, 0] rfl ?_
  refine tX9_first_w16 ha0 hlo16 ?_
  · intro vo16 qo16
    rw [qo16] at h
    try dsimp only [Sum.elim_inl, Sum.elim_inr] at h
    have h := Option.some.inj h
    subst h
    rfl

