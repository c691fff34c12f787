/-! what the start gives: classes, arrays' classes, constants -/
section StartS
variable {s : State} {args : Array Value}
theorem kn_one {own : String} {idx ci : Nat} (hW : ∀ w ∈ WS, w.before args s = true) (nl : NL own idx ci) : ∃ p : ClassId × (Nat → Nat), ∀ q, vwCl[ci]? = some q → u_Kn s q.1 q.2.1 q.2.2 p.1 p.2 := by
  obtain ⟨hci, C, T, N, ty, f1, f2, f3, f4, f5, f6, f7, f8⟩ := nl
  obtain ⟨cC, iS, h⟩ := u_known (C := C) (T := T) (N := N) hW f2 (hW _ f6)
  refine ⟨(cC, iS), fun q hq => ?_⟩
  rw [f1] at hq
  cases hq
  exact h
theorem kn_all (hW : ∀ w ∈ WS, w.before args s = true) : ∃ D : va_G, ∀ (c : Nat) (q : vw_C), vwCl[c]? = some q → u_Kn s q.1 q.2.1 q.2.2 (D.1 c) (D.2 c) := by
  have h : ∀ c : Nat, ∃ p : ClassId × (Nat → Nat), ∀ q, vwCl[c]? = some q → u_Kn s q.1 q.2.1 q.2.2 p.1 p.2 := by
    intro c
    have hc : c = 0 ∨ c = 1 ∨ c = 2 ∨ c = 3 ∨ c = 4 ∨ c = 5 ∨ c = 6 ∨ c = 7 ∨ c = 8 ∨ c = 9 ∨ c = 10 ∨ 11 ≤ c := by omega
    rcases hc with rfl | rfl | rfl | rfl | rfl | rfl | rfl | rfl | rfl | rfl | rfl | hc
    · exact kn_one hW nl_X9_37
    · exact kn_one hW nl_X9_16
    · exact kn_one hW nl_X9_77
    · exact kn_one hW nl_X9_46
    · exact kn_one hW nl_X9_70
    · exact kn_one hW nl_X9_53
    · exact kn_one hW nl_X9_60
    · exact kn_one hW nl_X9_7
    · exact kn_one hW nl_X9_28
    · exact kn_one hW nl_L_8
    · exact kn_one hW nl_L_16
    · refine ⟨(0, fun _ => 0), fun q hq => ?_⟩
      rw [List.getElem?_eq_none (by exact hc)] at hq
      cases hq
  obtain ⟨f, hf⟩ := Classical.axiomOfChoice h
  exact ⟨(fun c => (f c).1, fun c => (f c).2), fun c q hq => hf c q hq⟩
theorem tc_prim {ty : FieldType} (hp : ty = .int ∨ ty = .long ∨ ty = .byte) (hw : (Cond.arrayClass ty).before args s = true) : ∃ cA : ClassId, ArrOfT s cA ty ∧ va_RA s cA ty := by
  obtain ⟨c, k, comp, h1, h2, h3⟩ := Cond.arrayClass_spec (args := args) (first := s) (o := none) (idx := []) hw
  refine ⟨c, fun n z => ⟨(fun k h => by cases h), k, h2, comp, h3⟩, ?_⟩
  rcases hp with rfl | rfl | rfl <;> exact h1
theorem tc_ref {C : String} (hw : va_AO C s) : ∃ cA : ClassId, ArrOfT s cA (.object C) ∧ va_RA s cA (.object C) := by
  obtain ⟨comp, c, k, h1, -, h3, h4, h5⟩ := Cond.arrayOver_spec (args := #[]) (first := s) (o := none) (idx := []) hw
  exact ⟨c, fun n z => ⟨(fun k h => by cases h), k, h3, comp, h4⟩, k, comp, h3, h4, h1, h5⟩
theorem va_eqs {t1 t2 : Term} {a : Nat} (h : (Cond.eq t1 t2).before args s = true) (h1 : t1.eval args s none [] s = some (.ref a)) : t2.eval args s none [] s = some (.ref a) := by
  cases hv : t2.eval args s none [] s with
  | none => simp [Cond.before, Cond.holds, Cond.value, h1, hv] at h
  | some w =>
    simp only [Cond.before, Cond.holds, Cond.value, h1, hv] at h
    cases w <;> simp_all
end StartS
def stG : Cond := Jvm.Cond.and given_1 narrow_1
def tmK : List (String × Nat) := [(RX1, 112), (RX1, 114), (RX1, 116), (RX3, 85), (RX5, 49), (RX10, 26)]
def tmT (i : Nat) : Term := .string (tmK.getD i ("", 0)).1 (tmK.getD i ("", 0)).2
theorem st_stat : ∀ j, j < 9 → Cond.arrayOf (.static "SnowBooks$Hall" (stN.getD j "") "[I") .int ∈ flatC stG ∧ Cond.eq (.length (.static "SnowBooks$Hall" (stN.getD j "") "[I")) (.int (Int32.ofNat (ln (1000 + j)))) ∈ flatC stG ∧ (∀ k, k < ln (1000 + j) → Cond.eq (.elem (.static "SnowBooks$Hall" (stN.getD j "") "[I") (.int (Int32.ofNat k))) (.int (KI j k)) ∈ flatC stG) ∧ Cond.laysStatic "SnowBooks$Hall" (stN.getD j "") "[I" ∈ lw_tbl ∧ ln (1000 + j) < 10 := by decide +kernel
theorem st_txt : ∀ i, i < 6 → Cond.exactly (tmT i) "java/lang/String" ∈ flatC stG ∧ Cond.eq (.field (tmT i) "java/lang/String" "coder" "B") (.int 0) ∈ flatC stG ∧ Cond.arrayOf (.field (tmT i) "java/lang/String" "value" "[B") .byte ∈ flatC stG ∧ Cond.eq (.length (.field (tmT i) "java/lang/String" "value" "[B")) (.int (Int32.ofNat (lenKS.getD i 0))) ∈ flatC stG ∧ (∀ j, j < lenKS.getD i 0 → Cond.eq (.elem (.field (tmT i) "java/lang/String" "value" "[B") (.int (Int32.ofNat j))) (.int ((bytKS.getD i []).getD j 0)) ∈ flatC stG) ∧ lenKS.getD i 0 < 10 := by decide +kernel
theorem st_ne : ∀ i, i < 6 → ∀ j, j < 6 → i ≠ j → Cond.not (Cond.eq (tmT i) (tmT j)) ∈ flatC stG ∨ Cond.not (Cond.eq (tmT j) (tmT i)) ∈ flatC stG := by decide +kernel
theorem st_ref : ∀ q ∈ txKS, q.2.2.2 < 6 ∧ Cond.stringRef q.1 q.2.1 q.2.2.1 ∈ lw_tbl ∧ (tmT q.2.2.2 = .string q.1 q.2.1 ∨ Cond.eq (tmT q.2.2.2) (.string q.1 q.2.1) ∈ flatC stG) := by decide +kernel
theorem st_misc : Cond.laysStatic "java/lang/String" "COMPACT_STRINGS" "Z" ∈ lw_tbl ∧ Cond.eq (.static "java/lang/String" "COMPACT_STRINGS" "Z") (.int 1) ∈ flatC stG ∧ Cond.laysStatic "jdk/internal/util/Preconditions" "SIOOBE_FORMATTER" "Ljava/util/function/BiFunction;" ∈ lw_tbl ∧ Cond.isRef (.static "jdk/internal/util/Preconditions" "SIOOBE_FORMATTER" "Ljava/util/function/BiFunction;") ∈ flatC stG ∧
  Cond.laysStatic Bundle.tN "UNASSIGNED_STACK" Bundle.steD ∈ lw_tbl ∧ Cond.isRef (.static Bundle.tN "UNASSIGNED_STACK" Bundle.steD) ∈ flatC stG ∧ Cond.laysStatic Bundle.tN "SUPPRESSED_SENTINEL" Bundle.listD ∈ lw_tbl ∧ Cond.isRef (.static Bundle.tN "SUPPRESSED_SENTINEL" Bundle.listD) ∈ flatC stG ∧ Cond.initialized Bundle.tN ∈ lw_tbl ∧
  Cond.castable rxE rxE ∈ lw_tbl ∧ Cond.stringRef RX9 190 rxT ∈ lw_tbl ∧ Cond.exactly (.string RX9 190) "java/lang/String" ∈ flatC stG ∧ Cond.arrayOver (.object RX3) ∈ lw_tbl ∧ Cond.arrayOver (.object RX5) ∈ lw_tbl ∧ Cond.arrayOver (.object RX6) ∈ lw_tbl := by decide +kernel
theorem st_nest : ∀ w ∈ XWn, Cond.methodLinkNest w.1 w.2.1 w.2.2 RX9 ∈ lw_tbl := by decide +kernel
theorem st_decl : ∀ w ∈ XWd, Cond.declares w ∈ lw_tbl := by decide +kernel
section StartK
variable {s : State} {b L : Nat} {xs : Nat → Int32}
theorem st_jK (hts : ∀ w ∈ lw_tbl, w.before #[Value.ref b] s = true) (hX : va_X b L xs s s.heap) (hbl : b < s.heap.size) (hgv : stG.before #[Value.ref b] s = true) : ∃ A : Nat → Nat, A 1010 = b ∧ jK (L, xs) A (fun q => s.heap.size ≤ q) s s.heap := by
  have hf := flat_of_before _ hgv
  have hW : ∀ w ∈ WS, w.before #[Value.ref b] s = true := fun w hw => hts w (WS_in hw)
  have hA : ∀ a : Nat, a < s.heap.size → ¬ s.heap.size ≤ a := fun a h => by omega
  obtain ⟨m1, m2, m3, m4, m5, m6, m7, m8, m9, m10, m11, m12, m13, m14, m15⟩ := st_misc
  have hini : (Cond.initialized "SnowBooks$Hall").before #[Value.ref b] s = true := hW _ qc_X1.1
  have hst : ∀ j : Nat, ∃ a : Nat, j < 9 → va_Z "SnowBooks$Hall" (stN.getD j "") "[I" (.ref a) (fun q => s.heap.size ≤ q) s s.heap ∧ va_T .int a (ln (1000 + j)) (fun k => .int (KI j k)) (fun q => s.heap.size ≤ q) s s.heap := by
    intro j
    by_cases hj : j < 9
    · obtain ⟨k1, k2, k3, k4, k5⟩ := st_stat j hj
      obtain ⟨t, ht, hT⟩ := va_Tof (f := fun k => .int (KI j k)) (A := fun q => s.heap.size ≤ q) (by omega) (hf _ k1) (va_eqt (hf _ k2)) (fun k hk => va_eqt (hf _ (k3 k hk))) hA
      exact ⟨t, fun _ => ⟨va_Zof (hts _ k4) hini ht hA, hT⟩⟩
    · exact ⟨0, fun h => absurd h hj⟩
  obtain ⟨a, ha⟩ := Classical.axiomOfChoice hst
  obtain ⟨adK, adV, hS, hev⟩ := vk_Sof (args := #[Value.ref b]) (s := s) (N := 6) (tm := tmT) (len := lenKS) (byt := bytKS) (A := fun q => s.heap.size ≤ q) (fun i hi => by have := (st_txt i hi).2.2.2.2.2; omega) (fun i hi => hf _ (st_txt i hi).1) (fun i hi => hf _ (st_txt i hi).2.1) (fun i hi => hf _ (st_txt i hi).2.2.1) (fun i hi => hf _ (st_txt i hi).2.2.2.1) (fun i hi j hj => hf _ ((st_txt i hi).2.2.2.2.1 j hj))
    (fun i j hi hj hij => by rcases st_ne i hi j hj hij with h | h; exact Or.inl (hf _ h); exact Or.inr (hf _ h)) hA
  let A : Nat → Nat := fun i => if i < 1009 then a (i - 1000) else if i = 1010 then b else if i % 2 = 0 then adK ((i - 1100) / 2) else adV ((i - 1101) / 2)
  have e1 : ∀ j, j < 9 → A (1000 + j) = a j := fun j hj => by
    show (if 1000 + j < 1009 then a (1000 + j - 1000) else _) = a j
    rw [if_pos (by omega)]; exact congrArg a (by omega)
  have e2 : A 1010 = b := rfl
  have e3 : (fun i => A (1100 + 2 * i)) = adK := funext fun i => by
    show (if 1100 + 2 * i < 1009 then _ else if 1100 + 2 * i = 1010 then _ else if (1100 + 2 * i) % 2 = 0 then adK ((1100 + 2 * i - 1100) / 2) else _) = adK i
    rw [if_neg (by omega), if_neg (by omega), if_pos (by omega)]; exact congrArg adK (by omega)
  have e4 : (fun i => A (1101 + 2 * i)) = adV := funext fun i => by
    show (if 1101 + 2 * i < 1009 then _ else if 1101 + 2 * i = 1010 then _ else if (1101 + 2 * i) % 2 = 0 then _ else adV ((1101 + 2 * i - 1101) / 2)) = adV i
    rw [if_neg (by omega), if_neg (by omega), if_neg (by omega)]; exact congrArg adV (by omega)
  obtain ⟨sa, hsa⟩ : ∃ sa, (Term.string RX9 190).eval #[Value.ref b] s none [] s = some (.ref sa) := by
    obtain ⟨a9, c9, cA9, kA9, q1, -⟩ := Cond.exactly_spec (args := #[Value.ref b]) (first := s) (o := none) (s := s) (idx := []) (hf _ m12)
    exact ⟨a9, q1⟩
  refine ⟨A, e2, fun j hj => by rw [e1 j hj]; exact ha j hj, ?_, ?_, ?_, ?_, ?_, ?_, ?_⟩
  · rw [e2]; exact ⟨hX, hbl, hA b hbl⟩
  · rw [e3, e4]
    refine ⟨hS, fun q hq => ?_⟩
    obtain ⟨r1, r2, r3⟩ := st_ref q hq
    have e5 : A (1100 + 2 * q.2.2.2) = adK q.2.2.2 := congrFun e3 q.2.2.2
    rw [e5]
    refine vk_R.of (hts _ r2) ?_
    rcases r3 with r3 | r3
    · rw [← r3]; exact hev _ r1
    · exact va_eqs (hf _ r3) (hev _ r1)
  · exact va_Zof (hts _ m1) (hW _ qi_S) (va_eqt (hf _ m2)) hA
  · exact va_Zqof (hts _ m3) (hW _ qi_P) (hf _ m4) hA
  · exact vx_Zqof (hts _ m5) (hts _ m9) (hf _ m6) hA
  · exact vx_Zqof (hts _ m7) (hts _ m9) (hf _ m8) hA
  · exact ⟨fun w hw => va_Nw.of rfl (hts _ (st_nest w hw)), fun w hw => va_Nw.of rfl (hts _ (st_decl w hw)), ⟨va_Nw.of rfl (hts _ m10), sa, vk_R.of (hts _ m11) hsa⟩, va_AO.of (hts _ m13), va_AO.of (hts _ m14), va_AO.of (hts _ m15)⟩
theorem st_K (hts : ∀ w ∈ lw_tbl, w.before #[Value.ref b] s = true) : ∃ (D : va_G) (tc : Nat → ClassId), va_K D vwCl (tysOf tc) s := by
  have hW : ∀ w ∈ WS, w.before #[Value.ref b] s = true := fun w hw => hts w (WS_in hw)
  obtain ⟨m1, m2, m3, m4, m5, m6, m7, m8, m9, m10, m11, m12, m13, m14, m15⟩ := st_misc
  obtain ⟨D, hD⟩ := kn_all hW
  obtain ⟨c0, h0⟩ := tc_prim (Or.inl rfl) (hW _ q_aint)
  obtain ⟨c1, h1⟩ := tc_prim (Or.inr (Or.inl rfl)) (hW _ q_along)
  obtain ⟨c2, h2⟩ := tc_prim (Or.inr (Or.inr rfl)) (hW _ q_abyte)
  obtain ⟨c3, h3⟩ := tc_ref (va_AO.of (hts _ m13))
  obtain ⟨c4, h4⟩ := tc_ref (va_AO.of (hts _ m14))
  obtain ⟨c5, h5⟩ := tc_ref (va_AO.of (hts _ m15))
  refine ⟨D, fun k => if k = 0 then c0 else if k = 1 then c1 else if k = 2 then c2 else if k = 3 then c3 else if k = 4 then c4 else c5, hD, fun k q hq => ?_⟩
  have hk : k < 6 := (List.getElem?_eq_some_iff.mp hq).1
  have hk6 : k = 0 ∨ k = 1 ∨ k = 2 ∨ k = 3 ∨ k = 4 ∨ k = 5 := by omega
  rcases hk6 with rfl | rfl | rfl | rfl | rfl | rfl <;> cases hq
  · exact h0
  · exact h1
  · exact h2
  · exact h3
  · exact h4
  · exact h5
end StartK
theorem frame_new {s t : State} {o : Outcome} {L : List Loc} {k n : Nat} (h : FrameEnd s o t L k n) (hL : ∀ q ∈ L, s.heap.size ≤ q.base) : Framed s o t [] k n := by
  obtain ⟨h1, h2, g1, g2, g3, g4, g5, g6⟩ := h
  refine ⟨h1, h2, g1, g2, g3, g4, g5, fun a c hc => ?_⟩
  obtain ⟨c', z1, z2, z3, z4⟩ := g6 a c hc
  refine ⟨c', z1, z2, z3, fun i _ => z4 i (fun hm => ?_)⟩
  have q1 : s.heap.size ≤ a := hL _ hm
  have q2 : a < s.heap.size := (Array.getElem?_eq_some_iff.mp hc).1
  exact Nat.not_lt.mpr q1 q2
theorem st_flags {l : Launch} (h : l.flags = flags0) : l.stackTraces = false := by
  unfold Launch.stackTraces
  rw [h]
  decide +kernel
/-! THE CLAIM OUT OF ONE WALK OF THE LAW'S BODY. Your part is whole_start (and what it stands on); all else here is the same for every law, but numbers. -/
def R_law : String := "SnowBooksLaw"
def lw_P (b : Addr) (xs : List Int32) (args : Array Value) (s : State) : Prop := args = #[.ref b] ∧ s.IntsAt b xs ∧ xs.length ≤ 3072 ∧ (Jvm.Cond.and given_1 narrow_1).before args s = true
def lw_Q (_ : Array Value) (s : State) (o : Outcome) (t : State) : Prop := o = .returned (some (.int 1)) ∧ Framed s o t [] 601024 7293034
def lw_Z (below : List Frame) (a : Array Value) (s : State) : State → Prop := fun t => ∃ o, t.status = .running ∧ Ended t below o ∧ lw_Q a s o t
/-- the law's own end, with 1 on the stack, nothing written that was there before, its room as the claim has it -/
theorem lw_ret {p : Program} {l : Launch} {e : Env} {s : State} {m : MethodId} {below : List Frame} {meth : Method} {c : Code} {b : Nat} (hx : p.tables.exec = Jvm.exec) (hb : c.code = code) (hr : meth.sig.returnType = ret) (hlocks : meth.locks = false) {pc : Nat} {H : Heap} {ls : Array Slot} (hdg : decode code pc = .ok (.ireturn, 1)) : W p l e room_1 s m #[Value.ref b] below meth c H [] 601024 7293034 (lw_Z below #[Value.ref b] s) (F0 m pc ls [.int 1]) := by
  intro T hT X
  obtain ⟨fs, hret, hrun, hended, hW, hframe⟩ := X.leave (v := some (.int 1)) (hlocks := hlocks) (fun h => by rw [hr] at h; cases h)
  have hmeth' : T.vm.method? m = some meth := X.method'
  refine ⟨T.setFrames fs, ?_, .returned (some (.int 1)), hrun, hended, rfl, ⟨_, rfl⟩, hW, hframe⟩
  jvm_step X.here [X.here.top, hx, hb, hdg, hmeth', hr, ret, narrow_b1]
  (try refine ⟨rfl, ?_⟩); (try refine ⟨rfl, ?_⟩)
  first | (intro acts; rw [hret _ acts rfl rfl rfl]) | rw [hret _ _ rfl rfl rfl]
  exact Steps.refl _
/-- what holds at the law's entry: the machine, the code, the tables' words (any of lw_tbl by 'hts w (by decide +kernel)'), the script of L ints xs at the cell b, what the Statement gives of the start (any of its parts by flat_of_before) -/
def lw_At (p : Program) (s : State) (m : MethodId) (meth : Method) (c : Code) (b L : Nat) (xs : Nat → Int32) : Prop :=
  p.tables.exec = Jvm.exec ∧ c.code = code ∧ meth.sig.returnType = ret ∧ c.maxLocals = 7 ∧ s.vm.findClass R_law = some m.cls ∧ (∀ w ∈ lw_tbl, w.before #[Value.ref b] s = true) ∧ va_X b L xs s s.heap ∧ b < s.heap.size ∧ meth.locks = false ∧ (Jvm.Cond.and given_1 narrow_1).before #[Value.ref b] s = true
-- ===== YOUR PART BEGINS =====
/-- YOUR PART: from the entry, for every script of at most 3072 ints, the law comes to its end with true ('hflags': the launch's flags, for a law that throws: no stack traces) -/
theorem whole_start {p : Program} {e : Env} {s : State} {m : MethodId} {below : List Frame} {meth : Method} {c : Code} (l : Launch) (hflags : l.flags = flags0) {b L : Nat} {xs : Nat → Int32} (hL : L ≤ 3072) (C0 : lw_At p s m meth c b L xs) : W p l e room_1 s m #[Value.ref b] below meth c s.heap [] 0 0 (lw_Z below #[Value.ref b] s) (entryFrame m ([Value.ref b] : List Value).toArray 7) := by
  obtain ⟨hx, hb, hr, hml, hown, hts, hX, hbl, hlk, hgv⟩ := C0
  have hW : ∀ w ∈ WS, w.before #[Value.ref b] s = true := fun w hw => hts w (WS_in hw)
  obtain ⟨A, eA, hjK⟩ := st_jK hts hX hbl hgv
  obtain ⟨D, tc, hK⟩ := st_K hts
  obtain ⟨σ', hJ⟩ := lawJ (X := (L, xs)) hL
  have hl := lv_entry ([Value.ref 1010].map (cv A)) (n := 7) (Nat.le_of_ble_eq_true rfl)
  rw [lv_args_map] at hl
  have ea : ([Value.ref 1010].map (cv A)) = [Value.ref b] := by show [Value.ref (A 1010)] = _; rw [eA]
  have hP0 : va_P D vwCl (wsOf A tc 0 σ0) s.heap := by
    intro k q h
    simp [wsOf] at h
  have hD0 : va_D (fun q => s.heap.size ≤ q) (wsOf A tc 0 σ0) := by
    constructor
    · intro i j p q h
      simp [wsOf] at h
    · intro k q h
      simp [wsOf] at h
  have k := hJ p l e room_1 s m #[Value.ref b] below meth c A 0 D tc (fun q => s.heap.size ≤ q) A s.heap [] 0 0 _ ⟨⟨hx, hb, hml, hown, hW⟩, hr, hlk, (fun q => by cases q), by decide, by decide, hK, hjK, fun q h => h, by decide, st_flags hflags⟩ (by decide) (by decide) (Nat.le_refl _) (by decide) (fun _ _ => rfl) (fun _ _ _ h => absurd h (Nat.not_lt_zero _)) hP0 hD0 va_S.rf hl
  rw [lg_entry_eq]
  rw [ea] at k
  intro T hT X0
  obtain ⟨t, a1, o, b1, b2, ⟨⟨A', -, b3, -⟩, -⟩, Lc, b4, b5⟩ := k T hT X0
  exact ⟨t, a1, o, b1, b2, b3, frame_new b4 b5⟩
-- ===== YOUR PART ENDS =====
set_option maxHeartbeats 4000000 in
theorem lw_walk (l : Launch) (hflags : l.flags = flags0) (b : Addr) (xs : List Int32) : MetFree l x (headSpec (Jvm.Cond.code x code maxLocals ret :: tables_1) room_1) (lw_P b xs) (fun _ _ _ _ _ => True) lw_Q := by
  refine MetFree.of_bodyS (code := code) (maxLocals := maxLocals) (ret := ret) (by decide) ?_ ?_
  · intro args s m h hn
    obtain ⟨meth, c, h1, h2, h3, h4, h5, h6, -, -⟩ := Cond.code_spec hn (atoms_spec (ws := Jvm.Cond.code x code maxLocals ret :: tables_1) h _ List.mem_cons_self)
    exact ⟨meth, c, h1, h2, h3, h4, h5, h6⟩
  · intro p e s m args below meth c s₁ B hml0 hP _
    obtain ⟨rfl, hx, hbd, hgv⟩ := hP
    obtain ⟨scr, harrAt, hlist, hof, hsmall⟩ := hx
    obtain ⟨hcb, hkn, -, -⟩ := State.arrayAt?_spec harrAt
    have hown : s.vm.findClass R_law = some m.cls := findClass_of_methodNamed B.named
    have hts0 : ∀ c ∈ (Jvm.Cond.code x code maxLocals ret :: tables_1), c.before #[Value.ref b] s = true := atoms_spec (ws := Jvm.Cond.code x code maxLocals ret :: tables_1) B.pre
    have hts : ∀ w ∈ lw_tbl, w.before #[Value.ref b] s = true := k2_hts_sels lw_privs (fun w hw => hts0 w (List.mem_cons_of_mem _ hw)) lw_privs_ok
    have hml : c.maxLocals = 7 := B.maxLocals_eq (hts0 _ List.mem_cons_self)
    have X₀ : Stand p l e room_1 s m #[Value.ref b] below meth c s₁ [] 0 0 := Stand.of_body B
    have hh0 : s₁.heap = s.heap := by rw [B.state]; rfl
    have hsz : scr.slots.size = xs.length := by rw [← Array.length_toList, hlist, List.length_map]
    have hval : ∀ j : Nat, j < xs.length → scr.slots[j]? = some (.int (xs.getD j 0)) := fun j hj => by
      rw [← Array.getElem?_toList, hlist]
      simp [hj]
    have hbl : b < s.heap.size := (Array.getElem?_eq_some_iff.mp hcb).1
    have hX : va_X b xs.length (fun j => xs.getD j 0) s s.heap := ⟨scr, hcb, hof, hkn, hsz, hval⟩
    have K : W p l e room_1 s m #[Value.ref b] below meth c s₁.heap [] 0 0 (lw_Z below #[Value.ref b] s) (entryFrame m ([Value.ref b] : List Value).toArray 7) := by
      rw [hh0]
      exact whole_start l hflags hbd ⟨B.exec, B.bytes, B.returns, hml, hown, hts, hX, hbl, B.notSynchronized, hgv⟩
    obtain ⟨t, a1, o, b1, b2, b3⟩ := K s₁ rfl X₀
    exact ⟨t, o, a1, b1, b2, b3⟩
theorem lw_pre_spec {args : Array Value} {s : State} (h : (Jvm.Cond.and given_1 narrow_1).before args s = true) (hr : rest_1_c.before args s = true) : ∃ (b : Addr) (xs : List Int32), lw_P b xs args s := by
  have hs := flat_of_before _ h
  have hq := flat_of_before _ hr
  have hc : (Cond.count 1).before args s = true := hs _ (by decide +kernel)
  have harr : (Cond.arrayOf (.arg 0) .int).before args s = true := hs _ (by decide +kernel)
  have hle : (Cond.le (.length (.arg 0)) (.int 3072)).before args s = true := hs _ (by decide +kernel)
  have hlen : (Cond.isInt (.length (.arg 0))).before args s = true := hq _ (by decide +kernel)
  have hall : (Cond.all (.arg 0) (.isInt (.elem (.arg 0) (.index 0)))).before args s = true := hq _ (by decide +kernel)
  obtain ⟨b, xs, hb, hx⟩ := State.ints_of_pre rfl harr hlen hall
  have hsm : xs.length < 2 ^ 31 := hx.choose_spec.2.2.2
  have hev : (Term.length (.arg 0)).eval args s none [] s = some (.int xs.length.toInt32) := hx.length_eval hb
  have hv := Cond.le_ints hev (show (Term.int 3072).eval args s none [] s = some (.int 3072) from rfl)
  have hd : xs.length.toInt32 ≤ 3072 := by
    simpa [Cond.before, Cond.holds, hv] using hle
  have hN : xs.length ≤ 3072 := (Int32.ofNat_le_ofNat hsm (by decide)).mp (show Int32.ofNat xs.length ≤ Int32.ofNat 3072 from hd)
  exact ⟨b, xs, Cond.one_arg hc (show args[0]? = some (.ref b) from hb), hx, hN, h⟩
theorem lw_comes (l : Launch) (hflags : l.flags = flags0) : Comes l x (Jvm.Cond.code x code maxLocals ret :: tables_1) room_1 (fun tb e args s => Calls_1 tb e args s ∧ rest_1 tb e args s ∧ Pre_1 tb e args s)
    (fun _ _ args s o t => lw_Q args s o t) := by
  intro p e ha hc hk s m args below hf hfit hheap happ hpre
  obtain ⟨b, xs, hP⟩ := lw_pre_spec hpre.2.2 hpre.2.1
  obtain ⟨k, o, h1, h2, h3, hQ⟩ := lw_walk l hflags b xs p e ha hc hk s m args below hf ((Spec.applies_iff_loose hf).mp happ).1 hP trivial
  exact ⟨k, o, h1, h2, h3, hQ⟩
theorem lw_frame {s t : State} {o : Outcome} {args : Array Value} (h : Framed s o t [] 601024 7293034) :
    Framed s o t (fieldLocs frame_1_writes args s ++ arrayLocs frame_1_arrays args s ++ staticLocs frame_1_statics s) 601024 7293034 := h
theorem lw_limb (L : Cond) (hL : ∀ (args : Array Value) (s t : State), L.after args s (.returned (some (.int 1))) t = true) :
    ArmFor flags0 classFile x code maxLocals ret World_1 tables_1 room_1 Calls_1 rest_1 Pre_1
      (fun tb e a s o t => postC L tb e a s o t ∧ Framed s o t (fieldLocs frame_1_writes a s ++ arrayLocs frame_1_arrays a s ++ staticLocs frame_1_statics s) 601024 7293034) := by
  intro l hflags _ _ p e ha hc hk s m args below hf hfit hheap happ hpre
  obtain ⟨k, o, h1, h2, h3, rfl, hF⟩ := lw_comes l hflags p e ha hc hk s m args below hf hfit hheap happ hpre
  exact ⟨k, _, h1, h2, h3, hL args s _, lw_frame hF⟩
theorem i_vc : Claimed_1_1 ∧ Claimed_1_2 := ⟨lw_limb limb_1_1 (fun args s t => by simp [limb_1_1, Cond.after, Cond.holds, Cond.value]), lw_limb limb_1_2 (fun args s t => Cond.after_iff.mpr (by
  first | (rw [show limb_1_2 = Cond.eq .result (.int 1) from rfl, Cond.eq_ints (x := 1) (y := 1) rfl rfl]; simp; done) | (simp [limb_1_2, Cond.value, Term.eval]; done)))⟩
