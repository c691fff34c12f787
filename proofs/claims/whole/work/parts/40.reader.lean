/-! reader: the one call that may throw, and its catching -/
theorem mRX9_198 : MLv RX9 198 yX1_breath mX1_breath 1 1 := ⟨⟨WS_at 1342 (by decide +kernel), cw_X1_breath⟩, cv_X1_breath.1, cv_X1_breath.2, by decide, TX1, 7, rfl⟩
theorem mRX9_201 : MLv RX9 201 yX1_speed mX1_speed 1 1 := ⟨⟨WS_at 1343 (by decide +kernel), cw_X1_speed⟩, cv_X1_speed.1, cv_X1_speed.2, by decide, TX1, 7, rfl⟩
abbrev mX9_reader : JM := (cX9_reader, RX9, 3, (some .int), false)
abbrev mL_reader : JM := (cL_reader, RL, 5, (some .int), false)
theorem qr_code : Cond.code yX9_reader cX9_reader 3 (some .int) ∈ WS := WS_at 1276 (by decide +kernel)
theorem qr_init : Cond.initialized RX9 ∈ WS := WS_at 96 (by decide +kernel)
theorem mRL_7 : MLv RL 7 yX9_reader mX9_reader 2 9 := ⟨⟨WS_at 1273 (by decide +kernel), qr_init, qr_code, ⟨by decide +kernel, by decide +kernel⟩, by decide +kernel⟩, WS_at 1274 (by decide +kernel), WS_at 1275 (by decide +kernel), by decide, TX9, 19, rfl⟩
def hhR : List (Nat × Nat × Nat × Nat) := [(0, 10, 13, 13)]
theorem qR_code : Cond.codeWith yL_reader cL_reader 5 (some .int) hhR ∈ WS := WS_at 1271 (by decide +kernel)
theorem qR_init : Cond.initialized RL ∈ WS := WS_at 95 (by decide +kernel)
theorem qR_link : Cond.methodLink RL 46 yL_reader ∈ WS := WS_at 1269 (by decide +kernel)
theorem qR_stat : Cond.static yL_reader ∈ WS := WS_at 1270 (by decide +kernel)
theorem qR_cls : Cond.classLink RL 13 rxE ∈ WS := WS_at 1272 (by decide +kernel)
theorem qt_cls : Cond.classLink RX9 188 rxE ∈ WS := WS_at 1277 (by decide +kernel)
theorem qt_init : Cond.initialized rxE ∈ WS := WS_at 118 (by decide +kernel)
theorem th_in : ∀ w ∈ (rxA.filter vx_no).filter goodWord, w ∈ lw_tbl := by decide +kernel
theorem th_g : ∀ w ∈ (rxA.filter vx_no).filter goodWord, w ∈ WS := fun w h => List.mem_filter.mpr ⟨th_in w h, (List.mem_filter.mp h).2⟩
def thB : List Cond := .castable rxE rxE :: XWd.map .declares
theorem th_b : ∀ w ∈ (rxA.filter vx_no).filter (fun w => !goodWord w), w ∈ thB := by decide +kernel
theorem th_ot : ∀ w ∈ Cond.classLink RX9 188 rxE :: Cond.initialized rxE :: rxA.filter vx_no, vx_ot w = true := by decide +kernel
theorem th_w {args : Array Value} {s : State} (hWS : ∀ w ∈ WS, w.before args s = true) (hx : jX s) : ∀ w ∈ rxA.filter vx_no, w.before args s = true := by
  refine vx_hat (fun w h => hWS w (th_g w h)) th_b (fun w h => ?_)
  rcases List.mem_cons.mp h with e | h
  · rw [e]; exact va_Nw.use rfl hx.2.2.1.1
  · obtain ⟨y, hy, e⟩ := List.mem_map.mp h
    rw [← e]; exact va_Nw.use rfl (hx.2.1 y hy)
section ReaderM
variable {X : XS} {σ : Mm} {n : Nat} {x y v hr : Int32}
set_option maxRecDepth 20000 in
set_option maxHeartbeats 2000000 in
theorem tX9_reader (h0 : RT n 0 109) (h3 : RT n 3 101) (h89 : RT n 89 106) (r1 : gR σ 0 1 = some 3) (r7 : gR σ 0 7 = some 89) (r2 : gR σ 89 2 = some 92) (h92 : RT n 92 200) {r k : Nat} (hr6 : r < 6) (hk : k ≤ 5) {f : Nat → Int32} (hh : fX1_hasReader 3 (nI r) σ = some 1)
    (p0 : gI σ 92 r = f 0) (p1 : fX1_breath 3 (nI r) σ = some (f 1)) (p2 : fX1_speed 3 (nI r) σ = some (f 2)) (p3 : fX1_need 3 (nI r) σ = some (f 3)) (p4 : fX6_hasDone 89 (nI r) σ = some (f 4)) (p5 : fX6_pagesKnownBy 89 (nI r) σ = some (f 5)) (hf4 : f 4 = 0 ∨ f 4 = 1) :
    MT X yX9_reader mX9_reader 4 0 0 [.ref 0, .int (nI r), .int (nI k)] n σ (n, some (.int (f k)), σ) := by
  refine MT_of (by decide +kernel) rfl (fun h => by cases h) (Nat.le_of_ble_eq_true rfl) ?_
  show J X mX9_reader 4 0 0 (n, some (.int (f k)), σ) 0 [(0, .ref 0), (1, .int (nI r)), (2, .int (nI k))] [] n σ
  refine J_aload_n (z := 0) dX9_reader_0 rfl rfl (q := 1) rfl ?_
  refine J_getR dX9_reader_1 lRX9_21 h0 rfl (by decide) r1 (q := 4) rfl (fun _ => ?_)
  refine J_iload_n (z := 1) dX9_reader_4 rfl rfl (q := 5) rfl ?_
  refine J_cVi (as := [.int (nI r)]) dX9_reader_5 mRX9_185 h3 (tX1_hasReader h3 hh) rfl (Nat.le_of_ble_eq_true rfl) (Nat.le_of_ble_eq_true rfl) (Nat.le_of_ble_eq_true rfl) (q := 8) rfl (fun _ => ?_)
  refine J_if_eq (tgt := 20) dX9_reader_8 (by decide) (q := 11) rfl (fun c => absurd c (by decide)) (fun _ => ?_)
  refine J_iload_n (z := 2) dX9_reader_11 rfl rfl (q := 12) rfl ?_
  refine J_if_lt (tgt := 20) dX9_reader_12 (by decide) (q := 15) rfl (fun c => absurd c (nI_pos (by omega))) (fun _ => ?_)
  refine J_iload_n (z := 2) dX9_reader_15 rfl rfl (q := 16) rfl ?_
  refine J_iconst (x := nI 5) dX9_reader_16 (by decide) (q := 17) rfl ?_
  refine J_icmp_le (tgt := 30) dX9_reader_17 (by decide) (q := 20) rfl (fun _ => ?_) (fun c => absurd (nI_le (by omega) (by omega)) c)
  refine J_iload_n (z := 2) dX9_reader_30 rfl rfl (q := 31) rfl ?_
  refine J_table dX9_reader_31 [(0, 64), (1, 74), (2, 83), (3, 92), (4, 101)] 118 (by decide) (by decide) (by decide) (fun t ht e => ?_) (fun hne => ?_)
  · rcases List.mem_cons.mp ht with rfl | ht
    · have ek : k = 0 := (nI_eq (by omega) (by omega)).mp (show nI k = nI 0 from e)
      subst ek
      refine J_aload_n (z := 0) dX9_reader_64 rfl rfl (q := 65) rfl ?_
      refine J_getR dX9_reader_65 lRX9_63 h0 rfl (by decide) r7 (q := 68) rfl (fun _ => ?_)
      refine J_getR dX9_reader_68 lRX9_195 h89 rfl (by decide) r2 (q := 71) rfl (fun _ => ?_)
      refine J_iload_n (z := 1) dX9_reader_71 rfl rfl (q := 72) rfl ?_
      refine J_iald dX9_reader_72 h92 (nI_in (by rw [show ln 92 = 6 by decide +kernel]; exact hr6) (by decide +kernel)) (q := 73) rfl ?_
      rw [nI_clamp (by omega), p0]
      exact J_ireturn dX9_reader_73 rfl rfl rfl
    rcases List.mem_cons.mp ht with rfl | ht
    · have ek : k = 1 := (nI_eq (by omega) (by omega)).mp (show nI k = nI 1 from e)
      subst ek
      refine J_aload_n (z := 0) dX9_reader_74 rfl rfl (q := 75) rfl ?_
      refine J_getR dX9_reader_75 lRX9_21 h0 rfl (by decide) r1 (q := 78) rfl (fun _ => ?_)
      refine J_iload_n (z := 1) dX9_reader_78 rfl rfl (q := 79) rfl ?_
      refine J_cVi (as := [.int (nI r)]) dX9_reader_79 mRX9_198 h3 (tX1_breath h3 p1) rfl (Nat.le_of_ble_eq_true rfl) (Nat.le_of_ble_eq_true rfl) (Nat.le_of_ble_eq_true rfl) (q := 82) rfl (fun _ => ?_)
      exact J_ireturn dX9_reader_82 rfl rfl rfl
    rcases List.mem_cons.mp ht with rfl | ht
    · have ek : k = 2 := (nI_eq (by omega) (by omega)).mp (show nI k = nI 2 from e)
      subst ek
      refine J_aload_n (z := 0) dX9_reader_83 rfl rfl (q := 84) rfl ?_
      refine J_getR dX9_reader_84 lRX9_21 h0 rfl (by decide) r1 (q := 87) rfl (fun _ => ?_)
      refine J_iload_n (z := 1) dX9_reader_87 rfl rfl (q := 88) rfl ?_
      refine J_cVi (as := [.int (nI r)]) dX9_reader_88 mRX9_201 h3 (tX1_speed h3 p2) rfl (Nat.le_of_ble_eq_true rfl) (Nat.le_of_ble_eq_true rfl) (Nat.le_of_ble_eq_true rfl) (q := 91) rfl (fun _ => ?_)
      exact J_ireturn dX9_reader_91 rfl rfl rfl
    rcases List.mem_cons.mp ht with rfl | ht
    · have ek : k = 3 := (nI_eq (by omega) (by omega)).mp (show nI k = nI 3 from e)
      subst ek
      refine J_aload_n (z := 0) dX9_reader_92 rfl rfl (q := 93) rfl ?_
      refine J_getR dX9_reader_93 lRX9_21 h0 rfl (by decide) r1 (q := 96) rfl (fun _ => ?_)
      refine J_iload_n (z := 1) dX9_reader_96 rfl rfl (q := 97) rfl ?_
      refine J_cVi (as := [.int (nI r)]) dX9_reader_97 mRX9_204 h3 (tX1_need h3 p3) rfl (Nat.le_of_ble_eq_true rfl) (Nat.le_of_ble_eq_true rfl) (Nat.le_of_ble_eq_true rfl) (q := 100) rfl (fun _ => ?_)
      exact J_ireturn dX9_reader_100 rfl rfl rfl
    · have ht := List.mem_singleton.mp ht
      subst ht
      have ek : k = 4 := (nI_eq (by omega) (by omega)).mp (show nI k = nI 4 from e)
      subst ek
      refine J_aload_n (z := 0) dX9_reader_101 rfl rfl (q := 102) rfl ?_
      refine J_getR dX9_reader_102 lRX9_63 h0 rfl (by decide) r7 (q := 105) rfl (fun _ => ?_)
      refine J_iload_n (z := 1) dX9_reader_105 rfl rfl (q := 106) rfl ?_
      refine J_cVi (as := [.int (nI r)]) dX9_reader_106 mRX9_207 h89 (tX6_hasDone h89 p4) rfl (Nat.le_of_ble_eq_true rfl) (Nat.le_of_ble_eq_true rfl) (Nat.le_of_ble_eq_true rfl) (q := 109) rfl (fun _ => ?_)
      refine J_if_eq (tgt := 116) dX9_reader_109 (by decide) (q := 112) rfl (fun c => ?_) (fun c => ?_)
      · refine J_iconst (x := 0) dX9_reader_116 (by decide) (q := 117) rfl ?_
        exact J_ireturn dX9_reader_117 rfl rfl (by rw [c])
      · refine J_iconst (x := 1) dX9_reader_112 (by decide) (q := 113) rfl ?_
        refine J_goto (tgt := 117) dX9_reader_113 (by decide) ?_
        exact J_ireturn dX9_reader_117 rfl rfl (by rw [hf4.resolve_left c])
  · have ek : k = 5 := by
      have a0 : k ≠ 0 := fun z => hne (0, 64) (by decide) (by rw [z]; rfl)
      have a1 : k ≠ 1 := fun z => hne (1, 74) (by decide) (by rw [z]; rfl)
      have a2 : k ≠ 2 := fun z => hne (2, 83) (by decide) (by rw [z]; rfl)
      have a3 : k ≠ 3 := fun z => hne (3, 92) (by decide) (by rw [z]; rfl)
      have a4 : k ≠ 4 := fun z => hne (4, 101) (by decide) (by rw [z]; rfl)
      omega
    subst ek
    refine J_aload_n (z := 0) dX9_reader_118 rfl rfl (q := 119) rfl ?_
    refine J_getR dX9_reader_119 lRX9_63 h0 rfl (by decide) r7 (q := 122) rfl (fun _ => ?_)
    refine J_iload_n (z := 1) dX9_reader_122 rfl rfl (q := 123) rfl ?_
    refine J_cVi (as := [.int (nI r)]) dX9_reader_123 mRX9_210 h89 (tX6_pagesKnownBy h89 p5) rfl (Nat.le_of_ble_eq_true rfl) (Nat.le_of_ble_eq_true rfl) (Nat.le_of_ble_eq_true rfl) (q := 126) rfl (fun _ => ?_)
    exact J_ireturn dX9_reader_126 rfl rfl rfl
/-- what is left where it throws -/
def rdX (A : Nat → Nat) (D : va_G) (tc : Nat → ClassId) (sz n : Nat) (σ : Mm) : String → State → State → Prop := fun E st t => E = rxE ∧ va_P D vwCl (wsOf A tc n σ) t.heap ∧ va_F (va_A (wsOf A tc n σ) sz) st t
/-- behind a call that makes nothing and writes nothing, whatever is wanted at the end -/
theorem W_after0 {p : Program} {l : Launch} {e : Env} {R : Room} {s : State} {m : MethodId} {args : Array Value} {below : List Frame} {meth : Method} {c : Code} {D : va_G} {tc : Nat → ClassId} {S : Nat → Prop} {A : Nat → Nat} {H : Heap} {locs : List Loc} {cells slots pc : Nat} {ls : Array Slot} {ret1 : Option FieldType} {st0 rest : List Value} {a : Array Value} {Q : State → Prop} {w : Int32}
    (hS : va_S S s.heap H locs) (hSS : ∀ q, va_A (wsOf A tc n σ) H.size q → S q)
    (hr : va_Run p l e R s m args below meth c H locs cells slots 0 0 (F0 m pc ls st0) rest (jQ ret1 A n D tc (va_A (wsOf A tc n σ) H.size) n (some (.int w)) σ a) (va_A (wsOf A tc n σ) H.size))
    (h : ∀ (H1 : Heap) (locs1 : List Loc), va_P D vwCl (wsOf A tc n σ) H1 → va_S S s.heap H1 locs1 → W p l e R s m args below meth c H1 locs1 cells slots Q (F0 m (pc + 3) ls (.int w :: rest))) :
    W p l e R s m args below meth c H locs cells slots Q (F0 m pc ls st0) := by
  intro T hT X0
  obtain ⟨v, st₀, t, T', L, h0, X', hL', e1, e2, ⟨⟨A', g1, g2, g3, g4, g5, g6⟩, hz, hk⟩, stp⟩ := hr T hT X0
  have eA : A' = A := funext fun i => g1 i (by omega)
  subst eA
  cases g2
  rw [h0] at hz hk
  obtain ⟨t2, a1, b1⟩ := h T'.heap (locs ++ L) (by rw [e1]; exact g5)
    ⟨Nat.le_trans hS.1 (by rw [e1]; exact hz), fun q h1 h2 => by rw [e1, hk q (Nat.lt_of_lt_of_le h1 hS.1) (fun z => h2 (hSS q z))]; exact hS.2.1 q h1 h2, fun q hq => by
      rcases List.mem_append.mp hq with h | h
      · exact hS.2.2 q h
      · exact hSS _ (hL' q h)⟩ T' rfl X'
  exact ⟨t2, stp t2 a1, b1⟩
theorem M_readerX (h0 : RT n 0 109) (h3 : RT n 3 101) (r1 : gR σ 0 1 = some 3) (hh : fX1_hasReader 3 x σ = some hr) (bad : hr = 0 ∨ y < 0 ∨ ¬ y ≤ 5) (l : Launch) (hfl : l.stackTraces = false) (A : Nat → Nat) (D : va_G) (tc : Nat → ClassId) (sz : Nat) :
    vx_Met l yX9_reader (.code yX9_reader cX9_reader 3 (some .int) :: WS) { frames := 8, cells := 1, slots := 6, locals := 64 * 8 } (jP X [.ref 0, .int x, .int y] A D tc sz n σ) (fun _ _ _ _ => False) (rdX A D tc sz n σ) 1 6 (va_A (wsOf A tc n σ) sz) := by
  refine vx_ofW (cc := cX9_reader) (maxL := 3) (ret := some .int) (by decide +kernel) rfl ?_
  intro p e s m args below meth c s₁ B hml htab hv
  obtain ⟨rfl, hsz, hP, hK, hD0, hC, hW, hn⟩ := hv
  have hts := atoms_spec (ws := .code yX9_reader cX9_reader 3 (some .int) :: WS) B.pre
  have hown : s.vm.findClass RX9 = some m.cls := findClass_of_methodNamed B.named
  have hx := B.exec
  have hb := B.bytes
  have hlocks := B.notSynchronized
  have hWS := fun w (hw : w ∈ WS) => hts w (List.mem_cons_of_mem _ hw)
  subst hsz
  have hl := lv_entry ([Value.ref 0, .int x, .int y].map (cv A)) (n := 3) (Nat.le_of_ble_eq_true rfl)
  rw [lg_entry_eq]
  generalize (lg_sl ([Value.ref 0, .int x, .int y].map (cv A)) ++ List.replicate (3 - (lg_sl ([Value.ref 0, .int x, .int y].map (cv A))).length) Slot.unset).toArray = ls at hl ⊢
  have hl : lv_has ls 3 [(0, .ref (A 0)), (1, .int x), (2, .int y)] := hl
  have hD := hD0.self (sz := s.heap.size)
  have hS : va_S (va_A (wsOf A tc n σ) s.heap.size) s.heap s.heap [] := va_S.rf
  have key : ∀ (H1 : Heap) (locs1 : List Loc), va_P D vwCl (wsOf A tc n σ) H1 → va_S (va_A (wsOf A tc n σ) s.heap.size) s.heap H1 locs1 → W p l e { frames := 8, cells := 1, slots := 6, locals := 64 * 8 } s m ([Value.ref 0, .int x, .int y].map (cv A)).toArray below meth c H1 locs1 0 0 (vx_MQ below (fun _ _ _ _ => False) (rdX A D tc s.heap.size n σ) ([Value.ref 0, .int x, .int y].map (cv A)).toArray s 1 6 (va_A (wsOf A tc n σ) s.heap.size)) (F0 m 20 ls []) := by
    intro H1 locs1 hP1 hS1
    obtain ⟨-, -, -, -, -, hU, hN, hX⟩ := hC
    obtain ⟨sa, hsa⟩ := hX.2.2.1.2
    exact rx_throw (text := rxT) (ik := 188) (is := 190) (sa := sa) (A := va_A (wsOf A tc n σ) s.heap.size) hx hb hfl hown (hWS _ qt_cls) (hWS _ qt_init) hsa (th_w hWS hX) th_ot hU hN hS1 (hl.1.trans hml.symm)
      dX9_reader_20 dX9_reader_23 dX9_reader_24 dX9_reader_26 dX9_reader_29 (fun z hz => (htab z hz).elim) (by decide) (by decide) (by decide) (by decide) hlocks
      (fun t ha q1 q2 => ⟨rfl, hP1.kept (fun k q hq => q2 q.1 ((hP1 k q hq).lt)), Nat.le_trans hS1.1 q1, fun q z1 z2 => (q2 q (Nat.lt_of_lt_of_le z1 hS1.1)).trans (hS1.2.1 q z1 z2)⟩) hS1.2.2 (by decide) (by decide)
  refine lv_aload_n hx hb dX9_reader_0 rfl (lv_at hl 0 rfl) ?_
  obtain ⟨hci, C1, T, N, ty, f1, f2, f3, f4, f5, f6, f7, f8, f9, f10⟩ := lRX9_21
  have hs := SH_obj (ci := 9) h0 (by decide)
  have hi : cps 0 < n := h0.2 (by decide)
  have he := ws_get (A := A) (tc := tc) (σ := σ) hi
  rw [cell_obj hs] at he
  refine va_get hx hb hWS f2 hown hK hP (cps 0) he f1 1 f6 (hWS _ f7) (fun x hx => by rw [f8] at hx; exact hx) (v := cv A (.ref 3)) ?_ dX9_reader_1 ?_
  · rw [List.getElem?_map, List.getElem?_range (by rw [f5] at f6; exact f6), Option.map_some, FK_obj hs]
    show some (va_rf ((gR σ 0 1).map A)) = _
    rw [r1]; rfl
  refine lv_iload_n hx hb dX9_reader_4 rfl (lv_at hl 1 rfl) ?_
  obtain ⟨m0, m1, m2, m3, T9, N9, m4⟩ := mRX9_185
  have he3 := ws_get (A := A) (tc := tc) (σ := σ) (h3.2 (by decide))
  rw [cell_obj (SH_obj (ci := 1) h3 (by decide))] at he3
  refine W_after0 (rest := []) hS (fun q hq => hq) (va_runV (As := [.int x]) (b := A 3) (n := 1) (Ts := WS) (C := yX1_hasReader.cls) ⟨hx, hb, hml, hown, hWS⟩ (tX1_hasReader (X := X) h3 hh l hfl A D tc s.heap.size) ⟨callB_WS (d := 8) (R := { frames := 8, cells := 1, slots := 6, locals := 64 * 8 }) hWS m0 (by decide) (by decide) (Nat.le_refl _) (Nat.le_refl _), hWS _ m1, hWS _ m2⟩
    ⟨jP_blind, va_recv (q := (yX1_hasReader.cls, T9, N9)) hK hP m4 he3, fun U hU hUW => ⟨rfl, by rw [hU], by rw [hU]; exact hP, va_K.moved hUW.alike hK, hD.weaken (fun _ _ _ _ => trivial), by rw [hU]; exact jK.call hC hS hUW (fun q hq => hq), hW, hn⟩⟩
    rfl rfl hl.1 rfl (lv_room (Nat.le_of_ble_eq_true rfl)) dX9_reader_5 ⟨by decide, by decide⟩) (fun H1 locs1 hP1 hS1 => ?_)
  refine lv_if_eq (tgt := 20) hx hb dX9_reader_8 (by decide) (fun _ => key H1 locs1 hP1 hS1) (fun c1 => ?_)
  refine lv_iload_n hx hb dX9_reader_11 rfl (lv_at hl 2 rfl) ?_
  refine lv_if_lt (tgt := 20) hx hb dX9_reader_12 (by decide) (fun _ => key H1 locs1 hP1 hS1) (fun c2 => ?_)
  refine lv_iload_n hx hb dX9_reader_15 rfl (lv_at hl 2 rfl) ?_
  refine lv_iconst (v := 5) hx hb dX9_reader_16 (by decide) ?_
  exact lv_icmp_le (tgt := 30) hx hb dX9_reader_17 (by decide) (fun c3 => (bad.elim (fun b => absurd b c1) (fun b => b.elim (fun b => absurd b c2) (fun b => absurd c3 b)))) (fun _ => key H1 locs1 hP1 hS1)
/-- a method with a table that returns -/
theorem MetH {l : Launch} {y : MethodName} {ws ws' : List Cond} {rm : Room} {Pc : Array Value → State → Prop} {Qc : Array Value → State → Outcome → State → Prop} {mc ms : Nat} {free : Addr → Prop} {cc : ByteArray} {maxL : Nat} {ret : Option FieldType} {hh : List (Nat × Nat × Nat × Nat)}
    (hy : plainName y.cls = true) (hw : ws = Cond.codeWith y cc maxL ret hh :: ws')
    (body : ∀ p e s m args below meth c s₁, BodyLoose p l y (headSpec ws rm) cc maxL ret e s m args below meth c s₁ → c.maxLocals = maxL → Pc args s →
      W p l e (headSpec ws rm).room s m args below meth c s.heap [] 0 0 (MQ below Qc args s mc ms free) (entryFrame m args maxL)) : Met l y ws rm Pc Qc mc ms free := by
  refine MetFree.of_bodyS (code := cc) (maxLocals := maxL) (ret := ret) hy ?_ ?_
  · intro args s m h hn
    obtain ⟨m9, meth, c, hn9, h1, h2, h3, h4, -, h5, h6, -⟩ := Cond.codeWith_spec (atoms_spec (ws := ws) h _ (by rw [hw]; exact List.mem_cons_self))
    cases hn.symm.trans hn9
    exact ⟨meth, c, h1, h2, h3, h4, h5, h6⟩
  · intro p e s m args below meth c s₁ B hml hP _
    have hh0 : s₁.heap = s.heap := by rw [B.state]; rfl
    obtain ⟨t, a1, o, b1, b2, b3⟩ := body p e s m args below meth c s₁ B hml hP s₁ hh0 (Stand.of_body B)
    exact ⟨t, o, a1, b1, b2, b3⟩
def MR (X : XS) (x y : Int32) (n : Nat) (σ : Mm) (F : Nat × Option Value × Mm) : Prop := ∀ (l : Launch), l.stackTraces = false → ∀ (A : Nat → Nat) (D : va_G) (tc : Nat → ClassId) (sz : Nat),
  Met l yL_reader (.codeWith yL_reader cL_reader 5 (some .int) hhR :: WS) { frames := 9, cells := 1, slots := 6, locals := 64 * 9 } (jP X [.ref 0, .int x, .int y, .ref 333] A D tc sz n σ) (jQ (some .int) A n D tc (va_A (wsOf A tc n σ) sz) F.1 F.2.1 F.2.2) 1 6 (va_A (wsOf A tc n σ) sz)
/-- as MT_of, for the one with a table -/
theorem MR_of {F : Nat × Option Value × Mm} (h : J X mL_reader 9 1 6 F 0 [(0, .ref 0), (1, .int x), (2, .int y), (3, .ref 333)] [] n σ) : MR X x y n σ F := by
  intro l hfl A D tc sz
  refine MetH (cc := cL_reader) (maxL := 5) (ret := some .int) (by decide +kernel) rfl ?_
  intro p e s m args below meth c s₁ B hml hv
  obtain ⟨rfl, hsz, hP, hK, hD0, hC, hW, hn⟩ := hv
  have hts := atoms_spec (ws := .codeWith yL_reader cL_reader 5 (some .int) hhR :: WS) B.pre
  have hown : s.vm.findClass RL = some m.cls := findClass_of_methodNamed B.named
  subst hsz
  have hl := lv_entry ([Value.ref 0, .int x, .int y, .ref 333].map (cv A)) (n := 5) (Nat.le_of_ble_eq_true rfl)
  rw [lv_args_map] at hl
  rw [lg_entry_eq]
  exact h p l e _ s m _ below meth c A n D tc (va_A (wsOf A tc n σ) s.heap.size) A s.heap [] 0 0 _ ⟨⟨B.exec, B.bytes, hml, hown, fun w hw => hts w (List.mem_cons_of_mem _ hw)⟩, B.returns, B.notSynchronized, (fun q => by cases q), Nat.le_refl _, Nat.le_refl _, hK, hC, fun q hq => Or.inr hq, hn, hfl⟩ (by decide) (by decide) (Nat.le_refl _) hn (fun _ _ => rfl) hW hP hD0.self va_S.rf hl
theorem M_LrG (h0 : RT n 0 109) (h333 : RT n 333 201) (hM : MT X yX9_reader mX9_reader 4 0 0 [.ref 0, .int x, .int y] n σ (n, some (.int v), σ)) : MR X x y n σ (n, some (.int 0), sL σ 333 0 v.toInt64) := by
  refine MR_of ?_
  refine J_aload_n (z := 3) dL_reader_0 rfl rfl (q := 1) rfl ?_
  refine J_iconst (x := 0) dL_reader_1 (by decide) (q := 2) rfl ?_
  refine J_aload_n (z := 0) dL_reader_2 rfl rfl (q := 3) rfl ?_
  refine J_iload_n (z := 1) dL_reader_3 rfl rfl (q := 4) rfl ?_
  refine J_iload_n (z := 2) dL_reader_4 rfl rfl (q := 5) rfl ?_
  refine J_callV (as := [.int x, .int y]) (kc2 := 1) (ks2 := 6) dL_reader_5 mRL_7 h0 hM rfl (Nat.le_of_ble_eq_true rfl) (Nat.le_of_ble_eq_true rfl) (Nat.le_of_ble_eq_true rfl) (by decide) (by decide) (Nat.le_refl _) (fun h => h) (Or.inl rfl) (q := 8) rfl (fun _ => ?_)
  refine J_i2l dL_reader_8 (q := 9) rfl ?_
  refine J_last dL_reader_9 h333 (nI_in (c := 0) (by decide +kernel) (by decide +kernel)) (q := 10) rfl ?_
  refine J_goto (tgt := 17) dL_reader_10 (by decide) ?_
  refine J_iconst (x := 0) dL_reader_17 (by decide) (q := 18) rfl ?_
  exact J_ireturn dL_reader_18 rfl rfl rfl
theorem M_LrX (h0 : RT n 0 109) (h3 : RT n 3 101) (r1 : gR σ 0 1 = some 3) (hh : fX1_hasReader 3 x σ = some hr) (bad : hr = 0 ∨ y < 0 ∨ ¬ y ≤ 5) : MR X x y n σ (n, some (.int 1), σ) := by
  intro l hfl A D tc sz
  refine MetH (cc := cL_reader) (maxL := 5) (ret := some .int) (by decide +kernel) rfl ?_
  intro p e s m args below meth c s₁ B hml hv
  obtain ⟨rfl, hsz, hP, hK, hD0, hC, hW, hn⟩ := hv
  have hts := atoms_spec (ws := .codeWith yL_reader cL_reader 5 (some .int) hhR :: WS) B.pre
  have hown : s.vm.findClass RL = some m.cls := findClass_of_methodNamed B.named
  have htab : c.exceptionTable.toList = tableOf hhR := vx_table (x := yL_law) B (hts _ List.mem_cons_self)
  have hx := B.exec
  have hb := B.bytes
  have hWS := fun w (hw : w ∈ WS) => hts w (List.mem_cons_of_mem _ hw)
  subst hsz
  have hl := lv_entry ([Value.ref 0, .int x, .int y, .ref 333].map (cv A)) (n := 5) (Nat.le_of_ble_eq_true rfl)
  rw [lg_entry_eq]
  generalize (lg_sl ([Value.ref 0, .int x, .int y, .ref 333].map (cv A)) ++ List.replicate (5 - (lg_sl ([Value.ref 0, .int x, .int y, .ref 333].map (cv A))).length) Slot.unset).toArray = ls at hl ⊢
  have hl : lv_has ls 5 [(0, .ref (A 0)), (1, .int x), (2, .int y), (3, .ref (A 333))] := hl
  have hD := hD0.self (sz := s.heap.size)
  have hS : va_S (va_A (wsOf A tc n σ) s.heap.size) s.heap s.heap [] := va_S.rf
  refine lv_aload_n hx hb dL_reader_0 rfl (lv_at hl 3 rfl) ?_
  refine lv_iconst (v := 0) hx hb dL_reader_1 (by decide) ?_
  refine lv_aload_n hx hb dL_reader_2 rfl (lv_at hl 0 rfl) ?_
  refine lv_iload_n hx hb dL_reader_3 rfl (lv_at hl 1 rfl) ?_
  refine lv_iload_n hx hb dL_reader_4 rfl (lv_at hl 2 rfl) ?_
  obtain ⟨m0, m1, m2, m3, T9, N9, m4⟩ := mRL_7
  have he0 := ws_get (A := A) (tc := tc) (σ := σ) (h0.2 (by decide))
  rw [cell_obj (SH_obj (ci := 9) h0 (by decide))] at he0
  have hrun := vx_runV (p := p) (e := e) (R := { frames := 9, cells := 1, slots := 6, locals := 64 * 9 }) (m := m) (args := ([Value.ref 0, .int x, .int y, .ref 333].map (cv A)).toArray) (below := below) (meth := meth) (locs := []) (cells := 0) (slots := 0) (As := [.int x, .int y]) (b := A 0) (n := 2) (Ts := WS) (C := yX9_reader.cls) (rest := [.int 0, .ref (A 333)]) (g := F0 m 5 ls [.int y, .int x, .ref (A 0), .int 0, .ref (A 333)]) ⟨hx, hb, hml, hown, hWS⟩ (M_readerX (X := X) h0 h3 r1 hh bad l hfl A D tc s.heap.size) ⟨callB_WS (d := 9) (R := { frames := 9, cells := 1, slots := 6, locals := 64 * 9 }) hWS m0 (by decide) (by decide) (Nat.le_refl _) (Nat.le_refl _), hWS _ m1, hWS _ m2⟩
    ⟨jP_blind, va_recv (q := (yX9_reader.cls, T9, N9)) hK hP m4 he0, fun U hU hUW => ⟨rfl, by rw [hU], by rw [hU]; exact hP, va_K.moved hUW.alike hK, hD.weaken (fun _ _ _ _ => trivial), by rw [hU]; exact jK.call hC hS hUW (fun q hq => hq), hW, hn⟩⟩
    rfl rfl hl.1 rfl (lv_room (Nat.le_of_ble_eq_true rfl)) dL_reader_5 ⟨by decide, by decide⟩
  intro T hT X0
  rcases hrun T hT X0 with ⟨v, st₀, t, T', L, -, -, -, -, -, hF, -⟩ | ⟨q9, st₀, t, T', L, E, ce, h00, X', hL', e1, e2, ⟨rfl, hP1, hz, hk⟩, hce, hcv, hcl, stp⟩
  · exact hF.elim
  rw [h00] at hz hk
  have hS1 : va_S (va_A (wsOf A tc n σ) s.heap.size) s.heap T'.heap ([] ++ L) := ⟨by rw [e1]; exact hz, fun q h1 h2 => by rw [e1]; exact hk q h1 h2, fun q hq => hL' q hq⟩
  have hP1' : va_P D vwCl (wsOf A tc n σ) T'.heap := by rw [e1]; exact hP1
  have hJ : J X mL_reader 9 0 0 (n, some (.int 1), σ) 15 [(0, .ref 0), (1, .int x), (2, .int y), (3, .ref 333)] [] n σ := by
    refine J_iconst (x := 1) dL_reader_15 (by decide) (q := 16) rfl ?_
    exact J_ireturn dL_reader_16 rfl rfl rfl
  have hc9 := vx_catch (p := p) (l := l) (e := e) (R := { frames := 9, cells := 1, slots := 6, locals := 64 * 9 }) (below := below) (meth := meth) (locs := [] ++ L) (cells := 1) (slots := 6) (Q := MQ below (jQ (some .int) A n D tc (va_A (wsOf A tc n σ) s.heap.size) n (some (.int 1)) σ) ([Value.ref 0, .int x, .int y, .ref 333].map (cv A)).toArray s 1 6 (va_A (wsOf A tc n σ) s.heap.size)) (pc := 5) (ls := ls) (rest := [.int 0, .ref (A 333)]) (own := RL) (name := rxE) (E := rxE) (ce := ce) (q := q9) (H := T'.heap) hown [] ⟨0, 10, 13, 13⟩ [] htab (fun z hz => by cases hz) (by decide) (by decide) (hWS _ qR_cls) (va_Nw.use rfl hC.2.2.2.2.2.2.2.2.2.1.1) (by rw [e1]; exact hce) hcv hcl (by
      refine lv_astore (lv' := [(4, .ref q9), (0, .ref (A 0)), (1, .int x), (2, .int y), (3, .ref (A 333))]) hx hb dL_reader_13 hl (by decide) rfl (fun ls' hl' => ?_)
      have hl2 : lv_has ls' 5 [(0, .ref (A 0)), (1, .int x), (2, .int y), (3, .ref (A 333))] := lv_sub hl' [1, 2, 3, 4] rfl
      exact hJ p l e _ s m _ below meth c A n D tc (va_A (wsOf A tc n σ) s.heap.size) A T'.heap ([] ++ L) 1 6 ls' ⟨⟨B.exec, B.bytes, hml, hown, hWS⟩, B.returns, B.notSynchronized, (fun q => by cases q), Nat.le_refl _, Nat.le_refl _, hK, hC, fun q hq => Or.inr hq, hn, hfl⟩ (by decide) (by decide) (Nat.le_refl _) hn (fun _ _ => rfl) hW hP1' hD hS1 hl2)
  obtain ⟨t2, a1, b1⟩ := hc9 T' rfl X'
  exact ⟨t2, stp.trans a1, b1⟩
/-- the law's call of it -/
theorem J_callR {M : JM} {d kc ks kc2 ks2 : Nat} {F F1 : Nat × Option Value × Mm} {pc q : Nat} {lv : List (Nat × Value)} {st st0 : List Value} (hown : M.2.1 = RL) (hd : decode M.1 pc = .ok (.invokestatic 46, 3)) (hM : MR X x y n σ F1) (hst : [.ref 333, .int y, .int x, .ref 0] ++ st = st0) (hdd : 10 ≤ d) (hcat : (st.map fun v => v.category).sum ≤ 8) (hkc : 1 + kc2 ≤ kc) (hks : 6 + ks2 ≤ ks) (hn : F1.1 = n) (hq : pc + 3 = q)
    (h : J X M d kc2 ks2 F q lv (F1.2.1.toList ++ st) F1.1 F1.2.2) : J X M d kc ks F pc lv st0 n σ := by
  intro p l e R s m args below meth c Ae ne D tc S A H locs cells slots ls C h1 h2 h3 h3' h4 h5 hP hD hS hL
  subst hst
  have hW := C.1.2.2.2.2
  have hSS : ∀ q, va_A (wsOf A tc n σ) H.size q → S q := by
    intro q hq
    rcases hq with ⟨k, e, hk⟩ | hq
    · exact hD.2 k _ hk
    · exact C.2.2.2.2.2.2.2.2.1 q (Nat.le_trans hS.1 hq)
  have hf := C.2.2.2.2.1
  have hl2 := C.2.2.2.2.2.1
  have cw : vx_CSW R s args M.2.1 46 yL_reader cL_reader 5 (some .int) hhR (.codeWith yL_reader cL_reader 5 (some .int) hhR :: WS) { frames := 9, cells := 1, slots := 6, locals := 64 * 9 } 1 6 4 := by
    refine ⟨⟨rfl, rfl, by show 9 + 1 ≤ _; omega, by show 8 + (5 + 11) + 64 * 9 ≤ _; omega, fun w hw a' U hU => ?_, List.mem_cons_self⟩, hW _ qR_code, hW _ qR_init, ⟨by decide +kernel, by decide +kernel⟩, fun sig h => ?_, by rw [hown]; exact hW _ qR_link, hW _ qR_stat⟩
    · have hw' : w ∈ WS := by
        rcases List.mem_cons.mp hw with e | e
        · rw [e]; exact qR_code
        · exact e
      exact word_at hU (WS_good hw') (hW w hw')
    · have h3 : (parseMethodDescriptor yL_reader.desc).map (fun d => d.parameters.length) = some 4 := by decide +kernel
      rw [h] at h3
      exact (Option.some.inj h3).symm
  refine J_after (ret1 := some .int) C h1 h2 h3 h3' h4 hD hS hL hkc hks (by omega) (by omega) (Or.inl hn) hq (fun _ => h) (vx_runSW (As := [.ref 0, .int x, .int y, .ref 333].map (cv A)) (n := 4) (Ts := WS) C.1 (hM l C.2.2.2.2.2.2.2.2.2.2 A D tc H.size) cw
    ⟨jP_blind, fun U hU hUW => ⟨rfl, by rw [hU], by rw [hU]; exact hP, va_K.moved hUW.alike C.2.2.2.2.2.2.1, hD.weaken (fun _ _ _ _ => trivial), by rw [hU]; exact jK.call (jK.agr (fun z hz => h4.big h3' (by omega)) C.2.2.2.2.2.2.2.1) hS hUW hSS, h5, h3'⟩⟩
    rfl rfl hL.1 (by simp [cv]) (lv_room (by rw [cat_sum]; exact hcat)) hd ⟨by omega, by omega⟩)
end ReaderM
