theorem iX8_solve_X8 : ∀ w ∈ u_ws RX8 TX8 27, w ∈ wsX8_solve := by decide +kernel
theorem fX8_solve_1 : Cond.fieldLink RX8 59 "FeatureSolveModel" "thrown" "I" ∈ wsX8_solve := by decide +kernel
theorem fX8_solve_2 : Cond.fieldLink RX8 119 "FeatureSolveModel" "whyCount" "I" ∈ wsX8_solve := by decide +kernel
theorem hd_X8_firstWithout : yX8_firstWithout.cls ≠ "java/lang/invoke/MethodHandle" ∧ yX8_firstWithout.cls ≠ "java/lang/invoke/VarHandle" ∧ (parseMethodDescriptor yX8_firstWithout.desc).map (fun d => d.parameters.length) = some 1 := by decide +kernel
theorem fX8_solve_3 : Cond.fieldLink RX8 125 "FeatureSolveModel" "solved" "Z" ∈ wsX8_solve := by decide +kernel
theorem fX8_solve_4 : Cond.fieldLink RX8 84 "FeatureSolveModel" "choiceCount" "I" ∈ wsX8_solve := by decide +kernel
theorem fX8_solve_5 : Cond.fieldLink RX8 56 "FeatureSolveModel" "whys" "[I" ∈ wsX8_solve := by decide +kernel
theorem fX8_solve_6 : Cond.fieldLink RX8 44 "FeatureSolveModel" "choices" "[I" ∈ wsX8_solve := by decide +kernel
theorem fX8_solve_7 : Cond.fieldLink RX8 128 "FeatureSolveModel" "last" "I" ∈ wsX8_solve := by decide +kernel
theorem fX8_solve_8 : Cond.fieldLink RX8 63 "FeatureSolveModel" "features" "I" ∈ wsX8_solve := by decide +kernel
theorem fX8_solve_9 : Cond.fieldLink RX8 131 "FeatureSolveModel" "lastFeatures" "I" ∈ wsX8_solve := by decide +kernel
theorem fX8_solve_10 : Cond.fieldLink RX8 134 "FeatureSolveModel" "foundCount" "I" ∈ wsX8_solve := by decide +kernel
theorem fX8_solve_11 : Cond.fieldLink RX8 50 "FeatureSolveModel" "found" "[I" ∈ wsX8_solve := by decide +kernel
theorem fX8_solve_12 : Cond.fieldLink RX8 53 "FeatureSolveModel" "foundFeatures" "[I" ∈ wsX8_solve := by decide +kernel
set_option maxHeartbeats 4000000 in
set_option maxRecDepth 100000 in
/-- solve -/
theorem c_X8_solve (l : Launch) (G : GG) (b : Nat → Nat) (th : Int32) (n mf cc : Nat) (kn : Bool) (sc fc : Nat) (so : Bool) (la lq : Int32) (wq : Nat) (q : Nat → Nat → Int32) (hc : cc ≤ 14) (hfc : fc ≤ 200) (hko : kOk n mf kn sc q) : Met l yX8_solve wsX8_solve (rmK 5) (va_Pc [.ref (b 0)] (PM G [(oX8 (b 0) th (b 1) (b 2) (b 3) (b 4) (b 5) (b 6) (nI n) (b 8) (b 9) (b 10) (nI mf) (b 12) (b 13) (b 14) (nI cc) (bI kn) (b 17) (nI sc) (b 19) (nI fc) (b 21) (bI so) la lq (b 25) (nI wq)), (cI G (b 1) 15 (q 1)), (cI G (b 2) 15 (q 2)), (cZ G (b 3) 15 (q 3)), (cI G (b 4) 15 (q 4)), (cI G (b 5) 15 (q 5)), (cI G (b 6) 60 (q 6)), (cI G (b 8) 40 (q 8)), (cI G (b 9) 40 (q 9)), (cI G (b 10) 40 (q 10)), (cZ G (b 12) 4 (q 12)), (cI G (b 13) 4 (q 13)), (cI G (b 14) 14 (q 14)), (cI G (b 17) 16384 (q 17)), (cI G (b 19) 201 (q 19)), (cI G (b 21) 201 (q 21)), (cI G (b 25) 14 (q 25))])) (QG (S := Int32 × MS) G [(oX8 (b 0) th (b 1) (b 2) (b 3) (b 4) (b 5) (b 6) (nI n) (b 8) (b 9) (b 10) (nI mf) (b 12) (b 13) (b 14) (nI cc) (bI kn) (b 17) (nI sc) (b 19) (nI fc) (b 21) (bI so) la lq (b 25) (nI wq)), (cI G (b 1) 15 (q 1)), (cI G (b 2) 15 (q 2)), (cZ G (b 3) 15 (q 3)), (cI G (b 4) 15 (q 4)), (cI G (b 5) 15 (q 5)), (cI G (b 6) 60 (q 6)), (cI G (b 8) 40 (q 8)), (cI G (b 9) 40 (q 9)), (cI G (b 10) 40 (q 10)), (cZ G (b 12) 4 (q 12)), (cI G (b 13) 4 (q 13)), (cI G (b 14) 14 (q 14)), (cI G (b 17) 16384 (q 17)), (cI G (b 19) 201 (q 19)), (cI G (b 21) 201 (q 21)), (cI G (b 25) 14 (q 25))] (fun u => mSolve n mf cc kn sc fc so la lq wq q u) (fun u => some (.int u.1)) (fun u => mW G b u.2)) 0 0 (adr [(oX8 (b 0) th (b 1) (b 2) (b 3) (b 4) (b 5) (b 6) (nI n) (b 8) (b 9) (b 10) (nI mf) (b 12) (b 13) (b 14) (nI cc) (bI kn) (b 17) (nI sc) (b 19) (nI fc) (b 21) (bI so) la lq (b 25) (nI wq)), (cI G (b 1) 15 (q 1)), (cI G (b 2) 15 (q 2)), (cZ G (b 3) 15 (q 3)), (cI G (b 4) 15 (q 4)), (cI G (b 5) 15 (q 5)), (cI G (b 6) 60 (q 6)), (cI G (b 8) 40 (q 8)), (cI G (b 9) 40 (q 9)), (cI G (b 10) 40 (q 10)), (cZ G (b 12) 4 (q 12)), (cI G (b 13) 4 (q 13)), (cI G (b 14) 14 (q 14)), (cI G (b 17) 16384 (q 17)), (cI G (b 19) 201 (q 19)), (cI G (b 21) 201 (q 21)), (cI G (b 25) 14 (q 25))]) := by
  refine Met.ofW (cc := cX8_solve) (maxL := 4) (ret := (some .int)) (by decide) rfl ?_
  intro p e s m args below meth c s₁ B hml hv
  obtain ⟨rfl, hP, hD0, hKK⟩ := hv
  have hx := B.exec
  have hb := B.bytes
  have hr := B.returns
  have hts := atoms_spec (ws := wsX8_solve) B.pre
  have hown : s.vm.findClass RX8 = some m.cls := findClass_of_methodNamed B.named
  have hlocks := B.notSynchronized
  have hK := hKK.1
  generalize hAe : adr [(oX8 (b 0) th (b 1) (b 2) (b 3) (b 4) (b 5) (b 6) (nI n) (b 8) (b 9) (b 10) (nI mf) (b 12) (b 13) (b 14) (nI cc) (bI kn) (b 17) (nI sc) (b 19) (nI fc) (b 21) (bI so) la lq (b 25) (nI wq)), (cI G (b 1) 15 (q 1)), (cI G (b 2) 15 (q 2)), (cZ G (b 3) 15 (q 3)), (cI G (b 4) 15 (q 4)), (cI G (b 5) 15 (q 5)), (cI G (b 6) 60 (q 6)), (cI G (b 8) 40 (q 8)), (cI G (b 9) 40 (q 9)), (cI G (b 10) 40 (q 10)), (cZ G (b 12) 4 (q 12)), (cI G (b 13) 4 (q 13)), (cI G (b 14) 14 (q 14)), (cI G (b 17) 16384 (q 17)), (cI G (b 19) 201 (q 19)), (cI G (b 21) 201 (q 21)), (cI G (b 25) 14 (q 25))] = A
  have hD : va_D A [(oX8 (b 0) th (b 1) (b 2) (b 3) (b 4) (b 5) (b 6) (nI n) (b 8) (b 9) (b 10) (nI mf) (b 12) (b 13) (b 14) (nI cc) (bI kn) (b 17) (nI sc) (b 19) (nI fc) (b 21) (bI so) la lq (b 25) (nI wq)), (cI G (b 1) 15 (q 1)), (cI G (b 2) 15 (q 2)), (cZ G (b 3) 15 (q 3)), (cI G (b 4) 15 (q 4)), (cI G (b 5) 15 (q 5)), (cI G (b 6) 60 (q 6)), (cI G (b 8) 40 (q 8)), (cI G (b 9) 40 (q 9)), (cI G (b 10) 40 (q 10)), (cZ G (b 12) 4 (q 12)), (cI G (b 13) 4 (q 13)), (cI G (b 14) 14 (q 14)), (cI G (b 17) 16384 (q 17)), (cI G (b 19) 201 (q 19)), (cI G (b 21) 201 (q 21)), (cI G (b 25) 14 (q 25))] := by rw [← hAe]; exact hD0.own
  have hS : va_S A s.heap s.heap [] := va_S.rf
  have hP : va_P G.1 vwCl [(oX8 (b 0) th (b 1) (b 2) (b 3) (b 4) (b 5) (b 6) (nI n) (b 8) (b 9) (b 10) (nI mf) (b 12) (b 13) (b 14) (nI cc) (bI kn) (b 17) (nI sc) (b 19) (nI fc) (b 21) (bI so) la lq (b 25) (nI wq)), (cI G (b 1) 15 (q 1)), (cI G (b 2) 15 (q 2)), (cZ G (b 3) 15 (q 3)), (cI G (b 4) 15 (q 4)), (cI G (b 5) 15 (q 5)), (cI G (b 6) 60 (q 6)), (cI G (b 8) 40 (q 8)), (cI G (b 9) 40 (q 9)), (cI G (b 10) 40 (q 10)), (cZ G (b 12) 4 (q 12)), (cI G (b 13) 4 (q 13)), (cI G (b 14) 14 (q 14)), (cI G (b 17) 16384 (q 17)), (cI G (b 19) 201 (q 19)), (cI G (b 21) 201 (q 21)), (cI G (b 25) 14 (q 25))] s.heap := hP
  have hl := lv_entry ([.ref (b 0)]) (n := 4) (Nat.le_of_ble_eq_true rfl)
  rw [lg_entry_eq]
  generalize (lg_sl ([.ref (b 0)]) ++ List.replicate (4 - (lg_sl ([.ref (b 0)])).length) Slot.unset).toArray = ls at hl ⊢
  have hl : lv_has ls 4 [(0, .ref (b 0))] := hl
  have hn := hko.1
  have hm := hko.2.1
  have hk := hko.2.2
  have hl9 : (mL n mf q).length ≤ 16384 := mLL_len hn _ _ _ _ _ _ _ _ _ _ _ _
  refine lv_aload_n hx hb dX8_solve_0 rfl (lv_at hl 0 rfl) ?_
  refine lv_iconst (v := 0) hx hb dX8_solve_1 (by decide) ?_
  refine va_put (D := G.1) (ci := 10) (v := .int 0) (ty := .int) (C := RX8) (T := TX8) (N := 27) hx hb hts iX8_solve_X8 tyX8 tyX8_ok nmX8 hown hK hP hD hS 0 rfl rfl 0 (by decide) (hts _ fX8_solve_1) (fun _ h9 => h9) rfl (by decide +kernel) rfl rfl (Nat.le_of_ble_eq_true rfl) dX8_solve_2 (fun H locs hP hD hS => ?_)
  have hPD : PD G A [(oX8 (b 0) 0 (b 1) (b 2) (b 3) (b 4) (b 5) (b 6) (nI n) (b 8) (b 9) (b 10) (nI mf) (b 12) (b 13) (b 14) (nI cc) (bI kn) (b 17) (nI sc) (b 19) (nI fc) (b 21) (bI so) la lq (b 25) (nI wq)), (cI G (b 1) 15 (q 1)), (cI G (b 2) 15 (q 2)), (cZ G (b 3) 15 (q 3)), (cI G (b 4) 15 (q 4)), (cI G (b 5) 15 (q 5)), (cI G (b 6) 60 (q 6)), (cI G (b 8) 40 (q 8)), (cI G (b 9) 40 (q 9)), (cI G (b 10) 40 (q 10)), (cZ G (b 12) 4 (q 12)), (cI G (b 13) 4 (q 13)), (cI G (b 14) 14 (q 14)), (cI G (b 17) 16384 (q 17)), (cI G (b 19) 201 (q 19)), (cI G (b 21) 201 (q 21)), (cI G (b 25) 14 (q 25))] H := ⟨hP, hD⟩
  have hP := hPD.1
  have hD := hPD.2
  clear hPD
  refine lv_aload_n hx hb dX8_solve_5 rfl (lv_at hl 0 rfl) ?_
  refine lv_iconst (v := 0) hx hb dX8_solve_6 (by decide) ?_
  refine va_put (D := G.1) (ci := 10) (v := .int 0) (ty := .int) (C := RX8) (T := TX8) (N := 27) hx hb hts iX8_solve_X8 tyX8 tyX8_ok nmX8 hown hK hP hD hS 0 rfl rfl 26 (by decide) (hts _ fX8_solve_2) (fun _ h9 => h9) rfl (by decide +kernel) rfl rfl (Nat.le_of_ble_eq_true rfl) dX8_solve_7 (fun H locs hP hD hS => ?_)
  have hPD : PD G A [(oX8 (b 0) 0 (b 1) (b 2) (b 3) (b 4) (b 5) (b 6) (nI n) (b 8) (b 9) (b 10) (nI mf) (b 12) (b 13) (b 14) (nI cc) (bI kn) (b 17) (nI sc) (b 19) (nI fc) (b 21) (bI so) la lq (b 25) 0), (cI G (b 1) 15 (q 1)), (cI G (b 2) 15 (q 2)), (cZ G (b 3) 15 (q 3)), (cI G (b 4) 15 (q 4)), (cI G (b 5) 15 (q 5)), (cI G (b 6) 60 (q 6)), (cI G (b 8) 40 (q 8)), (cI G (b 9) 40 (q 9)), (cI G (b 10) 40 (q 10)), (cZ G (b 12) 4 (q 12)), (cI G (b 13) 4 (q 13)), (cI G (b 14) 14 (q 14)), (cI G (b 17) 16384 (q 17)), (cI G (b 19) 201 (q 19)), (cI G (b 21) 201 (q 21)), (cI G (b 25) 14 (q 25))] H := ⟨hP, hD⟩
  have hP := hPD.1
  have hD := hPD.2
  clear hPD
  refine lv_aload_n hx hb dX8_solve_10 rfl (lv_at hl 0 rfl) ?_
  refine lv_iconst (v := 0) hx hb dX8_solve_11 (by decide) ?_
  refine cnV (nw := 17) (ci := 10) (T0 := TX8) (N := 27) (As := [.int 0]) (rest := []) ⟨hx, hb, hml, hown, hts⟩ (c_X8_firstWithout l G b 0 n mf cc kn sc fc so la lq 0 (q 1) (q 2) (q 3) (q 4) (q 5) (q 6) (q 8) (q 9) (q 10) (q 12) (q 13) (q 14) (q 17) 0 hc hn hm (hk)) (cwV 1 hts gX8_solve_X8_firstWithout rfl rfl rfl ⟨rfl, hd_X8_firstWithout⟩ ⟨Nat.le_of_ble_eq_true rfl, Nat.le_of_ble_eq_true rfl⟩) hKK hP hD hS [0, 1, 2, 3, 4, 5, 6, 7, 8, 9, 10, 11, 12, 13] [14, 15, 16] (fun gv => [(oX8 (b 0) 0 (b 1) (b 2) (b 3) (b 4) (b 5) (b 6) (nI n) (b 8) (b 9) (b 10) (nI mf) (b 12) (b 13) (b 14) (nI cc) 1 (b 17) (nI (mL n mf q).length) (b 19) (nI fc) (b 21) (bI so) la lq (b 25) 0), (cI G (b 1) 15 (q 1)), (cI G (b 2) 15 (q 2)), (cZ G (b 3) 15 (q 3)), (cI G (b 4) 15 (q 4)), (cI G (b 5) 15 (q 5)), (cI G (b 6) 60 (q 6)), (cI G (b 8) 40 (q 8)), (cI G (b 9) 40 (q 9)), (cI G (b 10) 40 (q 10)), (cZ G (b 12) 4 (q 12)), (cI G (b 13) 4 (q 13)), (cI G (b 14) 14 (q 14)), (cI G (b 17) 16384 gv), (cI G (b 19) 201 (q 19)), (cI G (b 21) 201 (q 21)), (cI G (b 25) 14 (q 25))]) [some (cI G (b 19) 201 (q 19)), some (cI G (b 21) 201 (q 21)), some (cI G (b 25) 14 (q 25))] [b 0, b 1, b 2, b 3, b 4, b 5, b 6, b 8, b 9, b 10, b 12, b 13, b 14, b 17, b 19, b 21, b 25] rfl (by decide) (by decide) rfl rfl rfl hl.1 rfl (Nat.le_of_ble_eq_true rfl) dX8_solve_12 ⟨Nat.zero_le _, Nat.zero_le _⟩ (fun _ => rfl) (fun _ => rfl) rfl (fun _ => rfl) rfl (fun _ => rfl) (fun gv H locs hgv hP hD hS => ?_)
  refine lv_istore_n (lv' := [(1, .int (mFst n mf cc q 0)), (0, .ref (b 0))]) hx hb dX8_solve_15 rfl hl (by decide) rfl (fun ls hl => ?_)
  refine lv_aload_n hx hb dX8_solve_16 rfl (lv_at hl 1 rfl) ?_
  refine lv_iload_n hx hb dX8_solve_17 rfl (lv_at hl 0 rfl) ?_
  refine lv_if_lt (tgt := 25) hx hb dX8_solve_18 (by decide) (fun c_18 => ?_) (fun c_18 => ?_)
  · skip
    refine lv_iconst (v := 0) hx hb dX8_solve_25 (by decide) ?_
    refine va_put (D := G.1) (ci := 10) (v := .int 0) (ty := .boolean) (C := RX8) (T := TX8) (N := 27) hx hb hts iX8_solve_X8 tyX8 tyX8_ok nmX8 hown hK hP hD hS 0 rfl rfl 22 (by decide) (hts _ fX8_solve_3) (fun _ h9 => h9) rfl (by decide +kernel) rfl rfl (Nat.le_of_ble_eq_true rfl) dX8_solve_26 (fun H locs hP hD hS => ?_)
    have hPD : PD G A [(oX8 (b 0) 0 (b 1) (b 2) (b 3) (b 4) (b 5) (b 6) (nI n) (b 8) (b 9) (b 10) (nI mf) (b 12) (b 13) (b 14) (nI cc) 1 (b 17) (nI (mL n mf q).length) (b 19) (nI fc) (b 21) 0 la lq (b 25) 0), (cI G (b 1) 15 (q 1)), (cI G (b 2) 15 (q 2)), (cZ G (b 3) 15 (q 3)), (cI G (b 4) 15 (q 4)), (cI G (b 5) 15 (q 5)), (cI G (b 6) 60 (q 6)), (cI G (b 8) 40 (q 8)), (cI G (b 9) 40 (q 9)), (cI G (b 10) 40 (q 10)), (cZ G (b 12) 4 (q 12)), (cI G (b 13) 4 (q 13)), (cI G (b 14) 14 (q 14)), (cI G (b 17) 16384 gv), (cI G (b 19) 201 (q 19)), (cI G (b 21) 201 (q 21)), (cI G (b 25) 14 (q 25))] H := ⟨hP, hD⟩
    have hP := hPD.1
    have hD := hPD.2
    clear hPD
    refine lv_aload_n hx hb dX8_solve_29 rfl (lv_at hl 1 rfl) ?_
    refine va_get (D := G.1) (ci := 10) (v := .int 0) (C := RX8) (T := TX8) (N := 27) hx hb hts iX8_solve_X8 hown hK hP 0 rfl rfl 22 (by decide) (hts _ fX8_solve_3) (fun _ h9 => h9) rfl dX8_solve_30 ?_
    refine lv_if_eq (tgt := 94) hx hb dX8_solve_33 (by decide) (fun c_33 => ?_) (fun c_33 => ?_)
    · skip
      refine lv_iconst (v := 0) hx hb dX8_solve_94 (by decide) ?_
      refine lv_istore_n (lv' := [(2, .int 0), (1, .int (mFst n mf cc q 0)), (0, .ref (b 0))]) hx hb dX8_solve_95 rfl hl (by decide) rfl (fun ls hl => ?_)
      refine lv_iconst (v := 0) hx hb dX8_solve_96 (by decide) ?_
      refine lv_istore_n (lv' := [(3, .int 0), (2, .int 0), (1, .int (mFst n mf cc q 0)), (0, .ref (b 0))]) hx hb dX8_solve_97 rfl hl (by decide) rfl (fun ls hl => ?_)
      refine loopH (nL := 4) (I := fun (xv9 : Nat × (Nat → Int32)) => (fun (jx : Nat) (gx : Nat → Int32) => jx ≤ cc ∧ rowIs gx (mL n mf q)) xv9.1 xv9.2) (μ := fun (xv9 : Nat × (Nat → Int32)) => (fun (jx : Nat) (gx : Nat → Int32) => cc - jx) xv9.1 xv9.2) (lv := fun (xv9 : Nat × (Nat → Int32)) => (fun (jx : Nat) (gx : Nat → Int32) => [(0, .ref (b 0)), (1, .int (mFst n mf cc q 0)), (2, .int (goL n mf cc q jx)), (3, .int (nI jx))]) xv9.1 xv9.2) (wj := fun (xv9 : Nat × (Nat → Int32)) => (fun (jx : Nat) (gx : Nat → Int32) => [(oX8 (b 0) 0 (b 1) (b 2) (b 3) (b 4) (b 5) (b 6) (nI n) (b 8) (b 9) (b 10) (nI mf) (b 12) (b 13) (b 14) (nI cc) 1 (b 17) (nI (mL n mf q).length) (b 19) (nI fc) (b 21) 0 la lq (b 25) 0), (cI G (b 1) 15 (q 1)), (cI G (b 2) 15 (q 2)), (cZ G (b 3) 15 (q 3)), (cI G (b 4) 15 (q 4)), (cI G (b 5) 15 (q 5)), (cI G (b 6) 60 (q 6)), (cI G (b 8) 40 (q 8)), (cI G (b 9) 40 (q 9)), (cI G (b 10) 40 (q 10)), (cZ G (b 12) 4 (q 12)), (cI G (b 13) 4 (q 13)), (cI G (b 14) 14 (q 14)), (cI G (b 17) 16384 gx), (cI G (b 19) 201 (q 19)), (cI G (b 21) 201 (q 21)), (cI G (b 25) 14 (q 25))]) xv9.1 xv9.2) (pc' := 98) (fun xv9 hI ih_98 H locs ls hP hD hS hl => ?_) (⟨0, gv⟩) (⟨Nat.zero_le _, hgv⟩) _ _ ls (hP) (hD) hS (lv_sub hl [3, 2, 1, 0] rfl)
      obtain ⟨jx, gx⟩ := xv9
      have hI : jx ≤ cc ∧ rowIs gx (mL n mf q) := hI
      have hl : lv_has ls 4 [(0, .ref (b 0)), (1, .int (mFst n mf cc q 0)), (2, .int (goL n mf cc q jx)), (3, .int (nI jx))] := hl
      have hPD : PD G A [(oX8 (b 0) 0 (b 1) (b 2) (b 3) (b 4) (b 5) (b 6) (nI n) (b 8) (b 9) (b 10) (nI mf) (b 12) (b 13) (b 14) (nI cc) 1 (b 17) (nI (mL n mf q).length) (b 19) (nI fc) (b 21) 0 la lq (b 25) 0), (cI G (b 1) 15 (q 1)), (cI G (b 2) 15 (q 2)), (cZ G (b 3) 15 (q 3)), (cI G (b 4) 15 (q 4)), (cI G (b 5) 15 (q 5)), (cI G (b 6) 60 (q 6)), (cI G (b 8) 40 (q 8)), (cI G (b 9) 40 (q 9)), (cI G (b 10) 40 (q 10)), (cZ G (b 12) 4 (q 12)), (cI G (b 13) 4 (q 13)), (cI G (b 14) 14 (q 14)), (cI G (b 17) 16384 gx), (cI G (b 19) 201 (q 19)), (cI G (b 21) 201 (q 21)), (cI G (b 25) 14 (q 25))] H := ⟨hP, hD⟩
      have hP := hPD.1
      have hD := hPD.2
      clear hPD
      have hIj := hI.1
      have hI1r := hI.2
      refine lv_iload_n hx hb dX8_solve_98 rfl (lv_at hl 3 rfl) ?_
      refine lv_aload_n hx hb dX8_solve_99 rfl (lv_at hl 0 rfl) ?_
      refine va_get (D := G.1) (ci := 10) (v := .int (nI cc)) (C := RX8) (T := TX8) (N := 27) hx hb hts iX8_solve_X8 hown hK hP 0 rfl rfl 15 (by decide) (hts _ fX8_solve_4) (fun _ h9 => h9) rfl dX8_solve_100 ?_
      refine lv_icmp_ge (tgt := 134) hx hb dX8_solve_103 (by decide) (fun c_103 => ?_) (fun c_103 => ?_)
      · skip
        have hj : jx = cc := by have := (nI_leI (a := cc) (b := jx) (by omega) (by omega)).mp c_103; omega
        refine lv_iconst (v := 0) hx hb dX8_solve_134 (by decide) ?_
        refine lv_istore_n (lv' := [(3, .int 0), (0, .ref (b 0)), (1, .int (mFst n mf cc q 0)), (2, .int (goL n mf cc q jx))]) hx hb dX8_solve_135 rfl hl (by decide) rfl (fun ls hl => ?_)
        refine loopH (nL := 4) (I := fun (xv9 : Nat × (Nat → Int32)) => (fun (kx : Nat) (wx : Nat → Int32) => kx ≤ cc ∧ rowIs wx (wlL (goL n mf cc q jx) (q 14) kx)) xv9.1 xv9.2) (μ := fun (xv9 : Nat × (Nat → Int32)) => (fun (kx : Nat) (wx : Nat → Int32) => cc - kx) xv9.1 xv9.2) (lv := fun (xv9 : Nat × (Nat → Int32)) => (fun (kx : Nat) (wx : Nat → Int32) => [(0, .ref (b 0)), (1, .int (mFst n mf cc q 0)), (2, .int (goL n mf cc q jx)), (3, .int (nI kx))]) xv9.1 xv9.2) (wj := fun (xv9 : Nat × (Nat → Int32)) => (fun (kx : Nat) (wx : Nat → Int32) => [(oX8 (b 0) 0 (b 1) (b 2) (b 3) (b 4) (b 5) (b 6) (nI n) (b 8) (b 9) (b 10) (nI mf) (b 12) (b 13) (b 14) (nI cc) 1 (b 17) (nI (mL n mf q).length) (b 19) (nI fc) (b 21) 0 la lq (b 25) (nI (wlL (goL n mf cc q jx) (q 14) kx).length)), (cI G (b 1) 15 (q 1)), (cI G (b 2) 15 (q 2)), (cZ G (b 3) 15 (q 3)), (cI G (b 4) 15 (q 4)), (cI G (b 5) 15 (q 5)), (cI G (b 6) 60 (q 6)), (cI G (b 8) 40 (q 8)), (cI G (b 9) 40 (q 9)), (cI G (b 10) 40 (q 10)), (cZ G (b 12) 4 (q 12)), (cI G (b 13) 4 (q 13)), (cI G (b 14) 14 (q 14)), (cI G (b 17) 16384 gx), (cI G (b 19) 201 (q 19)), (cI G (b 21) 201 (q 21)), (cI G (b 25) 14 wx)]) xv9.1 xv9.2) (pc' := 136) (fun xv9 hI ih_136 H locs ls hP hD hS hl => ?_) (⟨0, q 25⟩) (⟨Nat.zero_le _, fun k hk => absurd hk (Nat.not_lt_zero _)⟩) _ _ ls (hP) (hD) hS (lv_sub hl [1, 2, 3, 0] rfl)
        obtain ⟨kx, wx⟩ := xv9
        have hI : kx ≤ cc ∧ rowIs wx (wlL (goL n mf cc q jx) (q 14) kx) := hI
        have hl : lv_has ls 4 [(0, .ref (b 0)), (1, .int (mFst n mf cc q 0)), (2, .int (goL n mf cc q jx)), (3, .int (nI kx))] := hl
        have hPD : PD G A [(oX8 (b 0) 0 (b 1) (b 2) (b 3) (b 4) (b 5) (b 6) (nI n) (b 8) (b 9) (b 10) (nI mf) (b 12) (b 13) (b 14) (nI cc) 1 (b 17) (nI (mL n mf q).length) (b 19) (nI fc) (b 21) 0 la lq (b 25) (nI (wlL (goL n mf cc q jx) (q 14) kx).length)), (cI G (b 1) 15 (q 1)), (cI G (b 2) 15 (q 2)), (cZ G (b 3) 15 (q 3)), (cI G (b 4) 15 (q 4)), (cI G (b 5) 15 (q 5)), (cI G (b 6) 60 (q 6)), (cI G (b 8) 40 (q 8)), (cI G (b 9) 40 (q 9)), (cI G (b 10) 40 (q 10)), (cZ G (b 12) 4 (q 12)), (cI G (b 13) 4 (q 13)), (cI G (b 14) 14 (q 14)), (cI G (b 17) 16384 gx), (cI G (b 19) 201 (q 19)), (cI G (b 21) 201 (q 21)), (cI G (b 25) 14 wx)] H := ⟨hP, hD⟩
        have hP := hPD.1
        have hD := hPD.2
        clear hPD
        have hIk := hI.1
        have hwk := wlL_len (goL n mf cc q jx) (q 14) kx
        refine lv_iload_n hx hb dX8_solve_136 rfl (lv_at hl 3 rfl) ?_
        refine lv_aload_n hx hb dX8_solve_137 rfl (lv_at hl 0 rfl) ?_
        refine va_get (D := G.1) (ci := 10) (v := .int (nI cc)) (C := RX8) (T := TX8) (N := 27) hx hb hts iX8_solve_X8 hown hK hP 0 rfl rfl 15 (by decide) (hts _ fX8_solve_4) (fun _ h9 => h9) rfl dX8_solve_138 ?_
        refine lv_icmp_ge (tgt := 183) hx hb dX8_solve_141 (by decide) (fun c_141 => ?_) (fun c_141 => ?_)
        · skip
          have hk9 : kx = cc := by have := (nI_leI (a := cc) (b := kx) (by omega) (by omega)).mp c_141; omega
          have hwl : mWl n mf cc q = wlL (goL n mf cc q jx) (q 14) kx := by rw [hj, hk9]; rfl
          refine lv_iconst (v := 0) hx hb dX8_solve_183 (by decide) ?_
          exact greti hx hb hr hlocks rfl hAe hS (⟨0, (0, n, mf, cc, true, (mL n mf q).length, fc, false, la, lq, (mWl n mf cc q).length, upR (upR q 17 gx) 25 wx)⟩) (rfl) (by unfold mSolve; rw [if_pos c_18]; refine ⟨gx, wx, hI1r, ?_, rfl⟩; rw [hwl]; exact hI.2) (by rw [hwl]; exact hP) dX8_solve_184
        · skip
          have hk2 : kx < cc := Nat.lt_of_not_le (fun z => c_141 ((nI_leI (a := cc) (b := kx) (by omega) (by omega)).mpr z))
          refine lv_iload_n hx hb dX8_solve_144 rfl (lv_at hl 2 rfl) ?_
          refine lv_iload_n hx hb dX8_solve_145 rfl (lv_at hl 3 rfl) ?_
          refine lv_ishr hx hb dX8_solve_146 ?_
          refine lv_iconst (v := 1) hx hb dX8_solve_147 (by decide) ?_
          refine lv_iand hx hb dX8_solve_148 ?_
          refine lv_if_ne (tgt := 177) hx hb dX8_solve_149 (by decide) (fun c_149 => ?_) (fun c_149 => ?_)
          · skip
            refine lv_iinc (v := nI (kx + 1)) (lv' := [(3, .int (nI (kx + 1))), (0, .ref (b 0)), (1, .int (mFst n mf cc q 0)), (2, .int (goL n mf cc q jx))]) hx hb dX8_solve_177 hl (k := 3) rfl (nI_1 kx) (by decide) rfl (fun ls hl => ?_)
            refine lv_goto (tgt := 136) hx hb dX8_solve_180 (by decide) ?_
            have hwe : wlL (goL n mf cc q jx) (q 14) (kx + 1) = wlL (goL n mf cc q jx) (q 14) kx := wlL_f c_149
            rw [← hwe] at hP hD
            exact ih_136 (⟨kx + 1, wx⟩) (⟨hk2, by rw [hwe]; exact hI.2⟩) (by show cc - (kx + 1) < cc - kx; omega) _ _ ls (hP) (hD) hS (lv_sub hl [1, 2, 3, 0] rfl)
          · skip
            refine lv_aload_n hx hb dX8_solve_152 rfl (lv_at hl 0 rfl) ?_
            refine va_get (D := G.1) (ci := 10) (v := .ref (b 25)) (C := RX8) (T := TX8) (N := 27) hx hb hts iX8_solve_X8 hown hK hP 0 rfl rfl 25 (by decide) (hts _ fX8_solve_5) (fun _ h9 => h9) rfl dX8_solve_153 ?_
            refine lv_aload_n hx hb dX8_solve_156 rfl (lv_at hl 0 rfl) ?_
            refine va_get (D := G.1) (ci := 10) (v := .int (nI (wlL (goL n mf cc q jx) (q 14) kx).length)) (C := RX8) (T := TX8) (N := 27) hx hb hts iX8_solve_X8 hown hK hP 0 rfl rfl 26 (by decide) (hts _ fX8_solve_2) (fun _ h9 => h9) rfl dX8_solve_157 ?_
            refine lv_aload_n hx hb dX8_solve_160 rfl (lv_at hl 0 rfl) ?_
            refine va_get (D := G.1) (ci := 10) (v := .ref (b 14)) (C := RX8) (T := TX8) (N := 27) hx hb hts iX8_solve_X8 hown hK hP 0 rfl rfl 14 (by decide) (hts _ fX8_solve_6) (fun _ h9 => h9) rfl dX8_solve_161 ?_
            refine lv_iload_n hx hb dX8_solve_164 rfl (lv_at hl 3 rfl) ?_
            refine aldI hx hb hK hP 12 (k := kx) rfl (rfl) (by omega) (by decide) dX8_solve_165 ?_
            refine astI hx hb hK hP hD hS 16 (k := (wlL (goL n mf cc q jx) (q 14) kx).length) rfl (rfl) (by omega) (by decide) dX8_solve_166 (fun H locs hP hD hS => ?_)
            have hPD : PD G A [(oX8 (b 0) 0 (b 1) (b 2) (b 3) (b 4) (b 5) (b 6) (nI n) (b 8) (b 9) (b 10) (nI mf) (b 12) (b 13) (b 14) (nI cc) 1 (b 17) (nI (mL n mf q).length) (b 19) (nI fc) (b 21) 0 la lq (b 25) (nI (wlL (goL n mf cc q jx) (q 14) kx).length)), (cI G (b 1) 15 (q 1)), (cI G (b 2) 15 (q 2)), (cZ G (b 3) 15 (q 3)), (cI G (b 4) 15 (q 4)), (cI G (b 5) 15 (q 5)), (cI G (b 6) 60 (q 6)), (cI G (b 8) 40 (q 8)), (cI G (b 9) 40 (q 9)), (cI G (b 10) 40 (q 10)), (cZ G (b 12) 4 (q 12)), (cI G (b 13) 4 (q 13)), (cI G (b 14) 14 (q 14)), (cI G (b 17) 16384 gx), (cI G (b 19) 201 (q 19)), (cI G (b 21) 201 (q 21)), (cI G (b 25) 14 (upd wx ((wlL (goL n mf cc q jx) (q 14) kx).length) ((q 14) kx)))] H := ⟨hP, hD⟩
            have hP := hPD.1
            have hD := hPD.2
            clear hPD
            refine lv_aload_n hx hb dX8_solve_167 rfl (lv_at hl 0 rfl) ?_
            refine lv_dup hx hb dX8_solve_168 rfl ?_
            refine va_get (D := G.1) (ci := 10) (v := .int (nI (wlL (goL n mf cc q jx) (q 14) kx).length)) (C := RX8) (T := TX8) (N := 27) hx hb hts iX8_solve_X8 hown hK hP 0 rfl rfl 26 (by decide) (hts _ fX8_solve_2) (fun _ h9 => h9) rfl dX8_solve_169 ?_
            refine lv_iconst (v := 1) hx hb dX8_solve_172 (by decide) ?_
            refine lv_iadd hx hb dX8_solve_173 ?_
            refine stI (y := nI (wlL (goL n mf cc q jx) (q 14) (kx + 1)).length) (by rw [wlL_t c_149, List.length_append, nI_1]; rfl) ?_
            refine va_put (D := G.1) (ci := 10) (v := .int (nI (wlL (goL n mf cc q jx) (q 14) (kx + 1)).length)) (ty := .int) (C := RX8) (T := TX8) (N := 27) hx hb hts iX8_solve_X8 tyX8 tyX8_ok nmX8 hown hK hP hD hS 0 rfl rfl 26 (by decide) (hts _ fX8_solve_2) (fun _ h9 => h9) rfl (by decide +kernel) rfl rfl (Nat.le_of_ble_eq_true rfl) dX8_solve_174 (fun H locs hP hD hS => ?_)
            have hPD : PD G A [(oX8 (b 0) 0 (b 1) (b 2) (b 3) (b 4) (b 5) (b 6) (nI n) (b 8) (b 9) (b 10) (nI mf) (b 12) (b 13) (b 14) (nI cc) 1 (b 17) (nI (mL n mf q).length) (b 19) (nI fc) (b 21) 0 la lq (b 25) (nI (wlL (goL n mf cc q jx) (q 14) (kx + 1)).length)), (cI G (b 1) 15 (q 1)), (cI G (b 2) 15 (q 2)), (cZ G (b 3) 15 (q 3)), (cI G (b 4) 15 (q 4)), (cI G (b 5) 15 (q 5)), (cI G (b 6) 60 (q 6)), (cI G (b 8) 40 (q 8)), (cI G (b 9) 40 (q 9)), (cI G (b 10) 40 (q 10)), (cZ G (b 12) 4 (q 12)), (cI G (b 13) 4 (q 13)), (cI G (b 14) 14 (q 14)), (cI G (b 17) 16384 gx), (cI G (b 19) 201 (q 19)), (cI G (b 21) 201 (q 21)), (cI G (b 25) 14 (upd wx ((wlL (goL n mf cc q jx) (q 14) kx).length) ((q 14) kx)))] H := ⟨hP, hD⟩
            have hP := hPD.1
            have hD := hPD.2
            clear hPD
            refine lv_iinc (v := nI (kx + 1)) (lv' := [(3, .int (nI (kx + 1))), (0, .ref (b 0)), (1, .int (mFst n mf cc q 0)), (2, .int (goL n mf cc q jx))]) hx hb dX8_solve_177 hl (k := 3) rfl (nI_1 kx) (by decide) rfl (fun ls hl => ?_)
            refine lv_goto (tgt := 136) hx hb dX8_solve_180 (by decide) ?_
            exact ih_136 (⟨kx + 1, upd wx (wlL (goL n mf cc q jx) (q 14) kx).length (q 14 kx)⟩) (⟨hk2, by rw [wlL_t c_149]; exact rowIs_app hI.2⟩) (by show cc - (kx + 1) < cc - kx; omega) _ _ ls (hP) (hD) hS (lv_sub hl [1, 2, 3, 0] rfl)
      · skip
        have hj : jx < cc := Nat.lt_of_not_le (fun z => c_103 ((nI_leI (a := cc) (b := jx) (by omega) (by omega)).mpr z))
        refine lv_aload_n hx hb dX8_solve_106 rfl (lv_at hl 0 rfl) ?_
        refine lv_iload_n hx hb dX8_solve_107 rfl (lv_at hl 2 rfl) ?_
        refine lv_iconst (v := 1) hx hb dX8_solve_108 (by decide) ?_
        refine lv_iload_n hx hb dX8_solve_109 rfl (lv_at hl 3 rfl) ?_
        refine lv_ishl hx hb dX8_solve_110 ?_
        refine lv_ior hx hb dX8_solve_111 ?_
        refine stI (y := goL n mf cc q jx ||| (1 : Int32) <<< (nI jx &&& 31)) (rfl) ?_
        refine cnV (nw := 17) (ci := 10) (T0 := TX8) (N := 27) (As := [.int (goL n mf cc q jx ||| (1 : Int32) <<< (nI jx &&& 31))]) (rest := []) ⟨hx, hb, hml, hown, hts⟩ (c_X8_firstWithout l G b 0 n mf cc true ((mL n mf q).length) fc false la lq 0 (q 1) (q 2) (q 3) (q 4) (q 5) (q 6) (q 8) (q 9) (q 10) (q 12) (q 13) (q 14) gx (goL n mf cc q jx ||| (1 : Int32) <<< (nI jx &&& 31)) hc hn hm (fun _ => ⟨hI.2, rfl⟩)) (cwV 1 hts gX8_solve_X8_firstWithout rfl rfl rfl ⟨rfl, hd_X8_firstWithout⟩ ⟨Nat.le_of_ble_eq_true rfl, Nat.le_of_ble_eq_true rfl⟩) hKK hP hD hS [0, 1, 2, 3, 4, 5, 6, 7, 8, 9, 10, 11, 12, 13] [14, 15, 16] (fun gv => [(oX8 (b 0) 0 (b 1) (b 2) (b 3) (b 4) (b 5) (b 6) (nI n) (b 8) (b 9) (b 10) (nI mf) (b 12) (b 13) (b 14) (nI cc) 1 (b 17) (nI (mL n mf q).length) (b 19) (nI fc) (b 21) 0 la lq (b 25) 0), (cI G (b 1) 15 (q 1)), (cI G (b 2) 15 (q 2)), (cZ G (b 3) 15 (q 3)), (cI G (b 4) 15 (q 4)), (cI G (b 5) 15 (q 5)), (cI G (b 6) 60 (q 6)), (cI G (b 8) 40 (q 8)), (cI G (b 9) 40 (q 9)), (cI G (b 10) 40 (q 10)), (cZ G (b 12) 4 (q 12)), (cI G (b 13) 4 (q 13)), (cI G (b 14) 14 (q 14)), (cI G (b 17) 16384 gv), (cI G (b 19) 201 (q 19)), (cI G (b 21) 201 (q 21)), (cI G (b 25) 14 (q 25))]) [some (cI G (b 19) 201 (q 19)), some (cI G (b 21) 201 (q 21)), some (cI G (b 25) 14 (q 25))] [b 0, b 1, b 2, b 3, b 4, b 5, b 6, b 8, b 9, b 10, b 12, b 13, b 14, b 17, b 19, b 21, b 25] rfl (by decide) (by decide) rfl rfl rfl hl.1 rfl (Nat.le_of_ble_eq_true rfl) dX8_solve_112 ⟨Nat.zero_le _, Nat.zero_le _⟩ (fun _ => rfl) (fun _ => rfl) rfl (fun _ => rfl) rfl (fun _ => rfl) (fun gv H locs hgv hP hD hS => ?_)
        refine lv_if_ge (tgt := 126) hx hb dX8_solve_115 (by decide) (fun c_115 => ?_) (fun c_115 => ?_)
        · skip
          refine lv_iload_n hx hb dX8_solve_126 rfl (lv_at hl 2 rfl) ?_
          refine stI (y := goL n mf cc q (jx + 1)) ((goL_t c_115).symm) ?_
          refine lv_istore_n (lv' := [(2, .int (goL n mf cc q (jx + 1))), (0, .ref (b 0)), (1, .int (mFst n mf cc q 0)), (3, .int (nI jx))]) hx hb dX8_solve_127 rfl hl (by decide) rfl (fun ls hl => ?_)
          refine lv_iinc (v := nI (jx + 1)) (lv' := [(3, .int (nI (jx + 1))), (2, .int (goL n mf cc q (jx + 1))), (0, .ref (b 0)), (1, .int (mFst n mf cc q 0))]) hx hb dX8_solve_128 hl (k := 3) rfl (nI_1 jx) (by decide) rfl (fun ls hl => ?_)
          refine lv_goto (tgt := 98) hx hb dX8_solve_131 (by decide) ?_
          exact ih_98 (⟨jx + 1, gv⟩) (⟨hj, hgv⟩) (by show cc - (jx + 1) < cc - jx; omega) _ _ ls (hP) (hD) hS (lv_sub hl [2, 3, 1, 0] rfl)
        · skip
          refine lv_iload_n hx hb dX8_solve_118 rfl (lv_at hl 2 rfl) ?_
          refine lv_iconst (v := 1) hx hb dX8_solve_119 (by decide) ?_
          refine lv_iload_n hx hb dX8_solve_120 rfl (lv_at hl 3 rfl) ?_
          refine lv_ishl hx hb dX8_solve_121 ?_
          refine lv_ior hx hb dX8_solve_122 ?_
          refine stI (y := goL n mf cc q (jx + 1)) ((goL_f c_115).symm) ?_
          refine lv_goto (tgt := 127) hx hb dX8_solve_123 (by decide) ?_
          refine lv_istore_n (lv' := [(2, .int (goL n mf cc q (jx + 1))), (0, .ref (b 0)), (1, .int (mFst n mf cc q 0)), (3, .int (nI jx))]) hx hb dX8_solve_127 rfl hl (by decide) rfl (fun ls hl => ?_)
          refine lv_iinc (v := nI (jx + 1)) (lv' := [(3, .int (nI (jx + 1))), (2, .int (goL n mf cc q (jx + 1))), (0, .ref (b 0)), (1, .int (mFst n mf cc q 0))]) hx hb dX8_solve_128 hl (k := 3) rfl (nI_1 jx) (by decide) rfl (fun ls hl => ?_)
          refine lv_goto (tgt := 98) hx hb dX8_solve_131 (by decide) ?_
          exact ih_98 (⟨jx + 1, gv⟩) (⟨hj, hgv⟩) (by show cc - (jx + 1) < cc - jx; omega) _ _ ls (hP) (hD) hS (lv_sub hl [2, 3, 1, 0] rfl)
    · exact absurd rfl c_33
  · skip
    refine lv_iconst (v := 1) hx hb dX8_solve_21 (by decide) ?_
    refine lv_goto (tgt := 26) hx hb dX8_solve_22 (by decide) ?_
    refine va_put (D := G.1) (ci := 10) (v := .int 1) (ty := .boolean) (C := RX8) (T := TX8) (N := 27) hx hb hts iX8_solve_X8 tyX8 tyX8_ok nmX8 hown hK hP hD hS 0 rfl rfl 22 (by decide) (hts _ fX8_solve_3) (fun _ h9 => h9) rfl (by decide +kernel) rfl rfl (Nat.le_of_ble_eq_true rfl) dX8_solve_26 (fun H locs hP hD hS => ?_)
    have hPD : PD G A [(oX8 (b 0) 0 (b 1) (b 2) (b 3) (b 4) (b 5) (b 6) (nI n) (b 8) (b 9) (b 10) (nI mf) (b 12) (b 13) (b 14) (nI cc) 1 (b 17) (nI (mL n mf q).length) (b 19) (nI fc) (b 21) 1 la lq (b 25) 0), (cI G (b 1) 15 (q 1)), (cI G (b 2) 15 (q 2)), (cZ G (b 3) 15 (q 3)), (cI G (b 4) 15 (q 4)), (cI G (b 5) 15 (q 5)), (cI G (b 6) 60 (q 6)), (cI G (b 8) 40 (q 8)), (cI G (b 9) 40 (q 9)), (cI G (b 10) 40 (q 10)), (cZ G (b 12) 4 (q 12)), (cI G (b 13) 4 (q 13)), (cI G (b 14) 14 (q 14)), (cI G (b 17) 16384 gv), (cI G (b 19) 201 (q 19)), (cI G (b 21) 201 (q 21)), (cI G (b 25) 14 (q 25))] H := ⟨hP, hD⟩
    have hP := hPD.1
    have hD := hPD.2
    clear hPD
    refine lv_aload_n hx hb dX8_solve_29 rfl (lv_at hl 1 rfl) ?_
    refine va_get (D := G.1) (ci := 10) (v := .int 1) (C := RX8) (T := TX8) (N := 27) hx hb hts iX8_solve_X8 hown hK hP 0 rfl rfl 22 (by decide) (hts _ fX8_solve_3) (fun _ h9 => h9) rfl dX8_solve_30 ?_
    refine lv_if_eq (tgt := 94) hx hb dX8_solve_33 (by decide) (fun c_33 => ?_) (fun c_33 => ?_)
    · exact absurd c_33 (by decide)
    · skip
      refine lv_aload_n hx hb dX8_solve_36 rfl (lv_at hl 1 rfl) ?_
      refine lv_iload_n hx hb dX8_solve_37 rfl (lv_at hl 0 rfl) ?_
      refine va_put (D := G.1) (ci := 10) (v := .int (mFst n mf cc q 0)) (ty := .int) (C := RX8) (T := TX8) (N := 27) hx hb hts iX8_solve_X8 tyX8 tyX8_ok nmX8 hown hK hP hD hS 0 rfl rfl 23 (by decide) (hts _ fX8_solve_7) (fun _ h9 => h9) rfl (by decide +kernel) rfl rfl (Nat.le_of_ble_eq_true rfl) dX8_solve_38 (fun H locs hP hD hS => ?_)
      have hPD : PD G A [(oX8 (b 0) 0 (b 1) (b 2) (b 3) (b 4) (b 5) (b 6) (nI n) (b 8) (b 9) (b 10) (nI mf) (b 12) (b 13) (b 14) (nI cc) 1 (b 17) (nI (mL n mf q).length) (b 19) (nI fc) (b 21) 1 (mFst n mf cc q 0) lq (b 25) 0), (cI G (b 1) 15 (q 1)), (cI G (b 2) 15 (q 2)), (cZ G (b 3) 15 (q 3)), (cI G (b 4) 15 (q 4)), (cI G (b 5) 15 (q 5)), (cI G (b 6) 60 (q 6)), (cI G (b 8) 40 (q 8)), (cI G (b 9) 40 (q 9)), (cI G (b 10) 40 (q 10)), (cZ G (b 12) 4 (q 12)), (cI G (b 13) 4 (q 13)), (cI G (b 14) 14 (q 14)), (cI G (b 17) 16384 gv), (cI G (b 19) 201 (q 19)), (cI G (b 21) 201 (q 21)), (cI G (b 25) 14 (q 25))] H := ⟨hP, hD⟩
      have hP := hPD.1
      have hD := hPD.2
      clear hPD
      refine lv_aload_n hx hb dX8_solve_41 rfl (lv_at hl 1 rfl) ?_
      refine lv_aload_n hx hb dX8_solve_42 rfl (lv_at hl 1 rfl) ?_
      refine va_get (D := G.1) (ci := 10) (v := .int (nI n)) (C := RX8) (T := TX8) (N := 27) hx hb hts iX8_solve_X8 hown hK hP 0 rfl rfl 7 (by decide) (hts _ fX8_solve_8) (fun _ h9 => h9) rfl dX8_solve_43 ?_
      refine va_put (D := G.1) (ci := 10) (v := .int (nI n)) (ty := .int) (C := RX8) (T := TX8) (N := 27) hx hb hts iX8_solve_X8 tyX8 tyX8_ok nmX8 hown hK hP hD hS 0 rfl rfl 24 (by decide) (hts _ fX8_solve_9) (fun _ h9 => h9) rfl (by decide +kernel) rfl rfl (Nat.le_of_ble_eq_true rfl) dX8_solve_46 (fun H locs hP hD hS => ?_)
      have hPD : PD G A [(oX8 (b 0) 0 (b 1) (b 2) (b 3) (b 4) (b 5) (b 6) (nI n) (b 8) (b 9) (b 10) (nI mf) (b 12) (b 13) (b 14) (nI cc) 1 (b 17) (nI (mL n mf q).length) (b 19) (nI fc) (b 21) 1 (mFst n mf cc q 0) (nI n) (b 25) 0), (cI G (b 1) 15 (q 1)), (cI G (b 2) 15 (q 2)), (cZ G (b 3) 15 (q 3)), (cI G (b 4) 15 (q 4)), (cI G (b 5) 15 (q 5)), (cI G (b 6) 60 (q 6)), (cI G (b 8) 40 (q 8)), (cI G (b 9) 40 (q 9)), (cI G (b 10) 40 (q 10)), (cZ G (b 12) 4 (q 12)), (cI G (b 13) 4 (q 13)), (cI G (b 14) 14 (q 14)), (cI G (b 17) 16384 gv), (cI G (b 19) 201 (q 19)), (cI G (b 21) 201 (q 21)), (cI G (b 25) 14 (q 25))] H := ⟨hP, hD⟩
      have hP := hPD.1
      have hD := hPD.2
      clear hPD
      refine lv_aload_n hx hb dX8_solve_49 rfl (lv_at hl 1 rfl) ?_
      refine va_get (D := G.1) (ci := 10) (v := .int (nI fc)) (C := RX8) (T := TX8) (N := 27) hx hb hts iX8_solve_X8 hown hK hP 0 rfl rfl 20 (by decide) (hts _ fX8_solve_10) (fun _ h9 => h9) rfl dX8_solve_50 ?_
      refine lv_sipush (v := 200) hx hb dX8_solve_53 (by decide) ?_
      refine lv_icmp_ge (tgt := 92) hx hb dX8_solve_56 (by decide) (fun c_56 => ?_) (fun c_56 => ?_)
      · skip
        refine lv_iconst (v := 1) hx hb dX8_solve_92 (by decide) ?_
        exact greti hx hb hr hlocks rfl hAe hS (⟨1, (0, n, mf, cc, true, (mL n mf q).length, fc, true, mFst n mf cc q 0, nI n, 0, upR q 17 gv)⟩) (rfl) (by unfold mSolve; rw [if_neg c_18, if_pos c_56]; exact ⟨gv, hgv, rfl⟩) (hP) dX8_solve_93
      · skip
        have hf2 : fc < 200 := Nat.lt_of_not_le (fun z => c_56 ((nI_leI (a := 200) (b := fc) (by decide) (by omega)).mpr z))
        refine lv_aload_n hx hb dX8_solve_59 rfl (lv_at hl 1 rfl) ?_
        refine lv_dup hx hb dX8_solve_60 rfl ?_
        refine va_get (D := G.1) (ci := 10) (v := .int (nI fc)) (C := RX8) (T := TX8) (N := 27) hx hb hts iX8_solve_X8 hown hK hP 0 rfl rfl 20 (by decide) (hts _ fX8_solve_10) (fun _ h9 => h9) rfl dX8_solve_61 ?_
        refine lv_iconst (v := 1) hx hb dX8_solve_64 (by decide) ?_
        refine lv_iadd hx hb dX8_solve_65 ?_
        refine stI (y := nI (fc + 1)) (nI_1 fc) ?_
        refine va_put (D := G.1) (ci := 10) (v := .int (nI (fc + 1))) (ty := .int) (C := RX8) (T := TX8) (N := 27) hx hb hts iX8_solve_X8 tyX8 tyX8_ok nmX8 hown hK hP hD hS 0 rfl rfl 20 (by decide) (hts _ fX8_solve_10) (fun _ h9 => h9) rfl (by decide +kernel) rfl rfl (Nat.le_of_ble_eq_true rfl) dX8_solve_66 (fun H locs hP hD hS => ?_)
        have hPD : PD G A [(oX8 (b 0) 0 (b 1) (b 2) (b 3) (b 4) (b 5) (b 6) (nI n) (b 8) (b 9) (b 10) (nI mf) (b 12) (b 13) (b 14) (nI cc) 1 (b 17) (nI (mL n mf q).length) (b 19) (nI (fc + 1)) (b 21) 1 (mFst n mf cc q 0) (nI n) (b 25) 0), (cI G (b 1) 15 (q 1)), (cI G (b 2) 15 (q 2)), (cZ G (b 3) 15 (q 3)), (cI G (b 4) 15 (q 4)), (cI G (b 5) 15 (q 5)), (cI G (b 6) 60 (q 6)), (cI G (b 8) 40 (q 8)), (cI G (b 9) 40 (q 9)), (cI G (b 10) 40 (q 10)), (cZ G (b 12) 4 (q 12)), (cI G (b 13) 4 (q 13)), (cI G (b 14) 14 (q 14)), (cI G (b 17) 16384 gv), (cI G (b 19) 201 (q 19)), (cI G (b 21) 201 (q 21)), (cI G (b 25) 14 (q 25))] H := ⟨hP, hD⟩
        have hP := hPD.1
        have hD := hPD.2
        clear hPD
        refine lv_aload_n hx hb dX8_solve_69 rfl (lv_at hl 1 rfl) ?_
        refine va_get (D := G.1) (ci := 10) (v := .ref (b 19)) (C := RX8) (T := TX8) (N := 27) hx hb hts iX8_solve_X8 hown hK hP 0 rfl rfl 19 (by decide) (hts _ fX8_solve_11) (fun _ h9 => h9) rfl dX8_solve_70 ?_
        refine lv_aload_n hx hb dX8_solve_73 rfl (lv_at hl 1 rfl) ?_
        refine va_get (D := G.1) (ci := 10) (v := .int (nI (fc + 1))) (C := RX8) (T := TX8) (N := 27) hx hb hts iX8_solve_X8 hown hK hP 0 rfl rfl 20 (by decide) (hts _ fX8_solve_10) (fun _ h9 => h9) rfl dX8_solve_74 ?_
        refine lv_iload_n hx hb dX8_solve_77 rfl (lv_at hl 0 rfl) ?_
        refine astI hx hb hK hP hD hS 14 (k := (fc + 1)) rfl (rfl) (by omega) (by decide) dX8_solve_78 (fun H locs hP hD hS => ?_)
        have hPD : PD G A [(oX8 (b 0) 0 (b 1) (b 2) (b 3) (b 4) (b 5) (b 6) (nI n) (b 8) (b 9) (b 10) (nI mf) (b 12) (b 13) (b 14) (nI cc) 1 (b 17) (nI (mL n mf q).length) (b 19) (nI (fc + 1)) (b 21) 1 (mFst n mf cc q 0) (nI n) (b 25) 0), (cI G (b 1) 15 (q 1)), (cI G (b 2) 15 (q 2)), (cZ G (b 3) 15 (q 3)), (cI G (b 4) 15 (q 4)), (cI G (b 5) 15 (q 5)), (cI G (b 6) 60 (q 6)), (cI G (b 8) 40 (q 8)), (cI G (b 9) 40 (q 9)), (cI G (b 10) 40 (q 10)), (cZ G (b 12) 4 (q 12)), (cI G (b 13) 4 (q 13)), (cI G (b 14) 14 (q 14)), (cI G (b 17) 16384 gv), (cI G (b 19) 201 (upd (q 19) (fc + 1) (mFst n mf cc q 0))), (cI G (b 21) 201 (q 21)), (cI G (b 25) 14 (q 25))] H := ⟨hP, hD⟩
        have hP := hPD.1
        have hD := hPD.2
        clear hPD
        refine lv_aload_n hx hb dX8_solve_79 rfl (lv_at hl 1 rfl) ?_
        refine va_get (D := G.1) (ci := 10) (v := .ref (b 21)) (C := RX8) (T := TX8) (N := 27) hx hb hts iX8_solve_X8 hown hK hP 0 rfl rfl 21 (by decide) (hts _ fX8_solve_12) (fun _ h9 => h9) rfl dX8_solve_80 ?_
        refine lv_aload_n hx hb dX8_solve_83 rfl (lv_at hl 1 rfl) ?_
        refine va_get (D := G.1) (ci := 10) (v := .int (nI (fc + 1))) (C := RX8) (T := TX8) (N := 27) hx hb hts iX8_solve_X8 hown hK hP 0 rfl rfl 20 (by decide) (hts _ fX8_solve_10) (fun _ h9 => h9) rfl dX8_solve_84 ?_
        refine lv_aload_n hx hb dX8_solve_87 rfl (lv_at hl 1 rfl) ?_
        refine va_get (D := G.1) (ci := 10) (v := .int (nI n)) (C := RX8) (T := TX8) (N := 27) hx hb hts iX8_solve_X8 hown hK hP 0 rfl rfl 7 (by decide) (hts _ fX8_solve_8) (fun _ h9 => h9) rfl dX8_solve_88 ?_
        refine astI hx hb hK hP hD hS 15 (k := (fc + 1)) rfl (rfl) (by omega) (by decide) dX8_solve_91 (fun H locs hP hD hS => ?_)
        have hPD : PD G A [(oX8 (b 0) 0 (b 1) (b 2) (b 3) (b 4) (b 5) (b 6) (nI n) (b 8) (b 9) (b 10) (nI mf) (b 12) (b 13) (b 14) (nI cc) 1 (b 17) (nI (mL n mf q).length) (b 19) (nI (fc + 1)) (b 21) 1 (mFst n mf cc q 0) (nI n) (b 25) 0), (cI G (b 1) 15 (q 1)), (cI G (b 2) 15 (q 2)), (cZ G (b 3) 15 (q 3)), (cI G (b 4) 15 (q 4)), (cI G (b 5) 15 (q 5)), (cI G (b 6) 60 (q 6)), (cI G (b 8) 40 (q 8)), (cI G (b 9) 40 (q 9)), (cI G (b 10) 40 (q 10)), (cZ G (b 12) 4 (q 12)), (cI G (b 13) 4 (q 13)), (cI G (b 14) 14 (q 14)), (cI G (b 17) 16384 gv), (cI G (b 19) 201 (upd (q 19) (fc + 1) (mFst n mf cc q 0))), (cI G (b 21) 201 (upd (q 21) (fc + 1) (nI n))), (cI G (b 25) 14 (q 25))] H := ⟨hP, hD⟩
        have hP := hPD.1
        have hD := hPD.2
        clear hPD
        refine lv_iconst (v := 1) hx hb dX8_solve_92 (by decide) ?_
        exact greti hx hb hr hlocks rfl hAe hS (⟨1, (0, n, mf, cc, true, (mL n mf q).length, fc + 1, true, mFst n mf cc q 0, nI n, 0, upR (upR (upR q 17 gv) 19 (upd (q 19) (fc + 1) (mFst n mf cc q 0))) 21 (upd (q 21) (fc + 1) (nI n)))⟩) (rfl) (by unfold mSolve; rw [if_neg c_18, if_neg c_56]; exact ⟨gv, hgv, rfl⟩) (hP) dX8_solve_93
