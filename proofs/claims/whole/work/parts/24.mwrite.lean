theorem iX8_forget_X8 : ∀ w ∈ u_ws RX8 TX8 27, w ∈ wsX8_forget := by decide +kernel
theorem fX8_forget_1 : Cond.fieldLink RX8 84 "FeatureSolveModel" "choiceCount" "I" ∈ wsX8_forget := by decide +kernel
theorem fX8_forget_2 : Cond.fieldLink RX8 44 "FeatureSolveModel" "choices" "[I" ∈ wsX8_forget := by decide +kernel
set_option maxHeartbeats 4000000 in
set_option maxRecDepth 100000 in
/-- forget(k) -/
theorem c_X8_forget (l : Launch) (G : GG) (b : Nat → Nat) (th : Int32) (n mf cc : Nat) (kn : Bool) (sc fc : Nat) (so : Bool) (la lq : Int32) (wq : Nat) (ch : Nat → Int32) (L : List Int32) (kx : Nat) (hr0 : rowIs ch L) (hc : cc = L.length) (hL : cc ≤ 14) (hkx : kx < cc) : Met l yX8_forget wsX8_forget (rmK 0) (va_Pc [.ref (b 0), .int (nI kx)] (PM G [(oX8 (b 0) th (b 1) (b 2) (b 3) (b 4) (b 5) (b 6) (nI n) (b 8) (b 9) (b 10) (nI mf) (b 12) (b 13) (b 14) (nI cc) (bI kn) (b 17) (nI sc) (b 19) (nI fc) (b 21) (bI so) la lq (b 25) (nI wq)), (cI G (b 14) 14 ch)])) (QG (S := Nat → Int32) G [(oX8 (b 0) th (b 1) (b 2) (b 3) (b 4) (b 5) (b 6) (nI n) (b 8) (b 9) (b 10) (nI mf) (b 12) (b 13) (b 14) (nI cc) (bI kn) (b 17) (nI sc) (b 19) (nI fc) (b 21) (bI so) la lq (b 25) (nI wq)), (cI G (b 14) 14 ch)] (fun u => rowIs u (L.eraseIdx kx)) (fun u => none) (fun u => [(oX8 (b 0) th (b 1) (b 2) (b 3) (b 4) (b 5) (b 6) (nI n) (b 8) (b 9) (b 10) (nI mf) (b 12) (b 13) (b 14) (nI (cc - 1)) (bI kn) (b 17) (nI sc) (b 19) (nI fc) (b 21) (bI so) la lq (b 25) (nI wq)), (cI G (b 14) 14 u)])) 0 0 (adr [(oX8 (b 0) th (b 1) (b 2) (b 3) (b 4) (b 5) (b 6) (nI n) (b 8) (b 9) (b 10) (nI mf) (b 12) (b 13) (b 14) (nI cc) (bI kn) (b 17) (nI sc) (b 19) (nI fc) (b 21) (bI so) la lq (b 25) (nI wq)), (cI G (b 14) 14 ch)]) := by
  refine Met.ofW (cc := cX8_forget) (maxL := 3) (ret := none) (by decide) rfl ?_
  intro p e s m args below meth c s₁ B hml hv
  obtain ⟨rfl, hP, hD0, hKK⟩ := hv
  have hx := B.exec
  have hb := B.bytes
  have hr := B.returns
  have hts := atoms_spec (ws := wsX8_forget) B.pre
  have hown : s.vm.findClass RX8 = some m.cls := findClass_of_methodNamed B.named
  have hlocks := B.notSynchronized
  have hK := hKK.1
  generalize hAe : adr [(oX8 (b 0) th (b 1) (b 2) (b 3) (b 4) (b 5) (b 6) (nI n) (b 8) (b 9) (b 10) (nI mf) (b 12) (b 13) (b 14) (nI cc) (bI kn) (b 17) (nI sc) (b 19) (nI fc) (b 21) (bI so) la lq (b 25) (nI wq)), (cI G (b 14) 14 ch)] = A
  have hD : va_D A [(oX8 (b 0) th (b 1) (b 2) (b 3) (b 4) (b 5) (b 6) (nI n) (b 8) (b 9) (b 10) (nI mf) (b 12) (b 13) (b 14) (nI cc) (bI kn) (b 17) (nI sc) (b 19) (nI fc) (b 21) (bI so) la lq (b 25) (nI wq)), (cI G (b 14) 14 ch)] := by rw [← hAe]; exact hD0.own
  have hS : va_S A s.heap s.heap [] := va_S.rf
  have hP : va_P G.1 vwCl [(oX8 (b 0) th (b 1) (b 2) (b 3) (b 4) (b 5) (b 6) (nI n) (b 8) (b 9) (b 10) (nI mf) (b 12) (b 13) (b 14) (nI cc) (bI kn) (b 17) (nI sc) (b 19) (nI fc) (b 21) (bI so) la lq (b 25) (nI wq)), (cI G (b 14) 14 ch)] s.heap := hP
  have hl := lv_entry ([.ref (b 0), .int (nI kx)]) (n := 3) (Nat.le_of_ble_eq_true rfl)
  rw [lg_entry_eq]
  generalize (lg_sl ([.ref (b 0), .int (nI kx)]) ++ List.replicate (3 - (lg_sl ([.ref (b 0), .int (nI kx)])).length) Slot.unset).toArray = ls at hl ⊢
  have hl : lv_has ls 3 [(0, .ref (b 0)), (1, .int (nI kx))] := hl
  refine lv_iload_n hx hb dX8_forget_0 rfl (lv_at hl 1 rfl) ?_
  refine lv_istore_n (lv' := [(2, .int (nI kx)), (0, .ref (b 0)), (1, .int (nI kx))]) hx hb dX8_forget_1 rfl hl (by decide) rfl (fun ls hl => ?_)
  refine loopH (nL := 3) (I := fun (xv9 : Nat × (Nat → Int32)) => (fun (jx : Nat) (gx : Nat → Int32) => fgI L kx jx gx ∧ jx < cc) xv9.1 xv9.2) (μ := fun (xv9 : Nat × (Nat → Int32)) => (fun (jx : Nat) (gx : Nat → Int32) => cc - jx) xv9.1 xv9.2) (lv := fun (xv9 : Nat × (Nat → Int32)) => (fun (jx : Nat) (gx : Nat → Int32) => [(0, .ref (b 0)), (1, .int (nI kx)), (2, .int (nI jx))]) xv9.1 xv9.2) (wj := fun (xv9 : Nat × (Nat → Int32)) => (fun (jx : Nat) (gx : Nat → Int32) => [(oX8 (b 0) th (b 1) (b 2) (b 3) (b 4) (b 5) (b 6) (nI n) (b 8) (b 9) (b 10) (nI mf) (b 12) (b 13) (b 14) (nI cc) (bI kn) (b 17) (nI sc) (b 19) (nI fc) (b 21) (bI so) la lq (b 25) (nI wq)), (cI G (b 14) 14 gx)]) xv9.1 xv9.2) (pc' := 2) (fun xv9 hI ih_2 H locs ls hP hD hS hl => ?_) (⟨kx, ch⟩) (⟨fgI_0 hr0 (by omega), hkx⟩) _ _ ls (hP) (hD) hS (lv_sub hl [1, 2, 0] rfl)
  obtain ⟨jx, gx⟩ := xv9
  have hI : fgI L kx jx gx ∧ jx < cc := hI
  have hl : lv_has ls 3 [(0, .ref (b 0)), (1, .int (nI kx)), (2, .int (nI jx))] := hl
  have hPD : PD G A [(oX8 (b 0) th (b 1) (b 2) (b 3) (b 4) (b 5) (b 6) (nI n) (b 8) (b 9) (b 10) (nI mf) (b 12) (b 13) (b 14) (nI cc) (bI kn) (b 17) (nI sc) (b 19) (nI fc) (b 21) (bI so) la lq (b 25) (nI wq)), (cI G (b 14) 14 gx)] H := ⟨hP, hD⟩
  have hP := hPD.1
  have hD := hPD.2
  clear hPD
  have hI2 := hI.2
  refine lv_iload_n hx hb dX8_forget_2 rfl (lv_at hl 2 rfl) ?_
  refine lv_iconst (v := 1) hx hb dX8_forget_3 (by decide) ?_
  refine lv_iadd hx hb dX8_forget_4 ?_
  refine stI (y := nI (jx + 1)) (nI_1 jx) ?_
  refine lv_aload_n hx hb dX8_forget_5 rfl (lv_at hl 0 rfl) ?_
  refine va_get (D := G.1) (ci := 10) (v := .int (nI cc)) (C := RX8) (T := TX8) (N := 27) hx hb hts iX8_forget_X8 hown hK hP 0 rfl rfl 15 (by decide) (hts _ fX8_forget_1) (fun _ h9 => h9) rfl dX8_forget_6 ?_
  refine lv_icmp_ge (tgt := 32) hx hb dX8_forget_9 (by decide) (fun c_9 => ?_) (fun c_9 => ?_)
  · skip
    have hj : cc ≤ jx + 1 := (nI_leI (a := cc) (b := jx + 1) (by omega) (by omega)).mp c_9
    refine lv_aload_n hx hb dX8_forget_32 rfl (lv_at hl 0 rfl) ?_
    refine lv_dup hx hb dX8_forget_33 rfl ?_
    refine va_get (D := G.1) (ci := 10) (v := .int (nI cc)) (C := RX8) (T := TX8) (N := 27) hx hb hts iX8_forget_X8 hown hK hP 0 rfl rfl 15 (by decide) (hts _ fX8_forget_1) (fun _ h9 => h9) rfl dX8_forget_34 ?_
    refine lv_iconst (v := 1) hx hb dX8_forget_37 (by decide) ?_
    refine lv_isub hx hb dX8_forget_38 ?_
    refine stI (y := nI (cc - 1)) (nI_subn (b := 1) (by omega)) ?_
    refine va_put (D := G.1) (ci := 10) (v := .int (nI (cc - 1))) (ty := .int) (C := RX8) (T := TX8) (N := 27) hx hb hts iX8_forget_X8 tyX8 tyX8_ok nmX8 hown hK hP hD hS 0 rfl rfl 15 (by decide) (hts _ fX8_forget_1) (fun _ h9 => h9) rfl (by decide +kernel) rfl rfl (Nat.le_of_ble_eq_true rfl) dX8_forget_39 (fun H locs hP hD hS => ?_)
    have hPD : PD G A [(oX8 (b 0) th (b 1) (b 2) (b 3) (b 4) (b 5) (b 6) (nI n) (b 8) (b 9) (b 10) (nI mf) (b 12) (b 13) (b 14) (nI (cc - 1)) (bI kn) (b 17) (nI sc) (b 19) (nI fc) (b 21) (bI so) la lq (b 25) (nI wq)), (cI G (b 14) 14 gx)] H := ⟨hP, hD⟩
    have hP := hPD.1
    have hD := hPD.2
    clear hPD
    exact gretv hx hb hr hlocks hAe hS (gx) (rfl) (fgI_e hI.1 (by omega) (by omega)) (hP) dX8_forget_42
  · skip
    have hj : jx + 1 < cc := Nat.lt_of_not_le (fun z => c_9 ((nI_leI (a := cc) (b := jx + 1) (by omega) (by omega)).mpr z))
    refine lv_aload_n hx hb dX8_forget_12 rfl (lv_at hl 0 rfl) ?_
    refine va_get (D := G.1) (ci := 10) (v := .ref (b 14)) (C := RX8) (T := TX8) (N := 27) hx hb hts iX8_forget_X8 hown hK hP 0 rfl rfl 14 (by decide) (hts _ fX8_forget_2) (fun _ h9 => h9) rfl dX8_forget_13 ?_
    refine lv_iload_n hx hb dX8_forget_16 rfl (lv_at hl 2 rfl) ?_
    refine lv_aload_n hx hb dX8_forget_17 rfl (lv_at hl 0 rfl) ?_
    refine va_get (D := G.1) (ci := 10) (v := .ref (b 14)) (C := RX8) (T := TX8) (N := 27) hx hb hts iX8_forget_X8 hown hK hP 0 rfl rfl 14 (by decide) (hts _ fX8_forget_2) (fun _ h9 => h9) rfl dX8_forget_18 ?_
    refine lv_iload_n hx hb dX8_forget_21 rfl (lv_at hl 2 rfl) ?_
    refine lv_iconst (v := 1) hx hb dX8_forget_22 (by decide) ?_
    refine lv_iadd hx hb dX8_forget_23 ?_
    refine aldI hx hb hK hP 1 (k := jx + 1) rfl (nI_1 jx) (by omega) (by decide) dX8_forget_24 ?_
    refine astI hx hb hK hP hD hS 1 (k := jx) rfl (rfl) (by omega) (by decide) dX8_forget_25 (fun H locs hP hD hS => ?_)
    have hPD : PD G A [(oX8 (b 0) th (b 1) (b 2) (b 3) (b 4) (b 5) (b 6) (nI n) (b 8) (b 9) (b 10) (nI mf) (b 12) (b 13) (b 14) (nI cc) (bI kn) (b 17) (nI sc) (b 19) (nI fc) (b 21) (bI so) la lq (b 25) (nI wq)), (cI G (b 14) 14 (upd gx jx (gx (jx + 1))))] H := ⟨hP, hD⟩
    have hP := hPD.1
    have hD := hPD.2
    clear hPD
    refine lv_iinc (v := nI (jx + 1)) (lv' := [(2, .int (nI (jx + 1))), (0, .ref (b 0)), (1, .int (nI kx))]) hx hb dX8_forget_26 hl (k := 2) rfl (nI_1 jx) (by decide) rfl (fun ls hl => ?_)
    refine lv_goto (tgt := 2) hx hb dX8_forget_29 (by decide) ?_
    exact ih_2 (⟨jx + 1, upd gx jx (gx (jx + 1))⟩) (⟨fgI_s hI.1 (by omega), hj⟩) (by show cc - (jx + 1) < cc - jx; omega) _ _ ls (hP) (hD) hS (lv_sub hl [1, 2, 0] rfl)

theorem iX8_know_X8 : ∀ w ∈ u_ws RX8 TX8 27, w ∈ wsX8_know := by decide +kernel
theorem fX8_know_1 : Cond.fieldLink RX8 70 "FeatureSolveModel" "known" "Z" ∈ wsX8_know := by decide +kernel
theorem fX8_know_2 : Cond.fieldLink RX8 101 "FeatureSolveModel" "setCount" "I" ∈ wsX8_know := by decide +kernel
theorem fX8_know_3 : Cond.fieldLink RX8 63 "FeatureSolveModel" "features" "I" ∈ wsX8_know := by decide +kernel
theorem hd_X8_keepsTree : yX8_keepsTree.cls ≠ "java/lang/invoke/MethodHandle" ∧ yX8_keepsTree.cls ≠ "java/lang/invoke/VarHandle" ∧ (parseMethodDescriptor yX8_keepsTree.desc).map (fun d => d.parameters.length) = some 1 := by decide +kernel
theorem hd_X8_keepsFormulas : yX8_keepsFormulas.cls ≠ "java/lang/invoke/MethodHandle" ∧ yX8_keepsFormulas.cls ≠ "java/lang/invoke/VarHandle" ∧ (parseMethodDescriptor yX8_keepsFormulas.desc).map (fun d => d.parameters.length) = some 1 := by decide +kernel
theorem hd_X8_keepsLimits : yX8_keepsLimits.cls ≠ "java/lang/invoke/MethodHandle" ∧ yX8_keepsLimits.cls ≠ "java/lang/invoke/VarHandle" ∧ (parseMethodDescriptor yX8_keepsLimits.desc).map (fun d => d.parameters.length) = some 1 := by decide +kernel
theorem fX8_know_4 : Cond.fieldLink RX8 47 "FeatureSolveModel" "sets" "[I" ∈ wsX8_know := by decide +kernel
set_option maxHeartbeats 4000000 in
set_option maxRecDepth 100000 in
/-- know() -/
theorem c_X8_know (l : Launch) (G : GG) (b : Nat → Nat) (th : Int32) (n mf cc : Nat) (kn : Bool) (sc fc : Nat) (so : Bool) (la lq : Int32) (wq : Nat) (pa ki gd le mo sm op fa fb ld lm st : Nat → Int32) (hn : n ≤ 14) (hm : mf ≤ 40) (hk : kn = true → rowIs st (mLL n pa ki gd le mo mf op fa fb sm ld lm) ∧ sc = (mLL n pa ki gd le mo mf op fa fb sm ld lm).length) : Met l yX8_know wsX8_know (rmK 3) (va_Pc [.ref (b 0)] (PM G [(oX8 (b 0) th (b 1) (b 2) (b 3) (b 4) (b 5) (b 6) (nI n) (b 8) (b 9) (b 10) (nI mf) (b 12) (b 13) (b 14) (nI cc) (bI kn) (b 17) (nI sc) (b 19) (nI fc) (b 21) (bI so) la lq (b 25) (nI wq)), (cI G (b 1) 15 pa), (cI G (b 2) 15 ki), (cZ G (b 3) 15 gd), (cI G (b 4) 15 le), (cI G (b 5) 15 mo), (cI G (b 6) 60 sm), (cI G (b 8) 40 op), (cI G (b 9) 40 fa), (cI G (b 10) 40 fb), (cZ G (b 12) 4 ld), (cI G (b 13) 4 lm), (cI G (b 17) 16384 st)])) (QG (S := Nat → Int32) G [(oX8 (b 0) th (b 1) (b 2) (b 3) (b 4) (b 5) (b 6) (nI n) (b 8) (b 9) (b 10) (nI mf) (b 12) (b 13) (b 14) (nI cc) (bI kn) (b 17) (nI sc) (b 19) (nI fc) (b 21) (bI so) la lq (b 25) (nI wq)), (cI G (b 1) 15 pa), (cI G (b 2) 15 ki), (cZ G (b 3) 15 gd), (cI G (b 4) 15 le), (cI G (b 5) 15 mo), (cI G (b 6) 60 sm), (cI G (b 8) 40 op), (cI G (b 9) 40 fa), (cI G (b 10) 40 fb), (cZ G (b 12) 4 ld), (cI G (b 13) 4 lm), (cI G (b 17) 16384 st)] (fun u => rowIs u (mLL n pa ki gd le mo mf op fa fb sm ld lm)) (fun u => none) (fun u => [(oX8 (b 0) th (b 1) (b 2) (b 3) (b 4) (b 5) (b 6) (nI n) (b 8) (b 9) (b 10) (nI mf) (b 12) (b 13) (b 14) (nI cc) 1 (b 17) (nI (mLL n pa ki gd le mo mf op fa fb sm ld lm).length) (b 19) (nI fc) (b 21) (bI so) la lq (b 25) (nI wq)), (cI G (b 1) 15 pa), (cI G (b 2) 15 ki), (cZ G (b 3) 15 gd), (cI G (b 4) 15 le), (cI G (b 5) 15 mo), (cI G (b 6) 60 sm), (cI G (b 8) 40 op), (cI G (b 9) 40 fa), (cI G (b 10) 40 fb), (cZ G (b 12) 4 ld), (cI G (b 13) 4 lm), (cI G (b 17) 16384 u)])) 0 0 (adr [(oX8 (b 0) th (b 1) (b 2) (b 3) (b 4) (b 5) (b 6) (nI n) (b 8) (b 9) (b 10) (nI mf) (b 12) (b 13) (b 14) (nI cc) (bI kn) (b 17) (nI sc) (b 19) (nI fc) (b 21) (bI so) la lq (b 25) (nI wq)), (cI G (b 1) 15 pa), (cI G (b 2) 15 ki), (cZ G (b 3) 15 gd), (cI G (b 4) 15 le), (cI G (b 5) 15 mo), (cI G (b 6) 60 sm), (cI G (b 8) 40 op), (cI G (b 9) 40 fa), (cI G (b 10) 40 fb), (cZ G (b 12) 4 ld), (cI G (b 13) 4 lm), (cI G (b 17) 16384 st)]) := by
  refine Met.ofW (cc := cX8_know) (maxL := 2) (ret := none) (by decide) rfl ?_
  intro p e s m args below meth c s₁ B hml hv
  obtain ⟨rfl, hP, hD0, hKK⟩ := hv
  have hx := B.exec
  have hb := B.bytes
  have hr := B.returns
  have hts := atoms_spec (ws := wsX8_know) B.pre
  have hown : s.vm.findClass RX8 = some m.cls := findClass_of_methodNamed B.named
  have hlocks := B.notSynchronized
  have hK := hKK.1
  generalize hAe : adr [(oX8 (b 0) th (b 1) (b 2) (b 3) (b 4) (b 5) (b 6) (nI n) (b 8) (b 9) (b 10) (nI mf) (b 12) (b 13) (b 14) (nI cc) (bI kn) (b 17) (nI sc) (b 19) (nI fc) (b 21) (bI so) la lq (b 25) (nI wq)), (cI G (b 1) 15 pa), (cI G (b 2) 15 ki), (cZ G (b 3) 15 gd), (cI G (b 4) 15 le), (cI G (b 5) 15 mo), (cI G (b 6) 60 sm), (cI G (b 8) 40 op), (cI G (b 9) 40 fa), (cI G (b 10) 40 fb), (cZ G (b 12) 4 ld), (cI G (b 13) 4 lm), (cI G (b 17) 16384 st)] = A
  have hD : va_D A [(oX8 (b 0) th (b 1) (b 2) (b 3) (b 4) (b 5) (b 6) (nI n) (b 8) (b 9) (b 10) (nI mf) (b 12) (b 13) (b 14) (nI cc) (bI kn) (b 17) (nI sc) (b 19) (nI fc) (b 21) (bI so) la lq (b 25) (nI wq)), (cI G (b 1) 15 pa), (cI G (b 2) 15 ki), (cZ G (b 3) 15 gd), (cI G (b 4) 15 le), (cI G (b 5) 15 mo), (cI G (b 6) 60 sm), (cI G (b 8) 40 op), (cI G (b 9) 40 fa), (cI G (b 10) 40 fb), (cZ G (b 12) 4 ld), (cI G (b 13) 4 lm), (cI G (b 17) 16384 st)] := by rw [← hAe]; exact hD0.own
  have hS : va_S A s.heap s.heap [] := va_S.rf
  have hP : va_P G.1 vwCl [(oX8 (b 0) th (b 1) (b 2) (b 3) (b 4) (b 5) (b 6) (nI n) (b 8) (b 9) (b 10) (nI mf) (b 12) (b 13) (b 14) (nI cc) (bI kn) (b 17) (nI sc) (b 19) (nI fc) (b 21) (bI so) la lq (b 25) (nI wq)), (cI G (b 1) 15 pa), (cI G (b 2) 15 ki), (cZ G (b 3) 15 gd), (cI G (b 4) 15 le), (cI G (b 5) 15 mo), (cI G (b 6) 60 sm), (cI G (b 8) 40 op), (cI G (b 9) 40 fa), (cI G (b 10) 40 fb), (cZ G (b 12) 4 ld), (cI G (b 13) 4 lm), (cI G (b 17) 16384 st)] s.heap := hP
  have hl := lv_entry ([.ref (b 0)]) (n := 2) (Nat.le_of_ble_eq_true rfl)
  rw [lg_entry_eq]
  generalize (lg_sl ([.ref (b 0)]) ++ List.replicate (2 - (lg_sl ([.ref (b 0)])).length) Slot.unset).toArray = ls at hl ⊢
  have hl : lv_has ls 2 [(0, .ref (b 0))] := hl
  refine lv_aload_n hx hb dX8_know_0 rfl (lv_at hl 0 rfl) ?_
  refine va_get (D := G.1) (ci := 10) (v := .int (bI kn)) (C := RX8) (T := TX8) (N := 27) hx hb hts iX8_know_X8 hown hK hP 0 rfl rfl 16 (by decide) (hts _ fX8_know_1) (fun _ h9 => h9) rfl dX8_know_1 ?_
  refine lv_if_eq (tgt := 8) hx hb dX8_know_4 (by decide) (fun c_4 => ?_) (fun c_4 => ?_)
  · skip
    refine lv_aload_n hx hb dX8_know_8 rfl (lv_at hl 0 rfl) ?_
    refine lv_iconst (v := 1) hx hb dX8_know_9 (by decide) ?_
    refine va_put (D := G.1) (ci := 10) (v := .int 1) (ty := .boolean) (C := RX8) (T := TX8) (N := 27) hx hb hts iX8_know_X8 tyX8 tyX8_ok nmX8 hown hK hP hD hS 0 rfl rfl 16 (by decide) (hts _ fX8_know_1) (fun _ h9 => h9) rfl (by decide +kernel) rfl rfl (Nat.le_of_ble_eq_true rfl) dX8_know_10 (fun H locs hP hD hS => ?_)
    have hPD : PD G A [(oX8 (b 0) th (b 1) (b 2) (b 3) (b 4) (b 5) (b 6) (nI n) (b 8) (b 9) (b 10) (nI mf) (b 12) (b 13) (b 14) (nI cc) 1 (b 17) (nI sc) (b 19) (nI fc) (b 21) (bI so) la lq (b 25) (nI wq)), (cI G (b 1) 15 pa), (cI G (b 2) 15 ki), (cZ G (b 3) 15 gd), (cI G (b 4) 15 le), (cI G (b 5) 15 mo), (cI G (b 6) 60 sm), (cI G (b 8) 40 op), (cI G (b 9) 40 fa), (cI G (b 10) 40 fb), (cZ G (b 12) 4 ld), (cI G (b 13) 4 lm), (cI G (b 17) 16384 st)] H := ⟨hP, hD⟩
    have hP := hPD.1
    have hD := hPD.2
    clear hPD
    refine lv_aload_n hx hb dX8_know_13 rfl (lv_at hl 0 rfl) ?_
    refine lv_iconst (v := 0) hx hb dX8_know_14 (by decide) ?_
    refine stI (y := nI ((setsD n (2 ^ n)).filter (mOk n pa ki gd le mo mf op fa fb sm ld lm)).length) (by rw [setsD_e]; rfl) ?_
    refine va_put (D := G.1) (ci := 10) (v := .int (nI ((setsD n (2 ^ n)).filter (mOk n pa ki gd le mo mf op fa fb sm ld lm)).length)) (ty := .int) (C := RX8) (T := TX8) (N := 27) hx hb hts iX8_know_X8 tyX8 tyX8_ok nmX8 hown hK hP hD hS 0 rfl rfl 18 (by decide) (hts _ fX8_know_2) (fun _ h9 => h9) rfl (by decide +kernel) rfl rfl (Nat.le_of_ble_eq_true rfl) dX8_know_15 (fun H locs hP hD hS => ?_)
    have hPD : PD G A [(oX8 (b 0) th (b 1) (b 2) (b 3) (b 4) (b 5) (b 6) (nI n) (b 8) (b 9) (b 10) (nI mf) (b 12) (b 13) (b 14) (nI cc) 1 (b 17) (nI ((setsD n (2 ^ n)).filter (mOk n pa ki gd le mo mf op fa fb sm ld lm)).length) (b 19) (nI fc) (b 21) (bI so) la lq (b 25) (nI wq)), (cI G (b 1) 15 pa), (cI G (b 2) 15 ki), (cZ G (b 3) 15 gd), (cI G (b 4) 15 le), (cI G (b 5) 15 mo), (cI G (b 6) 60 sm), (cI G (b 8) 40 op), (cI G (b 9) 40 fa), (cI G (b 10) 40 fb), (cZ G (b 12) 4 ld), (cI G (b 13) 4 lm), (cI G (b 17) 16384 st)] H := ⟨hP, hD⟩
    have hP := hPD.1
    have hD := hPD.2
    clear hPD
    refine lv_iconst (v := 1) hx hb dX8_know_18 (by decide) ?_
    refine lv_aload_n hx hb dX8_know_19 rfl (lv_at hl 0 rfl) ?_
    refine va_get (D := G.1) (ci := 10) (v := .int (nI n)) (C := RX8) (T := TX8) (N := 27) hx hb hts iX8_know_X8 hown hK hP 0 rfl rfl 7 (by decide) (hts _ fX8_know_3) (fun _ h9 => h9) rfl dX8_know_20 ?_
    refine lv_ishl hx hb dX8_know_23 ?_
    refine stI (y := nI (2 ^ n)) (shl_one hn) ?_
    refine lv_iconst (v := 1) hx hb dX8_know_24 (by decide) ?_
    refine lv_isub hx hb dX8_know_25 ?_
    refine lv_istore_n (lv' := [(1, .int ((nI (2 ^ n)) - 1)), (0, .ref (b 0))]) hx hb dX8_know_26 rfl hl (by decide) rfl (fun ls hl => ?_)
    refine loopH (nL := 2) (I := fun (xv9 : Nat × (Nat → Int32)) => (fun (tx : Nat) (gx : Nat → Int32) => tx ≤ 2 ^ n ∧ rowIs gx ((setsD n tx).filter (mOk n pa ki gd le mo mf op fa fb sm ld lm))) xv9.1 xv9.2) (μ := fun (xv9 : Nat × (Nat → Int32)) => (fun (tx : Nat) (gx : Nat → Int32) => tx) xv9.1 xv9.2) (lv := fun (xv9 : Nat × (Nat → Int32)) => (fun (tx : Nat) (gx : Nat → Int32) => [(0, .ref (b 0)), (1, .int (nI tx - 1))]) xv9.1 xv9.2) (wj := fun (xv9 : Nat × (Nat → Int32)) => (fun (tx : Nat) (gx : Nat → Int32) => [(oX8 (b 0) th (b 1) (b 2) (b 3) (b 4) (b 5) (b 6) (nI n) (b 8) (b 9) (b 10) (nI mf) (b 12) (b 13) (b 14) (nI cc) 1 (b 17) (nI ((setsD n tx).filter (mOk n pa ki gd le mo mf op fa fb sm ld lm)).length) (b 19) (nI fc) (b 21) (bI so) la lq (b 25) (nI wq)), (cI G (b 1) 15 pa), (cI G (b 2) 15 ki), (cZ G (b 3) 15 gd), (cI G (b 4) 15 le), (cI G (b 5) 15 mo), (cI G (b 6) 60 sm), (cI G (b 8) 40 op), (cI G (b 9) 40 fa), (cI G (b 10) 40 fb), (cZ G (b 12) 4 ld), (cI G (b 13) 4 lm), (cI G (b 17) 16384 gx)]) xv9.1 xv9.2) (pc' := 27) (fun xv9 hI ih_27 H locs ls hP hD hS hl => ?_) (⟨2 ^ n, st⟩) (⟨Nat.le_refl _, by rw [setsD_e]; exact fun k hk => absurd hk (by simp)⟩) _ _ ls (hP) (hD) hS (lv_sub hl [1, 0] rfl)
    obtain ⟨tx, gx⟩ := xv9
    have hI : tx ≤ 2 ^ n ∧ rowIs gx ((setsD n tx).filter (mOk n pa ki gd le mo mf op fa fb sm ld lm)) := hI
    have hl : lv_has ls 2 [(0, .ref (b 0)), (1, .int (nI tx - 1))] := hl
    have hPD : PD G A [(oX8 (b 0) th (b 1) (b 2) (b 3) (b 4) (b 5) (b 6) (nI n) (b 8) (b 9) (b 10) (nI mf) (b 12) (b 13) (b 14) (nI cc) 1 (b 17) (nI ((setsD n tx).filter (mOk n pa ki gd le mo mf op fa fb sm ld lm)).length) (b 19) (nI fc) (b 21) (bI so) la lq (b 25) (nI wq)), (cI G (b 1) 15 pa), (cI G (b 2) 15 ki), (cZ G (b 3) 15 gd), (cI G (b 4) 15 le), (cI G (b 5) 15 mo), (cI G (b 6) 60 sm), (cI G (b 8) 40 op), (cI G (b 9) 40 fa), (cI G (b 10) 40 fb), (cZ G (b 12) 4 ld), (cI G (b 13) 4 lm), (cI G (b 17) 16384 gx)] H := ⟨hP, hD⟩
    have hP := hPD.1
    have hD := hPD.2
    clear hPD
    have hI1 := hI.1
    have hI2 := pow_le14 hn
    have hlen := setsF_len n tx (mOk n pa ki gd le mo mf op fa fb sm ld lm)
    refine lv_iload_n hx hb dX8_know_27 rfl (lv_at hl 1 rfl) ?_
    refine lv_if_lt (tgt := 81) hx hb dX8_know_28 (by decide) (fun c_28 => ?_) (fun c_28 => ?_)
    · skip
      have ht : tx = 0 := (i_neg_iff (by omega)).mp c_28
      exact gretv hx hb hr hlocks hAe hS (gx) (rfl) (by have h9 := hI.2; rw [ht] at h9; exact h9) (by rw [show mLL n pa ki gd le mo mf op fa fb sm ld lm = ((setsD n tx).filter (mOk n pa ki gd le mo mf op fa fb sm ld lm)) by rw [ht]; rfl]; exact hP) dX8_know_81
    · skip
      obtain ⟨ty, hty⟩ : ∃ q, tx = q + 1 := ⟨tx - 1, by have := mt (i_neg_iff (t := tx) (by omega)).mpr c_28; omega⟩
      refine lv_aload_n hx hb dX8_know_31 rfl (lv_at hl 0 rfl) ?_
      refine lv_iload_n hx hb dX8_know_32 rfl (lv_at hl 1 rfl) ?_
      refine stI (y := nI ty) (by rw [hty]; exact nI_pred ty) ?_
      refine cpV (ci := 10) (T0 := TX8) (N := 27) (As := [.int (nI ty)]) (rest := []) ⟨hx, hb, hml, hown, hts⟩ (c_X8_keepsTree l G b th n mf cc true (((setsD n tx).filter (mOk n pa ki gd le mo mf op fa fb sm ld lm)).length) fc so la lq wq pa ki gd le mo (nI ty) (hn)) (cwV 1 hts gX8_know_X8_keepsTree rfl rfl rfl ⟨rfl, hd_X8_keepsTree⟩ ⟨Nat.le_of_ble_eq_true rfl, Nat.le_of_ble_eq_true rfl⟩) hKK hP [0, 1, 2, 3, 4, 5] rfl rfl rfl rfl hl.1 rfl (Nat.le_of_ble_eq_true rfl) dX8_know_33 ⟨Nat.zero_le _, Nat.zero_le _⟩ ?_
      refine lv_if_eq (tgt := 75) hx hb dX8_know_36 (by decide) (fun c_36 => ?_) (fun c_36 => ?_)
      · skip
        have hok : mOk n pa ki gd le mo mf op fa fb sm ld lm (nI ty) = false := mOk_1 (bI_0.mp c_36)
        refine lv_iinc (v := nI ty - 1) (lv' := [(1, .int (nI ty - 1)), (0, .ref (b 0))]) hx hb dX8_know_75 hl (k := 1) rfl (by rw [hty]; exact i_dec2 ty) (by decide) rfl (fun ls hl => ?_)
        refine lv_goto (tgt := 27) hx hb dX8_know_78 (by decide) ?_
        have hfe : ((setsD n ty).filter (mOk n pa ki gd le mo mf op fa fb sm ld lm)) = ((setsD n tx).filter (mOk n pa ki gd le mo mf op fa fb sm ld lm)) := by rw [hty, setsD_s (by omega)]; exact fil_f hok
        rw [← hfe] at hP hD
        exact ih_27 (⟨ty, gx⟩) (⟨by omega, by rw [hfe]; exact hI.2⟩) (by show ty < tx; omega) _ _ ls (hP) (hD) hS (lv_sub hl [1, 0] rfl)
      · skip
        refine lv_aload_n hx hb dX8_know_39 rfl (lv_at hl 0 rfl) ?_
        refine lv_iload_n hx hb dX8_know_40 rfl (lv_at hl 1 rfl) ?_
        refine stI (y := nI ty) (by rw [hty]; exact nI_pred ty) ?_
        refine cpV (ci := 10) (T0 := TX8) (N := 27) (As := [.int (nI ty)]) (rest := []) ⟨hx, hb, hml, hown, hts⟩ (c_X8_keepsFormulas l G b th n mf cc true (((setsD n tx).filter (mOk n pa ki gd le mo mf op fa fb sm ld lm)).length) fc so la lq wq op fa fb (nI ty) (hm)) (cwV 1 hts gX8_know_X8_keepsFormulas rfl rfl rfl ⟨rfl, hd_X8_keepsFormulas⟩ ⟨Nat.le_of_ble_eq_true rfl, Nat.le_of_ble_eq_true rfl⟩) hKK hP [0, 7, 8, 9] rfl rfl rfl rfl hl.1 rfl (Nat.le_of_ble_eq_true rfl) dX8_know_41 ⟨Nat.zero_le _, Nat.zero_le _⟩ ?_
        refine lv_if_eq (tgt := 75) hx hb dX8_know_44 (by decide) (fun c_44 => ?_) (fun c_44 => ?_)
        · skip
          have hok : mOk n pa ki gd le mo mf op fa fb sm ld lm (nI ty) = false := mOk_2 (bI_n0 c_36) (bI_0.mp c_44)
          refine lv_iinc (v := nI ty - 1) (lv' := [(1, .int (nI ty - 1)), (0, .ref (b 0))]) hx hb dX8_know_75 hl (k := 1) rfl (by rw [hty]; exact i_dec2 ty) (by decide) rfl (fun ls hl => ?_)
          refine lv_goto (tgt := 27) hx hb dX8_know_78 (by decide) ?_
          have hfe : ((setsD n ty).filter (mOk n pa ki gd le mo mf op fa fb sm ld lm)) = ((setsD n tx).filter (mOk n pa ki gd le mo mf op fa fb sm ld lm)) := by rw [hty, setsD_s (by omega)]; exact fil_f hok
          rw [← hfe] at hP hD
          exact ih_27 (⟨ty, gx⟩) (⟨by omega, by rw [hfe]; exact hI.2⟩) (by show ty < tx; omega) _ _ ls (hP) (hD) hS (lv_sub hl [1, 0] rfl)
        · skip
          refine lv_aload_n hx hb dX8_know_47 rfl (lv_at hl 0 rfl) ?_
          refine lv_iload_n hx hb dX8_know_48 rfl (lv_at hl 1 rfl) ?_
          refine stI (y := nI ty) (by rw [hty]; exact nI_pred ty) ?_
          refine cpV (ci := 10) (T0 := TX8) (N := 27) (As := [.int (nI ty)]) (rest := []) ⟨hx, hb, hml, hown, hts⟩ (c_X8_keepsLimits l G b th n mf cc true (((setsD n tx).filter (mOk n pa ki gd le mo mf op fa fb sm ld lm)).length) fc so la lq wq sm ld lm (nI ty) (hn)) (cwV 1 hts gX8_know_X8_keepsLimits rfl rfl rfl ⟨rfl, hd_X8_keepsLimits⟩ ⟨Nat.le_of_ble_eq_true rfl, Nat.le_of_ble_eq_true rfl⟩) hKK hP [0, 6, 10, 11] rfl rfl rfl rfl hl.1 rfl (Nat.le_of_ble_eq_true rfl) dX8_know_49 ⟨Nat.zero_le _, Nat.zero_le _⟩ ?_
          refine lv_if_eq (tgt := 75) hx hb dX8_know_52 (by decide) (fun c_52 => ?_) (fun c_52 => ?_)
          · skip
            have hok : mOk n pa ki gd le mo mf op fa fb sm ld lm (nI ty) = false := mOk_3 (bI_n0 c_36) (bI_n0 c_44) (bI_0.mp c_52)
            refine lv_iinc (v := nI ty - 1) (lv' := [(1, .int (nI ty - 1)), (0, .ref (b 0))]) hx hb dX8_know_75 hl (k := 1) rfl (by rw [hty]; exact i_dec2 ty) (by decide) rfl (fun ls hl => ?_)
            refine lv_goto (tgt := 27) hx hb dX8_know_78 (by decide) ?_
            have hfe : ((setsD n ty).filter (mOk n pa ki gd le mo mf op fa fb sm ld lm)) = ((setsD n tx).filter (mOk n pa ki gd le mo mf op fa fb sm ld lm)) := by rw [hty, setsD_s (by omega)]; exact fil_f hok
            rw [← hfe] at hP hD
            exact ih_27 (⟨ty, gx⟩) (⟨by omega, by rw [hfe]; exact hI.2⟩) (by show ty < tx; omega) _ _ ls (hP) (hD) hS (lv_sub hl [1, 0] rfl)
          · skip
            have hok : mOk n pa ki gd le mo mf op fa fb sm ld lm (nI ty) = true := mOk_4 (bI_n0 c_36) (bI_n0 c_44) (bI_n0 c_52)
            have hfa : ((setsD n ty).filter (mOk n pa ki gd le mo mf op fa fb sm ld lm)) = ((setsD n tx).filter (mOk n pa ki gd le mo mf op fa fb sm ld lm)) ++ [nI ty] := by rw [hty, setsD_s (by omega)]; exact fil_t hok
            refine lv_aload_n hx hb dX8_know_55 rfl (lv_at hl 0 rfl) ?_
            refine va_get (D := G.1) (ci := 10) (v := .ref (b 17)) (C := RX8) (T := TX8) (N := 27) hx hb hts iX8_know_X8 hown hK hP 0 rfl rfl 17 (by decide) (hts _ fX8_know_4) (fun _ h9 => h9) rfl dX8_know_56 ?_
            refine lv_aload_n hx hb dX8_know_59 rfl (lv_at hl 0 rfl) ?_
            refine va_get (D := G.1) (ci := 10) (v := .int (nI ((setsD n tx).filter (mOk n pa ki gd le mo mf op fa fb sm ld lm)).length)) (C := RX8) (T := TX8) (N := 27) hx hb hts iX8_know_X8 hown hK hP 0 rfl rfl 18 (by decide) (hts _ fX8_know_2) (fun _ h9 => h9) rfl dX8_know_60 ?_
            refine lv_iload_n hx hb dX8_know_63 rfl (lv_at hl 1 rfl) ?_
            refine stI (y := nI ty) (by rw [hty]; exact nI_pred ty) ?_
            refine astI hx hb hK hP hD hS 12 (k := ((setsD n tx).filter (mOk n pa ki gd le mo mf op fa fb sm ld lm)).length) rfl (rfl) (by omega) (by decide) dX8_know_64 (fun H locs hP hD hS => ?_)
            have hPD : PD G A [(oX8 (b 0) th (b 1) (b 2) (b 3) (b 4) (b 5) (b 6) (nI n) (b 8) (b 9) (b 10) (nI mf) (b 12) (b 13) (b 14) (nI cc) 1 (b 17) (nI ((setsD n tx).filter (mOk n pa ki gd le mo mf op fa fb sm ld lm)).length) (b 19) (nI fc) (b 21) (bI so) la lq (b 25) (nI wq)), (cI G (b 1) 15 pa), (cI G (b 2) 15 ki), (cZ G (b 3) 15 gd), (cI G (b 4) 15 le), (cI G (b 5) 15 mo), (cI G (b 6) 60 sm), (cI G (b 8) 40 op), (cI G (b 9) 40 fa), (cI G (b 10) 40 fb), (cZ G (b 12) 4 ld), (cI G (b 13) 4 lm), (cI G (b 17) 16384 (upd gx (((setsD n tx).filter (mOk n pa ki gd le mo mf op fa fb sm ld lm)).length) (nI ty)))] H := ⟨hP, hD⟩
            have hP := hPD.1
            have hD := hPD.2
            clear hPD
            refine lv_aload_n hx hb dX8_know_65 rfl (lv_at hl 0 rfl) ?_
            refine lv_dup hx hb dX8_know_66 rfl ?_
            refine va_get (D := G.1) (ci := 10) (v := .int (nI ((setsD n tx).filter (mOk n pa ki gd le mo mf op fa fb sm ld lm)).length)) (C := RX8) (T := TX8) (N := 27) hx hb hts iX8_know_X8 hown hK hP 0 rfl rfl 18 (by decide) (hts _ fX8_know_2) (fun _ h9 => h9) rfl dX8_know_67 ?_
            refine lv_iconst (v := 1) hx hb dX8_know_70 (by decide) ?_
            refine lv_iadd hx hb dX8_know_71 ?_
            refine stI (y := nI ((setsD n ty).filter (mOk n pa ki gd le mo mf op fa fb sm ld lm)).length) (by rw [hfa, List.length_append, nI_1]; rfl) ?_
            refine va_put (D := G.1) (ci := 10) (v := .int (nI ((setsD n ty).filter (mOk n pa ki gd le mo mf op fa fb sm ld lm)).length)) (ty := .int) (C := RX8) (T := TX8) (N := 27) hx hb hts iX8_know_X8 tyX8 tyX8_ok nmX8 hown hK hP hD hS 0 rfl rfl 18 (by decide) (hts _ fX8_know_2) (fun _ h9 => h9) rfl (by decide +kernel) rfl rfl (Nat.le_of_ble_eq_true rfl) dX8_know_72 (fun H locs hP hD hS => ?_)
            have hPD : PD G A [(oX8 (b 0) th (b 1) (b 2) (b 3) (b 4) (b 5) (b 6) (nI n) (b 8) (b 9) (b 10) (nI mf) (b 12) (b 13) (b 14) (nI cc) 1 (b 17) (nI ((setsD n ty).filter (mOk n pa ki gd le mo mf op fa fb sm ld lm)).length) (b 19) (nI fc) (b 21) (bI so) la lq (b 25) (nI wq)), (cI G (b 1) 15 pa), (cI G (b 2) 15 ki), (cZ G (b 3) 15 gd), (cI G (b 4) 15 le), (cI G (b 5) 15 mo), (cI G (b 6) 60 sm), (cI G (b 8) 40 op), (cI G (b 9) 40 fa), (cI G (b 10) 40 fb), (cZ G (b 12) 4 ld), (cI G (b 13) 4 lm), (cI G (b 17) 16384 (upd gx (((setsD n tx).filter (mOk n pa ki gd le mo mf op fa fb sm ld lm)).length) (nI ty)))] H := ⟨hP, hD⟩
            have hP := hPD.1
            have hD := hPD.2
            clear hPD
            refine lv_iinc (v := nI ty - 1) (lv' := [(1, .int (nI ty - 1)), (0, .ref (b 0))]) hx hb dX8_know_75 hl (k := 1) rfl (by rw [hty]; exact i_dec2 ty) (by decide) rfl (fun ls hl => ?_)
            refine lv_goto (tgt := 27) hx hb dX8_know_78 (by decide) ?_
            exact ih_27 (⟨ty, upd gx ((setsD n tx).filter (mOk n pa ki gd le mo mf op fa fb sm ld lm)).length (nI ty)⟩) (⟨by omega, by rw [hfa]; exact rowIs_app hI.2⟩) (by show ty < tx; omega) _ _ ls (hP) (hD) hS (lv_sub hl [1, 0] rfl)
  · skip
    have hkn := bI_n0 c_4
    have hk5 := hk hkn
    exact gretv hx hb hr hlocks hAe hS (st) (rfl) (hk5.1) (by rw [← hk5.2, ← show bI kn = 1 by rw [hkn]; rfl]; exact hP) dX8_know_7

theorem hd_X8_know : yX8_know.cls ≠ "java/lang/invoke/MethodHandle" ∧ yX8_know.cls ≠ "java/lang/invoke/VarHandle" ∧ (parseMethodDescriptor yX8_know.desc).map (fun d => d.parameters.length) = some 0 := by decide +kernel
theorem iX8_firstWithout_X8 : ∀ w ∈ u_ws RX8 TX8 27, w ∈ wsX8_firstWithout := by decide +kernel
theorem fX8_firstWithout_1 : Cond.fieldLink RX8 101 "FeatureSolveModel" "setCount" "I" ∈ wsX8_firstWithout := by decide +kernel
theorem fX8_firstWithout_2 : Cond.fieldLink RX8 47 "FeatureSolveModel" "sets" "[I" ∈ wsX8_firstWithout := by decide +kernel
theorem hd_X8_keepsChoices : yX8_keepsChoices.cls ≠ "java/lang/invoke/MethodHandle" ∧ yX8_keepsChoices.cls ≠ "java/lang/invoke/VarHandle" ∧ (parseMethodDescriptor yX8_keepsChoices.desc).map (fun d => d.parameters.length) = some 2 := by decide +kernel
set_option maxHeartbeats 4000000 in
set_option maxRecDepth 100000 in
/-- firstWithout(without) -/
theorem c_X8_firstWithout (l : Launch) (G : GG) (b : Nat → Nat) (th : Int32) (n mf cc : Nat) (kn : Bool) (sc fc : Nat) (so : Bool) (la lq : Int32) (wq : Nat) (pa ki gd le mo sm op fa fb ld lm ch st : Nat → Int32) (wo : Int32) (hc : cc ≤ 14) (hn : n ≤ 14) (hm : mf ≤ 40) (hk : kn = true → rowIs st (mLL n pa ki gd le mo mf op fa fb sm ld lm) ∧ sc = (mLL n pa ki gd le mo mf op fa fb sm ld lm).length) : Met l yX8_firstWithout wsX8_firstWithout (rmK 4) (va_Pc [.ref (b 0), .int wo] (PM G [(oX8 (b 0) th (b 1) (b 2) (b 3) (b 4) (b 5) (b 6) (nI n) (b 8) (b 9) (b 10) (nI mf) (b 12) (b 13) (b 14) (nI cc) (bI kn) (b 17) (nI sc) (b 19) (nI fc) (b 21) (bI so) la lq (b 25) (nI wq)), (cI G (b 1) 15 pa), (cI G (b 2) 15 ki), (cZ G (b 3) 15 gd), (cI G (b 4) 15 le), (cI G (b 5) 15 mo), (cI G (b 6) 60 sm), (cI G (b 8) 40 op), (cI G (b 9) 40 fa), (cI G (b 10) 40 fb), (cZ G (b 12) 4 ld), (cI G (b 13) 4 lm), (cI G (b 14) 14 ch), (cI G (b 17) 16384 st)])) (QG (S := Nat → Int32) G [(oX8 (b 0) th (b 1) (b 2) (b 3) (b 4) (b 5) (b 6) (nI n) (b 8) (b 9) (b 10) (nI mf) (b 12) (b 13) (b 14) (nI cc) (bI kn) (b 17) (nI sc) (b 19) (nI fc) (b 21) (bI so) la lq (b 25) (nI wq)), (cI G (b 1) 15 pa), (cI G (b 2) 15 ki), (cZ G (b 3) 15 gd), (cI G (b 4) 15 le), (cI G (b 5) 15 mo), (cI G (b 6) 60 sm), (cI G (b 8) 40 op), (cI G (b 9) 40 fa), (cI G (b 10) 40 fb), (cZ G (b 12) 4 ld), (cI G (b 13) 4 lm), (cI G (b 14) 14 ch), (cI G (b 17) 16384 st)] (fun u => rowIs u (mLL n pa ki gd le mo mf op fa fb sm ld lm)) (fun u => some (.int (fnd (fun v => allZ (chB (nI n) ch wo v) cc) (mLL n pa ki gd le mo mf op fa fb sm ld lm)))) (fun u => [(oX8 (b 0) th (b 1) (b 2) (b 3) (b 4) (b 5) (b 6) (nI n) (b 8) (b 9) (b 10) (nI mf) (b 12) (b 13) (b 14) (nI cc) 1 (b 17) (nI (mLL n pa ki gd le mo mf op fa fb sm ld lm).length) (b 19) (nI fc) (b 21) (bI so) la lq (b 25) (nI wq)), (cI G (b 1) 15 pa), (cI G (b 2) 15 ki), (cZ G (b 3) 15 gd), (cI G (b 4) 15 le), (cI G (b 5) 15 mo), (cI G (b 6) 60 sm), (cI G (b 8) 40 op), (cI G (b 9) 40 fa), (cI G (b 10) 40 fb), (cZ G (b 12) 4 ld), (cI G (b 13) 4 lm), (cI G (b 14) 14 ch), (cI G (b 17) 16384 u)])) 0 0 (adr [(oX8 (b 0) th (b 1) (b 2) (b 3) (b 4) (b 5) (b 6) (nI n) (b 8) (b 9) (b 10) (nI mf) (b 12) (b 13) (b 14) (nI cc) (bI kn) (b 17) (nI sc) (b 19) (nI fc) (b 21) (bI so) la lq (b 25) (nI wq)), (cI G (b 1) 15 pa), (cI G (b 2) 15 ki), (cZ G (b 3) 15 gd), (cI G (b 4) 15 le), (cI G (b 5) 15 mo), (cI G (b 6) 60 sm), (cI G (b 8) 40 op), (cI G (b 9) 40 fa), (cI G (b 10) 40 fb), (cZ G (b 12) 4 ld), (cI G (b 13) 4 lm), (cI G (b 14) 14 ch), (cI G (b 17) 16384 st)]) := by
  refine Met.ofW (cc := cX8_firstWithout) (maxL := 3) (ret := (some .int)) (by decide) rfl ?_
  intro p e s m args below meth c s₁ B hml hv
  obtain ⟨rfl, hP, hD0, hKK⟩ := hv
  have hx := B.exec
  have hb := B.bytes
  have hr := B.returns
  have hts := atoms_spec (ws := wsX8_firstWithout) B.pre
  have hown : s.vm.findClass RX8 = some m.cls := findClass_of_methodNamed B.named
  have hlocks := B.notSynchronized
  have hK := hKK.1
  generalize hAe : adr [(oX8 (b 0) th (b 1) (b 2) (b 3) (b 4) (b 5) (b 6) (nI n) (b 8) (b 9) (b 10) (nI mf) (b 12) (b 13) (b 14) (nI cc) (bI kn) (b 17) (nI sc) (b 19) (nI fc) (b 21) (bI so) la lq (b 25) (nI wq)), (cI G (b 1) 15 pa), (cI G (b 2) 15 ki), (cZ G (b 3) 15 gd), (cI G (b 4) 15 le), (cI G (b 5) 15 mo), (cI G (b 6) 60 sm), (cI G (b 8) 40 op), (cI G (b 9) 40 fa), (cI G (b 10) 40 fb), (cZ G (b 12) 4 ld), (cI G (b 13) 4 lm), (cI G (b 14) 14 ch), (cI G (b 17) 16384 st)] = A
  have hD : va_D A [(oX8 (b 0) th (b 1) (b 2) (b 3) (b 4) (b 5) (b 6) (nI n) (b 8) (b 9) (b 10) (nI mf) (b 12) (b 13) (b 14) (nI cc) (bI kn) (b 17) (nI sc) (b 19) (nI fc) (b 21) (bI so) la lq (b 25) (nI wq)), (cI G (b 1) 15 pa), (cI G (b 2) 15 ki), (cZ G (b 3) 15 gd), (cI G (b 4) 15 le), (cI G (b 5) 15 mo), (cI G (b 6) 60 sm), (cI G (b 8) 40 op), (cI G (b 9) 40 fa), (cI G (b 10) 40 fb), (cZ G (b 12) 4 ld), (cI G (b 13) 4 lm), (cI G (b 14) 14 ch), (cI G (b 17) 16384 st)] := by rw [← hAe]; exact hD0.own
  have hS : va_S A s.heap s.heap [] := va_S.rf
  have hP : va_P G.1 vwCl [(oX8 (b 0) th (b 1) (b 2) (b 3) (b 4) (b 5) (b 6) (nI n) (b 8) (b 9) (b 10) (nI mf) (b 12) (b 13) (b 14) (nI cc) (bI kn) (b 17) (nI sc) (b 19) (nI fc) (b 21) (bI so) la lq (b 25) (nI wq)), (cI G (b 1) 15 pa), (cI G (b 2) 15 ki), (cZ G (b 3) 15 gd), (cI G (b 4) 15 le), (cI G (b 5) 15 mo), (cI G (b 6) 60 sm), (cI G (b 8) 40 op), (cI G (b 9) 40 fa), (cI G (b 10) 40 fb), (cZ G (b 12) 4 ld), (cI G (b 13) 4 lm), (cI G (b 14) 14 ch), (cI G (b 17) 16384 st)] s.heap := hP
  have hl := lv_entry ([.ref (b 0), .int wo]) (n := 3) (Nat.le_of_ble_eq_true rfl)
  rw [lg_entry_eq]
  generalize (lg_sl ([.ref (b 0), .int wo]) ++ List.replicate (3 - (lg_sl ([.ref (b 0), .int wo])).length) Slot.unset).toArray = ls at hl ⊢
  have hl : lv_has ls 3 [(0, .ref (b 0)), (1, .int wo)] := hl
  have hl9 := mLL_len hn pa ki gd le mo mf op fa fb sm ld lm
  refine lv_aload_n hx hb dX8_firstWithout_0 rfl (lv_at hl 0 rfl) ?_
  refine cnV (nw := 14) (ci := 10) (T0 := TX8) (N := 27) (As := []) (rest := []) ⟨hx, hb, hml, hown, hts⟩ (c_X8_know l G b th n mf cc kn sc fc so la lq wq pa ki gd le mo sm op fa fb ld lm st (hn) (hm) (hk)) (cwV 0 hts gX8_firstWithout_X8_know rfl rfl rfl ⟨rfl, hd_X8_know⟩ ⟨Nat.le_of_ble_eq_true rfl, Nat.le_of_ble_eq_true rfl⟩) hKK hP hD hS [0, 1, 2, 3, 4, 5, 6, 7, 8, 9, 10, 11, 13] [12] (fun gu => [(oX8 (b 0) th (b 1) (b 2) (b 3) (b 4) (b 5) (b 6) (nI n) (b 8) (b 9) (b 10) (nI mf) (b 12) (b 13) (b 14) (nI cc) 1 (b 17) (nI (mLL n pa ki gd le mo mf op fa fb sm ld lm).length) (b 19) (nI fc) (b 21) (bI so) la lq (b 25) (nI wq)), (cI G (b 1) 15 pa), (cI G (b 2) 15 ki), (cZ G (b 3) 15 gd), (cI G (b 4) 15 le), (cI G (b 5) 15 mo), (cI G (b 6) 60 sm), (cI G (b 8) 40 op), (cI G (b 9) 40 fa), (cI G (b 10) 40 fb), (cZ G (b 12) 4 ld), (cI G (b 13) 4 lm), (cI G (b 14) 14 ch), (cI G (b 17) 16384 gu)]) [some (cI G (b 14) 14 ch)] [b 0, b 1, b 2, b 3, b 4, b 5, b 6, b 8, b 9, b 10, b 12, b 13, b 14, b 17] rfl (by decide) (by decide) rfl rfl rfl hl.1 rfl (Nat.le_of_ble_eq_true rfl) dX8_firstWithout_1 ⟨Nat.zero_le _, Nat.zero_le _⟩ (fun _ => rfl) (fun _ => rfl) rfl (fun _ => rfl) rfl (fun _ => rfl) (fun gu H locs hgu hP hD hS => ?_)
  refine lv_iconst (v := 0) hx hb dX8_firstWithout_4 (by decide) ?_
  refine lv_istore_n (lv' := [(2, .int 0), (0, .ref (b 0)), (1, .int wo)]) hx hb dX8_firstWithout_5 rfl hl (by decide) rfl (fun ls hl => ?_)
  refine loopJ (nL := 3) (I := fun (jx : Nat) => jx ≤ (mLL n pa ki gd le mo mf op fa fb sm ld lm).length ∧ fnd (fun v => allZ (chB (nI n) ch wo v) cc) (mLL n pa ki gd le mo mf op fa fb sm ld lm) = fnd (fun v => allZ (chB (nI n) ch wo v) cc) ((mLL n pa ki gd le mo mf op fa fb sm ld lm).drop jx)) (μ := fun (jx : Nat) => (mLL n pa ki gd le mo mf op fa fb sm ld lm).length - jx) (lv := fun (jx : Nat) => [(0, .ref (b 0)), (1, .int wo), (2, .int (nI jx))]) (pc' := 6) (fun xv9 hI ih_6 ls hl => ?_) 0 (⟨Nat.zero_le _, rfl⟩) ls (lv_sub hl [1, 2, 0] rfl)
  obtain ⟨jx, rfl⟩ : ∃ y, y = xv9 := ⟨_, rfl⟩
  have hI : jx ≤ (mLL n pa ki gd le mo mf op fa fb sm ld lm).length ∧ fnd (fun v => allZ (chB (nI n) ch wo v) cc) (mLL n pa ki gd le mo mf op fa fb sm ld lm) = fnd (fun v => allZ (chB (nI n) ch wo v) cc) ((mLL n pa ki gd le mo mf op fa fb sm ld lm).drop jx) := hI
  have hl : lv_has ls 3 [(0, .ref (b 0)), (1, .int wo), (2, .int (nI jx))] := hl
  have hI1 := hI.1
  refine lv_iload_n hx hb dX8_firstWithout_6 rfl (lv_at hl 2 rfl) ?_
  refine lv_aload_n hx hb dX8_firstWithout_7 rfl (lv_at hl 0 rfl) ?_
  refine va_get (D := G.1) (ci := 10) (v := .int (nI (mLL n pa ki gd le mo mf op fa fb sm ld lm).length)) (C := RX8) (T := TX8) (N := 27) hx hb hts iX8_firstWithout_X8 hown hK hP 0 rfl rfl 18 (by decide) (hts _ fX8_firstWithout_1) (fun _ h9 => h9) rfl dX8_firstWithout_8 ?_
  refine lv_icmp_ge (tgt := 41) hx hb dX8_firstWithout_11 (by decide) (fun c_11 => ?_) (fun c_11 => ?_)
  · skip
    have hj : jx = (mLL n pa ki gd le mo mf op fa fb sm ld lm).length := by have := (nI_leI (a := (mLL n pa ki gd le mo mf op fa fb sm ld lm).length) (b := jx) (by omega) (by omega)).mp c_11; omega
    refine lv_iconst (v := -1) hx hb dX8_firstWithout_41 (by decide) ?_
    exact greti hx hb hr hlocks rfl hAe hS (gu) (by rw [hI.2, hj, fnd_e]) (hgu) (hP) dX8_firstWithout_42
  · skip
    have hj : jx < (mLL n pa ki gd le mo mf op fa fb sm ld lm).length := Nat.lt_of_not_le (fun z => c_11 ((nI_leI (a := (mLL n pa ki gd le mo mf op fa fb sm ld lm).length) (b := jx) (by omega) (by omega)).mpr z))
    refine lv_aload_n hx hb dX8_firstWithout_14 rfl (lv_at hl 0 rfl) ?_
    refine lv_aload_n hx hb dX8_firstWithout_15 rfl (lv_at hl 0 rfl) ?_
    refine va_get (D := G.1) (ci := 10) (v := .ref (b 17)) (C := RX8) (T := TX8) (N := 27) hx hb hts iX8_firstWithout_X8 hown hK hP 0 rfl rfl 17 (by decide) (hts _ fX8_firstWithout_2) (fun _ h9 => h9) rfl dX8_firstWithout_16 ?_
    refine lv_iload_n hx hb dX8_firstWithout_19 rfl (lv_at hl 2 rfl) ?_
    refine aldI hx hb hK hP 13 (k := jx) rfl (rfl) (by omega) (by decide) dX8_firstWithout_20 ?_
    refine stI (y := (mLL n pa ki gd le mo mf op fa fb sm ld lm).getD jx 0) (hgu jx hj) ?_
    refine lv_iload_n hx hb dX8_firstWithout_21 rfl (lv_at hl 1 rfl) ?_
    refine cpV (ci := 10) (T0 := TX8) (N := 27) (As := [.int ((mLL n pa ki gd le mo mf op fa fb sm ld lm).getD jx 0), .int wo]) (rest := []) ⟨hx, hb, hml, hown, hts⟩ (c_X8_keepsChoices l G b th n mf cc true ((mLL n pa ki gd le mo mf op fa fb sm ld lm).length) fc so la lq wq ch ((mLL n pa ki gd le mo mf op fa fb sm ld lm).getD jx 0) wo (hc)) (cwV 2 hts gX8_firstWithout_X8_keepsChoices rfl rfl rfl ⟨rfl, hd_X8_keepsChoices⟩ ⟨Nat.le_of_ble_eq_true rfl, Nat.le_of_ble_eq_true rfl⟩) hKK hP [0, 12] rfl rfl rfl rfl hl.1 rfl (Nat.le_of_ble_eq_true rfl) dX8_firstWithout_22 ⟨Nat.zero_le _, Nat.zero_le _⟩ ?_
    refine lv_if_eq (tgt := 35) hx hb dX8_firstWithout_25 (by decide) (fun c_25 => ?_) (fun c_25 => ?_)
    · skip
      refine lv_iinc (v := nI (jx + 1)) (lv' := [(2, .int (nI (jx + 1))), (0, .ref (b 0)), (1, .int wo)]) hx hb dX8_firstWithout_35 hl (k := 2) rfl (nI_1 jx) (by decide) rfl (fun ls hl => ?_)
      refine lv_goto (tgt := 6) hx hb dX8_firstWithout_38 (by decide) ?_
      exact ih_6 (jx + 1) (⟨hj, by rw [hI.2]; exact fnd_f hj (bI_0.mp c_25)⟩) (by show (mLL n pa ki gd le mo mf op fa fb sm ld lm).length - (jx + 1) < (mLL n pa ki gd le mo mf op fa fb sm ld lm).length - jx; omega) ls (lv_sub hl [1, 2, 0] rfl)
    · skip
      refine lv_aload_n hx hb dX8_firstWithout_28 rfl (lv_at hl 0 rfl) ?_
      refine va_get (D := G.1) (ci := 10) (v := .ref (b 17)) (C := RX8) (T := TX8) (N := 27) hx hb hts iX8_firstWithout_X8 hown hK hP 0 rfl rfl 17 (by decide) (hts _ fX8_firstWithout_2) (fun _ h9 => h9) rfl dX8_firstWithout_29 ?_
      refine lv_iload_n hx hb dX8_firstWithout_32 rfl (lv_at hl 2 rfl) ?_
      refine aldI hx hb hK hP 13 (k := jx) rfl (rfl) (by omega) (by decide) dX8_firstWithout_33 ?_
      refine stI (y := (mLL n pa ki gd le mo mf op fa fb sm ld lm).getD jx 0) (hgu jx hj) ?_
      exact greti hx hb hr hlocks rfl hAe hS (gu) (by rw [hI.2, fnd_t hj (bI_n0 c_25)]) (hgu) (hP) dX8_firstWithout_34
