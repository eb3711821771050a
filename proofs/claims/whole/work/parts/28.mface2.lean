theorem iX8_choose_X8 : ∀ w ∈ u_ws RX8 TX8 27, w ∈ wsX8_choose := by decide +kernel
theorem fX8_choose_1 : Cond.fieldLink RX8 59 "FeatureSolveModel" "thrown" "I" ∈ wsX8_choose := by decide +kernel
theorem hd_X8_choiceOf : yX8_choiceOf.cls ≠ "java/lang/invoke/MethodHandle" ∧ yX8_choiceOf.cls ≠ "java/lang/invoke/VarHandle" ∧ (parseMethodDescriptor yX8_choiceOf.desc).map (fun d => d.parameters.length) = some 1 := by decide +kernel
theorem fX8_choose_2 : Cond.fieldLink RX8 44 "FeatureSolveModel" "choices" "[I" ∈ wsX8_choose := by decide +kernel
theorem fX8_choose_3 : Cond.fieldLink RX8 84 "FeatureSolveModel" "choiceCount" "I" ∈ wsX8_choose := by decide +kernel
theorem hd_X8_forget : yX8_forget.cls ≠ "java/lang/invoke/MethodHandle" ∧ yX8_forget.cls ≠ "java/lang/invoke/VarHandle" ∧ (parseMethodDescriptor yX8_forget.desc).map (fun d => d.parameters.length) = some 1 := by decide +kernel
set_option maxHeartbeats 4000000 in
set_option maxRecDepth 100000 in
/-- choose -/
theorem c_X8_choose (l : Launch) (G : GG) (b : Nat → Nat) (th : Int32) (n mf : Nat) (L : List Int32) (kn : Bool) (sc fc : Nat) (so : Bool) (la lq : Int32) (wq : Nat) (q : Nat → Nat → Int32) (x : Int32) (on : Bool) (hn : n ≤ 14) (hc : L.length ≤ 14) (hr0 : rowIs (q 14) L) (hcap : ∀ f, chOf (q 14) f L.length < 0 → hasB (nI n) f = true → L.length < 14) : Met l yX8_choose wsX8_choose (rmK 2) (va_Pc [.ref (b 0), .int x, .int (bI on)] (PM G [(oX8 (b 0) th (b 1) (b 2) (b 3) (b 4) (b 5) (b 6) (nI n) (b 8) (b 9) (b 10) (nI mf) (b 12) (b 13) (b 14) (nI L.length) (bI kn) (b 17) (nI sc) (b 19) (nI fc) (b 21) (bI so) la lq (b 25) (nI wq)), (cI G (b 1) 15 (q 1)), (cI G (b 2) 15 (q 2)), (cZ G (b 3) 15 (q 3)), (cI G (b 4) 15 (q 4)), (cI G (b 5) 15 (q 5)), (cI G (b 6) 60 (q 6)), (cI G (b 8) 40 (q 8)), (cI G (b 9) 40 (q 9)), (cI G (b 10) 40 (q 10)), (cZ G (b 12) 4 (q 12)), (cI G (b 13) 4 (q 13)), (cI G (b 14) 14 (q 14)), (cI G (b 17) 16384 (q 17)), (cI G (b 19) 201 (q 19)), (cI G (b 21) 201 (q 21)), (cI G (b 25) 14 (q 25))])) (QG (S := Int32 × MS) G [(oX8 (b 0) th (b 1) (b 2) (b 3) (b 4) (b 5) (b 6) (nI n) (b 8) (b 9) (b 10) (nI mf) (b 12) (b 13) (b 14) (nI L.length) (bI kn) (b 17) (nI sc) (b 19) (nI fc) (b 21) (bI so) la lq (b 25) (nI wq)), (cI G (b 1) 15 (q 1)), (cI G (b 2) 15 (q 2)), (cZ G (b 3) 15 (q 3)), (cI G (b 4) 15 (q 4)), (cI G (b 5) 15 (q 5)), (cI G (b 6) 60 (q 6)), (cI G (b 8) 40 (q 8)), (cI G (b 9) 40 (q 9)), (cI G (b 10) 40 (q 10)), (cZ G (b 12) 4 (q 12)), (cI G (b 13) 4 (q 13)), (cI G (b 14) 14 (q 14)), (cI G (b 17) 16384 (q 17)), (cI G (b 19) 201 (q 19)), (cI G (b 21) 201 (q 21)), (cI G (b 25) 14 (q 25))] (fun u => mChoose n mf L kn sc fc so la lq wq q x on u) (fun u => some (.int u.1)) (fun u => mW G b u.2)) 0 0 (adr [(oX8 (b 0) th (b 1) (b 2) (b 3) (b 4) (b 5) (b 6) (nI n) (b 8) (b 9) (b 10) (nI mf) (b 12) (b 13) (b 14) (nI L.length) (bI kn) (b 17) (nI sc) (b 19) (nI fc) (b 21) (bI so) la lq (b 25) (nI wq)), (cI G (b 1) 15 (q 1)), (cI G (b 2) 15 (q 2)), (cZ G (b 3) 15 (q 3)), (cI G (b 4) 15 (q 4)), (cI G (b 5) 15 (q 5)), (cI G (b 6) 60 (q 6)), (cI G (b 8) 40 (q 8)), (cI G (b 9) 40 (q 9)), (cI G (b 10) 40 (q 10)), (cZ G (b 12) 4 (q 12)), (cI G (b 13) 4 (q 13)), (cI G (b 14) 14 (q 14)), (cI G (b 17) 16384 (q 17)), (cI G (b 19) 201 (q 19)), (cI G (b 21) 201 (q 21)), (cI G (b 25) 14 (q 25))]) := by
  refine Met.ofW (cc := cX8_choose) (maxL := 5) (ret := (some .int)) (by decide) rfl ?_
  intro p e s m args below meth c s₁ B hml hv
  obtain ⟨rfl, hP, hD0, hKK⟩ := hv
  have hx := B.exec
  have hb := B.bytes
  have hr := B.returns
  have hts := atoms_spec (ws := wsX8_choose) B.pre
  have hown : s.vm.findClass RX8 = some m.cls := findClass_of_methodNamed B.named
  have hlocks := B.notSynchronized
  have hK := hKK.1
  generalize hAe : adr [(oX8 (b 0) th (b 1) (b 2) (b 3) (b 4) (b 5) (b 6) (nI n) (b 8) (b 9) (b 10) (nI mf) (b 12) (b 13) (b 14) (nI L.length) (bI kn) (b 17) (nI sc) (b 19) (nI fc) (b 21) (bI so) la lq (b 25) (nI wq)), (cI G (b 1) 15 (q 1)), (cI G (b 2) 15 (q 2)), (cZ G (b 3) 15 (q 3)), (cI G (b 4) 15 (q 4)), (cI G (b 5) 15 (q 5)), (cI G (b 6) 60 (q 6)), (cI G (b 8) 40 (q 8)), (cI G (b 9) 40 (q 9)), (cI G (b 10) 40 (q 10)), (cZ G (b 12) 4 (q 12)), (cI G (b 13) 4 (q 13)), (cI G (b 14) 14 (q 14)), (cI G (b 17) 16384 (q 17)), (cI G (b 19) 201 (q 19)), (cI G (b 21) 201 (q 21)), (cI G (b 25) 14 (q 25))] = A
  have hD : va_D A [(oX8 (b 0) th (b 1) (b 2) (b 3) (b 4) (b 5) (b 6) (nI n) (b 8) (b 9) (b 10) (nI mf) (b 12) (b 13) (b 14) (nI L.length) (bI kn) (b 17) (nI sc) (b 19) (nI fc) (b 21) (bI so) la lq (b 25) (nI wq)), (cI G (b 1) 15 (q 1)), (cI G (b 2) 15 (q 2)), (cZ G (b 3) 15 (q 3)), (cI G (b 4) 15 (q 4)), (cI G (b 5) 15 (q 5)), (cI G (b 6) 60 (q 6)), (cI G (b 8) 40 (q 8)), (cI G (b 9) 40 (q 9)), (cI G (b 10) 40 (q 10)), (cZ G (b 12) 4 (q 12)), (cI G (b 13) 4 (q 13)), (cI G (b 14) 14 (q 14)), (cI G (b 17) 16384 (q 17)), (cI G (b 19) 201 (q 19)), (cI G (b 21) 201 (q 21)), (cI G (b 25) 14 (q 25))] := by rw [← hAe]; exact hD0.own
  have hS : va_S A s.heap s.heap [] := va_S.rf
  have hP : va_P G.1 vwCl [(oX8 (b 0) th (b 1) (b 2) (b 3) (b 4) (b 5) (b 6) (nI n) (b 8) (b 9) (b 10) (nI mf) (b 12) (b 13) (b 14) (nI L.length) (bI kn) (b 17) (nI sc) (b 19) (nI fc) (b 21) (bI so) la lq (b 25) (nI wq)), (cI G (b 1) 15 (q 1)), (cI G (b 2) 15 (q 2)), (cZ G (b 3) 15 (q 3)), (cI G (b 4) 15 (q 4)), (cI G (b 5) 15 (q 5)), (cI G (b 6) 60 (q 6)), (cI G (b 8) 40 (q 8)), (cI G (b 9) 40 (q 9)), (cI G (b 10) 40 (q 10)), (cZ G (b 12) 4 (q 12)), (cI G (b 13) 4 (q 13)), (cI G (b 14) 14 (q 14)), (cI G (b 17) 16384 (q 17)), (cI G (b 19) 201 (q 19)), (cI G (b 21) 201 (q 21)), (cI G (b 25) 14 (q 25))] s.heap := hP
  have hl := lv_entry ([.ref (b 0), .int x, .int (bI on)]) (n := 5) (Nat.le_of_ble_eq_true rfl)
  rw [lg_entry_eq]
  generalize (lg_sl ([.ref (b 0), .int x, .int (bI on)]) ++ List.replicate (5 - (lg_sl ([.ref (b 0), .int x, .int (bI on)])).length) Slot.unset).toArray = ls at hl ⊢
  have hl : lv_has ls 5 [(0, .ref (b 0)), (1, .int x), (2, .int (bI on))] := hl
  refine lv_aload_n hx hb dX8_choose_0 rfl (lv_at hl 0 rfl) ?_
  refine lv_iconst (v := 0) hx hb dX8_choose_1 (by decide) ?_
  refine va_put (D := G.1) (ci := 10) (v := .int 0) (ty := .int) (C := RX8) (T := TX8) (N := 27) hx hb hts iX8_choose_X8 tyX8 tyX8_ok nmX8 hown hK hP hD hS 0 rfl rfl 0 (by decide) (hts _ fX8_choose_1) (fun _ h9 => h9) rfl (by decide +kernel) rfl rfl (Nat.le_of_ble_eq_true rfl) dX8_choose_2 (fun H locs hP hD hS => ?_)
  have hPD : PD G A [(oX8 (b 0) 0 (b 1) (b 2) (b 3) (b 4) (b 5) (b 6) (nI n) (b 8) (b 9) (b 10) (nI mf) (b 12) (b 13) (b 14) (nI L.length) (bI kn) (b 17) (nI sc) (b 19) (nI fc) (b 21) (bI so) la lq (b 25) (nI wq)), (cI G (b 1) 15 (q 1)), (cI G (b 2) 15 (q 2)), (cZ G (b 3) 15 (q 3)), (cI G (b 4) 15 (q 4)), (cI G (b 5) 15 (q 5)), (cI G (b 6) 60 (q 6)), (cI G (b 8) 40 (q 8)), (cI G (b 9) 40 (q 9)), (cI G (b 10) 40 (q 10)), (cZ G (b 12) 4 (q 12)), (cI G (b 13) 4 (q 13)), (cI G (b 14) 14 (q 14)), (cI G (b 17) 16384 (q 17)), (cI G (b 19) 201 (q 19)), (cI G (b 21) 201 (q 21)), (cI G (b 25) 14 (q 25))] H := ⟨hP, hD⟩
  have hP := hPD.1
  have hD := hPD.2
  clear hPD
  refine lv_aload_n hx hb dX8_choose_5 rfl (lv_at hl 0 rfl) ?_
  refine lv_iload_n hx hb dX8_choose_6 rfl (lv_at hl 1 rfl) ?_
  refine cpV (ci := 10) (T0 := TX8) (N := 27) (As := [.int x]) (rest := []) ⟨hx, hb, hml, hown, hts⟩ (c_X8_isLiteral l G b 0 n mf L.length kn sc fc so la lq wq  x ) (cwV 1 hts gX8_choose_X8_isLiteral rfl rfl rfl ⟨rfl, hd_X8_isLiteral⟩ ⟨Nat.le_of_ble_eq_true rfl, Nat.le_of_ble_eq_true rfl⟩) hKK hP [0] rfl rfl rfl rfl hl.1 rfl (Nat.le_of_ble_eq_true rfl) dX8_choose_7 ⟨Nat.zero_le _, Nat.zero_le _⟩ ?_
  refine lv_if_ne (tgt := 15) hx hb dX8_choose_10 (by decide) (fun c_10 => ?_) (fun c_10 => ?_)
  · skip
    refine lv_iload_n hx hb dX8_choose_15 rfl (lv_at hl 1 rfl) ?_
    refine lv_if_ge (tgt := 24) hx hb dX8_choose_16 (by decide) (fun c_16 => ?_) (fun c_16 => ?_)
    · skip
      have hx1 := lit_pos (bI_n0 c_10) c_16
      refine lv_iload_n hx hb dX8_choose_24 rfl (lv_at hl 1 rfl) ?_
      refine lv_istore_n (lv' := [(3, .int x), (0, .ref (b 0)), (1, .int x), (2, .int (bI on))]) hx hb dX8_choose_25 rfl hl (by decide) rfl (fun ls hl => ?_)
      refine lv_aload_n hx hb dX8_choose_26 rfl (lv_at hl 1 rfl) ?_
      refine lv_iload_n hx hb dX8_choose_27 rfl (lv_at hl 0 rfl) ?_
      refine cpV (ci := 10) (T0 := TX8) (N := 27) (As := [.int x]) (rest := []) ⟨hx, hb, hml, hown, hts⟩ (c_X8_choiceOf l G b 0 n mf L.length kn sc fc so la lq wq (q 14) x (hc)) (cwV 1 hts gX8_choose_X8_choiceOf rfl rfl rfl ⟨rfl, hd_X8_choiceOf⟩ ⟨Nat.le_of_ble_eq_true rfl, Nat.le_of_ble_eq_true rfl⟩) hKK hP [0, 12] rfl rfl rfl rfl hl.1 rfl (Nat.le_of_ble_eq_true rfl) dX8_choose_28 ⟨Nat.zero_le _, Nat.zero_le _⟩ ?_
      refine lv_istore (lv' := [(4, .int (chOf (q 14) x L.length)), (3, .int x), (0, .ref (b 0)), (1, .int x), (2, .int (bI on))]) hx hb dX8_choose_31 hl (by decide) rfl (fun ls hl => ?_)
      refine lv_iload hx hb dX8_choose_33 (lv_at hl 0 rfl) ?_
      refine lv_if_lt (tgt := 44) hx hb dX8_choose_35 (by decide) (fun c_35 => ?_) (fun c_35 => ?_)
      · skip
        have hcl : chL L (q 14) x = L := chL_t c_35
        have hnew : chNew L (q 14) x on = chL L (q 14) x ++ [if on then x else -x] := if_pos c_16
        have hcap1 : L.length < 14 := hcap _ c_35 hx1
        refine lv_iload_n hx hb dX8_choose_44 rfl (lv_at hl 3 rfl) ?_
        refine lv_if_le (tgt := 77) hx hb dX8_choose_45 (by decide) (fun c_45 => ?_) (fun c_45 => ?_)
        · exact absurd (Int32.le_trans (hasB_iff.mp hx1).1 c_45) (by decide)
        · skip
          refine lv_aload_n hx hb dX8_choose_48 rfl (lv_at hl 2 rfl) ?_
          refine va_get (D := G.1) (ci := 10) (v := .ref (b 14)) (C := RX8) (T := TX8) (N := 27) hx hb hts iX8_choose_X8 hown hK hP 0 rfl rfl 14 (by decide) (hts _ fX8_choose_2) (fun _ h9 => h9) rfl dX8_choose_49 ?_
          refine lv_aload_n hx hb dX8_choose_52 rfl (lv_at hl 2 rfl) ?_
          refine va_get (D := G.1) (ci := 10) (v := .int (nI L.length)) (C := RX8) (T := TX8) (N := 27) hx hb hts iX8_choose_X8 hown hK hP 0 rfl rfl 15 (by decide) (hts _ fX8_choose_3) (fun _ h9 => h9) rfl dX8_choose_53 ?_
          refine lv_iload_n hx hb dX8_choose_56 rfl (lv_at hl 4 rfl) ?_
          refine lv_if_eq (tgt := 64) hx hb dX8_choose_57 (by decide) (fun c_57 => ?_) (fun c_57 => ?_)
          · skip
            refine lv_iload_n hx hb dX8_choose_64 rfl (lv_at hl 1 rfl) ?_
            refine lv_ineg hx hb dX8_choose_65 ?_
            refine stI (y := if on then x else -x) (by rw [bI_0.mp c_57]; rfl) ?_
            refine astI hx hb hK hP hD hS 12 (k := L.length) rfl (rfl) (by omega) (by decide) dX8_choose_66 (fun H locs hP hD hS => ?_)
            have hPD : PD G A [(oX8 (b 0) 0 (b 1) (b 2) (b 3) (b 4) (b 5) (b 6) (nI n) (b 8) (b 9) (b 10) (nI mf) (b 12) (b 13) (b 14) (nI L.length) (bI kn) (b 17) (nI sc) (b 19) (nI fc) (b 21) (bI so) la lq (b 25) (nI wq)), (cI G (b 1) 15 (q 1)), (cI G (b 2) 15 (q 2)), (cZ G (b 3) 15 (q 3)), (cI G (b 4) 15 (q 4)), (cI G (b 5) 15 (q 5)), (cI G (b 6) 60 (q 6)), (cI G (b 8) 40 (q 8)), (cI G (b 9) 40 (q 9)), (cI G (b 10) 40 (q 10)), (cZ G (b 12) 4 (q 12)), (cI G (b 13) 4 (q 13)), (cI G (b 14) 14 (upd (q 14) L.length (if on then x else -x))), (cI G (b 17) 16384 (q 17)), (cI G (b 19) 201 (q 19)), (cI G (b 21) 201 (q 21)), (cI G (b 25) 14 (q 25))] H := ⟨hP, hD⟩
            have hP := hPD.1
            have hD := hPD.2
            clear hPD
            refine lv_aload_n hx hb dX8_choose_67 rfl (lv_at hl 2 rfl) ?_
            refine lv_dup hx hb dX8_choose_68 rfl ?_
            refine va_get (D := G.1) (ci := 10) (v := .int (nI L.length)) (C := RX8) (T := TX8) (N := 27) hx hb hts iX8_choose_X8 hown hK hP 0 rfl rfl 15 (by decide) (hts _ fX8_choose_3) (fun _ h9 => h9) rfl dX8_choose_69 ?_
            refine lv_iconst (v := 1) hx hb dX8_choose_72 (by decide) ?_
            refine lv_iadd hx hb dX8_choose_73 ?_
            refine stI (y := nI (chNew L (q 14) x on).length) (by rw [hnew, hcl, List.length_append, nI_1]; rfl) ?_
            refine va_put (D := G.1) (ci := 10) (v := .int (nI (chNew L (q 14) x on).length)) (ty := .int) (C := RX8) (T := TX8) (N := 27) hx hb hts iX8_choose_X8 tyX8 tyX8_ok nmX8 hown hK hP hD hS 0 rfl rfl 15 (by decide) (hts _ fX8_choose_3) (fun _ h9 => h9) rfl (by decide +kernel) rfl rfl (Nat.le_of_ble_eq_true rfl) dX8_choose_74 (fun H locs hP hD hS => ?_)
            have hPD : PD G A [(oX8 (b 0) 0 (b 1) (b 2) (b 3) (b 4) (b 5) (b 6) (nI n) (b 8) (b 9) (b 10) (nI mf) (b 12) (b 13) (b 14) (nI (chNew L (q 14) x on).length) (bI kn) (b 17) (nI sc) (b 19) (nI fc) (b 21) (bI so) la lq (b 25) (nI wq)), (cI G (b 1) 15 (q 1)), (cI G (b 2) 15 (q 2)), (cZ G (b 3) 15 (q 3)), (cI G (b 4) 15 (q 4)), (cI G (b 5) 15 (q 5)), (cI G (b 6) 60 (q 6)), (cI G (b 8) 40 (q 8)), (cI G (b 9) 40 (q 9)), (cI G (b 10) 40 (q 10)), (cZ G (b 12) 4 (q 12)), (cI G (b 13) 4 (q 13)), (cI G (b 14) 14 (upd (q 14) L.length (if on then x else -x))), (cI G (b 17) 16384 (q 17)), (cI G (b 19) 201 (q 19)), (cI G (b 21) 201 (q 21)), (cI G (b 25) 14 (q 25))] H := ⟨hP, hD⟩
            have hP := hPD.1
            have hD := hPD.2
            clear hPD
            refine lv_aload_n hx hb dX8_choose_77 rfl (lv_at hl 2 rfl) ?_
            refine va_get (D := G.1) (ci := 10) (v := .int (nI (chNew L (q 14) x on).length)) (C := RX8) (T := TX8) (N := 27) hx hb hts iX8_choose_X8 hown hK hP 0 rfl rfl 15 (by decide) (hts _ fX8_choose_3) (fun _ h9 => h9) rfl dX8_choose_78 ?_
            exact greti hx hb hr hlocks rfl hAe hS (⟨nI (chNew L (q 14) x on).length, (0, n, mf, (chNew L (q 14) x on).length, kn, sc, fc, so, la, lq, wq, upR q 14 (upd (q 14) L.length (if on then x else -x)))⟩) (rfl) (by unfold mChoose; rw [if_pos (bI_n0 c_10)]; exact ⟨upd (q 14) L.length (if on then x else -x), by rw [hnew, hcl]; exact rowIs_app hr0, rfl⟩) (hP) dX8_choose_81
          · skip
            refine lv_iload_n hx hb dX8_choose_60 rfl (lv_at hl 1 rfl) ?_
            refine lv_goto (tgt := 66) hx hb dX8_choose_61 (by decide) ?_
            refine stI (y := if on then x else -x) (by rw [bI_n0 c_57]; rfl) ?_
            refine astI hx hb hK hP hD hS 12 (k := L.length) rfl (rfl) (by omega) (by decide) dX8_choose_66 (fun H locs hP hD hS => ?_)
            have hPD : PD G A [(oX8 (b 0) 0 (b 1) (b 2) (b 3) (b 4) (b 5) (b 6) (nI n) (b 8) (b 9) (b 10) (nI mf) (b 12) (b 13) (b 14) (nI L.length) (bI kn) (b 17) (nI sc) (b 19) (nI fc) (b 21) (bI so) la lq (b 25) (nI wq)), (cI G (b 1) 15 (q 1)), (cI G (b 2) 15 (q 2)), (cZ G (b 3) 15 (q 3)), (cI G (b 4) 15 (q 4)), (cI G (b 5) 15 (q 5)), (cI G (b 6) 60 (q 6)), (cI G (b 8) 40 (q 8)), (cI G (b 9) 40 (q 9)), (cI G (b 10) 40 (q 10)), (cZ G (b 12) 4 (q 12)), (cI G (b 13) 4 (q 13)), (cI G (b 14) 14 (upd (q 14) L.length (if on then x else -x))), (cI G (b 17) 16384 (q 17)), (cI G (b 19) 201 (q 19)), (cI G (b 21) 201 (q 21)), (cI G (b 25) 14 (q 25))] H := ⟨hP, hD⟩
            have hP := hPD.1
            have hD := hPD.2
            clear hPD
            refine lv_aload_n hx hb dX8_choose_67 rfl (lv_at hl 2 rfl) ?_
            refine lv_dup hx hb dX8_choose_68 rfl ?_
            refine va_get (D := G.1) (ci := 10) (v := .int (nI L.length)) (C := RX8) (T := TX8) (N := 27) hx hb hts iX8_choose_X8 hown hK hP 0 rfl rfl 15 (by decide) (hts _ fX8_choose_3) (fun _ h9 => h9) rfl dX8_choose_69 ?_
            refine lv_iconst (v := 1) hx hb dX8_choose_72 (by decide) ?_
            refine lv_iadd hx hb dX8_choose_73 ?_
            refine stI (y := nI (chNew L (q 14) x on).length) (by rw [hnew, hcl, List.length_append, nI_1]; rfl) ?_
            refine va_put (D := G.1) (ci := 10) (v := .int (nI (chNew L (q 14) x on).length)) (ty := .int) (C := RX8) (T := TX8) (N := 27) hx hb hts iX8_choose_X8 tyX8 tyX8_ok nmX8 hown hK hP hD hS 0 rfl rfl 15 (by decide) (hts _ fX8_choose_3) (fun _ h9 => h9) rfl (by decide +kernel) rfl rfl (Nat.le_of_ble_eq_true rfl) dX8_choose_74 (fun H locs hP hD hS => ?_)
            have hPD : PD G A [(oX8 (b 0) 0 (b 1) (b 2) (b 3) (b 4) (b 5) (b 6) (nI n) (b 8) (b 9) (b 10) (nI mf) (b 12) (b 13) (b 14) (nI (chNew L (q 14) x on).length) (bI kn) (b 17) (nI sc) (b 19) (nI fc) (b 21) (bI so) la lq (b 25) (nI wq)), (cI G (b 1) 15 (q 1)), (cI G (b 2) 15 (q 2)), (cZ G (b 3) 15 (q 3)), (cI G (b 4) 15 (q 4)), (cI G (b 5) 15 (q 5)), (cI G (b 6) 60 (q 6)), (cI G (b 8) 40 (q 8)), (cI G (b 9) 40 (q 9)), (cI G (b 10) 40 (q 10)), (cZ G (b 12) 4 (q 12)), (cI G (b 13) 4 (q 13)), (cI G (b 14) 14 (upd (q 14) L.length (if on then x else -x))), (cI G (b 17) 16384 (q 17)), (cI G (b 19) 201 (q 19)), (cI G (b 21) 201 (q 21)), (cI G (b 25) 14 (q 25))] H := ⟨hP, hD⟩
            have hP := hPD.1
            have hD := hPD.2
            clear hPD
            refine lv_aload_n hx hb dX8_choose_77 rfl (lv_at hl 2 rfl) ?_
            refine va_get (D := G.1) (ci := 10) (v := .int (nI (chNew L (q 14) x on).length)) (C := RX8) (T := TX8) (N := 27) hx hb hts iX8_choose_X8 hown hK hP 0 rfl rfl 15 (by decide) (hts _ fX8_choose_3) (fun _ h9 => h9) rfl dX8_choose_78 ?_
            exact greti hx hb hr hlocks rfl hAe hS (⟨nI (chNew L (q 14) x on).length, (0, n, mf, (chNew L (q 14) x on).length, kn, sc, fc, so, la, lq, wq, upR q 14 (upd (q 14) L.length (if on then x else -x)))⟩) (rfl) (by unfold mChoose; rw [if_pos (bI_n0 c_10)]; exact ⟨upd (q 14) L.length (if on then x else -x), by rw [hnew, hcl]; exact rowIs_app hr0, rfl⟩) (hP) dX8_choose_81
      · skip
        have hcn := chOf_nat (ch := q 14) (f := x) (c := L.length) (by omega) c_35
        have hcl : chL L (q 14) x = L.eraseIdx (chOf (q 14) x L.length).toNatClampNeg := chL_f c_35
        have hnew : chNew L (q 14) x on = chL L (q 14) x ++ [if on then x else -x] := if_pos c_16
        have hel := erase_len hcn.2
        refine lv_aload_n hx hb dX8_choose_38 rfl (lv_at hl 2 rfl) ?_
        refine lv_iload hx hb dX8_choose_39 (lv_at hl 0 rfl) ?_
        refine stI (y := nI (chOf (q 14) x L.length).toNatClampNeg) (hcn.1) ?_
        refine cnV (nw := 17) (ci := 10) (T0 := TX8) (N := 27) (As := [.int (nI (chOf (q 14) x L.length).toNatClampNeg)]) (rest := []) ⟨hx, hb, hml, hown, hts⟩ (c_X8_forget l G b 0 n mf L.length kn sc fc so la lq wq (q 14) L (((chOf (q 14) x L.length).toNatClampNeg)) hr0 rfl hc (hcn.2)) (cwV 1 hts gX8_choose_X8_forget rfl rfl rfl ⟨rfl, hd_X8_forget⟩ ⟨Nat.le_of_ble_eq_true rfl, Nat.le_of_ble_eq_true rfl⟩) hKK hP hD hS [0, 12] [1, 2, 3, 4, 5, 6, 7, 8, 9, 10, 11, 13, 14, 15, 16] (fun gw => [(oX8 (b 0) 0 (b 1) (b 2) (b 3) (b 4) (b 5) (b 6) (nI n) (b 8) (b 9) (b 10) (nI mf) (b 12) (b 13) (b 14) (nI (L.length - 1)) (bI kn) (b 17) (nI sc) (b 19) (nI fc) (b 21) (bI so) la lq (b 25) (nI wq)), (cI G (b 1) 15 (q 1)), (cI G (b 2) 15 (q 2)), (cZ G (b 3) 15 (q 3)), (cI G (b 4) 15 (q 4)), (cI G (b 5) 15 (q 5)), (cI G (b 6) 60 (q 6)), (cI G (b 8) 40 (q 8)), (cI G (b 9) 40 (q 9)), (cI G (b 10) 40 (q 10)), (cZ G (b 12) 4 (q 12)), (cI G (b 13) 4 (q 13)), (cI G (b 14) 14 gw), (cI G (b 17) 16384 (q 17)), (cI G (b 19) 201 (q 19)), (cI G (b 21) 201 (q 21)), (cI G (b 25) 14 (q 25))]) [some (cI G (b 1) 15 (q 1)), some (cI G (b 2) 15 (q 2)), some (cZ G (b 3) 15 (q 3)), some (cI G (b 4) 15 (q 4)), some (cI G (b 5) 15 (q 5)), some (cI G (b 6) 60 (q 6)), some (cI G (b 8) 40 (q 8)), some (cI G (b 9) 40 (q 9)), some (cI G (b 10) 40 (q 10)), some (cZ G (b 12) 4 (q 12)), some (cI G (b 13) 4 (q 13)), some (cI G (b 17) 16384 (q 17)), some (cI G (b 19) 201 (q 19)), some (cI G (b 21) 201 (q 21)), some (cI G (b 25) 14 (q 25))] [b 0, b 1, b 2, b 3, b 4, b 5, b 6, b 8, b 9, b 10, b 12, b 13, b 14, b 17, b 19, b 21, b 25] rfl (by decide) (by decide) rfl rfl rfl hl.1 rfl (Nat.le_of_ble_eq_true rfl) dX8_choose_41 ⟨Nat.zero_le _, Nat.zero_le _⟩ (fun _ => rfl) (fun _ => rfl) rfl (fun _ => rfl) rfl (fun _ => rfl) (fun gw H locs hgw hP hD hS => ?_)
        refine lv_iload_n hx hb dX8_choose_44 rfl (lv_at hl 3 rfl) ?_
        refine lv_if_le (tgt := 77) hx hb dX8_choose_45 (by decide) (fun c_45 => ?_) (fun c_45 => ?_)
        · exact absurd (Int32.le_trans (hasB_iff.mp hx1).1 c_45) (by decide)
        · skip
          refine lv_aload_n hx hb dX8_choose_48 rfl (lv_at hl 2 rfl) ?_
          refine va_get (D := G.1) (ci := 10) (v := .ref (b 14)) (C := RX8) (T := TX8) (N := 27) hx hb hts iX8_choose_X8 hown hK hP 0 rfl rfl 14 (by decide) (hts _ fX8_choose_2) (fun _ h9 => h9) rfl dX8_choose_49 ?_
          refine lv_aload_n hx hb dX8_choose_52 rfl (lv_at hl 2 rfl) ?_
          refine va_get (D := G.1) (ci := 10) (v := .int (nI (L.length - 1))) (C := RX8) (T := TX8) (N := 27) hx hb hts iX8_choose_X8 hown hK hP 0 rfl rfl 15 (by decide) (hts _ fX8_choose_3) (fun _ h9 => h9) rfl dX8_choose_53 ?_
          refine lv_iload_n hx hb dX8_choose_56 rfl (lv_at hl 4 rfl) ?_
          refine lv_if_eq (tgt := 64) hx hb dX8_choose_57 (by decide) (fun c_57 => ?_) (fun c_57 => ?_)
          · skip
            refine lv_iload_n hx hb dX8_choose_64 rfl (lv_at hl 1 rfl) ?_
            refine lv_ineg hx hb dX8_choose_65 ?_
            refine stI (y := if on then x else -x) (by rw [bI_0.mp c_57]; rfl) ?_
            refine astI hx hb hK hP hD hS 12 (k := (L.length - 1)) rfl (rfl) (by omega) (by decide) dX8_choose_66 (fun H locs hP hD hS => ?_)
            have hPD : PD G A [(oX8 (b 0) 0 (b 1) (b 2) (b 3) (b 4) (b 5) (b 6) (nI n) (b 8) (b 9) (b 10) (nI mf) (b 12) (b 13) (b 14) (nI (L.length - 1)) (bI kn) (b 17) (nI sc) (b 19) (nI fc) (b 21) (bI so) la lq (b 25) (nI wq)), (cI G (b 1) 15 (q 1)), (cI G (b 2) 15 (q 2)), (cZ G (b 3) 15 (q 3)), (cI G (b 4) 15 (q 4)), (cI G (b 5) 15 (q 5)), (cI G (b 6) 60 (q 6)), (cI G (b 8) 40 (q 8)), (cI G (b 9) 40 (q 9)), (cI G (b 10) 40 (q 10)), (cZ G (b 12) 4 (q 12)), (cI G (b 13) 4 (q 13)), (cI G (b 14) 14 (upd gw (L.length - 1) (if on then x else -x))), (cI G (b 17) 16384 (q 17)), (cI G (b 19) 201 (q 19)), (cI G (b 21) 201 (q 21)), (cI G (b 25) 14 (q 25))] H := ⟨hP, hD⟩
            have hP := hPD.1
            have hD := hPD.2
            clear hPD
            refine lv_aload_n hx hb dX8_choose_67 rfl (lv_at hl 2 rfl) ?_
            refine lv_dup hx hb dX8_choose_68 rfl ?_
            refine va_get (D := G.1) (ci := 10) (v := .int (nI (L.length - 1))) (C := RX8) (T := TX8) (N := 27) hx hb hts iX8_choose_X8 hown hK hP 0 rfl rfl 15 (by decide) (hts _ fX8_choose_3) (fun _ h9 => h9) rfl dX8_choose_69 ?_
            refine lv_iconst (v := 1) hx hb dX8_choose_72 (by decide) ?_
            refine lv_iadd hx hb dX8_choose_73 ?_
            refine stI (y := nI (chNew L (q 14) x on).length) (by rw [hnew, hcl, List.length_append, hel, nI_1]; rfl) ?_
            refine va_put (D := G.1) (ci := 10) (v := .int (nI (chNew L (q 14) x on).length)) (ty := .int) (C := RX8) (T := TX8) (N := 27) hx hb hts iX8_choose_X8 tyX8 tyX8_ok nmX8 hown hK hP hD hS 0 rfl rfl 15 (by decide) (hts _ fX8_choose_3) (fun _ h9 => h9) rfl (by decide +kernel) rfl rfl (Nat.le_of_ble_eq_true rfl) dX8_choose_74 (fun H locs hP hD hS => ?_)
            have hPD : PD G A [(oX8 (b 0) 0 (b 1) (b 2) (b 3) (b 4) (b 5) (b 6) (nI n) (b 8) (b 9) (b 10) (nI mf) (b 12) (b 13) (b 14) (nI (chNew L (q 14) x on).length) (bI kn) (b 17) (nI sc) (b 19) (nI fc) (b 21) (bI so) la lq (b 25) (nI wq)), (cI G (b 1) 15 (q 1)), (cI G (b 2) 15 (q 2)), (cZ G (b 3) 15 (q 3)), (cI G (b 4) 15 (q 4)), (cI G (b 5) 15 (q 5)), (cI G (b 6) 60 (q 6)), (cI G (b 8) 40 (q 8)), (cI G (b 9) 40 (q 9)), (cI G (b 10) 40 (q 10)), (cZ G (b 12) 4 (q 12)), (cI G (b 13) 4 (q 13)), (cI G (b 14) 14 (upd gw (L.length - 1) (if on then x else -x))), (cI G (b 17) 16384 (q 17)), (cI G (b 19) 201 (q 19)), (cI G (b 21) 201 (q 21)), (cI G (b 25) 14 (q 25))] H := ⟨hP, hD⟩
            have hP := hPD.1
            have hD := hPD.2
            clear hPD
            refine lv_aload_n hx hb dX8_choose_77 rfl (lv_at hl 2 rfl) ?_
            refine va_get (D := G.1) (ci := 10) (v := .int (nI (chNew L (q 14) x on).length)) (C := RX8) (T := TX8) (N := 27) hx hb hts iX8_choose_X8 hown hK hP 0 rfl rfl 15 (by decide) (hts _ fX8_choose_3) (fun _ h9 => h9) rfl dX8_choose_78 ?_
            exact greti hx hb hr hlocks rfl hAe hS (⟨nI (chNew L (q 14) x on).length, (0, n, mf, (chNew L (q 14) x on).length, kn, sc, fc, so, la, lq, wq, upR q 14 (upd gw (L.length - 1) (if on then x else -x)))⟩) (rfl) (by unfold mChoose; rw [if_pos (bI_n0 c_10)]; exact ⟨upd gw (L.length - 1) (if on then x else -x), by rw [hnew, hcl, ← hel]; exact rowIs_app hgw, rfl⟩) (hP) dX8_choose_81
          · skip
            refine lv_iload_n hx hb dX8_choose_60 rfl (lv_at hl 1 rfl) ?_
            refine lv_goto (tgt := 66) hx hb dX8_choose_61 (by decide) ?_
            refine stI (y := if on then x else -x) (by rw [bI_n0 c_57]; rfl) ?_
            refine astI hx hb hK hP hD hS 12 (k := (L.length - 1)) rfl (rfl) (by omega) (by decide) dX8_choose_66 (fun H locs hP hD hS => ?_)
            have hPD : PD G A [(oX8 (b 0) 0 (b 1) (b 2) (b 3) (b 4) (b 5) (b 6) (nI n) (b 8) (b 9) (b 10) (nI mf) (b 12) (b 13) (b 14) (nI (L.length - 1)) (bI kn) (b 17) (nI sc) (b 19) (nI fc) (b 21) (bI so) la lq (b 25) (nI wq)), (cI G (b 1) 15 (q 1)), (cI G (b 2) 15 (q 2)), (cZ G (b 3) 15 (q 3)), (cI G (b 4) 15 (q 4)), (cI G (b 5) 15 (q 5)), (cI G (b 6) 60 (q 6)), (cI G (b 8) 40 (q 8)), (cI G (b 9) 40 (q 9)), (cI G (b 10) 40 (q 10)), (cZ G (b 12) 4 (q 12)), (cI G (b 13) 4 (q 13)), (cI G (b 14) 14 (upd gw (L.length - 1) (if on then x else -x))), (cI G (b 17) 16384 (q 17)), (cI G (b 19) 201 (q 19)), (cI G (b 21) 201 (q 21)), (cI G (b 25) 14 (q 25))] H := ⟨hP, hD⟩
            have hP := hPD.1
            have hD := hPD.2
            clear hPD
            refine lv_aload_n hx hb dX8_choose_67 rfl (lv_at hl 2 rfl) ?_
            refine lv_dup hx hb dX8_choose_68 rfl ?_
            refine va_get (D := G.1) (ci := 10) (v := .int (nI (L.length - 1))) (C := RX8) (T := TX8) (N := 27) hx hb hts iX8_choose_X8 hown hK hP 0 rfl rfl 15 (by decide) (hts _ fX8_choose_3) (fun _ h9 => h9) rfl dX8_choose_69 ?_
            refine lv_iconst (v := 1) hx hb dX8_choose_72 (by decide) ?_
            refine lv_iadd hx hb dX8_choose_73 ?_
            refine stI (y := nI (chNew L (q 14) x on).length) (by rw [hnew, hcl, List.length_append, hel, nI_1]; rfl) ?_
            refine va_put (D := G.1) (ci := 10) (v := .int (nI (chNew L (q 14) x on).length)) (ty := .int) (C := RX8) (T := TX8) (N := 27) hx hb hts iX8_choose_X8 tyX8 tyX8_ok nmX8 hown hK hP hD hS 0 rfl rfl 15 (by decide) (hts _ fX8_choose_3) (fun _ h9 => h9) rfl (by decide +kernel) rfl rfl (Nat.le_of_ble_eq_true rfl) dX8_choose_74 (fun H locs hP hD hS => ?_)
            have hPD : PD G A [(oX8 (b 0) 0 (b 1) (b 2) (b 3) (b 4) (b 5) (b 6) (nI n) (b 8) (b 9) (b 10) (nI mf) (b 12) (b 13) (b 14) (nI (chNew L (q 14) x on).length) (bI kn) (b 17) (nI sc) (b 19) (nI fc) (b 21) (bI so) la lq (b 25) (nI wq)), (cI G (b 1) 15 (q 1)), (cI G (b 2) 15 (q 2)), (cZ G (b 3) 15 (q 3)), (cI G (b 4) 15 (q 4)), (cI G (b 5) 15 (q 5)), (cI G (b 6) 60 (q 6)), (cI G (b 8) 40 (q 8)), (cI G (b 9) 40 (q 9)), (cI G (b 10) 40 (q 10)), (cZ G (b 12) 4 (q 12)), (cI G (b 13) 4 (q 13)), (cI G (b 14) 14 (upd gw (L.length - 1) (if on then x else -x))), (cI G (b 17) 16384 (q 17)), (cI G (b 19) 201 (q 19)), (cI G (b 21) 201 (q 21)), (cI G (b 25) 14 (q 25))] H := ⟨hP, hD⟩
            have hP := hPD.1
            have hD := hPD.2
            clear hPD
            refine lv_aload_n hx hb dX8_choose_77 rfl (lv_at hl 2 rfl) ?_
            refine va_get (D := G.1) (ci := 10) (v := .int (nI (chNew L (q 14) x on).length)) (C := RX8) (T := TX8) (N := 27) hx hb hts iX8_choose_X8 hown hK hP 0 rfl rfl 15 (by decide) (hts _ fX8_choose_3) (fun _ h9 => h9) rfl dX8_choose_78 ?_
            exact greti hx hb hr hlocks rfl hAe hS (⟨nI (chNew L (q 14) x on).length, (0, n, mf, (chNew L (q 14) x on).length, kn, sc, fc, so, la, lq, wq, upR q 14 (upd gw (L.length - 1) (if on then x else -x)))⟩) (rfl) (by unfold mChoose; rw [if_pos (bI_n0 c_10)]; exact ⟨upd gw (L.length - 1) (if on then x else -x), by rw [hnew, hcl, ← hel]; exact rowIs_app hgw, rfl⟩) (hP) dX8_choose_81
    · skip
      refine lv_iload_n hx hb dX8_choose_19 rfl (lv_at hl 1 rfl) ?_
      refine lv_ineg hx hb dX8_choose_20 ?_
      refine lv_goto (tgt := 25) hx hb dX8_choose_21 (by decide) ?_
      refine lv_istore_n (lv' := [(3, .int (-x)), (0, .ref (b 0)), (1, .int x), (2, .int (bI on))]) hx hb dX8_choose_25 rfl hl (by decide) rfl (fun ls hl => ?_)
      refine lv_aload_n hx hb dX8_choose_26 rfl (lv_at hl 1 rfl) ?_
      refine lv_iload_n hx hb dX8_choose_27 rfl (lv_at hl 0 rfl) ?_
      refine cpV (ci := 10) (T0 := TX8) (N := 27) (As := [.int (-x)]) (rest := []) ⟨hx, hb, hml, hown, hts⟩ (c_X8_choiceOf l G b 0 n mf L.length kn sc fc so la lq wq (q 14) (-x) (hc)) (cwV 1 hts gX8_choose_X8_choiceOf rfl rfl rfl ⟨rfl, hd_X8_choiceOf⟩ ⟨Nat.le_of_ble_eq_true rfl, Nat.le_of_ble_eq_true rfl⟩) hKK hP [0, 12] rfl rfl rfl rfl hl.1 rfl (Nat.le_of_ble_eq_true rfl) dX8_choose_28 ⟨Nat.zero_le _, Nat.zero_le _⟩ ?_
      refine lv_istore (lv' := [(4, .int (chOf (q 14) (-x) L.length)), (3, .int (-x)), (0, .ref (b 0)), (1, .int x), (2, .int (bI on))]) hx hb dX8_choose_31 hl (by decide) rfl (fun ls hl => ?_)
      refine lv_iload hx hb dX8_choose_33 (lv_at hl 0 rfl) ?_
      refine lv_if_lt (tgt := 44) hx hb dX8_choose_35 (by decide) (fun c_35 => ?_) (fun c_35 => ?_)
      · skip
        have hcl : chL L (q 14) (-x) = L := chL_t c_35
        have hnew : chNew L (q 14) x on = chL L (q 14) (-x) := if_neg c_16
        refine lv_iload_n hx hb dX8_choose_44 rfl (lv_at hl 3 rfl) ?_
        refine lv_if_le (tgt := 77) hx hb dX8_choose_45 (by decide) (fun c_45 => ?_) (fun c_45 => ?_)
        · skip
          refine lv_aload_n hx hb dX8_choose_77 rfl (lv_at hl 2 rfl) ?_
          refine va_get (D := G.1) (ci := 10) (v := .int (nI L.length)) (C := RX8) (T := TX8) (N := 27) hx hb hts iX8_choose_X8 hown hK hP 0 rfl rfl 15 (by decide) (hts _ fX8_choose_3) (fun _ h9 => h9) rfl dX8_choose_78 ?_
          exact greti hx hb hr hlocks rfl hAe hS (⟨nI (chNew L (q 14) x on).length, (0, n, mf, (chNew L (q 14) x on).length, kn, sc, fc, so, la, lq, wq, upR q 14 (q 14))⟩) (by rw [hnew, hcl]) (by unfold mChoose; rw [if_pos (bI_n0 c_10)]; exact ⟨q 14, by rw [hnew, hcl]; exact hr0, rfl⟩) (by rw [upR_self, hnew, hcl]; exact hP) dX8_choose_81
        · exact absurd (Int32.le_of_lt (i_nle.mp c_16)) c_45
      · skip
        have hcn := chOf_nat (ch := q 14) (f := (-x)) (c := L.length) (by omega) c_35
        have hcl : chL L (q 14) (-x) = L.eraseIdx (chOf (q 14) (-x) L.length).toNatClampNeg := chL_f c_35
        have hnew : chNew L (q 14) x on = chL L (q 14) (-x) := if_neg c_16
        have hel := erase_len hcn.2
        refine lv_aload_n hx hb dX8_choose_38 rfl (lv_at hl 2 rfl) ?_
        refine lv_iload hx hb dX8_choose_39 (lv_at hl 0 rfl) ?_
        refine stI (y := nI (chOf (q 14) (-x) L.length).toNatClampNeg) (hcn.1) ?_
        refine cnV (nw := 17) (ci := 10) (T0 := TX8) (N := 27) (As := [.int (nI (chOf (q 14) (-x) L.length).toNatClampNeg)]) (rest := []) ⟨hx, hb, hml, hown, hts⟩ (c_X8_forget l G b 0 n mf L.length kn sc fc so la lq wq (q 14) L (((chOf (q 14) (-x) L.length).toNatClampNeg)) hr0 rfl hc (hcn.2)) (cwV 1 hts gX8_choose_X8_forget rfl rfl rfl ⟨rfl, hd_X8_forget⟩ ⟨Nat.le_of_ble_eq_true rfl, Nat.le_of_ble_eq_true rfl⟩) hKK hP hD hS [0, 12] [1, 2, 3, 4, 5, 6, 7, 8, 9, 10, 11, 13, 14, 15, 16] (fun gw => [(oX8 (b 0) 0 (b 1) (b 2) (b 3) (b 4) (b 5) (b 6) (nI n) (b 8) (b 9) (b 10) (nI mf) (b 12) (b 13) (b 14) (nI (L.length - 1)) (bI kn) (b 17) (nI sc) (b 19) (nI fc) (b 21) (bI so) la lq (b 25) (nI wq)), (cI G (b 1) 15 (q 1)), (cI G (b 2) 15 (q 2)), (cZ G (b 3) 15 (q 3)), (cI G (b 4) 15 (q 4)), (cI G (b 5) 15 (q 5)), (cI G (b 6) 60 (q 6)), (cI G (b 8) 40 (q 8)), (cI G (b 9) 40 (q 9)), (cI G (b 10) 40 (q 10)), (cZ G (b 12) 4 (q 12)), (cI G (b 13) 4 (q 13)), (cI G (b 14) 14 gw), (cI G (b 17) 16384 (q 17)), (cI G (b 19) 201 (q 19)), (cI G (b 21) 201 (q 21)), (cI G (b 25) 14 (q 25))]) [some (cI G (b 1) 15 (q 1)), some (cI G (b 2) 15 (q 2)), some (cZ G (b 3) 15 (q 3)), some (cI G (b 4) 15 (q 4)), some (cI G (b 5) 15 (q 5)), some (cI G (b 6) 60 (q 6)), some (cI G (b 8) 40 (q 8)), some (cI G (b 9) 40 (q 9)), some (cI G (b 10) 40 (q 10)), some (cZ G (b 12) 4 (q 12)), some (cI G (b 13) 4 (q 13)), some (cI G (b 17) 16384 (q 17)), some (cI G (b 19) 201 (q 19)), some (cI G (b 21) 201 (q 21)), some (cI G (b 25) 14 (q 25))] [b 0, b 1, b 2, b 3, b 4, b 5, b 6, b 8, b 9, b 10, b 12, b 13, b 14, b 17, b 19, b 21, b 25] rfl (by decide) (by decide) rfl rfl rfl hl.1 rfl (Nat.le_of_ble_eq_true rfl) dX8_choose_41 ⟨Nat.zero_le _, Nat.zero_le _⟩ (fun _ => rfl) (fun _ => rfl) rfl (fun _ => rfl) rfl (fun _ => rfl) (fun gw H locs hgw hP hD hS => ?_)
        refine lv_iload_n hx hb dX8_choose_44 rfl (lv_at hl 3 rfl) ?_
        refine lv_if_le (tgt := 77) hx hb dX8_choose_45 (by decide) (fun c_45 => ?_) (fun c_45 => ?_)
        · skip
          refine lv_aload_n hx hb dX8_choose_77 rfl (lv_at hl 2 rfl) ?_
          refine va_get (D := G.1) (ci := 10) (v := .int (nI (L.length - 1))) (C := RX8) (T := TX8) (N := 27) hx hb hts iX8_choose_X8 hown hK hP 0 rfl rfl 15 (by decide) (hts _ fX8_choose_3) (fun _ h9 => h9) rfl dX8_choose_78 ?_
          exact greti hx hb hr hlocks rfl hAe hS (⟨nI (chNew L (q 14) x on).length, (0, n, mf, (chNew L (q 14) x on).length, kn, sc, fc, so, la, lq, wq, upR q 14 (gw))⟩) (by rw [hnew, hcl, hel]) (by unfold mChoose; rw [if_pos (bI_n0 c_10)]; exact ⟨gw, by rw [hnew, hcl]; exact hgw, rfl⟩) (by rw [hnew, hcl, hel]; exact hP) dX8_choose_81
        · exact absurd (Int32.le_of_lt (i_nle.mp c_16)) c_45
  · skip
    refine lv_iconst (v := -1) hx hb dX8_choose_13 (by decide) ?_
    exact greti hx hb hr hlocks rfl hAe hS (⟨-1, (0, n, mf, L.length, kn, sc, fc, so, la, lq, wq, q)⟩) (rfl) (by unfold mChoose; rw [if_neg (by rw [bI_0.mp c_10]; decide)]) (hP) dX8_choose_14

theorem iX8_count_X8 : ∀ w ∈ u_ws RX8 TX8 27, w ∈ wsX8_count := by decide +kernel
theorem fX8_count_1 : Cond.fieldLink RX8 59 "FeatureSolveModel" "thrown" "I" ∈ wsX8_count := by decide +kernel
theorem fX8_count_2 : Cond.fieldLink RX8 63 "FeatureSolveModel" "features" "I" ∈ wsX8_count := by decide +kernel
theorem fX8_count_3 : Cond.fieldLink RX8 101 "FeatureSolveModel" "setCount" "I" ∈ wsX8_count := by decide +kernel
theorem fX8_count_4 : Cond.fieldLink RX8 47 "FeatureSolveModel" "sets" "[I" ∈ wsX8_count := by decide +kernel
theorem fX8_count_5 : Cond.constantLong RX8 143 (-1) ∈ wsX8_count := by decide +kernel
theorem fX8_count_6 : Cond.constantLong RX8 141 (-2) ∈ wsX8_count := by decide +kernel
set_option maxHeartbeats 4000000 in
set_option maxRecDepth 100000 in
/-- count -/
theorem c_X8_count (l : Launch) (G : GG) (b : Nat → Nat) (th : Int32) (n mf cc : Nat) (kn : Bool) (sc fc : Nat) (so : Bool) (la lq : Int32) (wq : Nat) (q : Nat → Nat → Int32) (st : Int64) (hc : cc ≤ 14) (hko : kOk n mf kn sc q) : Met l yX8_count wsX8_count (rmK 4) (va_Pc [.ref (b 0), .long st] (PM G [(oX8 (b 0) th (b 1) (b 2) (b 3) (b 4) (b 5) (b 6) (nI n) (b 8) (b 9) (b 10) (nI mf) (b 12) (b 13) (b 14) (nI cc) (bI kn) (b 17) (nI sc) (b 19) (nI fc) (b 21) (bI so) la lq (b 25) (nI wq)), (cI G (b 1) 15 (q 1)), (cI G (b 2) 15 (q 2)), (cZ G (b 3) 15 (q 3)), (cI G (b 4) 15 (q 4)), (cI G (b 5) 15 (q 5)), (cI G (b 6) 60 (q 6)), (cI G (b 8) 40 (q 8)), (cI G (b 9) 40 (q 9)), (cI G (b 10) 40 (q 10)), (cZ G (b 12) 4 (q 12)), (cI G (b 13) 4 (q 13)), (cI G (b 14) 14 (q 14)), (cI G (b 17) 16384 (q 17)), (cI G (b 19) 201 (q 19)), (cI G (b 21) 201 (q 21)), (cI G (b 25) 14 (q 25))])) (QG (S := Int64 × MS) G [(oX8 (b 0) th (b 1) (b 2) (b 3) (b 4) (b 5) (b 6) (nI n) (b 8) (b 9) (b 10) (nI mf) (b 12) (b 13) (b 14) (nI cc) (bI kn) (b 17) (nI sc) (b 19) (nI fc) (b 21) (bI so) la lq (b 25) (nI wq)), (cI G (b 1) 15 (q 1)), (cI G (b 2) 15 (q 2)), (cZ G (b 3) 15 (q 3)), (cI G (b 4) 15 (q 4)), (cI G (b 5) 15 (q 5)), (cI G (b 6) 60 (q 6)), (cI G (b 8) 40 (q 8)), (cI G (b 9) 40 (q 9)), (cI G (b 10) 40 (q 10)), (cZ G (b 12) 4 (q 12)), (cI G (b 13) 4 (q 13)), (cI G (b 14) 14 (q 14)), (cI G (b 17) 16384 (q 17)), (cI G (b 19) 201 (q 19)), (cI G (b 21) 201 (q 21)), (cI G (b 25) 14 (q 25))] (fun u => mCount n mf cc kn sc fc so la lq wq q st u) (fun u => some (.long u.1)) (fun u => mW G b u.2)) 0 0 (adr [(oX8 (b 0) th (b 1) (b 2) (b 3) (b 4) (b 5) (b 6) (nI n) (b 8) (b 9) (b 10) (nI mf) (b 12) (b 13) (b 14) (nI cc) (bI kn) (b 17) (nI sc) (b 19) (nI fc) (b 21) (bI so) la lq (b 25) (nI wq)), (cI G (b 1) 15 (q 1)), (cI G (b 2) 15 (q 2)), (cZ G (b 3) 15 (q 3)), (cI G (b 4) 15 (q 4)), (cI G (b 5) 15 (q 5)), (cI G (b 6) 60 (q 6)), (cI G (b 8) 40 (q 8)), (cI G (b 9) 40 (q 9)), (cI G (b 10) 40 (q 10)), (cZ G (b 12) 4 (q 12)), (cI G (b 13) 4 (q 13)), (cI G (b 14) 14 (q 14)), (cI G (b 17) 16384 (q 17)), (cI G (b 19) 201 (q 19)), (cI G (b 21) 201 (q 21)), (cI G (b 25) 14 (q 25))]) := by
  refine Met.ofW (cc := cX8_count) (maxL := 6) (ret := (some .long)) (by decide) rfl ?_
  intro p e s m args below meth c s₁ B hml hv
  obtain ⟨rfl, hP, hD0, hKK⟩ := hv
  have hx := B.exec
  have hb := B.bytes
  have hr := B.returns
  have hts := atoms_spec (ws := wsX8_count) B.pre
  have hown : s.vm.findClass RX8 = some m.cls := findClass_of_methodNamed B.named
  have hlocks := B.notSynchronized
  have hK := hKK.1
  generalize hAe : adr [(oX8 (b 0) th (b 1) (b 2) (b 3) (b 4) (b 5) (b 6) (nI n) (b 8) (b 9) (b 10) (nI mf) (b 12) (b 13) (b 14) (nI cc) (bI kn) (b 17) (nI sc) (b 19) (nI fc) (b 21) (bI so) la lq (b 25) (nI wq)), (cI G (b 1) 15 (q 1)), (cI G (b 2) 15 (q 2)), (cZ G (b 3) 15 (q 3)), (cI G (b 4) 15 (q 4)), (cI G (b 5) 15 (q 5)), (cI G (b 6) 60 (q 6)), (cI G (b 8) 40 (q 8)), (cI G (b 9) 40 (q 9)), (cI G (b 10) 40 (q 10)), (cZ G (b 12) 4 (q 12)), (cI G (b 13) 4 (q 13)), (cI G (b 14) 14 (q 14)), (cI G (b 17) 16384 (q 17)), (cI G (b 19) 201 (q 19)), (cI G (b 21) 201 (q 21)), (cI G (b 25) 14 (q 25))] = A
  have hD : va_D A [(oX8 (b 0) th (b 1) (b 2) (b 3) (b 4) (b 5) (b 6) (nI n) (b 8) (b 9) (b 10) (nI mf) (b 12) (b 13) (b 14) (nI cc) (bI kn) (b 17) (nI sc) (b 19) (nI fc) (b 21) (bI so) la lq (b 25) (nI wq)), (cI G (b 1) 15 (q 1)), (cI G (b 2) 15 (q 2)), (cZ G (b 3) 15 (q 3)), (cI G (b 4) 15 (q 4)), (cI G (b 5) 15 (q 5)), (cI G (b 6) 60 (q 6)), (cI G (b 8) 40 (q 8)), (cI G (b 9) 40 (q 9)), (cI G (b 10) 40 (q 10)), (cZ G (b 12) 4 (q 12)), (cI G (b 13) 4 (q 13)), (cI G (b 14) 14 (q 14)), (cI G (b 17) 16384 (q 17)), (cI G (b 19) 201 (q 19)), (cI G (b 21) 201 (q 21)), (cI G (b 25) 14 (q 25))] := by rw [← hAe]; exact hD0.own
  have hS : va_S A s.heap s.heap [] := va_S.rf
  have hP : va_P G.1 vwCl [(oX8 (b 0) th (b 1) (b 2) (b 3) (b 4) (b 5) (b 6) (nI n) (b 8) (b 9) (b 10) (nI mf) (b 12) (b 13) (b 14) (nI cc) (bI kn) (b 17) (nI sc) (b 19) (nI fc) (b 21) (bI so) la lq (b 25) (nI wq)), (cI G (b 1) 15 (q 1)), (cI G (b 2) 15 (q 2)), (cZ G (b 3) 15 (q 3)), (cI G (b 4) 15 (q 4)), (cI G (b 5) 15 (q 5)), (cI G (b 6) 60 (q 6)), (cI G (b 8) 40 (q 8)), (cI G (b 9) 40 (q 9)), (cI G (b 10) 40 (q 10)), (cZ G (b 12) 4 (q 12)), (cI G (b 13) 4 (q 13)), (cI G (b 14) 14 (q 14)), (cI G (b 17) 16384 (q 17)), (cI G (b 19) 201 (q 19)), (cI G (b 21) 201 (q 21)), (cI G (b 25) 14 (q 25))] s.heap := hP
  have hl := lv_entry ([.ref (b 0), .long st]) (n := 6) (Nat.le_of_ble_eq_true rfl)
  rw [lg_entry_eq]
  generalize (lg_sl ([.ref (b 0), .long st]) ++ List.replicate (6 - (lg_sl ([.ref (b 0), .long st])).length) Slot.unset).toArray = ls at hl ⊢
  have hl : lv_has ls 6 [(0, .ref (b 0)), (1, .long st)] := hl
  have hn := hko.1
  have hm := hko.2.1
  have hk := hko.2.2
  have hl9 : (mL n mf q).length ≤ 16384 := mLL_len hn _ _ _ _ _ _ _ _ _ _ _ _
  refine lv_aload_n hx hb dX8_count_0 rfl (lv_at hl 0 rfl) ?_
  refine lv_iconst (v := 0) hx hb dX8_count_1 (by decide) ?_
  refine va_put (D := G.1) (ci := 10) (v := .int 0) (ty := .int) (C := RX8) (T := TX8) (N := 27) hx hb hts iX8_count_X8 tyX8 tyX8_ok nmX8 hown hK hP hD hS 0 rfl rfl 0 (by decide) (hts _ fX8_count_1) (fun _ h9 => h9) rfl (by decide +kernel) rfl rfl (Nat.le_of_ble_eq_true rfl) dX8_count_2 (fun H locs hP hD hS => ?_)
  have hPD : PD G A [(oX8 (b 0) 0 (b 1) (b 2) (b 3) (b 4) (b 5) (b 6) (nI n) (b 8) (b 9) (b 10) (nI mf) (b 12) (b 13) (b 14) (nI cc) (bI kn) (b 17) (nI sc) (b 19) (nI fc) (b 21) (bI so) la lq (b 25) (nI wq)), (cI G (b 1) 15 (q 1)), (cI G (b 2) 15 (q 2)), (cZ G (b 3) 15 (q 3)), (cI G (b 4) 15 (q 4)), (cI G (b 5) 15 (q 5)), (cI G (b 6) 60 (q 6)), (cI G (b 8) 40 (q 8)), (cI G (b 9) 40 (q 9)), (cI G (b 10) 40 (q 10)), (cZ G (b 12) 4 (q 12)), (cI G (b 13) 4 (q 13)), (cI G (b 14) 14 (q 14)), (cI G (b 17) 16384 (q 17)), (cI G (b 19) 201 (q 19)), (cI G (b 21) 201 (q 21)), (cI G (b 25) 14 (q 25))] H := ⟨hP, hD⟩
  have hP := hPD.1
  have hD := hPD.2
  clear hPD
  refine lv_lload_n hx hb dX8_count_5 rfl (lv_at hl 1 rfl) ?_
  refine lv_lconst (v := 0) hx hb dX8_count_6 (by decide) ?_
  refine W.lcmp hx hb dX8_count_7 ?_
  refine lv_if_ge (tgt := 15) hx hb dX8_count_8 (by decide) (fun c_8 => ?_) (fun c_8 => ?_)
  · skip
    refine lv_lconst (v := 1) hx hb dX8_count_15 (by decide) ?_
    refine lv_aload_n hx hb dX8_count_16 rfl (lv_at hl 0 rfl) ?_
    refine va_get (D := G.1) (ci := 10) (v := .int (nI n)) (C := RX8) (T := TX8) (N := 27) hx hb hts iX8_count_X8 hown hK hP 0 rfl rfl 7 (by decide) (hts _ fX8_count_2) (fun _ h9 => h9) rfl dX8_count_17 ?_
    refine lv_lshl (v := (1 : Int64) <<< (((nI n) : Int32).toInt64 &&& 63)) hx hb dX8_count_20 rfl ?_
    refine lv_lload_n hx hb dX8_count_21 rfl (lv_at hl 1 rfl) ?_
    refine W.lcmp hx hb dX8_count_22 ?_
    refine lv_if_le (tgt := 30) hx hb dX8_count_23 (by decide) (fun c_23 => ?_) (fun c_23 => ?_)
    · skip
      refine lv_aload_n hx hb dX8_count_30 rfl (lv_at hl 0 rfl) ?_
      refine cnV (nw := 17) (ci := 10) (T0 := TX8) (N := 27) (As := []) (rest := []) ⟨hx, hb, hml, hown, hts⟩ (c_X8_know l G b 0 n mf cc kn sc fc so la lq wq (q 1) (q 2) (q 3) (q 4) (q 5) (q 6) (q 8) (q 9) (q 10) (q 12) (q 13) (q 17) (hn) (hm) (hk)) (cwV 0 hts gX8_count_X8_know rfl rfl rfl ⟨rfl, hd_X8_know⟩ ⟨Nat.le_of_ble_eq_true rfl, Nat.le_of_ble_eq_true rfl⟩) hKK hP hD hS [0, 1, 2, 3, 4, 5, 6, 7, 8, 9, 10, 11, 13] [12, 14, 15, 16] (fun gu => [(oX8 (b 0) 0 (b 1) (b 2) (b 3) (b 4) (b 5) (b 6) (nI n) (b 8) (b 9) (b 10) (nI mf) (b 12) (b 13) (b 14) (nI cc) 1 (b 17) (nI (mL n mf q).length) (b 19) (nI fc) (b 21) (bI so) la lq (b 25) (nI wq)), (cI G (b 1) 15 (q 1)), (cI G (b 2) 15 (q 2)), (cZ G (b 3) 15 (q 3)), (cI G (b 4) 15 (q 4)), (cI G (b 5) 15 (q 5)), (cI G (b 6) 60 (q 6)), (cI G (b 8) 40 (q 8)), (cI G (b 9) 40 (q 9)), (cI G (b 10) 40 (q 10)), (cZ G (b 12) 4 (q 12)), (cI G (b 13) 4 (q 13)), (cI G (b 14) 14 (q 14)), (cI G (b 17) 16384 gu), (cI G (b 19) 201 (q 19)), (cI G (b 21) 201 (q 21)), (cI G (b 25) 14 (q 25))]) [some (cI G (b 14) 14 (q 14)), some (cI G (b 19) 201 (q 19)), some (cI G (b 21) 201 (q 21)), some (cI G (b 25) 14 (q 25))] [b 0, b 1, b 2, b 3, b 4, b 5, b 6, b 8, b 9, b 10, b 12, b 13, b 14, b 17, b 19, b 21, b 25] rfl (by decide) (by decide) rfl rfl rfl hl.1 rfl (Nat.le_of_ble_eq_true rfl) dX8_count_31 ⟨Nat.zero_le _, Nat.zero_le _⟩ (fun _ => rfl) (fun _ => rfl) rfl (fun _ => rfl) rfl (fun _ => rfl) (fun gu H locs hgu hP hD hS => ?_)
      refine lv_lconst (v := 0) hx hb dX8_count_34 (by decide) ?_
      refine lv_lstore_n (lv' := [(3, .long 0), (0, .ref (b 0)), (1, .long st)]) hx hb dX8_count_35 rfl hl (by decide) rfl (fun ls hl => ?_)
      refine lv_iconst (v := 0) hx hb dX8_count_36 (by decide) ?_
      refine lv_istore (lv' := [(5, .int 0), (3, .long 0), (0, .ref (b 0)), (1, .long st)]) hx hb dX8_count_37 hl (by decide) rfl (fun ls hl => ?_)
      refine loopJ (nL := 6) (I := fun (jx : Nat) => jx ≤ (mL n mf q).length) (μ := fun (jx : Nat) => (mL n mf q).length - jx) (lv := fun (jx : Nat) => [(0, .ref (b 0)), (1, .long st), (3, .long (lN (cmpN (mL n mf q) (fun v => allZ (chB (nI n) (q 14) 0 v) cc) jx))), (5, .int (nI jx))]) (pc' := 39) (fun xv9 hI ih_39 ls hl => ?_) 0 (Nat.zero_le _) ls (lv_sub hl [2, 3, 1, 0] (by show ([(0, .ref (b 0)), (1, .long st), (3, .long 0), (5, .int 0)] : List (Nat × Value)) = [(0, .ref (b 0)), (1, .long st), (3, .long (lN (cmpN (mL n mf q) (fun v => allZ (chB (nI n) (q 14) 0 v) cc) 0))), (5, .int (nI 0))]; rw [cmpN_0]; rfl))
      obtain ⟨jx, rfl⟩ : ∃ y, y = xv9 := ⟨_, rfl⟩
      have hI : jx ≤ (mL n mf q).length := hI
      have hl : lv_has ls 6 [(0, .ref (b 0)), (1, .long st), (3, .long (lN (cmpN (mL n mf q) (fun v => allZ (chB (nI n) (q 14) 0 v) cc) jx))), (5, .int (nI jx))] := hl
      refine lv_iload hx hb dX8_count_39 (lv_at hl 3 rfl) ?_
      refine lv_aload_n hx hb dX8_count_41 rfl (lv_at hl 0 rfl) ?_
      refine va_get (D := G.1) (ci := 10) (v := .int (nI (mL n mf q).length)) (C := RX8) (T := TX8) (N := 27) hx hb hts iX8_count_X8 hown hK hP 0 rfl rfl 18 (by decide) (hts _ fX8_count_3) (fun _ h9 => h9) rfl dX8_count_42 ?_
      refine lv_icmp_ge (tgt := 77) hx hb dX8_count_45 (by decide) (fun c_45 => ?_) (fun c_45 => ?_)
      · skip
        have hj : jx = (mL n mf q).length := by have := (nI_leI (a := (mL n mf q).length) (b := jx) (by omega) (by omega)).mp c_45; omega
        refine lv_lload_n hx hb dX8_count_77 rfl (lv_at hl 2 rfl) ?_
        exact gretl hx hb hr hlocks hAe hS (⟨lN ((mL n mf q).filter (fun v => allZ (chB (nI n) (q 14) 0 v) cc)).length, (0, n, mf, cc, true, (mL n mf q).length, fc, so, la, lq, wq, upR q 17 gu)⟩) (by rw [hj, cmpN_end]) (by unfold mCount; rw [if_pos c_8, if_pos c_23]; exact ⟨gu, hgu, rfl⟩) (hP) dX8_count_78
      · skip
        have hj : jx < (mL n mf q).length := Nat.lt_of_not_le (fun z => c_45 ((nI_leI (a := (mL n mf q).length) (b := jx) (by omega) (by omega)).mpr z))
        refine lv_aload_n hx hb dX8_count_48 rfl (lv_at hl 0 rfl) ?_
        refine lv_aload_n hx hb dX8_count_49 rfl (lv_at hl 0 rfl) ?_
        refine va_get (D := G.1) (ci := 10) (v := .ref (b 17)) (C := RX8) (T := TX8) (N := 27) hx hb hts iX8_count_X8 hown hK hP 0 rfl rfl 17 (by decide) (hts _ fX8_count_4) (fun _ h9 => h9) rfl dX8_count_50 ?_
        refine lv_iload hx hb dX8_count_53 (lv_at hl 3 rfl) ?_
        refine aldI hx hb hK hP 13 (k := jx) rfl (rfl) (by omega) (by decide) dX8_count_55 ?_
        refine stI (y := (mL n mf q).getD jx 0) (hgu jx hj) ?_
        refine lv_iconst (v := 0) hx hb dX8_count_56 (by decide) ?_
        refine cpV (ci := 10) (T0 := TX8) (N := 27) (As := [.int ((mL n mf q).getD jx 0), .int 0]) (rest := []) ⟨hx, hb, hml, hown, hts⟩ (c_X8_keepsChoices l G b 0 n mf cc true ((mL n mf q).length) fc so la lq wq (q 14) ((mL n mf q).getD jx 0) 0 (hc)) (cwV 2 hts gX8_count_X8_keepsChoices rfl rfl rfl ⟨rfl, hd_X8_keepsChoices⟩ ⟨Nat.le_of_ble_eq_true rfl, Nat.le_of_ble_eq_true rfl⟩) hKK hP [0, 12] rfl rfl rfl rfl hl.1 rfl (Nat.le_of_ble_eq_true rfl) dX8_count_57 ⟨Nat.zero_le _, Nat.zero_le _⟩ ?_
        refine lv_if_eq (tgt := 69) hx hb dX8_count_60 (by decide) (fun c_60 => ?_) (fun c_60 => ?_)
        · skip
          refine lv_lload_n hx hb dX8_count_69 rfl (lv_at hl 2 rfl) ?_
          refine lv_lstore_n (lv' := [(3, .long (lN (cmpN (mL n mf q) (fun v => allZ (chB (nI n) (q 14) 0 v) cc) jx))), (0, .ref (b 0)), (1, .long st), (5, .int (nI jx))]) hx hb dX8_count_70 rfl hl (by decide) rfl (fun ls hl => ?_)
          refine lv_iinc (v := nI (jx + 1)) (lv' := [(5, .int (nI (jx + 1))), (3, .long (lN (cmpN (mL n mf q) (fun v => allZ (chB (nI n) (q 14) 0 v) cc) jx))), (0, .ref (b 0)), (1, .long st)]) hx hb dX8_count_71 hl (k := 3) rfl (nI_1 jx) (by decide) rfl (fun ls hl => ?_)
          refine lv_goto (tgt := 39) hx hb dX8_count_74 (by decide) ?_
          exact ih_39 (jx + 1) (hj) (by show (mL n mf q).length - (jx + 1) < (mL n mf q).length - jx; omega) ls (lv_sub hl [2, 3, 1, 0] (by show ([(0, .ref (b 0)), (1, .long st), (3, .long (lN (cmpN (mL n mf q) (fun v => allZ (chB (nI n) (q 14) 0 v) cc) jx))), (5, .int (nI (jx + 1)))] : List (Nat × Value)) = [(0, .ref (b 0)), (1, .long st), (3, .long (lN (cmpN (mL n mf q) (fun v => allZ (chB (nI n) (q 14) 0 v) cc) (jx + 1)))), (5, .int (nI (jx + 1)))]; rw [cmpN_drop hj (bI_0.mp c_60)]))
        · skip
          refine lv_lload_n hx hb dX8_count_63 rfl (lv_at hl 2 rfl) ?_
          refine lv_lconst (v := 1) hx hb dX8_count_64 (by decide) ?_
          refine lv_ladd hx hb dX8_count_65 ?_
          refine stL (y := lN (cmpN (mL n mf q) (fun v => allZ (chB (nI n) (q 14) 0 v) cc) jx + 1)) (lN_1 _) ?_
          refine lv_goto (tgt := 70) hx hb dX8_count_66 (by decide) ?_
          refine lv_lstore_n (lv' := [(3, .long (lN (cmpN (mL n mf q) (fun v => allZ (chB (nI n) (q 14) 0 v) cc) jx + 1))), (0, .ref (b 0)), (1, .long st), (5, .int (nI jx))]) hx hb dX8_count_70 rfl hl (by decide) rfl (fun ls hl => ?_)
          refine lv_iinc (v := nI (jx + 1)) (lv' := [(5, .int (nI (jx + 1))), (3, .long (lN (cmpN (mL n mf q) (fun v => allZ (chB (nI n) (q 14) 0 v) cc) jx + 1))), (0, .ref (b 0)), (1, .long st)]) hx hb dX8_count_71 hl (k := 3) rfl (nI_1 jx) (by decide) rfl (fun ls hl => ?_)
          refine lv_goto (tgt := 39) hx hb dX8_count_74 (by decide) ?_
          exact ih_39 (jx + 1) (hj) (by show (mL n mf q).length - (jx + 1) < (mL n mf q).length - jx; omega) ls (lv_sub hl [2, 3, 1, 0] (by show ([(0, .ref (b 0)), (1, .long st), (3, .long (lN (cmpN (mL n mf q) (fun v => allZ (chB (nI n) (q 14) 0 v) cc) jx + 1))), (5, .int (nI (jx + 1)))] : List (Nat × Value)) = [(0, .ref (b 0)), (1, .long st), (3, .long (lN (cmpN (mL n mf q) (fun v => allZ (chB (nI n) (q 14) 0 v) cc) (jx + 1)))), (5, .int (nI (jx + 1)))]; rw [cmpN_keep hj (bI_n0 c_60)]))
    · skip
      refine lv_ldc2 hx hb hown (hts _ fX8_count_5) dX8_count_26 ?_
      exact gretl hx hb hr hlocks hAe hS (⟨-1, (0, n, mf, cc, kn, sc, fc, so, la, lq, wq, q)⟩) (rfl) (by unfold mCount; rw [if_pos c_8, if_neg c_23]) (hP) dX8_count_29
  · skip
    refine lv_ldc2 hx hb hown (hts _ fX8_count_6) dX8_count_11 ?_
    exact gretl hx hb hr hlocks hAe hS (⟨-2, (0, n, mf, cc, kn, sc, fc, so, la, lq, wq, q)⟩) (rfl) (by unfold mCount; rw [if_neg c_8]) (hP) dX8_count_14

theorem iX8_differ_X8 : ∀ w ∈ u_ws RX8 TX8 27, w ∈ wsX8_differ := by decide +kernel
theorem fX8_differ_1 : Cond.fieldLink RX8 59 "FeatureSolveModel" "thrown" "I" ∈ wsX8_differ := by decide +kernel
theorem fX8_differ_2 : Cond.fieldLink RX8 134 "FeatureSolveModel" "foundCount" "I" ∈ wsX8_differ := by decide +kernel
theorem fX8_differ_3 : Cond.fieldLink RX8 50 "FeatureSolveModel" "found" "[I" ∈ wsX8_differ := by decide +kernel
theorem fX8_differ_4 : Cond.fieldLink RX8 53 "FeatureSolveModel" "foundFeatures" "[I" ∈ wsX8_differ := by decide +kernel
set_option maxHeartbeats 4000000 in
set_option maxRecDepth 100000 in
/-- differ -/
theorem c_X8_differ (l : Launch) (G : GG) (b : Nat → Nat) (th : Int32) (n mf cc : Nat) (kn : Bool) (sc fc : Nat) (so : Bool) (la lq : Int32) (wq : Nat) (q : Nat → Nat → Int32) (x y : Int32) (hf : fc ≤ 200) : Met l yX8_differ wsX8_differ (rmK 1) (va_Pc [.ref (b 0), .int x, .int y] (PM G [(oX8 (b 0) th (b 1) (b 2) (b 3) (b 4) (b 5) (b 6) (nI n) (b 8) (b 9) (b 10) (nI mf) (b 12) (b 13) (b 14) (nI cc) (bI kn) (b 17) (nI sc) (b 19) (nI fc) (b 21) (bI so) la lq (b 25) (nI wq)), (cI G (b 1) 15 (q 1)), (cI G (b 2) 15 (q 2)), (cZ G (b 3) 15 (q 3)), (cI G (b 4) 15 (q 4)), (cI G (b 5) 15 (q 5)), (cI G (b 6) 60 (q 6)), (cI G (b 8) 40 (q 8)), (cI G (b 9) 40 (q 9)), (cI G (b 10) 40 (q 10)), (cZ G (b 12) 4 (q 12)), (cI G (b 13) 4 (q 13)), (cI G (b 14) 14 (q 14)), (cI G (b 17) 16384 (q 17)), (cI G (b 19) 201 (q 19)), (cI G (b 21) 201 (q 21)), (cI G (b 25) 14 (q 25))])) (QG (S := Int32 × MS) G [(oX8 (b 0) th (b 1) (b 2) (b 3) (b 4) (b 5) (b 6) (nI n) (b 8) (b 9) (b 10) (nI mf) (b 12) (b 13) (b 14) (nI cc) (bI kn) (b 17) (nI sc) (b 19) (nI fc) (b 21) (bI so) la lq (b 25) (nI wq)), (cI G (b 1) 15 (q 1)), (cI G (b 2) 15 (q 2)), (cZ G (b 3) 15 (q 3)), (cI G (b 4) 15 (q 4)), (cI G (b 5) 15 (q 5)), (cI G (b 6) 60 (q 6)), (cI G (b 8) 40 (q 8)), (cI G (b 9) 40 (q 9)), (cI G (b 10) 40 (q 10)), (cZ G (b 12) 4 (q 12)), (cI G (b 13) 4 (q 13)), (cI G (b 14) 14 (q 14)), (cI G (b 17) 16384 (q 17)), (cI G (b 19) 201 (q 19)), (cI G (b 21) 201 (q 21)), (cI G (b 25) 14 (q 25))] (fun u => u = (mDiffer fc q x y, (0, n, mf, cc, kn, sc, fc, so, la, lq, wq, q))) (fun u => some (.int u.1)) (fun u => mW G b u.2)) 0 0 (adr [(oX8 (b 0) th (b 1) (b 2) (b 3) (b 4) (b 5) (b 6) (nI n) (b 8) (b 9) (b 10) (nI mf) (b 12) (b 13) (b 14) (nI cc) (bI kn) (b 17) (nI sc) (b 19) (nI fc) (b 21) (bI so) la lq (b 25) (nI wq)), (cI G (b 1) 15 (q 1)), (cI G (b 2) 15 (q 2)), (cZ G (b 3) 15 (q 3)), (cI G (b 4) 15 (q 4)), (cI G (b 5) 15 (q 5)), (cI G (b 6) 60 (q 6)), (cI G (b 8) 40 (q 8)), (cI G (b 9) 40 (q 9)), (cI G (b 10) 40 (q 10)), (cZ G (b 12) 4 (q 12)), (cI G (b 13) 4 (q 13)), (cI G (b 14) 14 (q 14)), (cI G (b 17) 16384 (q 17)), (cI G (b 19) 201 (q 19)), (cI G (b 21) 201 (q 21)), (cI G (b 25) 14 (q 25))]) := by
  refine Met.ofW (cc := cX8_differ) (maxL := 7) (ret := (some .int)) (by decide) rfl ?_
  intro p e s m args below meth c s₁ B hml hv
  obtain ⟨rfl, hP, hD0, hKK⟩ := hv
  have hx := B.exec
  have hb := B.bytes
  have hr := B.returns
  have hts := atoms_spec (ws := wsX8_differ) B.pre
  have hown : s.vm.findClass RX8 = some m.cls := findClass_of_methodNamed B.named
  have hlocks := B.notSynchronized
  have hK := hKK.1
  generalize hAe : adr [(oX8 (b 0) th (b 1) (b 2) (b 3) (b 4) (b 5) (b 6) (nI n) (b 8) (b 9) (b 10) (nI mf) (b 12) (b 13) (b 14) (nI cc) (bI kn) (b 17) (nI sc) (b 19) (nI fc) (b 21) (bI so) la lq (b 25) (nI wq)), (cI G (b 1) 15 (q 1)), (cI G (b 2) 15 (q 2)), (cZ G (b 3) 15 (q 3)), (cI G (b 4) 15 (q 4)), (cI G (b 5) 15 (q 5)), (cI G (b 6) 60 (q 6)), (cI G (b 8) 40 (q 8)), (cI G (b 9) 40 (q 9)), (cI G (b 10) 40 (q 10)), (cZ G (b 12) 4 (q 12)), (cI G (b 13) 4 (q 13)), (cI G (b 14) 14 (q 14)), (cI G (b 17) 16384 (q 17)), (cI G (b 19) 201 (q 19)), (cI G (b 21) 201 (q 21)), (cI G (b 25) 14 (q 25))] = A
  have hD : va_D A [(oX8 (b 0) th (b 1) (b 2) (b 3) (b 4) (b 5) (b 6) (nI n) (b 8) (b 9) (b 10) (nI mf) (b 12) (b 13) (b 14) (nI cc) (bI kn) (b 17) (nI sc) (b 19) (nI fc) (b 21) (bI so) la lq (b 25) (nI wq)), (cI G (b 1) 15 (q 1)), (cI G (b 2) 15 (q 2)), (cZ G (b 3) 15 (q 3)), (cI G (b 4) 15 (q 4)), (cI G (b 5) 15 (q 5)), (cI G (b 6) 60 (q 6)), (cI G (b 8) 40 (q 8)), (cI G (b 9) 40 (q 9)), (cI G (b 10) 40 (q 10)), (cZ G (b 12) 4 (q 12)), (cI G (b 13) 4 (q 13)), (cI G (b 14) 14 (q 14)), (cI G (b 17) 16384 (q 17)), (cI G (b 19) 201 (q 19)), (cI G (b 21) 201 (q 21)), (cI G (b 25) 14 (q 25))] := by rw [← hAe]; exact hD0.own
  have hS : va_S A s.heap s.heap [] := va_S.rf
  have hP : va_P G.1 vwCl [(oX8 (b 0) th (b 1) (b 2) (b 3) (b 4) (b 5) (b 6) (nI n) (b 8) (b 9) (b 10) (nI mf) (b 12) (b 13) (b 14) (nI cc) (bI kn) (b 17) (nI sc) (b 19) (nI fc) (b 21) (bI so) la lq (b 25) (nI wq)), (cI G (b 1) 15 (q 1)), (cI G (b 2) 15 (q 2)), (cZ G (b 3) 15 (q 3)), (cI G (b 4) 15 (q 4)), (cI G (b 5) 15 (q 5)), (cI G (b 6) 60 (q 6)), (cI G (b 8) 40 (q 8)), (cI G (b 9) 40 (q 9)), (cI G (b 10) 40 (q 10)), (cZ G (b 12) 4 (q 12)), (cI G (b 13) 4 (q 13)), (cI G (b 14) 14 (q 14)), (cI G (b 17) 16384 (q 17)), (cI G (b 19) 201 (q 19)), (cI G (b 21) 201 (q 21)), (cI G (b 25) 14 (q 25))] s.heap := hP
  have hl := lv_entry ([.ref (b 0), .int x, .int y]) (n := 7) (Nat.le_of_ble_eq_true rfl)
  rw [lg_entry_eq]
  generalize (lg_sl ([.ref (b 0), .int x, .int y]) ++ List.replicate (7 - (lg_sl ([.ref (b 0), .int x, .int y])).length) Slot.unset).toArray = ls at hl ⊢
  have hl : lv_has ls 7 [(0, .ref (b 0)), (1, .int x), (2, .int y)] := hl
  refine lv_aload_n hx hb dX8_differ_0 rfl (lv_at hl 0 rfl) ?_
  refine lv_iconst (v := 0) hx hb dX8_differ_1 (by decide) ?_
  refine va_put (D := G.1) (ci := 10) (v := .int 0) (ty := .int) (C := RX8) (T := TX8) (N := 27) hx hb hts iX8_differ_X8 tyX8 tyX8_ok nmX8 hown hK hP hD hS 0 rfl rfl 0 (by decide) (hts _ fX8_differ_1) (fun _ h9 => h9) rfl (by decide +kernel) rfl rfl (Nat.le_of_ble_eq_true rfl) dX8_differ_2 (fun H locs hP hD hS => ?_)
  have hPD : PD G A [(oX8 (b 0) 0 (b 1) (b 2) (b 3) (b 4) (b 5) (b 6) (nI n) (b 8) (b 9) (b 10) (nI mf) (b 12) (b 13) (b 14) (nI cc) (bI kn) (b 17) (nI sc) (b 19) (nI fc) (b 21) (bI so) la lq (b 25) (nI wq)), (cI G (b 1) 15 (q 1)), (cI G (b 2) 15 (q 2)), (cZ G (b 3) 15 (q 3)), (cI G (b 4) 15 (q 4)), (cI G (b 5) 15 (q 5)), (cI G (b 6) 60 (q 6)), (cI G (b 8) 40 (q 8)), (cI G (b 9) 40 (q 9)), (cI G (b 10) 40 (q 10)), (cZ G (b 12) 4 (q 12)), (cI G (b 13) 4 (q 13)), (cI G (b 14) 14 (q 14)), (cI G (b 17) 16384 (q 17)), (cI G (b 19) 201 (q 19)), (cI G (b 21) 201 (q 21)), (cI G (b 25) 14 (q 25))] H := ⟨hP, hD⟩
  have hP := hPD.1
  have hD := hPD.2
  clear hPD
  refine lv_iload_n hx hb dX8_differ_5 rfl (lv_at hl 1 rfl) ?_
  refine lv_iconst (v := 1) hx hb dX8_differ_6 (by decide) ?_
  refine lv_icmp_lt (tgt := 31) hx hb dX8_differ_7 (by decide) (fun c_7 => ?_) (fun c_7 => ?_)
  · skip
    refine lv_iconst (v := -1) hx hb dX8_differ_31 (by decide) ?_
    exact greti hx hb hr hlocks rfl hAe hS (⟨-1, (0, n, mf, cc, kn, sc, fc, so, la, lq, wq, q)⟩) (rfl) (by unfold mDiffer; rw [if_pos c_7]) (hP) dX8_differ_32
  · skip
    refine lv_iload_n hx hb dX8_differ_10 rfl (lv_at hl 1 rfl) ?_
    refine lv_aload_n hx hb dX8_differ_11 rfl (lv_at hl 0 rfl) ?_
    refine va_get (D := G.1) (ci := 10) (v := .int (nI fc)) (C := RX8) (T := TX8) (N := 27) hx hb hts iX8_differ_X8 hown hK hP 0 rfl rfl 20 (by decide) (hts _ fX8_differ_2) (fun _ h9 => h9) rfl dX8_differ_12 ?_
    refine lv_icmp_gt (tgt := 31) hx hb dX8_differ_15 (by decide) (fun c_15 => ?_) (fun c_15 => ?_)
    · skip
      refine lv_iconst (v := -1) hx hb dX8_differ_31 (by decide) ?_
      exact greti hx hb hr hlocks rfl hAe hS (⟨-1, (0, n, mf, cc, kn, sc, fc, so, la, lq, wq, q)⟩) (rfl) (by unfold mDiffer; rw [if_neg c_7, if_pos c_15]) (hP) dX8_differ_32
    · skip
      refine lv_iload_n hx hb dX8_differ_18 rfl (lv_at hl 2 rfl) ?_
      refine lv_iconst (v := 1) hx hb dX8_differ_19 (by decide) ?_
      refine lv_icmp_lt (tgt := 31) hx hb dX8_differ_20 (by decide) (fun c_20 => ?_) (fun c_20 => ?_)
      · skip
        refine lv_iconst (v := -1) hx hb dX8_differ_31 (by decide) ?_
        exact greti hx hb hr hlocks rfl hAe hS (⟨-1, (0, n, mf, cc, kn, sc, fc, so, la, lq, wq, q)⟩) (rfl) (by unfold mDiffer; rw [if_neg c_7, if_neg c_15, if_pos c_20]) (hP) dX8_differ_32
      · skip
        refine lv_iload_n hx hb dX8_differ_23 rfl (lv_at hl 2 rfl) ?_
        refine lv_aload_n hx hb dX8_differ_24 rfl (lv_at hl 0 rfl) ?_
        refine va_get (D := G.1) (ci := 10) (v := .int (nI fc)) (C := RX8) (T := TX8) (N := 27) hx hb hts iX8_differ_X8 hown hK hP 0 rfl rfl 20 (by decide) (hts _ fX8_differ_2) (fun _ h9 => h9) rfl dX8_differ_25 ?_
        refine lv_icmp_le (tgt := 33) hx hb dX8_differ_28 (by decide) (fun c_28 => ?_) (fun c_28 => ?_)
        · skip
          have hix := rng_nat (w := fc) (by omega) c_7 (i_nlt.mp c_15)
          have hiy := rng_nat (w := fc) (by omega) c_20 c_28
          refine lv_iconst (v := 0) hx hb dX8_differ_33 (by decide) ?_
          refine lv_istore_n (lv' := [(3, .int 0), (0, .ref (b 0)), (1, .int x), (2, .int y)]) hx hb dX8_differ_34 rfl hl (by decide) rfl (fun ls hl => ?_)
          refine lv_iconst (v := 1) hx hb dX8_differ_35 (by decide) ?_
          refine lv_istore (lv' := [(4, .int 1), (3, .int 0), (0, .ref (b 0)), (1, .int x), (2, .int y)]) hx hb dX8_differ_36 hl (by decide) rfl (fun ls hl => ?_)
          refine loopJ (nL := 7) (I := fun (jx : Nat) => jx ≤ 14) (μ := fun (jx : Nat) => 14 - jx) (lv := fun (jx : Nat) => [(0, .ref (b 0)), (1, .int x), (2, .int y), (3, .int (nI (cntU (dfB q x.toNatClampNeg y.toNatClampNeg) jx))), (4, .int (nI (jx + 1)))]) (pc' := 38) (fun xv9 hI ih_38 ls hl => ?_) 0 (Nat.zero_le _) ls (lv_sub hl [2, 3, 4, 1, 0] rfl)
          obtain ⟨jx, rfl⟩ : ∃ y, y = xv9 := ⟨_, rfl⟩
          have hI : jx ≤ 14 := hI
          have hl : lv_has ls 7 [(0, .ref (b 0)), (1, .int x), (2, .int y), (3, .int (nI (cntU (dfB q x.toNatClampNeg y.toNatClampNeg) jx))), (4, .int (nI (jx + 1)))] := hl
          refine lv_iload hx hb dX8_differ_38 (lv_at hl 4 rfl) ?_
          refine lv_bipush (v := 14) hx hb dX8_differ_40 (by decide) ?_
          refine lv_icmp_gt (tgt := 104) hx hb dX8_differ_42 (by decide) (fun c_42 => ?_) (fun c_42 => ?_)
          · skip
            have hj : jx = 14 := by have := (nI_ltI (a := 14) (b := jx + 1) (by omega) (by omega)).mp c_42; omega
            refine lv_iload_n hx hb dX8_differ_104 rfl (lv_at hl 3 rfl) ?_
            exact greti hx hb hr hlocks rfl hAe hS (⟨nI (cntU (dfB q x.toNatClampNeg y.toNatClampNeg) 14), (0, n, mf, cc, kn, sc, fc, so, la, lq, wq, q)⟩) (by rw [hj]) (by unfold mDiffer; rw [if_neg c_7, if_neg c_15, if_neg c_20, if_pos c_28]) (hP) dX8_differ_105
          · skip
            have hj : jx < 14 := by have := mt (nI_ltI (a := 14) (b := jx + 1) (by omega) (by omega)).mpr c_42; omega
            refine lv_aload_n hx hb dX8_differ_45 rfl (lv_at hl 0 rfl) ?_
            refine va_get (D := G.1) (ci := 10) (v := .ref (b 19)) (C := RX8) (T := TX8) (N := 27) hx hb hts iX8_differ_X8 hown hK hP 0 rfl rfl 19 (by decide) (hts _ fX8_differ_3) (fun _ h9 => h9) rfl dX8_differ_46 ?_
            refine lv_iload_n hx hb dX8_differ_49 rfl (lv_at hl 1 rfl) ?_
            refine aldI hx hb hK hP 14 (k := x.toNatClampNeg) rfl (hix.1) (by omega) (by decide) dX8_differ_50 ?_
            refine lv_aload_n hx hb dX8_differ_51 rfl (lv_at hl 0 rfl) ?_
            refine va_get (D := G.1) (ci := 10) (v := .ref (b 21)) (C := RX8) (T := TX8) (N := 27) hx hb hts iX8_differ_X8 hown hK hP 0 rfl rfl 21 (by decide) (hts _ fX8_differ_4) (fun _ h9 => h9) rfl dX8_differ_52 ?_
            refine lv_iload_n hx hb dX8_differ_55 rfl (lv_at hl 1 rfl) ?_
            refine aldI hx hb hK hP 15 (k := x.toNatClampNeg) rfl (hix.1) (by omega) (by decide) dX8_differ_56 ?_
            refine lv_iload hx hb dX8_differ_57 (lv_at hl 4 rfl) ?_
            refine cpS (As := [.int ((q 19) x.toNatClampNeg), .int ((q 21) x.toNatClampNeg), .int (nI (jx + 1))]) (rest := []) ⟨hx, hb, hml, hown, hts⟩ (c_X8_wasIn l G ((q 19) x.toNatClampNeg) ((q 21) x.toNatClampNeg) (nI (jx + 1))) (va_cwS 3 hts gX8_differ_X8_wasIn rfl rfl rfl hd_X8_wasIn ⟨Nat.le_of_ble_eq_true rfl, Nat.le_of_ble_eq_true rfl⟩) hKK hP [] rfl rfl hl.1 rfl (Nat.le_of_ble_eq_true rfl) dX8_differ_59 ⟨Nat.zero_le _, Nat.zero_le _⟩ ?_
            refine lv_istore (lv' := [(5, .int (bI (wasB ((q 19) x.toNatClampNeg) ((q 21) x.toNatClampNeg) (nI (jx + 1))))), (0, .ref (b 0)), (1, .int x), (2, .int y), (3, .int (nI (cntU (dfB q x.toNatClampNeg y.toNatClampNeg) jx))), (4, .int (nI (jx + 1)))]) hx hb dX8_differ_62 hl (by decide) rfl (fun ls hl => ?_)
            refine lv_aload_n hx hb dX8_differ_64 rfl (lv_at hl 1 rfl) ?_
            refine va_get (D := G.1) (ci := 10) (v := .ref (b 19)) (C := RX8) (T := TX8) (N := 27) hx hb hts iX8_differ_X8 hown hK hP 0 rfl rfl 19 (by decide) (hts _ fX8_differ_3) (fun _ h9 => h9) rfl dX8_differ_65 ?_
            refine lv_iload_n hx hb dX8_differ_68 rfl (lv_at hl 3 rfl) ?_
            refine aldI hx hb hK hP 14 (k := y.toNatClampNeg) rfl (hiy.1) (by omega) (by decide) dX8_differ_69 ?_
            refine lv_aload_n hx hb dX8_differ_70 rfl (lv_at hl 1 rfl) ?_
            refine va_get (D := G.1) (ci := 10) (v := .ref (b 21)) (C := RX8) (T := TX8) (N := 27) hx hb hts iX8_differ_X8 hown hK hP 0 rfl rfl 21 (by decide) (hts _ fX8_differ_4) (fun _ h9 => h9) rfl dX8_differ_71 ?_
            refine lv_iload_n hx hb dX8_differ_74 rfl (lv_at hl 3 rfl) ?_
            refine aldI hx hb hK hP 15 (k := y.toNatClampNeg) rfl (hiy.1) (by omega) (by decide) dX8_differ_75 ?_
            refine lv_iload hx hb dX8_differ_76 (lv_at hl 5 rfl) ?_
            refine cpS (As := [.int ((q 19) y.toNatClampNeg), .int ((q 21) y.toNatClampNeg), .int (nI (jx + 1))]) (rest := []) ⟨hx, hb, hml, hown, hts⟩ (c_X8_wasIn l G ((q 19) y.toNatClampNeg) ((q 21) y.toNatClampNeg) (nI (jx + 1))) (va_cwS 3 hts gX8_differ_X8_wasIn rfl rfl rfl hd_X8_wasIn ⟨Nat.le_of_ble_eq_true rfl, Nat.le_of_ble_eq_true rfl⟩) hKK hP [] rfl rfl hl.1 rfl (Nat.le_of_ble_eq_true rfl) dX8_differ_78 ⟨Nat.zero_le _, Nat.zero_le _⟩ ?_
            refine lv_istore (lv' := [(6, .int (bI (wasB ((q 19) y.toNatClampNeg) ((q 21) y.toNatClampNeg) (nI (jx + 1))))), (5, .int (bI (wasB ((q 19) x.toNatClampNeg) ((q 21) x.toNatClampNeg) (nI (jx + 1))))), (0, .ref (b 0)), (1, .int x), (2, .int y), (3, .int (nI (cntU (dfB q x.toNatClampNeg y.toNatClampNeg) jx))), (4, .int (nI (jx + 1)))]) hx hb dX8_differ_81 hl (by decide) rfl (fun ls hl => ?_)
            refine lv_iload hx hb dX8_differ_83 (lv_at hl 1 rfl) ?_
            refine lv_iload hx hb dX8_differ_85 (lv_at hl 0 rfl) ?_
            refine lv_icmp_eq (tgt := 96) hx hb dX8_differ_87 (by decide) (fun c_87 => ?_) (fun c_87 => ?_)
            · skip
              refine lv_iload_n hx hb dX8_differ_96 rfl (lv_at hl 5 rfl) ?_
              refine lv_istore_n (lv' := [(3, .int (nI (cntU (dfB q x.toNatClampNeg y.toNatClampNeg) jx))), (6, .int (bI (wasB ((q 19) y.toNatClampNeg) ((q 21) y.toNatClampNeg) (nI (jx + 1))))), (5, .int (bI (wasB ((q 19) x.toNatClampNeg) ((q 21) x.toNatClampNeg) (nI (jx + 1))))), (0, .ref (b 0)), (1, .int x), (2, .int y), (4, .int (nI (jx + 1)))]) hx hb dX8_differ_97 rfl hl (by decide) rfl (fun ls hl => ?_)
              refine lv_iinc (v := nI (jx + 1 + 1)) (lv' := [(4, .int (nI (jx + 1 + 1))), (3, .int (nI (cntU (dfB q x.toNatClampNeg y.toNatClampNeg) jx))), (6, .int (bI (wasB ((q 19) y.toNatClampNeg) ((q 21) y.toNatClampNeg) (nI (jx + 1))))), (5, .int (bI (wasB ((q 19) x.toNatClampNeg) ((q 21) x.toNatClampNeg) (nI (jx + 1))))), (0, .ref (b 0)), (1, .int x), (2, .int y)]) hx hb dX8_differ_98 hl (k := 6) rfl (nI_1 (jx + 1)) (by decide) rfl (fun ls hl => ?_)
              refine lv_goto (tgt := 38) hx hb dX8_differ_101 (by decide) ?_
              exact ih_38 (jx + 1) (hj) (by show 14 - (jx + 1) < 14 - jx; omega) ls (lv_sub hl [4, 5, 6, 1, 0] (by show ([(0, .ref (b 0)), (1, .int x), (2, .int y), (3, .int (nI (cntU (dfB q x.toNatClampNeg y.toNatClampNeg) jx))), (4, .int (nI (jx + 1 + 1)))] : List (Nat × Value)) = [(0, .ref (b 0)), (1, .int x), (2, .int y), (3, .int (nI (cntU (dfB q x.toNatClampNeg y.toNatClampNeg) (jx + 1)))), (4, .int (nI ((jx + 1) + 1)))]; rw [cntU_f (decide_eq_false (fun z => z c_87))]))
            · skip
              refine lv_iload_n hx hb dX8_differ_90 rfl (lv_at hl 5 rfl) ?_
              refine lv_iconst (v := 1) hx hb dX8_differ_91 (by decide) ?_
              refine lv_iadd hx hb dX8_differ_92 ?_
              refine stI (y := nI (cntU (dfB q x.toNatClampNeg y.toNatClampNeg) jx + 1)) (nI_1 _) ?_
              refine lv_goto (tgt := 97) hx hb dX8_differ_93 (by decide) ?_
              refine lv_istore_n (lv' := [(3, .int (nI (cntU (dfB q x.toNatClampNeg y.toNatClampNeg) jx + 1))), (6, .int (bI (wasB ((q 19) y.toNatClampNeg) ((q 21) y.toNatClampNeg) (nI (jx + 1))))), (5, .int (bI (wasB ((q 19) x.toNatClampNeg) ((q 21) x.toNatClampNeg) (nI (jx + 1))))), (0, .ref (b 0)), (1, .int x), (2, .int y), (4, .int (nI (jx + 1)))]) hx hb dX8_differ_97 rfl hl (by decide) rfl (fun ls hl => ?_)
              refine lv_iinc (v := nI (jx + 1 + 1)) (lv' := [(4, .int (nI (jx + 1 + 1))), (3, .int (nI (cntU (dfB q x.toNatClampNeg y.toNatClampNeg) jx + 1))), (6, .int (bI (wasB ((q 19) y.toNatClampNeg) ((q 21) y.toNatClampNeg) (nI (jx + 1))))), (5, .int (bI (wasB ((q 19) x.toNatClampNeg) ((q 21) x.toNatClampNeg) (nI (jx + 1))))), (0, .ref (b 0)), (1, .int x), (2, .int y)]) hx hb dX8_differ_98 hl (k := 6) rfl (nI_1 (jx + 1)) (by decide) rfl (fun ls hl => ?_)
              refine lv_goto (tgt := 38) hx hb dX8_differ_101 (by decide) ?_
              exact ih_38 (jx + 1) (hj) (by show 14 - (jx + 1) < 14 - jx; omega) ls (lv_sub hl [4, 5, 6, 1, 0] (by show ([(0, .ref (b 0)), (1, .int x), (2, .int y), (3, .int (nI (cntU (dfB q x.toNatClampNeg y.toNatClampNeg) jx + 1))), (4, .int (nI (jx + 1 + 1)))] : List (Nat × Value)) = [(0, .ref (b 0)), (1, .int x), (2, .int y), (3, .int (nI (cntU (dfB q x.toNatClampNeg y.toNatClampNeg) (jx + 1)))), (4, .int (nI ((jx + 1) + 1)))]; rw [cntU_t (decide_eq_true c_87)]))
        · skip
          refine lv_iconst (v := -1) hx hb dX8_differ_31 (by decide) ?_
          exact greti hx hb hr hlocks rfl hAe hS (⟨-1, (0, n, mf, cc, kn, sc, fc, so, la, lq, wq, q)⟩) (rfl) (by unfold mDiffer; rw [if_neg c_7, if_neg c_15, if_neg c_20, if_neg c_28]) (hP) dX8_differ_32

theorem iX8_level_X8 : ∀ w ∈ u_ws RX8 TX8 27, w ∈ wsX8_level := by decide +kernel
theorem fX8_level_1 : Cond.fieldLink RX8 59 "FeatureSolveModel" "thrown" "I" ∈ wsX8_level := by decide +kernel
theorem fX8_level_2 : Cond.fieldLink RX8 63 "FeatureSolveModel" "features" "I" ∈ wsX8_level := by decide +kernel
theorem fX8_level_3 : Cond.fieldLink RX8 7 "FeatureSolveModel" "parents" "[I" ∈ wsX8_level := by decide +kernel
set_option maxHeartbeats 4000000 in
set_option maxRecDepth 100000 in
/-- level -/
theorem c_X8_level (l : Launch) (G : GG) (b : Nat → Nat) (th : Int32) (n mf cc : Nat) (kn : Bool) (sc fc : Nat) (so : Bool) (la lq : Int32) (wq : Nat) (q : Nat → Nat → Int32) (i : Int32) (hn : n ≤ 14) (hp : parOk n (q 1)) : Met l yX8_level wsX8_level (rmK 1) (va_Pc [.ref (b 0), .int i] (PM G [(oX8 (b 0) th (b 1) (b 2) (b 3) (b 4) (b 5) (b 6) (nI n) (b 8) (b 9) (b 10) (nI mf) (b 12) (b 13) (b 14) (nI cc) (bI kn) (b 17) (nI sc) (b 19) (nI fc) (b 21) (bI so) la lq (b 25) (nI wq)), (cI G (b 1) 15 (q 1)), (cI G (b 2) 15 (q 2)), (cZ G (b 3) 15 (q 3)), (cI G (b 4) 15 (q 4)), (cI G (b 5) 15 (q 5)), (cI G (b 6) 60 (q 6)), (cI G (b 8) 40 (q 8)), (cI G (b 9) 40 (q 9)), (cI G (b 10) 40 (q 10)), (cZ G (b 12) 4 (q 12)), (cI G (b 13) 4 (q 13)), (cI G (b 14) 14 (q 14)), (cI G (b 17) 16384 (q 17)), (cI G (b 19) 201 (q 19)), (cI G (b 21) 201 (q 21)), (cI G (b 25) 14 (q 25))])) (QG (S := Int32 × MS) G [(oX8 (b 0) th (b 1) (b 2) (b 3) (b 4) (b 5) (b 6) (nI n) (b 8) (b 9) (b 10) (nI mf) (b 12) (b 13) (b 14) (nI cc) (bI kn) (b 17) (nI sc) (b 19) (nI fc) (b 21) (bI so) la lq (b 25) (nI wq)), (cI G (b 1) 15 (q 1)), (cI G (b 2) 15 (q 2)), (cZ G (b 3) 15 (q 3)), (cI G (b 4) 15 (q 4)), (cI G (b 5) 15 (q 5)), (cI G (b 6) 60 (q 6)), (cI G (b 8) 40 (q 8)), (cI G (b 9) 40 (q 9)), (cI G (b 10) 40 (q 10)), (cZ G (b 12) 4 (q 12)), (cI G (b 13) 4 (q 13)), (cI G (b 14) 14 (q 14)), (cI G (b 17) 16384 (q 17)), (cI G (b 19) 201 (q 19)), (cI G (b 21) 201 (q 21)), (cI G (b 25) 14 (q 25))] (fun u => u = ((mLevel n q i).1, ((mLevel n q i).2, n, mf, cc, kn, sc, fc, so, la, lq, wq, q))) (fun u => some (.int u.1)) (fun u => mW G b u.2)) 0 0 (adr [(oX8 (b 0) th (b 1) (b 2) (b 3) (b 4) (b 5) (b 6) (nI n) (b 8) (b 9) (b 10) (nI mf) (b 12) (b 13) (b 14) (nI cc) (bI kn) (b 17) (nI sc) (b 19) (nI fc) (b 21) (bI so) la lq (b 25) (nI wq)), (cI G (b 1) 15 (q 1)), (cI G (b 2) 15 (q 2)), (cZ G (b 3) 15 (q 3)), (cI G (b 4) 15 (q 4)), (cI G (b 5) 15 (q 5)), (cI G (b 6) 60 (q 6)), (cI G (b 8) 40 (q 8)), (cI G (b 9) 40 (q 9)), (cI G (b 10) 40 (q 10)), (cZ G (b 12) 4 (q 12)), (cI G (b 13) 4 (q 13)), (cI G (b 14) 14 (q 14)), (cI G (b 17) 16384 (q 17)), (cI G (b 19) 201 (q 19)), (cI G (b 21) 201 (q 21)), (cI G (b 25) 14 (q 25))]) := by
  refine Met.ofW (cc := cX8_level) (maxL := 4) (ret := (some .int)) (by decide) rfl ?_
  intro p e s m args below meth c s₁ B hml hv
  obtain ⟨rfl, hP, hD0, hKK⟩ := hv
  have hx := B.exec
  have hb := B.bytes
  have hr := B.returns
  have hts := atoms_spec (ws := wsX8_level) B.pre
  have hown : s.vm.findClass RX8 = some m.cls := findClass_of_methodNamed B.named
  have hlocks := B.notSynchronized
  have hK := hKK.1
  generalize hAe : adr [(oX8 (b 0) th (b 1) (b 2) (b 3) (b 4) (b 5) (b 6) (nI n) (b 8) (b 9) (b 10) (nI mf) (b 12) (b 13) (b 14) (nI cc) (bI kn) (b 17) (nI sc) (b 19) (nI fc) (b 21) (bI so) la lq (b 25) (nI wq)), (cI G (b 1) 15 (q 1)), (cI G (b 2) 15 (q 2)), (cZ G (b 3) 15 (q 3)), (cI G (b 4) 15 (q 4)), (cI G (b 5) 15 (q 5)), (cI G (b 6) 60 (q 6)), (cI G (b 8) 40 (q 8)), (cI G (b 9) 40 (q 9)), (cI G (b 10) 40 (q 10)), (cZ G (b 12) 4 (q 12)), (cI G (b 13) 4 (q 13)), (cI G (b 14) 14 (q 14)), (cI G (b 17) 16384 (q 17)), (cI G (b 19) 201 (q 19)), (cI G (b 21) 201 (q 21)), (cI G (b 25) 14 (q 25))] = A
  have hD : va_D A [(oX8 (b 0) th (b 1) (b 2) (b 3) (b 4) (b 5) (b 6) (nI n) (b 8) (b 9) (b 10) (nI mf) (b 12) (b 13) (b 14) (nI cc) (bI kn) (b 17) (nI sc) (b 19) (nI fc) (b 21) (bI so) la lq (b 25) (nI wq)), (cI G (b 1) 15 (q 1)), (cI G (b 2) 15 (q 2)), (cZ G (b 3) 15 (q 3)), (cI G (b 4) 15 (q 4)), (cI G (b 5) 15 (q 5)), (cI G (b 6) 60 (q 6)), (cI G (b 8) 40 (q 8)), (cI G (b 9) 40 (q 9)), (cI G (b 10) 40 (q 10)), (cZ G (b 12) 4 (q 12)), (cI G (b 13) 4 (q 13)), (cI G (b 14) 14 (q 14)), (cI G (b 17) 16384 (q 17)), (cI G (b 19) 201 (q 19)), (cI G (b 21) 201 (q 21)), (cI G (b 25) 14 (q 25))] := by rw [← hAe]; exact hD0.own
  have hS : va_S A s.heap s.heap [] := va_S.rf
  have hP : va_P G.1 vwCl [(oX8 (b 0) th (b 1) (b 2) (b 3) (b 4) (b 5) (b 6) (nI n) (b 8) (b 9) (b 10) (nI mf) (b 12) (b 13) (b 14) (nI cc) (bI kn) (b 17) (nI sc) (b 19) (nI fc) (b 21) (bI so) la lq (b 25) (nI wq)), (cI G (b 1) 15 (q 1)), (cI G (b 2) 15 (q 2)), (cZ G (b 3) 15 (q 3)), (cI G (b 4) 15 (q 4)), (cI G (b 5) 15 (q 5)), (cI G (b 6) 60 (q 6)), (cI G (b 8) 40 (q 8)), (cI G (b 9) 40 (q 9)), (cI G (b 10) 40 (q 10)), (cZ G (b 12) 4 (q 12)), (cI G (b 13) 4 (q 13)), (cI G (b 14) 14 (q 14)), (cI G (b 17) 16384 (q 17)), (cI G (b 19) 201 (q 19)), (cI G (b 21) 201 (q 21)), (cI G (b 25) 14 (q 25))] s.heap := hP
  have hl := lv_entry ([.ref (b 0), .int i]) (n := 4) (Nat.le_of_ble_eq_true rfl)
  rw [lg_entry_eq]
  generalize (lg_sl ([.ref (b 0), .int i]) ++ List.replicate (4 - (lg_sl ([.ref (b 0), .int i])).length) Slot.unset).toArray = ls at hl ⊢
  have hl : lv_has ls 4 [(0, .ref (b 0)), (1, .int i)] := hl
  refine lv_aload_n hx hb dX8_level_0 rfl (lv_at hl 0 rfl) ?_
  refine lv_iconst (v := 0) hx hb dX8_level_1 (by decide) ?_
  refine va_put (D := G.1) (ci := 10) (v := .int 0) (ty := .int) (C := RX8) (T := TX8) (N := 27) hx hb hts iX8_level_X8 tyX8 tyX8_ok nmX8 hown hK hP hD hS 0 rfl rfl 0 (by decide) (hts _ fX8_level_1) (fun _ h9 => h9) rfl (by decide +kernel) rfl rfl (Nat.le_of_ble_eq_true rfl) dX8_level_2 (fun H locs hP hD hS => ?_)
  have hPD : PD G A [(oX8 (b 0) 0 (b 1) (b 2) (b 3) (b 4) (b 5) (b 6) (nI n) (b 8) (b 9) (b 10) (nI mf) (b 12) (b 13) (b 14) (nI cc) (bI kn) (b 17) (nI sc) (b 19) (nI fc) (b 21) (bI so) la lq (b 25) (nI wq)), (cI G (b 1) 15 (q 1)), (cI G (b 2) 15 (q 2)), (cZ G (b 3) 15 (q 3)), (cI G (b 4) 15 (q 4)), (cI G (b 5) 15 (q 5)), (cI G (b 6) 60 (q 6)), (cI G (b 8) 40 (q 8)), (cI G (b 9) 40 (q 9)), (cI G (b 10) 40 (q 10)), (cZ G (b 12) 4 (q 12)), (cI G (b 13) 4 (q 13)), (cI G (b 14) 14 (q 14)), (cI G (b 17) 16384 (q 17)), (cI G (b 19) 201 (q 19)), (cI G (b 21) 201 (q 21)), (cI G (b 25) 14 (q 25))] H := ⟨hP, hD⟩
  have hP := hPD.1
  have hD := hPD.2
  clear hPD
  refine lv_iload_n hx hb dX8_level_5 rfl (lv_at hl 1 rfl) ?_
  refine lv_if_lt (tgt := 17) hx hb dX8_level_6 (by decide) (fun c_6 => ?_) (fun c_6 => ?_)
  · skip
    refine lv_aload_n hx hb dX8_level_17 rfl (lv_at hl 0 rfl) ?_
    refine lv_iconst (v := 1) hx hb dX8_level_18 (by decide) ?_
    refine va_put (D := G.1) (ci := 10) (v := .int 1) (ty := .int) (C := RX8) (T := TX8) (N := 27) hx hb hts iX8_level_X8 tyX8 tyX8_ok nmX8 hown hK hP hD hS 0 rfl rfl 0 (by decide) (hts _ fX8_level_1) (fun _ h9 => h9) rfl (by decide +kernel) rfl rfl (Nat.le_of_ble_eq_true rfl) dX8_level_19 (fun H locs hP hD hS => ?_)
    have hPD : PD G A [(oX8 (b 0) 1 (b 1) (b 2) (b 3) (b 4) (b 5) (b 6) (nI n) (b 8) (b 9) (b 10) (nI mf) (b 12) (b 13) (b 14) (nI cc) (bI kn) (b 17) (nI sc) (b 19) (nI fc) (b 21) (bI so) la lq (b 25) (nI wq)), (cI G (b 1) 15 (q 1)), (cI G (b 2) 15 (q 2)), (cZ G (b 3) 15 (q 3)), (cI G (b 4) 15 (q 4)), (cI G (b 5) 15 (q 5)), (cI G (b 6) 60 (q 6)), (cI G (b 8) 40 (q 8)), (cI G (b 9) 40 (q 9)), (cI G (b 10) 40 (q 10)), (cZ G (b 12) 4 (q 12)), (cI G (b 13) 4 (q 13)), (cI G (b 14) 14 (q 14)), (cI G (b 17) 16384 (q 17)), (cI G (b 19) 201 (q 19)), (cI G (b 21) 201 (q 21)), (cI G (b 25) 14 (q 25))] H := ⟨hP, hD⟩
    have hP := hPD.1
    have hD := hPD.2
    clear hPD
    refine lv_iconst (v := 0) hx hb dX8_level_22 (by decide) ?_
    exact greti hx hb hr hlocks rfl hAe hS (⟨0, (1, n, mf, cc, kn, sc, fc, so, la, lq, wq, q)⟩) (rfl) (by unfold mLevel; rw [if_pos c_6]) (hP) dX8_level_23
  · skip
    refine lv_iload_n hx hb dX8_level_9 rfl (lv_at hl 1 rfl) ?_
    refine lv_aload_n hx hb dX8_level_10 rfl (lv_at hl 0 rfl) ?_
    refine va_get (D := G.1) (ci := 10) (v := .int (nI n)) (C := RX8) (T := TX8) (N := 27) hx hb hts iX8_level_X8 hown hK hP 0 rfl rfl 7 (by decide) (hts _ fX8_level_2) (fun _ h9 => h9) rfl dX8_level_11 ?_
    refine lv_icmp_lt (tgt := 24) hx hb dX8_level_14 (by decide) (fun c_14 => ?_) (fun c_14 => ?_)
    · skip
      have hix := nat_lt (w := n) (by omega) c_6 (i_nle.mpr c_14)
      obtain ⟨p1, hp1, hp2⟩ := hp (i.toNatClampNeg + 1) (by omega) (by omega)
      refine lv_iconst (v := 0) hx hb dX8_level_24 (by decide) ?_
      refine lv_istore_n (lv' := [(2, .int 0), (0, .ref (b 0)), (1, .int i)]) hx hb dX8_level_25 rfl hl (by decide) rfl (fun ls hl => ?_)
      refine lv_aload_n hx hb dX8_level_26 rfl (lv_at hl 1 rfl) ?_
      refine va_get (D := G.1) (ci := 10) (v := .ref (b 1)) (C := RX8) (T := TX8) (N := 27) hx hb hts iX8_level_X8 hown hK hP 0 rfl rfl 1 (by decide) (hts _ fX8_level_3) (fun _ h9 => h9) rfl dX8_level_27 ?_
      refine lv_iload_n hx hb dX8_level_30 rfl (lv_at hl 2 rfl) ?_
      refine lv_iconst (v := 1) hx hb dX8_level_31 (by decide) ?_
      refine lv_iadd hx hb dX8_level_32 ?_
      refine aldI hx hb hK hP 1 (k := i.toNatClampNeg + 1) rfl (by rw [← nI_1, ← hix.1]) (by omega) (by decide) dX8_level_33 ?_
      refine stI (y := nI p1) (hp1) ?_
      refine lv_istore_n (lv' := [(3, .int (nI p1)), (2, .int 0), (0, .ref (b 0)), (1, .int i)]) hx hb dX8_level_34 rfl hl (by decide) rfl (fun ls hl => ?_)
      refine loopJ (nL := 4) (I := fun (xv9 : Nat × Nat) => (fun (dx : Nat) (fx : Nat) => fx ≤ n ∧ dx ≤ 14 - fx ∧ dx + dpt (q 1) fx = dpt (q 1) (q 1 (i.toNatClampNeg + 1)).toNatClampNeg) xv9.1 xv9.2) (μ := fun (xv9 : Nat × Nat) => (fun (dx : Nat) (fx : Nat) => fx) xv9.1 xv9.2) (lv := fun (xv9 : Nat × Nat) => (fun (dx : Nat) (fx : Nat) => [(0, .ref (b 0)), (1, .int i), (2, .int (nI dx)), (3, .int (nI fx))]) xv9.1 xv9.2) (pc' := 35) (fun xv9 hI ih_35 ls hl => ?_) (⟨0, p1⟩) (⟨by omega, Nat.zero_le _, by rw [Nat.zero_add, hp1, nI_clamp (by omega)]⟩) ls (lv_sub hl [2, 3, 1, 0] rfl)
      obtain ⟨dx, fx⟩ := xv9
      have hI : fx ≤ n ∧ dx ≤ 14 - fx ∧ dx + dpt (q 1) fx = dpt (q 1) (q 1 (i.toNatClampNeg + 1)).toNatClampNeg := hI
      have hl : lv_has ls 4 [(0, .ref (b 0)), (1, .int i), (2, .int (nI dx)), (3, .int (nI fx))] := hl
      have hI1 := hI.1
      have hI2 := hI.2.1
      refine lv_iload_n hx hb dX8_level_35 rfl (lv_at hl 3 rfl) ?_
      refine lv_if_le (tgt := 52) hx hb dX8_level_36 (by decide) (fun c_36 => ?_) (fun c_36 => ?_)
      · skip
        have hfx0 : fx = 0 := by have := (nI_leI (a := fx) (b := 0) (by omega) (by decide)).mp c_36; omega
        refine lv_iload_n hx hb dX8_level_52 rfl (lv_at hl 2 rfl) ?_
        exact greti hx hb hr hlocks rfl hAe hS (⟨nI (dpt (q 1) (q 1 (i.toNatClampNeg + 1)).toNatClampNeg), (0, n, mf, cc, kn, sc, fc, so, la, lq, wq, q)⟩) (by rw [← hI.2.2, hfx0, dpt_0]; rfl) (by unfold mLevel; rw [if_neg c_6, if_pos c_14]) (hP) dX8_level_53
      · skip
        have hf0 : 0 < fx := Nat.lt_of_not_le (fun z => c_36 ((nI_leI (a := fx) (b := 0) (by omega) (by decide)).mpr z))
        obtain ⟨px, hpx1, hpx2⟩ := hp fx hf0 hI1
        refine lv_iinc (v := nI (dx + 1)) (lv' := [(2, .int (nI (dx + 1))), (0, .ref (b 0)), (1, .int i), (3, .int (nI fx))]) hx hb dX8_level_39 hl (k := 2) rfl (nI_1 dx) (by decide) rfl (fun ls hl => ?_)
        refine lv_aload_n hx hb dX8_level_42 rfl (lv_at hl 1 rfl) ?_
        refine va_get (D := G.1) (ci := 10) (v := .ref (b 1)) (C := RX8) (T := TX8) (N := 27) hx hb hts iX8_level_X8 hown hK hP 0 rfl rfl 1 (by decide) (hts _ fX8_level_3) (fun _ h9 => h9) rfl dX8_level_43 ?_
        refine lv_iload_n hx hb dX8_level_46 rfl (lv_at hl 3 rfl) ?_
        refine aldI hx hb hK hP 1 (k := fx) rfl (rfl) (by omega) (by decide) dX8_level_47 ?_
        refine stI (y := nI px) (hpx1) ?_
        refine lv_istore_n (lv' := [(3, .int (nI px)), (2, .int (nI (dx + 1))), (0, .ref (b 0)), (1, .int i)]) hx hb dX8_level_48 rfl hl (by decide) rfl (fun ls hl => ?_)
        refine lv_goto (tgt := 35) hx hb dX8_level_49 (by decide) ?_
        exact ih_35 (⟨dx + 1, px⟩) (⟨by omega, by omega, by show dx + 1 + dpt (q 1) px = _; have h9 := hI.2.2; rw [dpt_s hp hn hf0 hI1 hpx1 hpx2] at h9; omega⟩) (by show px < fx; exact hpx2) ls (lv_sub hl [2, 3, 1, 0] rfl)
    · skip
      refine lv_aload_n hx hb dX8_level_17 rfl (lv_at hl 0 rfl) ?_
      refine lv_iconst (v := 1) hx hb dX8_level_18 (by decide) ?_
      refine va_put (D := G.1) (ci := 10) (v := .int 1) (ty := .int) (C := RX8) (T := TX8) (N := 27) hx hb hts iX8_level_X8 tyX8 tyX8_ok nmX8 hown hK hP hD hS 0 rfl rfl 0 (by decide) (hts _ fX8_level_1) (fun _ h9 => h9) rfl (by decide +kernel) rfl rfl (Nat.le_of_ble_eq_true rfl) dX8_level_19 (fun H locs hP hD hS => ?_)
      have hPD : PD G A [(oX8 (b 0) 1 (b 1) (b 2) (b 3) (b 4) (b 5) (b 6) (nI n) (b 8) (b 9) (b 10) (nI mf) (b 12) (b 13) (b 14) (nI cc) (bI kn) (b 17) (nI sc) (b 19) (nI fc) (b 21) (bI so) la lq (b 25) (nI wq)), (cI G (b 1) 15 (q 1)), (cI G (b 2) 15 (q 2)), (cZ G (b 3) 15 (q 3)), (cI G (b 4) 15 (q 4)), (cI G (b 5) 15 (q 5)), (cI G (b 6) 60 (q 6)), (cI G (b 8) 40 (q 8)), (cI G (b 9) 40 (q 9)), (cI G (b 10) 40 (q 10)), (cZ G (b 12) 4 (q 12)), (cI G (b 13) 4 (q 13)), (cI G (b 14) 14 (q 14)), (cI G (b 17) 16384 (q 17)), (cI G (b 19) 201 (q 19)), (cI G (b 21) 201 (q 21)), (cI G (b 25) 14 (q 25))] H := ⟨hP, hD⟩
      have hP := hPD.1
      have hD := hPD.2
      clear hPD
      refine lv_iconst (v := 0) hx hb dX8_level_22 (by decide) ?_
      exact greti hx hb hr hlocks rfl hAe hS (⟨0, (1, n, mf, cc, kn, sc, fc, so, la, lq, wq, q)⟩) (rfl) (by unfold mLevel; rw [if_neg c_6, if_neg c_14]) (hP) dX8_level_23

theorem iX8_forces_X8 : ∀ w ∈ u_ws RX8 TX8 27, w ∈ wsX8_forces := by decide +kernel
theorem fX8_forces_1 : Cond.fieldLink RX8 59 "FeatureSolveModel" "thrown" "I" ∈ wsX8_forces := by decide +kernel
theorem fX8_forces_2 : Cond.fieldLink RX8 101 "FeatureSolveModel" "setCount" "I" ∈ wsX8_forces := by decide +kernel
theorem fX8_forces_3 : Cond.fieldLink RX8 63 "FeatureSolveModel" "features" "I" ∈ wsX8_forces := by decide +kernel
theorem fX8_forces_4 : Cond.fieldLink RX8 47 "FeatureSolveModel" "sets" "[I" ∈ wsX8_forces := by decide +kernel
set_option maxHeartbeats 4000000 in
set_option maxRecDepth 100000 in
/-- forces -/
theorem c_X8_forces (l : Launch) (G : GG) (b : Nat → Nat) (th : Int32) (n mf cc : Nat) (kn : Bool) (sc fc : Nat) (so : Bool) (la lq : Int32) (wq : Nat) (q : Nat → Nat → Int32) (x i : Int32) (hc : cc ≤ 14) (hko : kOk n mf kn sc q) : Met l yX8_forces wsX8_forces (rmK 4) (va_Pc [.ref (b 0), .int x, .int i] (PM G [(oX8 (b 0) th (b 1) (b 2) (b 3) (b 4) (b 5) (b 6) (nI n) (b 8) (b 9) (b 10) (nI mf) (b 12) (b 13) (b 14) (nI cc) (bI kn) (b 17) (nI sc) (b 19) (nI fc) (b 21) (bI so) la lq (b 25) (nI wq)), (cI G (b 1) 15 (q 1)), (cI G (b 2) 15 (q 2)), (cZ G (b 3) 15 (q 3)), (cI G (b 4) 15 (q 4)), (cI G (b 5) 15 (q 5)), (cI G (b 6) 60 (q 6)), (cI G (b 8) 40 (q 8)), (cI G (b 9) 40 (q 9)), (cI G (b 10) 40 (q 10)), (cZ G (b 12) 4 (q 12)), (cI G (b 13) 4 (q 13)), (cI G (b 14) 14 (q 14)), (cI G (b 17) 16384 (q 17)), (cI G (b 19) 201 (q 19)), (cI G (b 21) 201 (q 21)), (cI G (b 25) 14 (q 25))])) (QG (S := Int32 × MS) G [(oX8 (b 0) th (b 1) (b 2) (b 3) (b 4) (b 5) (b 6) (nI n) (b 8) (b 9) (b 10) (nI mf) (b 12) (b 13) (b 14) (nI cc) (bI kn) (b 17) (nI sc) (b 19) (nI fc) (b 21) (bI so) la lq (b 25) (nI wq)), (cI G (b 1) 15 (q 1)), (cI G (b 2) 15 (q 2)), (cZ G (b 3) 15 (q 3)), (cI G (b 4) 15 (q 4)), (cI G (b 5) 15 (q 5)), (cI G (b 6) 60 (q 6)), (cI G (b 8) 40 (q 8)), (cI G (b 9) 40 (q 9)), (cI G (b 10) 40 (q 10)), (cZ G (b 12) 4 (q 12)), (cI G (b 13) 4 (q 13)), (cI G (b 14) 14 (q 14)), (cI G (b 17) 16384 (q 17)), (cI G (b 19) 201 (q 19)), (cI G (b 21) 201 (q 21)), (cI G (b 25) 14 (q 25))] (fun u => mForces n mf cc kn sc fc so la lq wq q x i u) (fun u => some (.int u.1)) (fun u => mW G b u.2)) 0 0 (adr [(oX8 (b 0) th (b 1) (b 2) (b 3) (b 4) (b 5) (b 6) (nI n) (b 8) (b 9) (b 10) (nI mf) (b 12) (b 13) (b 14) (nI cc) (bI kn) (b 17) (nI sc) (b 19) (nI fc) (b 21) (bI so) la lq (b 25) (nI wq)), (cI G (b 1) 15 (q 1)), (cI G (b 2) 15 (q 2)), (cZ G (b 3) 15 (q 3)), (cI G (b 4) 15 (q 4)), (cI G (b 5) 15 (q 5)), (cI G (b 6) 60 (q 6)), (cI G (b 8) 40 (q 8)), (cI G (b 9) 40 (q 9)), (cI G (b 10) 40 (q 10)), (cZ G (b 12) 4 (q 12)), (cI G (b 13) 4 (q 13)), (cI G (b 14) 14 (q 14)), (cI G (b 17) 16384 (q 17)), (cI G (b 19) 201 (q 19)), (cI G (b 21) 201 (q 21)), (cI G (b 25) 14 (q 25))]) := by
  refine Met.ofW (cc := cX8_forces) (maxL := 9) (ret := (some .int)) (by decide) rfl ?_
  intro p e s m args below meth c s₁ B hml hv
  obtain ⟨rfl, hP, hD0, hKK⟩ := hv
  have hx := B.exec
  have hb := B.bytes
  have hr := B.returns
  have hts := atoms_spec (ws := wsX8_forces) B.pre
  have hown : s.vm.findClass RX8 = some m.cls := findClass_of_methodNamed B.named
  have hlocks := B.notSynchronized
  have hK := hKK.1
  generalize hAe : adr [(oX8 (b 0) th (b 1) (b 2) (b 3) (b 4) (b 5) (b 6) (nI n) (b 8) (b 9) (b 10) (nI mf) (b 12) (b 13) (b 14) (nI cc) (bI kn) (b 17) (nI sc) (b 19) (nI fc) (b 21) (bI so) la lq (b 25) (nI wq)), (cI G (b 1) 15 (q 1)), (cI G (b 2) 15 (q 2)), (cZ G (b 3) 15 (q 3)), (cI G (b 4) 15 (q 4)), (cI G (b 5) 15 (q 5)), (cI G (b 6) 60 (q 6)), (cI G (b 8) 40 (q 8)), (cI G (b 9) 40 (q 9)), (cI G (b 10) 40 (q 10)), (cZ G (b 12) 4 (q 12)), (cI G (b 13) 4 (q 13)), (cI G (b 14) 14 (q 14)), (cI G (b 17) 16384 (q 17)), (cI G (b 19) 201 (q 19)), (cI G (b 21) 201 (q 21)), (cI G (b 25) 14 (q 25))] = A
  have hD : va_D A [(oX8 (b 0) th (b 1) (b 2) (b 3) (b 4) (b 5) (b 6) (nI n) (b 8) (b 9) (b 10) (nI mf) (b 12) (b 13) (b 14) (nI cc) (bI kn) (b 17) (nI sc) (b 19) (nI fc) (b 21) (bI so) la lq (b 25) (nI wq)), (cI G (b 1) 15 (q 1)), (cI G (b 2) 15 (q 2)), (cZ G (b 3) 15 (q 3)), (cI G (b 4) 15 (q 4)), (cI G (b 5) 15 (q 5)), (cI G (b 6) 60 (q 6)), (cI G (b 8) 40 (q 8)), (cI G (b 9) 40 (q 9)), (cI G (b 10) 40 (q 10)), (cZ G (b 12) 4 (q 12)), (cI G (b 13) 4 (q 13)), (cI G (b 14) 14 (q 14)), (cI G (b 17) 16384 (q 17)), (cI G (b 19) 201 (q 19)), (cI G (b 21) 201 (q 21)), (cI G (b 25) 14 (q 25))] := by rw [← hAe]; exact hD0.own
  have hS : va_S A s.heap s.heap [] := va_S.rf
  have hP : va_P G.1 vwCl [(oX8 (b 0) th (b 1) (b 2) (b 3) (b 4) (b 5) (b 6) (nI n) (b 8) (b 9) (b 10) (nI mf) (b 12) (b 13) (b 14) (nI cc) (bI kn) (b 17) (nI sc) (b 19) (nI fc) (b 21) (bI so) la lq (b 25) (nI wq)), (cI G (b 1) 15 (q 1)), (cI G (b 2) 15 (q 2)), (cZ G (b 3) 15 (q 3)), (cI G (b 4) 15 (q 4)), (cI G (b 5) 15 (q 5)), (cI G (b 6) 60 (q 6)), (cI G (b 8) 40 (q 8)), (cI G (b 9) 40 (q 9)), (cI G (b 10) 40 (q 10)), (cZ G (b 12) 4 (q 12)), (cI G (b 13) 4 (q 13)), (cI G (b 14) 14 (q 14)), (cI G (b 17) 16384 (q 17)), (cI G (b 19) 201 (q 19)), (cI G (b 21) 201 (q 21)), (cI G (b 25) 14 (q 25))] s.heap := hP
  have hl := lv_entry ([.ref (b 0), .int x, .int i]) (n := 9) (Nat.le_of_ble_eq_true rfl)
  rw [lg_entry_eq]
  generalize (lg_sl ([.ref (b 0), .int x, .int i]) ++ List.replicate (9 - (lg_sl ([.ref (b 0), .int x, .int i])).length) Slot.unset).toArray = ls at hl ⊢
  have hl : lv_has ls 9 [(0, .ref (b 0)), (1, .int x), (2, .int i)] := hl
  have hn := hko.1
  have hm := hko.2.1
  have hk := hko.2.2
  have hl9 : (mL n mf q).length ≤ 16384 := mLL_len hn _ _ _ _ _ _ _ _ _ _ _ _
  refine lv_aload_n hx hb dX8_forces_0 rfl (lv_at hl 0 rfl) ?_
  refine lv_iconst (v := 0) hx hb dX8_forces_1 (by decide) ?_
  refine va_put (D := G.1) (ci := 10) (v := .int 0) (ty := .int) (C := RX8) (T := TX8) (N := 27) hx hb hts iX8_forces_X8 tyX8 tyX8_ok nmX8 hown hK hP hD hS 0 rfl rfl 0 (by decide) (hts _ fX8_forces_1) (fun _ h9 => h9) rfl (by decide +kernel) rfl rfl (Nat.le_of_ble_eq_true rfl) dX8_forces_2 (fun H locs hP hD hS => ?_)
  have hPD : PD G A [(oX8 (b 0) 0 (b 1) (b 2) (b 3) (b 4) (b 5) (b 6) (nI n) (b 8) (b 9) (b 10) (nI mf) (b 12) (b 13) (b 14) (nI cc) (bI kn) (b 17) (nI sc) (b 19) (nI fc) (b 21) (bI so) la lq (b 25) (nI wq)), (cI G (b 1) 15 (q 1)), (cI G (b 2) 15 (q 2)), (cZ G (b 3) 15 (q 3)), (cI G (b 4) 15 (q 4)), (cI G (b 5) 15 (q 5)), (cI G (b 6) 60 (q 6)), (cI G (b 8) 40 (q 8)), (cI G (b 9) 40 (q 9)), (cI G (b 10) 40 (q 10)), (cZ G (b 12) 4 (q 12)), (cI G (b 13) 4 (q 13)), (cI G (b 14) 14 (q 14)), (cI G (b 17) 16384 (q 17)), (cI G (b 19) 201 (q 19)), (cI G (b 21) 201 (q 21)), (cI G (b 25) 14 (q 25))] H := ⟨hP, hD⟩
  have hP := hPD.1
  have hD := hPD.2
  clear hPD
  refine lv_aload_n hx hb dX8_forces_5 rfl (lv_at hl 0 rfl) ?_
  refine lv_iload_n hx hb dX8_forces_6 rfl (lv_at hl 1 rfl) ?_
  refine cpV (ci := 10) (T0 := TX8) (N := 27) (As := [.int x]) (rest := []) ⟨hx, hb, hml, hown, hts⟩ (c_X8_isFeature l G b 0 n mf cc kn sc fc so la lq wq  x ) (cwV 1 hts gX8_forces_X8_isFeature rfl rfl rfl ⟨rfl, hd_X8_isFeature⟩ ⟨Nat.le_of_ble_eq_true rfl, Nat.le_of_ble_eq_true rfl⟩) hKK hP [0] rfl rfl rfl rfl hl.1 rfl (Nat.le_of_ble_eq_true rfl) dX8_forces_7 ⟨Nat.zero_le _, Nat.zero_le _⟩ ?_
  refine lv_if_ne (tgt := 15) hx hb dX8_forces_10 (by decide) (fun c_10 => ?_) (fun c_10 => ?_)
  · skip
    refine lv_aload_n hx hb dX8_forces_15 rfl (lv_at hl 0 rfl) ?_
    refine cnV (nw := 17) (ci := 10) (T0 := TX8) (N := 27) (As := []) (rest := []) ⟨hx, hb, hml, hown, hts⟩ (c_X8_know l G b 0 n mf cc kn sc fc so la lq wq (q 1) (q 2) (q 3) (q 4) (q 5) (q 6) (q 8) (q 9) (q 10) (q 12) (q 13) (q 17) (hn) (hm) (hk)) (cwV 0 hts gX8_forces_X8_know rfl rfl rfl ⟨rfl, hd_X8_know⟩ ⟨Nat.le_of_ble_eq_true rfl, Nat.le_of_ble_eq_true rfl⟩) hKK hP hD hS [0, 1, 2, 3, 4, 5, 6, 7, 8, 9, 10, 11, 13] [12, 14, 15, 16] (fun gu => [(oX8 (b 0) 0 (b 1) (b 2) (b 3) (b 4) (b 5) (b 6) (nI n) (b 8) (b 9) (b 10) (nI mf) (b 12) (b 13) (b 14) (nI cc) 1 (b 17) (nI (mL n mf q).length) (b 19) (nI fc) (b 21) (bI so) la lq (b 25) (nI wq)), (cI G (b 1) 15 (q 1)), (cI G (b 2) 15 (q 2)), (cZ G (b 3) 15 (q 3)), (cI G (b 4) 15 (q 4)), (cI G (b 5) 15 (q 5)), (cI G (b 6) 60 (q 6)), (cI G (b 8) 40 (q 8)), (cI G (b 9) 40 (q 9)), (cI G (b 10) 40 (q 10)), (cZ G (b 12) 4 (q 12)), (cI G (b 13) 4 (q 13)), (cI G (b 14) 14 (q 14)), (cI G (b 17) 16384 gu), (cI G (b 19) 201 (q 19)), (cI G (b 21) 201 (q 21)), (cI G (b 25) 14 (q 25))]) [some (cI G (b 14) 14 (q 14)), some (cI G (b 19) 201 (q 19)), some (cI G (b 21) 201 (q 21)), some (cI G (b 25) 14 (q 25))] [b 0, b 1, b 2, b 3, b 4, b 5, b 6, b 8, b 9, b 10, b 12, b 13, b 14, b 17, b 19, b 21, b 25] rfl (by decide) (by decide) rfl rfl rfl hl.1 rfl (Nat.le_of_ble_eq_true rfl) dX8_forces_16 ⟨Nat.zero_le _, Nat.zero_le _⟩ (fun _ => rfl) (fun _ => rfl) rfl (fun _ => rfl) rfl (fun _ => rfl) (fun gu H locs hgu hP hD hS => ?_)
    refine lv_iconst (v := -1) hx hb dX8_forces_19 (by decide) ?_
    refine lv_istore_n (lv' := [(3, .int (-1)), (0, .ref (b 0)), (1, .int x), (2, .int i)]) hx hb dX8_forces_20 rfl hl (by decide) rfl (fun ls hl => ?_)
    refine lv_iconst (v := 0) hx hb dX8_forces_21 (by decide) ?_
    refine lv_istore (lv' := [(4, .int 0), (3, .int (-1)), (0, .ref (b 0)), (1, .int x), (2, .int i)]) hx hb dX8_forces_22 hl (by decide) rfl (fun ls hl => ?_)
    refine lv_iconst (v := 0) hx hb dX8_forces_24 (by decide) ?_
    refine lv_istore (lv' := [(5, .int 0), (4, .int 0), (3, .int (-1)), (0, .ref (b 0)), (1, .int x), (2, .int i)]) hx hb dX8_forces_25 hl (by decide) rfl (fun ls hl => ?_)
    refine lv_iconst (v := 0) hx hb dX8_forces_27 (by decide) ?_
    refine lv_istore (lv' := [(6, .int 0), (5, .int 0), (4, .int 0), (3, .int (-1)), (0, .ref (b 0)), (1, .int x), (2, .int i)]) hx hb dX8_forces_28 hl (by decide) rfl (fun ls hl => ?_)
    refine loopJ (nL := 9) (I := fun (jx : Nat) => jx ≤ (mL n mf q).length) (μ := fun (jx : Nat) => (mL n mf q).length - jx) (lv := fun (jx : Nat) => [(0, .ref (b 0)), (1, .int x), (2, .int i), (3, .int (foldP (mfP n cc q x) (fun x y => x &&& y) (-1) (mL n mf q) jx)), (4, .int (foldP (mfP n cc q x) (fun x y => x ||| y) 0 (mL n mf q) jx)), (5, .int (bI (decide (0 < cmpN (mL n mf q) (mfP n cc q x) jx)))), (6, .int (nI jx))]) (pc' := 30) (fun xv9 hI ih_30 ls hl => ?_) 0 (Nat.zero_le _) ls (lv_sub hl [4, 5, 6, 3, 2, 1, 0] (by show ([(0, .ref (b 0)), (1, .int x), (2, .int i), (3, .int (-1)), (4, .int 0), (5, .int 0), (6, .int 0)] : List (Nat × Value)) = [(0, .ref (b 0)), (1, .int x), (2, .int i), (3, .int (foldP (mfP n cc q x) (fun x y => x &&& y) (-1) (mL n mf q) 0)), (4, .int (foldP (mfP n cc q x) (fun x y => x ||| y) 0 (mL n mf q) 0)), (5, .int (bI (decide (0 < cmpN (mL n mf q) (mfP n cc q x) 0)))), (6, .int (nI 0))]; rw [cmpN_0]; rfl))
    obtain ⟨jx, rfl⟩ : ∃ y, y = xv9 := ⟨_, rfl⟩
    have hI : jx ≤ (mL n mf q).length := hI
    have hl : lv_has ls 9 [(0, .ref (b 0)), (1, .int x), (2, .int i), (3, .int (foldP (mfP n cc q x) (fun x y => x &&& y) (-1) (mL n mf q) jx)), (4, .int (foldP (mfP n cc q x) (fun x y => x ||| y) 0 (mL n mf q) jx)), (5, .int (bI (decide (0 < cmpN (mL n mf q) (mfP n cc q x) jx)))), (6, .int (nI jx))] := hl
    refine lv_iload hx hb dX8_forces_30 (lv_at hl 6 rfl) ?_
    refine lv_aload_n hx hb dX8_forces_32 rfl (lv_at hl 0 rfl) ?_
    refine va_get (D := G.1) (ci := 10) (v := .int (nI (mL n mf q).length)) (C := RX8) (T := TX8) (N := 27) hx hb hts iX8_forces_X8 hown hK hP 0 rfl rfl 18 (by decide) (hts _ fX8_forces_2) (fun _ h9 => h9) rfl dX8_forces_33 ?_
    refine lv_icmp_ge (tgt := 100) hx hb dX8_forces_36 (by decide) (fun c_36 => ?_) (fun c_36 => ?_)
    · skip
      have hj : jx = (mL n mf q).length := by have := (nI_leI (a := (mL n mf q).length) (b := jx) (by omega) (by omega)).mp c_36; omega
      have eAl : (foldP (mfP n cc q x) (fun x y => x &&& y) (-1) (mL n mf q) jx) = mAll n mf cc q x := by rw [hj]; rfl
      have eSo : (foldP (mfP n cc q x) (fun x y => x ||| y) 0 (mL n mf q) jx) = mSome n mf cc q x := by rw [hj]; rfl
      have eAn : cmpN (mL n mf q) (mfP n cc q x) jx = ((mL n mf q).filter (mfP n cc q x)).length := by rw [hj, cmpN_end]
      refine lv_iload_n hx hb dX8_forces_100 rfl (lv_at hl 2 rfl) ?_
      refine lv_istore (lv' := [(6, .int i), (0, .ref (b 0)), (1, .int x), (2, .int i), (3, .int (foldP (mfP n cc q x) (fun x y => x &&& y) (-1) (mL n mf q) jx)), (4, .int (foldP (mfP n cc q x) (fun x y => x ||| y) 0 (mL n mf q) jx)), (5, .int (bI (decide (0 < cmpN (mL n mf q) (mfP n cc q x) jx))))]) hx hb dX8_forces_101 hl (by decide) rfl (fun ls hl => ?_)
      refine lv_iconst (v := 1) hx hb dX8_forces_103 (by decide) ?_
      refine lv_istore (lv' := [(7, .int 1), (6, .int i), (0, .ref (b 0)), (1, .int x), (2, .int i), (3, .int (foldP (mfP n cc q x) (fun x y => x &&& y) (-1) (mL n mf q) jx)), (4, .int (foldP (mfP n cc q x) (fun x y => x ||| y) 0 (mL n mf q) jx)), (5, .int (bI (decide (0 < cmpN (mL n mf q) (mfP n cc q x) jx))))]) hx hb dX8_forces_104 hl (by decide) rfl (fun ls hl => ?_)
      refine loopJ (nL := 9) (I := fun (xv9 : Nat × Int32) => (fun (gx : Nat) (lx : Int32) => gx ≤ n ∧ (0 < cmpN (mL n mf q) (mfP n cc q x) jx → ¬ i < 0 → cntU (mHit n (mAll n mf cc q x) (mSome n mf cc q x) x) gx ≤ i.toNatClampNeg ∧ lx = nI (i.toNatClampNeg - cntU (mHit n (mAll n mf cc q x) (mSome n mf cc q x) x) gx) ∧ nthF (mHit n (mAll n mf cc q x) (mSome n mf cc q x) x) (mVal n (mAll n mf cc q x)) i.toNatClampNeg n 0 = nthF (mHit n (mAll n mf cc q x) (mSome n mf cc q x) x) (mVal n (mAll n mf cc q x)) i.toNatClampNeg (n - gx) gx) ∧ (cntU (mHit n (mAll n mf cc q x) (mSome n mf cc q x) x) gx = 0 ∨ (0 < cmpN (mL n mf q) (mfP n cc q x) jx ∧ ¬ i < 0))) xv9.1 xv9.2) (μ := fun (xv9 : Nat × Int32) => (fun (gx : Nat) (lx : Int32) => n - gx) xv9.1 xv9.2) (lv := fun (xv9 : Nat × Int32) => (fun (gx : Nat) (lx : Int32) => [(0, .ref (b 0)), (1, .int x), (2, .int i), (3, .int (foldP (mfP n cc q x) (fun x y => x &&& y) (-1) (mL n mf q) jx)), (4, .int (foldP (mfP n cc q x) (fun x y => x ||| y) 0 (mL n mf q) jx)), (5, .int (bI (decide (0 < cmpN (mL n mf q) (mfP n cc q x) jx)))), (6, .int lx), (7, .int (nI (gx + 1)))]) xv9.1 xv9.2) (pc' := 106) (fun xv9 hI ih_106 ls hl => ?_) (⟨0, i⟩) (⟨Nat.zero_le _, fun h1 h2 => ⟨Nat.zero_le _, (nI_of h2).elim (fun j hj => by rw [hj.2, nI_clamp hj.1]; rfl), rfl⟩, Or.inl rfl⟩) ls (lv_sub hl [2, 3, 4, 5, 6, 7, 1, 0] rfl)
      obtain ⟨gx, lx⟩ := xv9
      have hI : gx ≤ n ∧ (0 < cmpN (mL n mf q) (mfP n cc q x) jx → ¬ i < 0 → cntU (mHit n (mAll n mf cc q x) (mSome n mf cc q x) x) gx ≤ i.toNatClampNeg ∧ lx = nI (i.toNatClampNeg - cntU (mHit n (mAll n mf cc q x) (mSome n mf cc q x) x) gx) ∧ nthF (mHit n (mAll n mf cc q x) (mSome n mf cc q x) x) (mVal n (mAll n mf cc q x)) i.toNatClampNeg n 0 = nthF (mHit n (mAll n mf cc q x) (mSome n mf cc q x) x) (mVal n (mAll n mf cc q x)) i.toNatClampNeg (n - gx) gx) ∧ (cntU (mHit n (mAll n mf cc q x) (mSome n mf cc q x) x) gx = 0 ∨ (0 < cmpN (mL n mf q) (mfP n cc q x) jx ∧ ¬ i < 0)) := hI
      have hl : lv_has ls 9 [(0, .ref (b 0)), (1, .int x), (2, .int i), (3, .int (foldP (mfP n cc q x) (fun x y => x &&& y) (-1) (mL n mf q) jx)), (4, .int (foldP (mfP n cc q x) (fun x y => x ||| y) 0 (mL n mf q) jx)), (5, .int (bI (decide (0 < cmpN (mL n mf q) (mfP n cc q x) jx)))), (6, .int lx), (7, .int (nI (gx + 1)))] := hl
      have hI1 := hI.1
      refine lv_iload hx hb dX8_forces_106 (lv_at hl 7 rfl) ?_
      refine lv_aload_n hx hb dX8_forces_108 rfl (lv_at hl 0 rfl) ?_
      refine va_get (D := G.1) (ci := 10) (v := .int (nI n)) (C := RX8) (T := TX8) (N := 27) hx hb hts iX8_forces_X8 hown hK hP 0 rfl rfl 7 (by decide) (hts _ fX8_forces_3) (fun _ h9 => h9) rfl dX8_forces_109 ?_
      refine lv_icmp_gt (tgt := 183) hx hb dX8_forces_112 (by decide) (fun c_112 => ?_) (fun c_112 => ?_)
      · skip
        have hg : gx = n := by have := (nI_ltI (a := n) (b := gx + 1) (by omega) (by omega)).mp c_112; omega
        have hend : (0 : Int32) = mForcesV n mf cc q x i := by
          unfold mForcesV
          by_cases z1 : ((mL n mf q).filter (mfP n cc q x)).length = 0
          · rw [if_pos z1]
          · rw [if_neg z1]
            by_cases z2 : i < 0
            · rw [if_pos z2]
            · rw [if_neg z2, (hI.2.1 (by omega) z2).2.2, hg, Nat.sub_self]; rfl
        refine lv_iconst (v := 0) hx hb dX8_forces_183 (by decide) ?_
        exact greti hx hb hr hlocks rfl hAe hS (⟨mForcesV n mf cc q x i, (0, n, mf, cc, true, (mL n mf q).length, fc, so, la, lq, wq, upR q 17 gu)⟩) (by rw [hend]) (by unfold mForces; rw [if_pos (bI_n0 c_10)]; exact ⟨gu, hgu, rfl⟩) (hP) dX8_forces_184
      · skip
        have hg : gx < n := by have := mt (nI_ltI (a := n) (b := gx + 1) (by omega) (by omega)).mpr c_112; omega
        refine lv_iload hx hb dX8_forces_115 (lv_at hl 5 rfl) ?_
        refine lv_if_eq (tgt := 183) hx hb dX8_forces_117 (by decide) (fun c_117 => ?_) (fun c_117 => ?_)
        · skip
          have hend : (0 : Int32) = mForcesV n mf cc q x i := by
            unfold mForcesV
            have h9 := of_decide_eq_false (bI_0.mp c_117)
            rw [if_pos (by omega)]
          refine lv_iconst (v := 0) hx hb dX8_forces_183 (by decide) ?_
          exact greti hx hb hr hlocks rfl hAe hS (⟨mForcesV n mf cc q x i, (0, n, mf, cc, true, (mL n mf q).length, fc, so, la, lq, wq, upR q 17 gu)⟩) (by rw [hend]) (by unfold mForces; rw [if_pos (bI_n0 c_10)]; exact ⟨gu, hgu, rfl⟩) (hP) dX8_forces_184
        · skip
          have han : 0 < cmpN (mL n mf q) (mfP n cc q x) jx := of_decide_eq_true (bI_n0 c_117)
          refine lv_iload_n hx hb dX8_forces_120 rfl (lv_at hl 2 rfl) ?_
          refine lv_if_lt (tgt := 183) hx hb dX8_forces_121 (by decide) (fun c_121 => ?_) (fun c_121 => ?_)
          · skip
            have hend : (0 : Int32) = mForcesV n mf cc q x i := by
              unfold mForcesV
              rw [if_neg (by omega), if_pos c_121]
            refine lv_iconst (v := 0) hx hb dX8_forces_183 (by decide) ?_
            exact greti hx hb hr hlocks rfl hAe hS (⟨mForcesV n mf cc q x i, (0, n, mf, cc, true, (mL n mf q).length, fc, so, la, lq, wq, upR q 17 gu)⟩) (by rw [hend]) (by unfold mForces; rw [if_pos (bI_n0 c_10)]; exact ⟨gu, hgu, rfl⟩) (hP) dX8_forces_184
          · skip
            have hi0 : ¬ i < 0 := c_121
            have hbk := hI.2.1 han hi0
            have hfv : mForcesV n mf cc q x i = nthF (mHit n (mAll n mf cc q x) (mSome n mf cc q x) x) (mVal n (mAll n mf cc q x)) i.toNatClampNeg (n - gx) gx := by
              unfold mForcesV
              rw [if_neg (by omega), if_neg hi0]
              exact hbk.2.2
            refine lv_aload_n hx hb dX8_forces_124 rfl (lv_at hl 0 rfl) ?_
            refine lv_iload_n hx hb dX8_forces_125 rfl (lv_at hl 3 rfl) ?_
            refine lv_iload hx hb dX8_forces_126 (lv_at hl 7 rfl) ?_
            refine cpV (ci := 10) (T0 := TX8) (N := 27) (As := [.int (foldP (mfP n cc q x) (fun x y => x &&& y) (-1) (mL n mf q) jx), .int (nI (gx + 1))]) (rest := []) ⟨hx, hb, hml, hown, hts⟩ (c_X8_isIn l G b 0 n mf cc true ((mL n mf q).length) fc so la lq wq  (foldP (mfP n cc q x) (fun x y => x &&& y) (-1) (mL n mf q) jx) (nI (gx + 1)) ) (cwV 2 hts gX8_forces_X8_isIn rfl rfl rfl ⟨rfl, hd_X8_isIn⟩ ⟨Nat.le_of_ble_eq_true rfl, Nat.le_of_ble_eq_true rfl⟩) hKK hP [0] rfl rfl rfl rfl hl.1 rfl (Nat.le_of_ble_eq_true rfl) dX8_forces_128 ⟨Nat.zero_le _, Nat.zero_le _⟩ ?_
            refine lv_istore (lv' := [(8, .int (bI (isInB (nI n) (foldP (mfP n cc q x) (fun x y => x &&& y) (-1) (mL n mf q) jx) (nI (gx + 1))))), (0, .ref (b 0)), (1, .int x), (2, .int i), (3, .int (foldP (mfP n cc q x) (fun x y => x &&& y) (-1) (mL n mf q) jx)), (4, .int (foldP (mfP n cc q x) (fun x y => x ||| y) 0 (mL n mf q) jx)), (5, .int (bI (decide (0 < cmpN (mL n mf q) (mfP n cc q x) jx)))), (6, .int lx), (7, .int (nI (gx + 1)))]) hx hb dX8_forces_131 hl (by decide) rfl (fun ls hl => ?_)
            refine lv_iload hx hb dX8_forces_133 (lv_at hl 8 rfl) ?_
            refine lv_iload_n hx hb dX8_forces_135 rfl (lv_at hl 2 rfl) ?_
            refine lv_icmp_eq (tgt := 177) hx hb dX8_forces_136 (by decide) (fun c_136 => ?_) (fun c_136 => ?_)
            · skip
              have hhit : (mHit n (mAll n mf cc q x) (mSome n mf cc q x) x) (gx + 1) = false := if_pos c_136
              refine lv_iinc (v := nI (gx + 1 + 1)) (lv' := [(7, .int (nI (gx + 1 + 1))), (8, .int (bI (isInB (nI n) (foldP (mfP n cc q x) (fun x y => x &&& y) (-1) (mL n mf q) jx) (nI (gx + 1))))), (0, .ref (b 0)), (1, .int x), (2, .int i), (3, .int (foldP (mfP n cc q x) (fun x y => x &&& y) (-1) (mL n mf q) jx)), (4, .int (foldP (mfP n cc q x) (fun x y => x ||| y) 0 (mL n mf q) jx)), (5, .int (bI (decide (0 < cmpN (mL n mf q) (mfP n cc q x) jx)))), (6, .int lx)]) hx hb dX8_forces_177 hl (k := 8) rfl (nI_1 (gx + 1)) (by decide) rfl (fun ls hl => ?_)
              refine lv_goto (tgt := 106) hx hb dX8_forces_180 (by decide) ?_
              exact ih_106 (⟨gx + 1, lx⟩) (⟨hg, fun h1 h2 => ⟨by rw [cntU_f hhit]; exact hbk.1, by rw [cntU_f hhit]; exact hbk.2.1, by rw [hbk.2.2, nthF_no (by omega) hhit, show n - gx - 1 = n - (gx + 1) by omega]⟩, Or.inr ⟨han, hi0⟩⟩) (by show n - (gx + 1) < n - gx; omega) ls (lv_sub hl [2, 3, 4, 5, 6, 7, 8, 0] rfl)
            · skip
              refine lv_iload hx hb dX8_forces_139 (lv_at hl 0 rfl) ?_
              refine lv_if_ne (tgt := 155) hx hb dX8_forces_141 (by decide) (fun c_141 => ?_) (fun c_141 => ?_)
              · skip
                have hhit : (mHit n (mAll n mf cc q x) (mSome n mf cc q x) x) (gx + 1) = true := by unfold mHit; rw [if_neg c_136, ← eAl, if_pos (bI_n0 c_141)]
                refine lv_iload hx hb dX8_forces_155 (lv_at hl 7 rfl) ?_
                refine lv_if_ne (tgt := 174) hx hb dX8_forces_157 (by decide) (fun c_157 => ?_) (fun c_157 => ?_)
                · skip
                  have hne : ¬ cntU (mHit n (mAll n mf cc q x) (mSome n mf cc q x) x) gx = i.toNatClampNeg := fun z => c_157 (by rw [hbk.2.1, z, Nat.sub_self]; rfl)
                  have hb1 := hbk.1
                  refine lv_iinc (v := nI (i.toNatClampNeg - cntU (mHit n (mAll n mf cc q x) (mSome n mf cc q x) x) (gx + 1))) (lv' := [(6, .int (nI (i.toNatClampNeg - cntU (mHit n (mAll n mf cc q x) (mSome n mf cc q x) x) (gx + 1)))), (8, .int (bI (isInB (nI n) (foldP (mfP n cc q x) (fun x y => x &&& y) (-1) (mL n mf q) jx) (nI (gx + 1))))), (0, .ref (b 0)), (1, .int x), (2, .int i), (3, .int (foldP (mfP n cc q x) (fun x y => x &&& y) (-1) (mL n mf q) jx)), (4, .int (foldP (mfP n cc q x) (fun x y => x ||| y) 0 (mL n mf q) jx)), (5, .int (bI (decide (0 < cmpN (mL n mf q) (mfP n cc q x) jx)))), (7, .int (nI (gx + 1)))]) hx hb dX8_forces_174 hl (k := 7) rfl (by rw [hbk.2.1, cntU_t hhit]; show _ + (-1 : Int32) = _; rw [sb_m1 (by omega)]; rfl) (by decide) rfl (fun ls hl => ?_)
                  refine lv_iinc (v := nI (gx + 1 + 1)) (lv' := [(7, .int (nI (gx + 1 + 1))), (6, .int (nI (i.toNatClampNeg - cntU (mHit n (mAll n mf cc q x) (mSome n mf cc q x) x) (gx + 1)))), (8, .int (bI (isInB (nI n) (foldP (mfP n cc q x) (fun x y => x &&& y) (-1) (mL n mf q) jx) (nI (gx + 1))))), (0, .ref (b 0)), (1, .int x), (2, .int i), (3, .int (foldP (mfP n cc q x) (fun x y => x &&& y) (-1) (mL n mf q) jx)), (4, .int (foldP (mfP n cc q x) (fun x y => x ||| y) 0 (mL n mf q) jx)), (5, .int (bI (decide (0 < cmpN (mL n mf q) (mfP n cc q x) jx))))]) hx hb dX8_forces_177 hl (k := 8) rfl (nI_1 (gx + 1)) (by decide) rfl (fun ls hl => ?_)
                  refine lv_goto (tgt := 106) hx hb dX8_forces_180 (by decide) ?_
                  exact ih_106 (⟨gx + 1, nI (i.toNatClampNeg - cntU (mHit n (mAll n mf cc q x) (mSome n mf cc q x) x) (gx + 1))⟩) (⟨hg, fun h1 h2 => ⟨by rw [cntU_t hhit]; omega, rfl, by rw [hbk.2.2, nthF_ne (by omega) hhit (by omega), show n - gx - 1 = n - (gx + 1) by omega]⟩, Or.inr ⟨han, hi0⟩⟩) (by show n - (gx + 1) < n - gx; omega) ls (lv_sub hl [3, 4, 5, 6, 7, 8, 1, 0] rfl)
                · skip
                  have hb1 := hbk.1
                  have heq : cntU (mHit n (mAll n mf cc q x) (mSome n mf cc q x) x) gx = i.toNatClampNeg := by have h9 := c_157; rw [hbk.2.1] at h9; have h8 := (nI_eq0 (by have := i.toNatClampNeg_lt; omega)).mp h9; omega
                  have hv9 : mForcesV n mf cc q x i = (mVal n (mAll n mf cc q x)) (gx + 1) := by rw [hfv, nthF_eq (by omega) hhit heq]
                  refine lv_iload hx hb dX8_forces_160 (lv_at hl 0 rfl) ?_
                  refine lv_if_eq (tgt := 170) hx hb dX8_forces_162 (by decide) (fun c_162 => ?_) (fun c_162 => ?_)
                  · exact absurd c_162 c_141
                  · skip
                    have hval : nI (gx + 1) = mForcesV n mf cc q x i := by rw [hv9]; unfold mVal; rw [← eAl, if_pos (bI_n0 c_141)]
                    refine lv_iload hx hb dX8_forces_165 (lv_at hl 8 rfl) ?_
                    refine lv_goto (tgt := 173) hx hb dX8_forces_167 (by decide) ?_
                    exact greti hx hb hr hlocks rfl hAe hS (⟨mForcesV n mf cc q x i, (0, n, mf, cc, true, (mL n mf q).length, fc, so, la, lq, wq, upR q 17 gu)⟩) (by rw [hval]) (by unfold mForces; rw [if_pos (bI_n0 c_10)]; exact ⟨gu, hgu, rfl⟩) (hP) dX8_forces_173
              · skip
                refine lv_aload_n hx hb dX8_forces_144 rfl (lv_at hl 1 rfl) ?_
                refine lv_iload hx hb dX8_forces_145 (lv_at hl 5 rfl) ?_
                refine lv_iload hx hb dX8_forces_147 (lv_at hl 8 rfl) ?_
                refine cpV (ci := 10) (T0 := TX8) (N := 27) (As := [.int (foldP (mfP n cc q x) (fun x y => x ||| y) 0 (mL n mf q) jx), .int (nI (gx + 1))]) (rest := []) ⟨hx, hb, hml, hown, hts⟩ (c_X8_isIn l G b 0 n mf cc true ((mL n mf q).length) fc so la lq wq  (foldP (mfP n cc q x) (fun x y => x ||| y) 0 (mL n mf q) jx) (nI (gx + 1)) ) (cwV 2 hts gX8_forces_X8_isIn rfl rfl rfl ⟨rfl, hd_X8_isIn⟩ ⟨Nat.le_of_ble_eq_true rfl, Nat.le_of_ble_eq_true rfl⟩) hKK hP [0] rfl rfl rfl rfl hl.1 rfl (Nat.le_of_ble_eq_true rfl) dX8_forces_149 ⟨Nat.zero_le _, Nat.zero_le _⟩ ?_
                refine lv_if_ne (tgt := 177) hx hb dX8_forces_152 (by decide) (fun c_152 => ?_) (fun c_152 => ?_)
                · skip
                  have hhit : (mHit n (mAll n mf cc q x) (mSome n mf cc q x) x) (gx + 1) = false := by unfold mHit; rw [if_neg c_136, ← eAl, if_neg (by rw [bI_0.mp c_141]; decide), ← eSo, bI_n0 c_152]; rfl
                  refine lv_iinc (v := nI (gx + 1 + 1)) (lv' := [(7, .int (nI (gx + 1 + 1))), (8, .int (bI (isInB (nI n) (foldP (mfP n cc q x) (fun x y => x &&& y) (-1) (mL n mf q) jx) (nI (gx + 1))))), (0, .ref (b 0)), (1, .int x), (2, .int i), (3, .int (foldP (mfP n cc q x) (fun x y => x &&& y) (-1) (mL n mf q) jx)), (4, .int (foldP (mfP n cc q x) (fun x y => x ||| y) 0 (mL n mf q) jx)), (5, .int (bI (decide (0 < cmpN (mL n mf q) (mfP n cc q x) jx)))), (6, .int lx)]) hx hb dX8_forces_177 hl (k := 8) rfl (nI_1 (gx + 1)) (by decide) rfl (fun ls hl => ?_)
                  refine lv_goto (tgt := 106) hx hb dX8_forces_180 (by decide) ?_
                  exact ih_106 (⟨gx + 1, lx⟩) (⟨hg, fun h1 h2 => ⟨by rw [cntU_f hhit]; exact hbk.1, by rw [cntU_f hhit]; exact hbk.2.1, by rw [hbk.2.2, nthF_no (by omega) hhit, show n - gx - 1 = n - (gx + 1) by omega]⟩, Or.inr ⟨han, hi0⟩⟩) (by show n - (gx + 1) < n - gx; omega) ls (lv_sub hl [2, 3, 4, 5, 6, 7, 8, 0] rfl)
                · skip
                  have hhit : (mHit n (mAll n mf cc q x) (mSome n mf cc q x) x) (gx + 1) = true := by unfold mHit; rw [if_neg c_136, ← eAl, if_neg (by rw [bI_0.mp c_141]; decide), ← eSo, bI_0.mp c_152]; rfl
                  refine lv_iload hx hb dX8_forces_155 (lv_at hl 7 rfl) ?_
                  refine lv_if_ne (tgt := 174) hx hb dX8_forces_157 (by decide) (fun c_157 => ?_) (fun c_157 => ?_)
                  · skip
                    have hne : ¬ cntU (mHit n (mAll n mf cc q x) (mSome n mf cc q x) x) gx = i.toNatClampNeg := fun z => c_157 (by rw [hbk.2.1, z, Nat.sub_self]; rfl)
                    have hb1 := hbk.1
                    refine lv_iinc (v := nI (i.toNatClampNeg - cntU (mHit n (mAll n mf cc q x) (mSome n mf cc q x) x) (gx + 1))) (lv' := [(6, .int (nI (i.toNatClampNeg - cntU (mHit n (mAll n mf cc q x) (mSome n mf cc q x) x) (gx + 1)))), (8, .int (bI (isInB (nI n) (foldP (mfP n cc q x) (fun x y => x &&& y) (-1) (mL n mf q) jx) (nI (gx + 1))))), (0, .ref (b 0)), (1, .int x), (2, .int i), (3, .int (foldP (mfP n cc q x) (fun x y => x &&& y) (-1) (mL n mf q) jx)), (4, .int (foldP (mfP n cc q x) (fun x y => x ||| y) 0 (mL n mf q) jx)), (5, .int (bI (decide (0 < cmpN (mL n mf q) (mfP n cc q x) jx)))), (7, .int (nI (gx + 1)))]) hx hb dX8_forces_174 hl (k := 7) rfl (by rw [hbk.2.1, cntU_t hhit]; show _ + (-1 : Int32) = _; rw [sb_m1 (by omega)]; rfl) (by decide) rfl (fun ls hl => ?_)
                    refine lv_iinc (v := nI (gx + 1 + 1)) (lv' := [(7, .int (nI (gx + 1 + 1))), (6, .int (nI (i.toNatClampNeg - cntU (mHit n (mAll n mf cc q x) (mSome n mf cc q x) x) (gx + 1)))), (8, .int (bI (isInB (nI n) (foldP (mfP n cc q x) (fun x y => x &&& y) (-1) (mL n mf q) jx) (nI (gx + 1))))), (0, .ref (b 0)), (1, .int x), (2, .int i), (3, .int (foldP (mfP n cc q x) (fun x y => x &&& y) (-1) (mL n mf q) jx)), (4, .int (foldP (mfP n cc q x) (fun x y => x ||| y) 0 (mL n mf q) jx)), (5, .int (bI (decide (0 < cmpN (mL n mf q) (mfP n cc q x) jx))))]) hx hb dX8_forces_177 hl (k := 8) rfl (nI_1 (gx + 1)) (by decide) rfl (fun ls hl => ?_)
                    refine lv_goto (tgt := 106) hx hb dX8_forces_180 (by decide) ?_
                    exact ih_106 (⟨gx + 1, nI (i.toNatClampNeg - cntU (mHit n (mAll n mf cc q x) (mSome n mf cc q x) x) (gx + 1))⟩) (⟨hg, fun h1 h2 => ⟨by rw [cntU_t hhit]; omega, rfl, by rw [hbk.2.2, nthF_ne (by omega) hhit (by omega), show n - gx - 1 = n - (gx + 1) by omega]⟩, Or.inr ⟨han, hi0⟩⟩) (by show n - (gx + 1) < n - gx; omega) ls (lv_sub hl [3, 4, 5, 6, 7, 8, 1, 0] rfl)
                  · skip
                    have hb1 := hbk.1
                    have heq : cntU (mHit n (mAll n mf cc q x) (mSome n mf cc q x) x) gx = i.toNatClampNeg := by have h9 := c_157; rw [hbk.2.1] at h9; have h8 := (nI_eq0 (by have := i.toNatClampNeg_lt; omega)).mp h9; omega
                    have hv9 : mForcesV n mf cc q x i = (mVal n (mAll n mf cc q x)) (gx + 1) := by rw [hfv, nthF_eq (by omega) hhit heq]
                    refine lv_iload hx hb dX8_forces_160 (lv_at hl 0 rfl) ?_
                    refine lv_if_eq (tgt := 170) hx hb dX8_forces_162 (by decide) (fun c_162 => ?_) (fun c_162 => ?_)
                    · skip
                      have hval : -nI (gx + 1) = mForcesV n mf cc q x i := by rw [hv9]; unfold mVal; rw [← eAl, if_neg (by rw [bI_0.mp c_141]; decide)]
                      refine lv_iload hx hb dX8_forces_170 (lv_at hl 8 rfl) ?_
                      refine lv_ineg hx hb dX8_forces_172 ?_
                      exact greti hx hb hr hlocks rfl hAe hS (⟨mForcesV n mf cc q x i, (0, n, mf, cc, true, (mL n mf q).length, fc, so, la, lq, wq, upR q 17 gu)⟩) (by rw [hval]) (by unfold mForces; rw [if_pos (bI_n0 c_10)]; exact ⟨gu, hgu, rfl⟩) (hP) dX8_forces_173
                    · exact absurd c_141 c_162
    · skip
      have hj : jx < (mL n mf q).length := Nat.lt_of_not_le (fun z => c_36 ((nI_leI (a := (mL n mf q).length) (b := jx) (by omega) (by omega)).mpr z))
      refine lv_aload_n hx hb dX8_forces_39 rfl (lv_at hl 0 rfl) ?_
      refine lv_aload_n hx hb dX8_forces_40 rfl (lv_at hl 0 rfl) ?_
      refine va_get (D := G.1) (ci := 10) (v := .ref (b 17)) (C := RX8) (T := TX8) (N := 27) hx hb hts iX8_forces_X8 hown hK hP 0 rfl rfl 17 (by decide) (hts _ fX8_forces_4) (fun _ h9 => h9) rfl dX8_forces_41 ?_
      refine lv_iload hx hb dX8_forces_44 (lv_at hl 6 rfl) ?_
      refine aldI hx hb hK hP 13 (k := jx) rfl (rfl) (by omega) (by decide) dX8_forces_46 ?_
      refine stI (y := (mL n mf q).getD jx 0) (hgu jx hj) ?_
      refine lv_iload_n hx hb dX8_forces_47 rfl (lv_at hl 1 rfl) ?_
      refine cpV (ci := 10) (T0 := TX8) (N := 27) (As := [.int ((mL n mf q).getD jx 0), .int x]) (rest := []) ⟨hx, hb, hml, hown, hts⟩ (c_X8_isIn l G b 0 n mf cc true ((mL n mf q).length) fc so la lq wq  ((mL n mf q).getD jx 0) x ) (cwV 2 hts gX8_forces_X8_isIn rfl rfl rfl ⟨rfl, hd_X8_isIn⟩ ⟨Nat.le_of_ble_eq_true rfl, Nat.le_of_ble_eq_true rfl⟩) hKK hP [0] rfl rfl rfl rfl hl.1 rfl (Nat.le_of_ble_eq_true rfl) dX8_forces_48 ⟨Nat.zero_le _, Nat.zero_le _⟩ ?_
      refine lv_if_eq (tgt := 94) hx hb dX8_forces_51 (by decide) (fun c_51 => ?_) (fun c_51 => ?_)
      · skip
        have hd : (mfP n cc q x) ((mL n mf q).getD jx 0) = false := by unfold mfP; rw [bI_0.mp c_51]; rfl
        refine lv_iinc (v := nI (jx + 1)) (lv' := [(6, .int (nI (jx + 1))), (0, .ref (b 0)), (1, .int x), (2, .int i), (3, .int (foldP (mfP n cc q x) (fun x y => x &&& y) (-1) (mL n mf q) jx)), (4, .int (foldP (mfP n cc q x) (fun x y => x ||| y) 0 (mL n mf q) jx)), (5, .int (bI (decide (0 < cmpN (mL n mf q) (mfP n cc q x) jx))))]) hx hb dX8_forces_94 hl (k := 6) rfl (nI_1 jx) (by decide) rfl (fun ls hl => ?_)
        refine lv_goto (tgt := 30) hx hb dX8_forces_97 (by decide) ?_
        exact ih_30 (jx + 1) (hj) (by show (mL n mf q).length - (jx + 1) < (mL n mf q).length - jx; omega) ls (lv_sub hl [1, 2, 3, 4, 5, 6, 0] (by show ([(0, .ref (b 0)), (1, .int x), (2, .int i), (3, .int (foldP (mfP n cc q x) (fun x y => x &&& y) (-1) (mL n mf q) jx)), (4, .int (foldP (mfP n cc q x) (fun x y => x ||| y) 0 (mL n mf q) jx)), (5, .int (bI (decide (0 < cmpN (mL n mf q) (mfP n cc q x) jx)))), (6, .int (nI (jx + 1)))] : List (Nat × Value)) = [(0, .ref (b 0)), (1, .int x), (2, .int i), (3, .int (foldP (mfP n cc q x) (fun x y => x &&& y) (-1) (mL n mf q) (jx + 1))), (4, .int (foldP (mfP n cc q x) (fun x y => x ||| y) 0 (mL n mf q) (jx + 1))), (5, .int (bI (decide (0 < cmpN (mL n mf q) (mfP n cc q x) (jx + 1))))), (6, .int (nI (jx + 1)))]; rw [foldP_f hj hd, foldP_f hj hd, cmpN_drop hj hd]))
      · skip
        refine lv_aload_n hx hb dX8_forces_54 rfl (lv_at hl 0 rfl) ?_
        refine lv_aload_n hx hb dX8_forces_55 rfl (lv_at hl 0 rfl) ?_
        refine va_get (D := G.1) (ci := 10) (v := .ref (b 17)) (C := RX8) (T := TX8) (N := 27) hx hb hts iX8_forces_X8 hown hK hP 0 rfl rfl 17 (by decide) (hts _ fX8_forces_4) (fun _ h9 => h9) rfl dX8_forces_56 ?_
        refine lv_iload hx hb dX8_forces_59 (lv_at hl 6 rfl) ?_
        refine aldI hx hb hK hP 13 (k := jx) rfl (rfl) (by omega) (by decide) dX8_forces_61 ?_
        refine stI (y := (mL n mf q).getD jx 0) (hgu jx hj) ?_
        refine lv_iconst (v := 0) hx hb dX8_forces_62 (by decide) ?_
        refine cpV (ci := 10) (T0 := TX8) (N := 27) (As := [.int ((mL n mf q).getD jx 0), .int 0]) (rest := []) ⟨hx, hb, hml, hown, hts⟩ (c_X8_keepsChoices l G b 0 n mf cc true ((mL n mf q).length) fc so la lq wq (q 14) ((mL n mf q).getD jx 0) 0 (hc)) (cwV 2 hts gX8_forces_X8_keepsChoices rfl rfl rfl ⟨rfl, hd_X8_keepsChoices⟩ ⟨Nat.le_of_ble_eq_true rfl, Nat.le_of_ble_eq_true rfl⟩) hKK hP [0, 12] rfl rfl rfl rfl hl.1 rfl (Nat.le_of_ble_eq_true rfl) dX8_forces_63 ⟨Nat.zero_le _, Nat.zero_le _⟩ ?_
        refine lv_if_eq (tgt := 94) hx hb dX8_forces_66 (by decide) (fun c_66 => ?_) (fun c_66 => ?_)
        · skip
          have hd : (mfP n cc q x) ((mL n mf q).getD jx 0) = false := by unfold mfP; rw [bI_n0 c_51, bI_0.mp c_66]; rfl
          refine lv_iinc (v := nI (jx + 1)) (lv' := [(6, .int (nI (jx + 1))), (0, .ref (b 0)), (1, .int x), (2, .int i), (3, .int (foldP (mfP n cc q x) (fun x y => x &&& y) (-1) (mL n mf q) jx)), (4, .int (foldP (mfP n cc q x) (fun x y => x ||| y) 0 (mL n mf q) jx)), (5, .int (bI (decide (0 < cmpN (mL n mf q) (mfP n cc q x) jx))))]) hx hb dX8_forces_94 hl (k := 6) rfl (nI_1 jx) (by decide) rfl (fun ls hl => ?_)
          refine lv_goto (tgt := 30) hx hb dX8_forces_97 (by decide) ?_
          exact ih_30 (jx + 1) (hj) (by show (mL n mf q).length - (jx + 1) < (mL n mf q).length - jx; omega) ls (lv_sub hl [1, 2, 3, 4, 5, 6, 0] (by show ([(0, .ref (b 0)), (1, .int x), (2, .int i), (3, .int (foldP (mfP n cc q x) (fun x y => x &&& y) (-1) (mL n mf q) jx)), (4, .int (foldP (mfP n cc q x) (fun x y => x ||| y) 0 (mL n mf q) jx)), (5, .int (bI (decide (0 < cmpN (mL n mf q) (mfP n cc q x) jx)))), (6, .int (nI (jx + 1)))] : List (Nat × Value)) = [(0, .ref (b 0)), (1, .int x), (2, .int i), (3, .int (foldP (mfP n cc q x) (fun x y => x &&& y) (-1) (mL n mf q) (jx + 1))), (4, .int (foldP (mfP n cc q x) (fun x y => x ||| y) 0 (mL n mf q) (jx + 1))), (5, .int (bI (decide (0 < cmpN (mL n mf q) (mfP n cc q x) (jx + 1))))), (6, .int (nI (jx + 1)))]; rw [foldP_f hj hd, foldP_f hj hd, cmpN_drop hj hd]))
        · skip
          have hd : (mfP n cc q x) ((mL n mf q).getD jx 0) = true := by unfold mfP; rw [bI_n0 c_51, bI_n0 c_66]; rfl
          refine lv_iload_n hx hb dX8_forces_69 rfl (lv_at hl 3 rfl) ?_
          refine lv_aload_n hx hb dX8_forces_70 rfl (lv_at hl 0 rfl) ?_
          refine va_get (D := G.1) (ci := 10) (v := .ref (b 17)) (C := RX8) (T := TX8) (N := 27) hx hb hts iX8_forces_X8 hown hK hP 0 rfl rfl 17 (by decide) (hts _ fX8_forces_4) (fun _ h9 => h9) rfl dX8_forces_71 ?_
          refine lv_iload hx hb dX8_forces_74 (lv_at hl 6 rfl) ?_
          refine aldI hx hb hK hP 13 (k := jx) rfl (rfl) (by omega) (by decide) dX8_forces_76 ?_
          refine stI (y := (mL n mf q).getD jx 0) (hgu jx hj) ?_
          refine lv_iand hx hb dX8_forces_77 ?_
          refine lv_istore_n (lv' := [(3, .int ((foldP (mfP n cc q x) (fun x y => x &&& y) (-1) (mL n mf q) jx) &&& ((mL n mf q).getD jx 0))), (0, .ref (b 0)), (1, .int x), (2, .int i), (4, .int (foldP (mfP n cc q x) (fun x y => x ||| y) 0 (mL n mf q) jx)), (5, .int (bI (decide (0 < cmpN (mL n mf q) (mfP n cc q x) jx)))), (6, .int (nI jx))]) hx hb dX8_forces_78 rfl hl (by decide) rfl (fun ls hl => ?_)
          refine lv_iload hx hb dX8_forces_79 (lv_at hl 4 rfl) ?_
          refine lv_aload_n hx hb dX8_forces_81 rfl (lv_at hl 1 rfl) ?_
          refine va_get (D := G.1) (ci := 10) (v := .ref (b 17)) (C := RX8) (T := TX8) (N := 27) hx hb hts iX8_forces_X8 hown hK hP 0 rfl rfl 17 (by decide) (hts _ fX8_forces_4) (fun _ h9 => h9) rfl dX8_forces_82 ?_
          refine lv_iload hx hb dX8_forces_85 (lv_at hl 6 rfl) ?_
          refine aldI hx hb hK hP 13 (k := jx) rfl (rfl) (by omega) (by decide) dX8_forces_87 ?_
          refine stI (y := (mL n mf q).getD jx 0) (hgu jx hj) ?_
          refine lv_ior hx hb dX8_forces_88 ?_
          refine lv_istore (lv' := [(4, .int ((foldP (mfP n cc q x) (fun x y => x ||| y) 0 (mL n mf q) jx) ||| ((mL n mf q).getD jx 0))), (3, .int ((foldP (mfP n cc q x) (fun x y => x &&& y) (-1) (mL n mf q) jx) &&& ((mL n mf q).getD jx 0))), (0, .ref (b 0)), (1, .int x), (2, .int i), (5, .int (bI (decide (0 < cmpN (mL n mf q) (mfP n cc q x) jx)))), (6, .int (nI jx))]) hx hb dX8_forces_89 hl (by decide) rfl (fun ls hl => ?_)
          refine lv_iconst (v := 1) hx hb dX8_forces_91 (by decide) ?_
          refine lv_istore (lv' := [(5, .int 1), (4, .int ((foldP (mfP n cc q x) (fun x y => x ||| y) 0 (mL n mf q) jx) ||| ((mL n mf q).getD jx 0))), (3, .int ((foldP (mfP n cc q x) (fun x y => x &&& y) (-1) (mL n mf q) jx) &&& ((mL n mf q).getD jx 0))), (0, .ref (b 0)), (1, .int x), (2, .int i), (6, .int (nI jx))]) hx hb dX8_forces_92 hl (by decide) rfl (fun ls hl => ?_)
          refine lv_iinc (v := nI (jx + 1)) (lv' := [(6, .int (nI (jx + 1))), (5, .int 1), (4, .int ((foldP (mfP n cc q x) (fun x y => x ||| y) 0 (mL n mf q) jx) ||| ((mL n mf q).getD jx 0))), (3, .int ((foldP (mfP n cc q x) (fun x y => x &&& y) (-1) (mL n mf q) jx) &&& ((mL n mf q).getD jx 0))), (0, .ref (b 0)), (1, .int x), (2, .int i)]) hx hb dX8_forces_94 hl (k := 6) rfl (nI_1 jx) (by decide) rfl (fun ls hl => ?_)
          refine lv_goto (tgt := 30) hx hb dX8_forces_97 (by decide) ?_
          exact ih_30 (jx + 1) (hj) (by show (mL n mf q).length - (jx + 1) < (mL n mf q).length - jx; omega) ls (lv_sub hl [4, 5, 6, 3, 2, 1, 0] (by show ([(0, .ref (b 0)), (1, .int x), (2, .int i), (3, .int ((foldP (mfP n cc q x) (fun x y => x &&& y) (-1) (mL n mf q) jx) &&& ((mL n mf q).getD jx 0))), (4, .int ((foldP (mfP n cc q x) (fun x y => x ||| y) 0 (mL n mf q) jx) ||| ((mL n mf q).getD jx 0))), (5, .int 1), (6, .int (nI (jx + 1)))] : List (Nat × Value)) = [(0, .ref (b 0)), (1, .int x), (2, .int i), (3, .int (foldP (mfP n cc q x) (fun x y => x &&& y) (-1) (mL n mf q) (jx + 1))), (4, .int (foldP (mfP n cc q x) (fun x y => x ||| y) 0 (mL n mf q) (jx + 1))), (5, .int (bI (decide (0 < cmpN (mL n mf q) (mfP n cc q x) (jx + 1))))), (6, .int (nI (jx + 1)))]; rw [foldP_t hj hd, foldP_t hj hd, cmpN_keep hj hd, decide_eq_true (Nat.succ_pos _)]; rfl))
  · skip
    refine lv_iconst (v := -1) hx hb dX8_forces_13 (by decide) ?_
    exact greti hx hb hr hlocks rfl hAe hS (⟨-1, (0, n, mf, cc, kn, sc, fc, so, la, lq, wq, q)⟩) (rfl) (by unfold mForces; rw [if_neg (by rw [bI_0.mp c_10]; decide)]) (hP) dX8_forces_14
