theorem iX8_feature_X8 : ∀ w ∈ u_ws RX8 TX8 27, w ∈ wsX8_feature := by decide +kernel
theorem fX8_feature_1 : Cond.fieldLink RX8 59 "FeatureSolveModel" "thrown" "I" ∈ wsX8_feature := by decide +kernel
theorem fX8_feature_2 : Cond.fieldLink RX8 63 "FeatureSolveModel" "features" "I" ∈ wsX8_feature := by decide +kernel
theorem fX8_feature_3 : Cond.fieldLink RX8 7 "FeatureSolveModel" "parents" "[I" ∈ wsX8_feature := by decide +kernel
theorem fX8_feature_4 : Cond.fieldLink RX8 13 "FeatureSolveModel" "kinds" "[I" ∈ wsX8_feature := by decide +kernel
theorem fX8_feature_5 : Cond.fieldLink RX8 70 "FeatureSolveModel" "known" "Z" ∈ wsX8_feature := by decide +kernel
set_option maxHeartbeats 4000000 in
set_option maxRecDepth 100000 in
/-- feature -/
theorem c_X8_feature (l : Launch) (G : GG) (b : Nat → Nat) (th : Int32) (n mf cc : Nat) (kn : Bool) (sc fc : Nat) (so : Bool) (la lq : Int32) (wq : Nat) (q : Nat → Nat → Int32) (x k : Int32) (hn : n ≤ 14) : Met l yX8_feature wsX8_feature (rmK 1) (va_Pc [.ref (b 0), .int x, .int k] (PM G [(oX8 (b 0) th (b 1) (b 2) (b 3) (b 4) (b 5) (b 6) (nI n) (b 8) (b 9) (b 10) (nI mf) (b 12) (b 13) (b 14) (nI cc) (bI kn) (b 17) (nI sc) (b 19) (nI fc) (b 21) (bI so) la lq (b 25) (nI wq)), (cI G (b 1) 15 (q 1)), (cI G (b 2) 15 (q 2)), (cZ G (b 3) 15 (q 3)), (cI G (b 4) 15 (q 4)), (cI G (b 5) 15 (q 5)), (cI G (b 6) 60 (q 6)), (cI G (b 8) 40 (q 8)), (cI G (b 9) 40 (q 9)), (cI G (b 10) 40 (q 10)), (cZ G (b 12) 4 (q 12)), (cI G (b 13) 4 (q 13)), (cI G (b 14) 14 (q 14)), (cI G (b 17) 16384 (q 17)), (cI G (b 19) 201 (q 19)), (cI G (b 21) 201 (q 21)), (cI G (b 25) 14 (q 25))])) (QG (S := Int32 × MS) G [(oX8 (b 0) th (b 1) (b 2) (b 3) (b 4) (b 5) (b 6) (nI n) (b 8) (b 9) (b 10) (nI mf) (b 12) (b 13) (b 14) (nI cc) (bI kn) (b 17) (nI sc) (b 19) (nI fc) (b 21) (bI so) la lq (b 25) (nI wq)), (cI G (b 1) 15 (q 1)), (cI G (b 2) 15 (q 2)), (cZ G (b 3) 15 (q 3)), (cI G (b 4) 15 (q 4)), (cI G (b 5) 15 (q 5)), (cI G (b 6) 60 (q 6)), (cI G (b 8) 40 (q 8)), (cI G (b 9) 40 (q 9)), (cI G (b 10) 40 (q 10)), (cZ G (b 12) 4 (q 12)), (cI G (b 13) 4 (q 13)), (cI G (b 14) 14 (q 14)), (cI G (b 17) 16384 (q 17)), (cI G (b 19) 201 (q 19)), (cI G (b 21) 201 (q 21)), (cI G (b 25) 14 (q 25))] (fun u => u = mFeature n mf cc kn sc fc so la lq wq q x k) (fun u => some (.int u.1)) (fun u => mW G b u.2)) 0 0 (adr [(oX8 (b 0) th (b 1) (b 2) (b 3) (b 4) (b 5) (b 6) (nI n) (b 8) (b 9) (b 10) (nI mf) (b 12) (b 13) (b 14) (nI cc) (bI kn) (b 17) (nI sc) (b 19) (nI fc) (b 21) (bI so) la lq (b 25) (nI wq)), (cI G (b 1) 15 (q 1)), (cI G (b 2) 15 (q 2)), (cZ G (b 3) 15 (q 3)), (cI G (b 4) 15 (q 4)), (cI G (b 5) 15 (q 5)), (cI G (b 6) 60 (q 6)), (cI G (b 8) 40 (q 8)), (cI G (b 9) 40 (q 9)), (cI G (b 10) 40 (q 10)), (cZ G (b 12) 4 (q 12)), (cI G (b 13) 4 (q 13)), (cI G (b 14) 14 (q 14)), (cI G (b 17) 16384 (q 17)), (cI G (b 19) 201 (q 19)), (cI G (b 21) 201 (q 21)), (cI G (b 25) 14 (q 25))]) := by
  refine Met.ofW (cc := cX8_feature) (maxL := 3) (ret := (some .int)) (by decide) rfl ?_
  intro p e s m args below meth c s₁ B hml hv
  obtain ⟨rfl, hP, hD0, hKK⟩ := hv
  have hx := B.exec
  have hb := B.bytes
  have hr := B.returns
  have hts := atoms_spec (ws := wsX8_feature) B.pre
  have hown : s.vm.findClass RX8 = some m.cls := findClass_of_methodNamed B.named
  have hlocks := B.notSynchronized
  have hK := hKK.1
  generalize hAe : adr [(oX8 (b 0) th (b 1) (b 2) (b 3) (b 4) (b 5) (b 6) (nI n) (b 8) (b 9) (b 10) (nI mf) (b 12) (b 13) (b 14) (nI cc) (bI kn) (b 17) (nI sc) (b 19) (nI fc) (b 21) (bI so) la lq (b 25) (nI wq)), (cI G (b 1) 15 (q 1)), (cI G (b 2) 15 (q 2)), (cZ G (b 3) 15 (q 3)), (cI G (b 4) 15 (q 4)), (cI G (b 5) 15 (q 5)), (cI G (b 6) 60 (q 6)), (cI G (b 8) 40 (q 8)), (cI G (b 9) 40 (q 9)), (cI G (b 10) 40 (q 10)), (cZ G (b 12) 4 (q 12)), (cI G (b 13) 4 (q 13)), (cI G (b 14) 14 (q 14)), (cI G (b 17) 16384 (q 17)), (cI G (b 19) 201 (q 19)), (cI G (b 21) 201 (q 21)), (cI G (b 25) 14 (q 25))] = A
  have hD : va_D A [(oX8 (b 0) th (b 1) (b 2) (b 3) (b 4) (b 5) (b 6) (nI n) (b 8) (b 9) (b 10) (nI mf) (b 12) (b 13) (b 14) (nI cc) (bI kn) (b 17) (nI sc) (b 19) (nI fc) (b 21) (bI so) la lq (b 25) (nI wq)), (cI G (b 1) 15 (q 1)), (cI G (b 2) 15 (q 2)), (cZ G (b 3) 15 (q 3)), (cI G (b 4) 15 (q 4)), (cI G (b 5) 15 (q 5)), (cI G (b 6) 60 (q 6)), (cI G (b 8) 40 (q 8)), (cI G (b 9) 40 (q 9)), (cI G (b 10) 40 (q 10)), (cZ G (b 12) 4 (q 12)), (cI G (b 13) 4 (q 13)), (cI G (b 14) 14 (q 14)), (cI G (b 17) 16384 (q 17)), (cI G (b 19) 201 (q 19)), (cI G (b 21) 201 (q 21)), (cI G (b 25) 14 (q 25))] := by rw [← hAe]; exact hD0.own
  have hS : va_S A s.heap s.heap [] := va_S.rf
  have hP : va_P G.1 vwCl [(oX8 (b 0) th (b 1) (b 2) (b 3) (b 4) (b 5) (b 6) (nI n) (b 8) (b 9) (b 10) (nI mf) (b 12) (b 13) (b 14) (nI cc) (bI kn) (b 17) (nI sc) (b 19) (nI fc) (b 21) (bI so) la lq (b 25) (nI wq)), (cI G (b 1) 15 (q 1)), (cI G (b 2) 15 (q 2)), (cZ G (b 3) 15 (q 3)), (cI G (b 4) 15 (q 4)), (cI G (b 5) 15 (q 5)), (cI G (b 6) 60 (q 6)), (cI G (b 8) 40 (q 8)), (cI G (b 9) 40 (q 9)), (cI G (b 10) 40 (q 10)), (cZ G (b 12) 4 (q 12)), (cI G (b 13) 4 (q 13)), (cI G (b 14) 14 (q 14)), (cI G (b 17) 16384 (q 17)), (cI G (b 19) 201 (q 19)), (cI G (b 21) 201 (q 21)), (cI G (b 25) 14 (q 25))] s.heap := hP
  have hl := lv_entry ([.ref (b 0), .int x, .int k]) (n := 3) (Nat.le_of_ble_eq_true rfl)
  rw [lg_entry_eq]
  generalize (lg_sl ([.ref (b 0), .int x, .int k]) ++ List.replicate (3 - (lg_sl ([.ref (b 0), .int x, .int k])).length) Slot.unset).toArray = ls at hl ⊢
  have hl : lv_has ls 3 [(0, .ref (b 0)), (1, .int x), (2, .int k)] := hl
  refine lv_aload_n hx hb dX8_feature_0 rfl (lv_at hl 0 rfl) ?_
  refine lv_iconst (v := 0) hx hb dX8_feature_1 (by decide) ?_
  refine va_put (D := G.1) (ci := 10) (v := .int 0) (ty := .int) (C := RX8) (T := TX8) (N := 27) hx hb hts iX8_feature_X8 tyX8 tyX8_ok nmX8 hown hK hP hD hS 0 rfl rfl 0 (by decide) (hts _ fX8_feature_1) (fun _ h9 => h9) rfl (by decide +kernel) rfl rfl (Nat.le_of_ble_eq_true rfl) dX8_feature_2 (fun H locs hP hD hS => ?_)
  have hPD : PD G A [(oX8 (b 0) 0 (b 1) (b 2) (b 3) (b 4) (b 5) (b 6) (nI n) (b 8) (b 9) (b 10) (nI mf) (b 12) (b 13) (b 14) (nI cc) (bI kn) (b 17) (nI sc) (b 19) (nI fc) (b 21) (bI so) la lq (b 25) (nI wq)), (cI G (b 1) 15 (q 1)), (cI G (b 2) 15 (q 2)), (cZ G (b 3) 15 (q 3)), (cI G (b 4) 15 (q 4)), (cI G (b 5) 15 (q 5)), (cI G (b 6) 60 (q 6)), (cI G (b 8) 40 (q 8)), (cI G (b 9) 40 (q 9)), (cI G (b 10) 40 (q 10)), (cZ G (b 12) 4 (q 12)), (cI G (b 13) 4 (q 13)), (cI G (b 14) 14 (q 14)), (cI G (b 17) 16384 (q 17)), (cI G (b 19) 201 (q 19)), (cI G (b 21) 201 (q 21)), (cI G (b 25) 14 (q 25))] H := ⟨hP, hD⟩
  have hP := hPD.1
  have hD := hPD.2
  clear hPD
  refine lv_aload_n hx hb dX8_feature_5 rfl (lv_at hl 0 rfl) ?_
  refine va_get (D := G.1) (ci := 10) (v := .int (nI n)) (C := RX8) (T := TX8) (N := 27) hx hb hts iX8_feature_X8 hown hK hP 0 rfl rfl 7 (by decide) (hts _ fX8_feature_2) (fun _ h9 => h9) rfl dX8_feature_6 ?_
  refine lv_if_ne (tgt := 19) hx hb dX8_feature_9 (by decide) (fun c_9 => ?_) (fun c_9 => ?_)
  · skip
    refine lv_aload_n hx hb dX8_feature_19 rfl (lv_at hl 0 rfl) ?_
    refine lv_iload_n hx hb dX8_feature_20 rfl (lv_at hl 1 rfl) ?_
    refine cpV (ci := 10) (T0 := TX8) (N := 27) (As := [.int x]) (rest := []) ⟨hx, hb, hml, hown, hts⟩ (c_X8_isFeature l G b 0 n mf cc kn sc fc so la lq wq  x ) (cwV 1 hts gX8_feature_X8_isFeature rfl rfl rfl ⟨rfl, hd_X8_isFeature⟩ ⟨Nat.le_of_ble_eq_true rfl, Nat.le_of_ble_eq_true rfl⟩) hKK hP [0] rfl rfl rfl rfl hl.1 rfl (Nat.le_of_ble_eq_true rfl) dX8_feature_21 ⟨Nat.zero_le _, Nat.zero_le _⟩ ?_
    refine lv_if_ne (tgt := 29) hx hb dX8_feature_24 (by decide) (fun c_24 => ?_) (fun c_24 => ?_)
    · skip
      have ht : takesB (nI n) x = true := by unfold takesB; rw [if_neg c_9]; exact bI_n0 c_24
      refine lv_iload_n hx hb dX8_feature_29 rfl (lv_at hl 2 rfl) ?_
      refine lv_if_lt (tgt := 38) hx hb dX8_feature_30 (by decide) (fun c_30 => ?_) (fun c_30 => ?_)
      · skip
        refine lv_bipush (v := -2) hx hb dX8_feature_38 (by decide) ?_
        exact greti hx hb hr hlocks rfl hAe hS (⟨-2, (0, n, mf, cc, kn, sc, fc, so, la, lq, wq, q)⟩) (rfl) (by unfold mFeature; rw [if_pos ht, if_pos c_30]) (hP) dX8_feature_40
      · skip
        refine lv_iload_n hx hb dX8_feature_33 rfl (lv_at hl 2 rfl) ?_
        refine lv_iconst (v := 2) hx hb dX8_feature_34 (by decide) ?_
        refine lv_icmp_le (tgt := 41) hx hb dX8_feature_35 (by decide) (fun c_35 => ?_) (fun c_35 => ?_)
        · skip
          refine lv_aload_n hx hb dX8_feature_41 rfl (lv_at hl 0 rfl) ?_
          refine va_get (D := G.1) (ci := 10) (v := .int (nI n)) (C := RX8) (T := TX8) (N := 27) hx hb hts iX8_feature_X8 hown hK hP 0 rfl rfl 7 (by decide) (hts _ fX8_feature_2) (fun _ h9 => h9) rfl dX8_feature_42 ?_
          refine lv_bipush (v := 14) hx hb dX8_feature_45 (by decide) ?_
          refine lv_icmp_ne (tgt := 53) hx hb dX8_feature_47 (by decide) (fun c_47 => ?_) (fun c_47 => ?_)
          · skip
            have hn14 : n < 14 := by have : n ≠ 14 := fun z => c_47 (by rw [z]; rfl); omega
            refine lv_aload_n hx hb dX8_feature_53 rfl (lv_at hl 0 rfl) ?_
            refine lv_dup hx hb dX8_feature_54 rfl ?_
            refine va_get (D := G.1) (ci := 10) (v := .int (nI n)) (C := RX8) (T := TX8) (N := 27) hx hb hts iX8_feature_X8 hown hK hP 0 rfl rfl 7 (by decide) (hts _ fX8_feature_2) (fun _ h9 => h9) rfl dX8_feature_55 ?_
            refine lv_iconst (v := 1) hx hb dX8_feature_58 (by decide) ?_
            refine lv_iadd hx hb dX8_feature_59 ?_
            refine stI (y := nI (n + 1)) (nI_1 n) ?_
            refine va_put (D := G.1) (ci := 10) (v := .int (nI (n + 1))) (ty := .int) (C := RX8) (T := TX8) (N := 27) hx hb hts iX8_feature_X8 tyX8 tyX8_ok nmX8 hown hK hP hD hS 0 rfl rfl 7 (by decide) (hts _ fX8_feature_2) (fun _ h9 => h9) rfl (by decide +kernel) rfl rfl (Nat.le_of_ble_eq_true rfl) dX8_feature_60 (fun H locs hP hD hS => ?_)
            have hPD : PD G A [(oX8 (b 0) 0 (b 1) (b 2) (b 3) (b 4) (b 5) (b 6) (nI (n + 1)) (b 8) (b 9) (b 10) (nI mf) (b 12) (b 13) (b 14) (nI cc) (bI kn) (b 17) (nI sc) (b 19) (nI fc) (b 21) (bI so) la lq (b 25) (nI wq)), (cI G (b 1) 15 (q 1)), (cI G (b 2) 15 (q 2)), (cZ G (b 3) 15 (q 3)), (cI G (b 4) 15 (q 4)), (cI G (b 5) 15 (q 5)), (cI G (b 6) 60 (q 6)), (cI G (b 8) 40 (q 8)), (cI G (b 9) 40 (q 9)), (cI G (b 10) 40 (q 10)), (cZ G (b 12) 4 (q 12)), (cI G (b 13) 4 (q 13)), (cI G (b 14) 14 (q 14)), (cI G (b 17) 16384 (q 17)), (cI G (b 19) 201 (q 19)), (cI G (b 21) 201 (q 21)), (cI G (b 25) 14 (q 25))] H := ⟨hP, hD⟩
            have hP := hPD.1
            have hD := hPD.2
            clear hPD
            refine lv_aload_n hx hb dX8_feature_63 rfl (lv_at hl 0 rfl) ?_
            refine va_get (D := G.1) (ci := 10) (v := .ref (b 1)) (C := RX8) (T := TX8) (N := 27) hx hb hts iX8_feature_X8 hown hK hP 0 rfl rfl 1 (by decide) (hts _ fX8_feature_3) (fun _ h9 => h9) rfl dX8_feature_64 ?_
            refine lv_aload_n hx hb dX8_feature_67 rfl (lv_at hl 0 rfl) ?_
            refine va_get (D := G.1) (ci := 10) (v := .int (nI (n + 1))) (C := RX8) (T := TX8) (N := 27) hx hb hts iX8_feature_X8 hown hK hP 0 rfl rfl 7 (by decide) (hts _ fX8_feature_2) (fun _ h9 => h9) rfl dX8_feature_68 ?_
            refine lv_iload_n hx hb dX8_feature_71 rfl (lv_at hl 1 rfl) ?_
            refine astI hx hb hK hP hD hS 1 (k := (n + 1)) rfl (rfl) (by omega) (by decide) dX8_feature_72 (fun H locs hP hD hS => ?_)
            have hPD : PD G A [(oX8 (b 0) 0 (b 1) (b 2) (b 3) (b 4) (b 5) (b 6) (nI (n + 1)) (b 8) (b 9) (b 10) (nI mf) (b 12) (b 13) (b 14) (nI cc) (bI kn) (b 17) (nI sc) (b 19) (nI fc) (b 21) (bI so) la lq (b 25) (nI wq)), (cI G (b 1) 15 (upd (q 1) (n + 1) x)), (cI G (b 2) 15 (q 2)), (cZ G (b 3) 15 (q 3)), (cI G (b 4) 15 (q 4)), (cI G (b 5) 15 (q 5)), (cI G (b 6) 60 (q 6)), (cI G (b 8) 40 (q 8)), (cI G (b 9) 40 (q 9)), (cI G (b 10) 40 (q 10)), (cZ G (b 12) 4 (q 12)), (cI G (b 13) 4 (q 13)), (cI G (b 14) 14 (q 14)), (cI G (b 17) 16384 (q 17)), (cI G (b 19) 201 (q 19)), (cI G (b 21) 201 (q 21)), (cI G (b 25) 14 (q 25))] H := ⟨hP, hD⟩
            have hP := hPD.1
            have hD := hPD.2
            clear hPD
            refine lv_aload_n hx hb dX8_feature_73 rfl (lv_at hl 0 rfl) ?_
            refine va_get (D := G.1) (ci := 10) (v := .ref (b 2)) (C := RX8) (T := TX8) (N := 27) hx hb hts iX8_feature_X8 hown hK hP 0 rfl rfl 2 (by decide) (hts _ fX8_feature_4) (fun _ h9 => h9) rfl dX8_feature_74 ?_
            refine lv_aload_n hx hb dX8_feature_77 rfl (lv_at hl 0 rfl) ?_
            refine va_get (D := G.1) (ci := 10) (v := .int (nI (n + 1))) (C := RX8) (T := TX8) (N := 27) hx hb hts iX8_feature_X8 hown hK hP 0 rfl rfl 7 (by decide) (hts _ fX8_feature_2) (fun _ h9 => h9) rfl dX8_feature_78 ?_
            refine lv_iload_n hx hb dX8_feature_81 rfl (lv_at hl 2 rfl) ?_
            refine astI hx hb hK hP hD hS 2 (k := (n + 1)) rfl (rfl) (by omega) (by decide) dX8_feature_82 (fun H locs hP hD hS => ?_)
            have hPD : PD G A [(oX8 (b 0) 0 (b 1) (b 2) (b 3) (b 4) (b 5) (b 6) (nI (n + 1)) (b 8) (b 9) (b 10) (nI mf) (b 12) (b 13) (b 14) (nI cc) (bI kn) (b 17) (nI sc) (b 19) (nI fc) (b 21) (bI so) la lq (b 25) (nI wq)), (cI G (b 1) 15 (upd (q 1) (n + 1) x)), (cI G (b 2) 15 (upd (q 2) (n + 1) k)), (cZ G (b 3) 15 (q 3)), (cI G (b 4) 15 (q 4)), (cI G (b 5) 15 (q 5)), (cI G (b 6) 60 (q 6)), (cI G (b 8) 40 (q 8)), (cI G (b 9) 40 (q 9)), (cI G (b 10) 40 (q 10)), (cZ G (b 12) 4 (q 12)), (cI G (b 13) 4 (q 13)), (cI G (b 14) 14 (q 14)), (cI G (b 17) 16384 (q 17)), (cI G (b 19) 201 (q 19)), (cI G (b 21) 201 (q 21)), (cI G (b 25) 14 (q 25))] H := ⟨hP, hD⟩
            have hP := hPD.1
            have hD := hPD.2
            clear hPD
            refine lv_aload_n hx hb dX8_feature_83 rfl (lv_at hl 0 rfl) ?_
            refine lv_iconst (v := 0) hx hb dX8_feature_84 (by decide) ?_
            refine va_put (D := G.1) (ci := 10) (v := .int 0) (ty := .boolean) (C := RX8) (T := TX8) (N := 27) hx hb hts iX8_feature_X8 tyX8 tyX8_ok nmX8 hown hK hP hD hS 0 rfl rfl 16 (by decide) (hts _ fX8_feature_5) (fun _ h9 => h9) rfl (by decide +kernel) rfl rfl (Nat.le_of_ble_eq_true rfl) dX8_feature_85 (fun H locs hP hD hS => ?_)
            have hPD : PD G A [(oX8 (b 0) 0 (b 1) (b 2) (b 3) (b 4) (b 5) (b 6) (nI (n + 1)) (b 8) (b 9) (b 10) (nI mf) (b 12) (b 13) (b 14) (nI cc) 0 (b 17) (nI sc) (b 19) (nI fc) (b 21) (bI so) la lq (b 25) (nI wq)), (cI G (b 1) 15 (upd (q 1) (n + 1) x)), (cI G (b 2) 15 (upd (q 2) (n + 1) k)), (cZ G (b 3) 15 (q 3)), (cI G (b 4) 15 (q 4)), (cI G (b 5) 15 (q 5)), (cI G (b 6) 60 (q 6)), (cI G (b 8) 40 (q 8)), (cI G (b 9) 40 (q 9)), (cI G (b 10) 40 (q 10)), (cZ G (b 12) 4 (q 12)), (cI G (b 13) 4 (q 13)), (cI G (b 14) 14 (q 14)), (cI G (b 17) 16384 (q 17)), (cI G (b 19) 201 (q 19)), (cI G (b 21) 201 (q 21)), (cI G (b 25) 14 (q 25))] H := ⟨hP, hD⟩
            have hP := hPD.1
            have hD := hPD.2
            clear hPD
            refine lv_aload_n hx hb dX8_feature_88 rfl (lv_at hl 0 rfl) ?_
            refine va_get (D := G.1) (ci := 10) (v := .int (nI (n + 1))) (C := RX8) (T := TX8) (N := 27) hx hb hts iX8_feature_X8 hown hK hP 0 rfl rfl 7 (by decide) (hts _ fX8_feature_2) (fun _ h9 => h9) rfl dX8_feature_89 ?_
            exact greti hx hb hr hlocks rfl hAe hS (⟨nI (n + 1), (0, n + 1, mf, cc, false, sc, fc, so, la, lq, wq, upR (upR q 1 (upd (q 1) (n + 1) x)) 2 (upd (q 2) (n + 1) k))⟩) (rfl) (by unfold mFeature; rw [if_pos ht, if_neg c_30, if_neg (i_nlt.mpr c_35), if_neg c_47]) (hP) dX8_feature_92
          · skip
            refine lv_bipush (v := -4) hx hb dX8_feature_50 (by decide) ?_
            exact greti hx hb hr hlocks rfl hAe hS (⟨-4, (0, n, mf, cc, kn, sc, fc, so, la, lq, wq, q)⟩) (rfl) (by unfold mFeature; rw [if_pos ht, if_neg c_30, if_neg (i_nlt.mpr c_35), if_pos c_47]) (hP) dX8_feature_52
        · skip
          refine lv_bipush (v := -2) hx hb dX8_feature_38 (by decide) ?_
          exact greti hx hb hr hlocks rfl hAe hS (⟨-2, (0, n, mf, cc, kn, sc, fc, so, la, lq, wq, q)⟩) (rfl) (by unfold mFeature; rw [if_pos ht, if_neg c_30, if_pos (i_nle.mp c_35)]) (hP) dX8_feature_40
    · skip
      have ht : takesB (nI n) x = false := by unfold takesB; rw [if_neg c_9]; exact bI_0.mp c_24
      refine lv_iconst (v := -1) hx hb dX8_feature_27 (by decide) ?_
      exact greti hx hb hr hlocks rfl hAe hS (⟨-1, (0, n, mf, cc, kn, sc, fc, so, la, lq, wq, q)⟩) (rfl) (by unfold mFeature; rw [if_neg (by rw [ht]; decide)]) (hP) dX8_feature_28
  · skip
    refine lv_iload_n hx hb dX8_feature_12 rfl (lv_at hl 1 rfl) ?_
    refine lv_if_eq (tgt := 29) hx hb dX8_feature_13 (by decide) (fun c_13 => ?_) (fun c_13 => ?_)
    · skip
      have ht : takesB (nI n) x = true := by unfold takesB; rw [if_pos c_9]; exact decide_eq_true c_13
      refine lv_iload_n hx hb dX8_feature_29 rfl (lv_at hl 2 rfl) ?_
      refine lv_if_lt (tgt := 38) hx hb dX8_feature_30 (by decide) (fun c_30 => ?_) (fun c_30 => ?_)
      · skip
        refine lv_bipush (v := -2) hx hb dX8_feature_38 (by decide) ?_
        exact greti hx hb hr hlocks rfl hAe hS (⟨-2, (0, n, mf, cc, kn, sc, fc, so, la, lq, wq, q)⟩) (rfl) (by unfold mFeature; rw [if_pos ht, if_pos c_30]) (hP) dX8_feature_40
      · skip
        refine lv_iload_n hx hb dX8_feature_33 rfl (lv_at hl 2 rfl) ?_
        refine lv_iconst (v := 2) hx hb dX8_feature_34 (by decide) ?_
        refine lv_icmp_le (tgt := 41) hx hb dX8_feature_35 (by decide) (fun c_35 => ?_) (fun c_35 => ?_)
        · skip
          refine lv_aload_n hx hb dX8_feature_41 rfl (lv_at hl 0 rfl) ?_
          refine va_get (D := G.1) (ci := 10) (v := .int (nI n)) (C := RX8) (T := TX8) (N := 27) hx hb hts iX8_feature_X8 hown hK hP 0 rfl rfl 7 (by decide) (hts _ fX8_feature_2) (fun _ h9 => h9) rfl dX8_feature_42 ?_
          refine lv_bipush (v := 14) hx hb dX8_feature_45 (by decide) ?_
          refine lv_icmp_ne (tgt := 53) hx hb dX8_feature_47 (by decide) (fun c_47 => ?_) (fun c_47 => ?_)
          · skip
            have hn14 : n < 14 := by have : n ≠ 14 := fun z => c_47 (by rw [z]; rfl); omega
            refine lv_aload_n hx hb dX8_feature_53 rfl (lv_at hl 0 rfl) ?_
            refine lv_dup hx hb dX8_feature_54 rfl ?_
            refine va_get (D := G.1) (ci := 10) (v := .int (nI n)) (C := RX8) (T := TX8) (N := 27) hx hb hts iX8_feature_X8 hown hK hP 0 rfl rfl 7 (by decide) (hts _ fX8_feature_2) (fun _ h9 => h9) rfl dX8_feature_55 ?_
            refine lv_iconst (v := 1) hx hb dX8_feature_58 (by decide) ?_
            refine lv_iadd hx hb dX8_feature_59 ?_
            refine stI (y := nI (n + 1)) (nI_1 n) ?_
            refine va_put (D := G.1) (ci := 10) (v := .int (nI (n + 1))) (ty := .int) (C := RX8) (T := TX8) (N := 27) hx hb hts iX8_feature_X8 tyX8 tyX8_ok nmX8 hown hK hP hD hS 0 rfl rfl 7 (by decide) (hts _ fX8_feature_2) (fun _ h9 => h9) rfl (by decide +kernel) rfl rfl (Nat.le_of_ble_eq_true rfl) dX8_feature_60 (fun H locs hP hD hS => ?_)
            have hPD : PD G A [(oX8 (b 0) 0 (b 1) (b 2) (b 3) (b 4) (b 5) (b 6) (nI (n + 1)) (b 8) (b 9) (b 10) (nI mf) (b 12) (b 13) (b 14) (nI cc) (bI kn) (b 17) (nI sc) (b 19) (nI fc) (b 21) (bI so) la lq (b 25) (nI wq)), (cI G (b 1) 15 (q 1)), (cI G (b 2) 15 (q 2)), (cZ G (b 3) 15 (q 3)), (cI G (b 4) 15 (q 4)), (cI G (b 5) 15 (q 5)), (cI G (b 6) 60 (q 6)), (cI G (b 8) 40 (q 8)), (cI G (b 9) 40 (q 9)), (cI G (b 10) 40 (q 10)), (cZ G (b 12) 4 (q 12)), (cI G (b 13) 4 (q 13)), (cI G (b 14) 14 (q 14)), (cI G (b 17) 16384 (q 17)), (cI G (b 19) 201 (q 19)), (cI G (b 21) 201 (q 21)), (cI G (b 25) 14 (q 25))] H := ⟨hP, hD⟩
            have hP := hPD.1
            have hD := hPD.2
            clear hPD
            refine lv_aload_n hx hb dX8_feature_63 rfl (lv_at hl 0 rfl) ?_
            refine va_get (D := G.1) (ci := 10) (v := .ref (b 1)) (C := RX8) (T := TX8) (N := 27) hx hb hts iX8_feature_X8 hown hK hP 0 rfl rfl 1 (by decide) (hts _ fX8_feature_3) (fun _ h9 => h9) rfl dX8_feature_64 ?_
            refine lv_aload_n hx hb dX8_feature_67 rfl (lv_at hl 0 rfl) ?_
            refine va_get (D := G.1) (ci := 10) (v := .int (nI (n + 1))) (C := RX8) (T := TX8) (N := 27) hx hb hts iX8_feature_X8 hown hK hP 0 rfl rfl 7 (by decide) (hts _ fX8_feature_2) (fun _ h9 => h9) rfl dX8_feature_68 ?_
            refine lv_iload_n hx hb dX8_feature_71 rfl (lv_at hl 1 rfl) ?_
            refine astI hx hb hK hP hD hS 1 (k := (n + 1)) rfl (rfl) (by omega) (by decide) dX8_feature_72 (fun H locs hP hD hS => ?_)
            have hPD : PD G A [(oX8 (b 0) 0 (b 1) (b 2) (b 3) (b 4) (b 5) (b 6) (nI (n + 1)) (b 8) (b 9) (b 10) (nI mf) (b 12) (b 13) (b 14) (nI cc) (bI kn) (b 17) (nI sc) (b 19) (nI fc) (b 21) (bI so) la lq (b 25) (nI wq)), (cI G (b 1) 15 (upd (q 1) (n + 1) x)), (cI G (b 2) 15 (q 2)), (cZ G (b 3) 15 (q 3)), (cI G (b 4) 15 (q 4)), (cI G (b 5) 15 (q 5)), (cI G (b 6) 60 (q 6)), (cI G (b 8) 40 (q 8)), (cI G (b 9) 40 (q 9)), (cI G (b 10) 40 (q 10)), (cZ G (b 12) 4 (q 12)), (cI G (b 13) 4 (q 13)), (cI G (b 14) 14 (q 14)), (cI G (b 17) 16384 (q 17)), (cI G (b 19) 201 (q 19)), (cI G (b 21) 201 (q 21)), (cI G (b 25) 14 (q 25))] H := ⟨hP, hD⟩
            have hP := hPD.1
            have hD := hPD.2
            clear hPD
            refine lv_aload_n hx hb dX8_feature_73 rfl (lv_at hl 0 rfl) ?_
            refine va_get (D := G.1) (ci := 10) (v := .ref (b 2)) (C := RX8) (T := TX8) (N := 27) hx hb hts iX8_feature_X8 hown hK hP 0 rfl rfl 2 (by decide) (hts _ fX8_feature_4) (fun _ h9 => h9) rfl dX8_feature_74 ?_
            refine lv_aload_n hx hb dX8_feature_77 rfl (lv_at hl 0 rfl) ?_
            refine va_get (D := G.1) (ci := 10) (v := .int (nI (n + 1))) (C := RX8) (T := TX8) (N := 27) hx hb hts iX8_feature_X8 hown hK hP 0 rfl rfl 7 (by decide) (hts _ fX8_feature_2) (fun _ h9 => h9) rfl dX8_feature_78 ?_
            refine lv_iload_n hx hb dX8_feature_81 rfl (lv_at hl 2 rfl) ?_
            refine astI hx hb hK hP hD hS 2 (k := (n + 1)) rfl (rfl) (by omega) (by decide) dX8_feature_82 (fun H locs hP hD hS => ?_)
            have hPD : PD G A [(oX8 (b 0) 0 (b 1) (b 2) (b 3) (b 4) (b 5) (b 6) (nI (n + 1)) (b 8) (b 9) (b 10) (nI mf) (b 12) (b 13) (b 14) (nI cc) (bI kn) (b 17) (nI sc) (b 19) (nI fc) (b 21) (bI so) la lq (b 25) (nI wq)), (cI G (b 1) 15 (upd (q 1) (n + 1) x)), (cI G (b 2) 15 (upd (q 2) (n + 1) k)), (cZ G (b 3) 15 (q 3)), (cI G (b 4) 15 (q 4)), (cI G (b 5) 15 (q 5)), (cI G (b 6) 60 (q 6)), (cI G (b 8) 40 (q 8)), (cI G (b 9) 40 (q 9)), (cI G (b 10) 40 (q 10)), (cZ G (b 12) 4 (q 12)), (cI G (b 13) 4 (q 13)), (cI G (b 14) 14 (q 14)), (cI G (b 17) 16384 (q 17)), (cI G (b 19) 201 (q 19)), (cI G (b 21) 201 (q 21)), (cI G (b 25) 14 (q 25))] H := ⟨hP, hD⟩
            have hP := hPD.1
            have hD := hPD.2
            clear hPD
            refine lv_aload_n hx hb dX8_feature_83 rfl (lv_at hl 0 rfl) ?_
            refine lv_iconst (v := 0) hx hb dX8_feature_84 (by decide) ?_
            refine va_put (D := G.1) (ci := 10) (v := .int 0) (ty := .boolean) (C := RX8) (T := TX8) (N := 27) hx hb hts iX8_feature_X8 tyX8 tyX8_ok nmX8 hown hK hP hD hS 0 rfl rfl 16 (by decide) (hts _ fX8_feature_5) (fun _ h9 => h9) rfl (by decide +kernel) rfl rfl (Nat.le_of_ble_eq_true rfl) dX8_feature_85 (fun H locs hP hD hS => ?_)
            have hPD : PD G A [(oX8 (b 0) 0 (b 1) (b 2) (b 3) (b 4) (b 5) (b 6) (nI (n + 1)) (b 8) (b 9) (b 10) (nI mf) (b 12) (b 13) (b 14) (nI cc) 0 (b 17) (nI sc) (b 19) (nI fc) (b 21) (bI so) la lq (b 25) (nI wq)), (cI G (b 1) 15 (upd (q 1) (n + 1) x)), (cI G (b 2) 15 (upd (q 2) (n + 1) k)), (cZ G (b 3) 15 (q 3)), (cI G (b 4) 15 (q 4)), (cI G (b 5) 15 (q 5)), (cI G (b 6) 60 (q 6)), (cI G (b 8) 40 (q 8)), (cI G (b 9) 40 (q 9)), (cI G (b 10) 40 (q 10)), (cZ G (b 12) 4 (q 12)), (cI G (b 13) 4 (q 13)), (cI G (b 14) 14 (q 14)), (cI G (b 17) 16384 (q 17)), (cI G (b 19) 201 (q 19)), (cI G (b 21) 201 (q 21)), (cI G (b 25) 14 (q 25))] H := ⟨hP, hD⟩
            have hP := hPD.1
            have hD := hPD.2
            clear hPD
            refine lv_aload_n hx hb dX8_feature_88 rfl (lv_at hl 0 rfl) ?_
            refine va_get (D := G.1) (ci := 10) (v := .int (nI (n + 1))) (C := RX8) (T := TX8) (N := 27) hx hb hts iX8_feature_X8 hown hK hP 0 rfl rfl 7 (by decide) (hts _ fX8_feature_2) (fun _ h9 => h9) rfl dX8_feature_89 ?_
            exact greti hx hb hr hlocks rfl hAe hS (⟨nI (n + 1), (0, n + 1, mf, cc, false, sc, fc, so, la, lq, wq, upR (upR q 1 (upd (q 1) (n + 1) x)) 2 (upd (q 2) (n + 1) k))⟩) (rfl) (by unfold mFeature; rw [if_pos ht, if_neg c_30, if_neg (i_nlt.mpr c_35), if_neg c_47]) (hP) dX8_feature_92
          · skip
            refine lv_bipush (v := -4) hx hb dX8_feature_50 (by decide) ?_
            exact greti hx hb hr hlocks rfl hAe hS (⟨-4, (0, n, mf, cc, kn, sc, fc, so, la, lq, wq, q)⟩) (rfl) (by unfold mFeature; rw [if_pos ht, if_neg c_30, if_neg (i_nlt.mpr c_35), if_pos c_47]) (hP) dX8_feature_52
        · skip
          refine lv_bipush (v := -2) hx hb dX8_feature_38 (by decide) ?_
          exact greti hx hb hr hlocks rfl hAe hS (⟨-2, (0, n, mf, cc, kn, sc, fc, so, la, lq, wq, q)⟩) (rfl) (by unfold mFeature; rw [if_pos ht, if_neg c_30, if_pos (i_nle.mp c_35)]) (hP) dX8_feature_40
    · skip
      have ht : takesB (nI n) x = false := by unfold takesB; rw [if_pos c_9]; exact decide_eq_false c_13
      refine lv_goto (tgt := 27) hx hb dX8_feature_16 (by decide) ?_
      refine lv_iconst (v := -1) hx hb dX8_feature_27 (by decide) ?_
      exact greti hx hb hr hlocks rfl hAe hS (⟨-1, (0, n, mf, cc, kn, sc, fc, so, la, lq, wq, q)⟩) (rfl) (by unfold mFeature; rw [if_neg (by rw [ht]; decide)]) (hP) dX8_feature_28

theorem iX8_group_X8 : ∀ w ∈ u_ws RX8 TX8 27, w ∈ wsX8_group := by decide +kernel
theorem fX8_group_1 : Cond.fieldLink RX8 59 "FeatureSolveModel" "thrown" "I" ∈ wsX8_group := by decide +kernel
theorem fX8_group_2 : Cond.fieldLink RX8 16 "FeatureSolveModel" "grouped" "[Z" ∈ wsX8_group := by decide +kernel
theorem fX8_group_3 : Cond.fieldLink RX8 20 "FeatureSolveModel" "least" "[I" ∈ wsX8_group := by decide +kernel
theorem fX8_group_4 : Cond.fieldLink RX8 23 "FeatureSolveModel" "most" "[I" ∈ wsX8_group := by decide +kernel
theorem fX8_group_5 : Cond.fieldLink RX8 70 "FeatureSolveModel" "known" "Z" ∈ wsX8_group := by decide +kernel
theorem hd_X8_groupedBelow : yX8_groupedBelow.cls ≠ "java/lang/invoke/MethodHandle" ∧ yX8_groupedBelow.cls ≠ "java/lang/invoke/VarHandle" ∧ (parseMethodDescriptor yX8_groupedBelow.desc).map (fun d => d.parameters.length) = some 1 := by decide +kernel
set_option maxHeartbeats 4000000 in
set_option maxRecDepth 100000 in
/-- group -/
theorem c_X8_group (l : Launch) (G : GG) (b : Nat → Nat) (th : Int32) (n mf cc : Nat) (kn : Bool) (sc fc : Nat) (so : Bool) (la lq : Int32) (wq : Nat) (q : Nat → Nat → Int32) (x lo hi : Int32) (hn : n ≤ 14) : Met l yX8_group wsX8_group (rmK 2) (va_Pc [.ref (b 0), .int x, .int lo, .int hi] (PM G [(oX8 (b 0) th (b 1) (b 2) (b 3) (b 4) (b 5) (b 6) (nI n) (b 8) (b 9) (b 10) (nI mf) (b 12) (b 13) (b 14) (nI cc) (bI kn) (b 17) (nI sc) (b 19) (nI fc) (b 21) (bI so) la lq (b 25) (nI wq)), (cI G (b 1) 15 (q 1)), (cI G (b 2) 15 (q 2)), (cZ G (b 3) 15 (q 3)), (cI G (b 4) 15 (q 4)), (cI G (b 5) 15 (q 5)), (cI G (b 6) 60 (q 6)), (cI G (b 8) 40 (q 8)), (cI G (b 9) 40 (q 9)), (cI G (b 10) 40 (q 10)), (cZ G (b 12) 4 (q 12)), (cI G (b 13) 4 (q 13)), (cI G (b 14) 14 (q 14)), (cI G (b 17) 16384 (q 17)), (cI G (b 19) 201 (q 19)), (cI G (b 21) 201 (q 21)), (cI G (b 25) 14 (q 25))])) (QG (S := Int32 × MS) G [(oX8 (b 0) th (b 1) (b 2) (b 3) (b 4) (b 5) (b 6) (nI n) (b 8) (b 9) (b 10) (nI mf) (b 12) (b 13) (b 14) (nI cc) (bI kn) (b 17) (nI sc) (b 19) (nI fc) (b 21) (bI so) la lq (b 25) (nI wq)), (cI G (b 1) 15 (q 1)), (cI G (b 2) 15 (q 2)), (cZ G (b 3) 15 (q 3)), (cI G (b 4) 15 (q 4)), (cI G (b 5) 15 (q 5)), (cI G (b 6) 60 (q 6)), (cI G (b 8) 40 (q 8)), (cI G (b 9) 40 (q 9)), (cI G (b 10) 40 (q 10)), (cZ G (b 12) 4 (q 12)), (cI G (b 13) 4 (q 13)), (cI G (b 14) 14 (q 14)), (cI G (b 17) 16384 (q 17)), (cI G (b 19) 201 (q 19)), (cI G (b 21) 201 (q 21)), (cI G (b 25) 14 (q 25))] (fun u => u = mGroup n mf cc kn sc fc so la lq wq q x lo hi) (fun u => some (.int u.1)) (fun u => mW G b u.2)) 0 0 (adr [(oX8 (b 0) th (b 1) (b 2) (b 3) (b 4) (b 5) (b 6) (nI n) (b 8) (b 9) (b 10) (nI mf) (b 12) (b 13) (b 14) (nI cc) (bI kn) (b 17) (nI sc) (b 19) (nI fc) (b 21) (bI so) la lq (b 25) (nI wq)), (cI G (b 1) 15 (q 1)), (cI G (b 2) 15 (q 2)), (cZ G (b 3) 15 (q 3)), (cI G (b 4) 15 (q 4)), (cI G (b 5) 15 (q 5)), (cI G (b 6) 60 (q 6)), (cI G (b 8) 40 (q 8)), (cI G (b 9) 40 (q 9)), (cI G (b 10) 40 (q 10)), (cZ G (b 12) 4 (q 12)), (cI G (b 13) 4 (q 13)), (cI G (b 14) 14 (q 14)), (cI G (b 17) 16384 (q 17)), (cI G (b 19) 201 (q 19)), (cI G (b 21) 201 (q 21)), (cI G (b 25) 14 (q 25))]) := by
  refine Met.ofW (cc := cX8_group) (maxL := 4) (ret := (some .int)) (by decide) rfl ?_
  intro p e s m args below meth c s₁ B hml hv
  obtain ⟨rfl, hP, hD0, hKK⟩ := hv
  have hx := B.exec
  have hb := B.bytes
  have hr := B.returns
  have hts := atoms_spec (ws := wsX8_group) B.pre
  have hown : s.vm.findClass RX8 = some m.cls := findClass_of_methodNamed B.named
  have hlocks := B.notSynchronized
  have hK := hKK.1
  generalize hAe : adr [(oX8 (b 0) th (b 1) (b 2) (b 3) (b 4) (b 5) (b 6) (nI n) (b 8) (b 9) (b 10) (nI mf) (b 12) (b 13) (b 14) (nI cc) (bI kn) (b 17) (nI sc) (b 19) (nI fc) (b 21) (bI so) la lq (b 25) (nI wq)), (cI G (b 1) 15 (q 1)), (cI G (b 2) 15 (q 2)), (cZ G (b 3) 15 (q 3)), (cI G (b 4) 15 (q 4)), (cI G (b 5) 15 (q 5)), (cI G (b 6) 60 (q 6)), (cI G (b 8) 40 (q 8)), (cI G (b 9) 40 (q 9)), (cI G (b 10) 40 (q 10)), (cZ G (b 12) 4 (q 12)), (cI G (b 13) 4 (q 13)), (cI G (b 14) 14 (q 14)), (cI G (b 17) 16384 (q 17)), (cI G (b 19) 201 (q 19)), (cI G (b 21) 201 (q 21)), (cI G (b 25) 14 (q 25))] = A
  have hD : va_D A [(oX8 (b 0) th (b 1) (b 2) (b 3) (b 4) (b 5) (b 6) (nI n) (b 8) (b 9) (b 10) (nI mf) (b 12) (b 13) (b 14) (nI cc) (bI kn) (b 17) (nI sc) (b 19) (nI fc) (b 21) (bI so) la lq (b 25) (nI wq)), (cI G (b 1) 15 (q 1)), (cI G (b 2) 15 (q 2)), (cZ G (b 3) 15 (q 3)), (cI G (b 4) 15 (q 4)), (cI G (b 5) 15 (q 5)), (cI G (b 6) 60 (q 6)), (cI G (b 8) 40 (q 8)), (cI G (b 9) 40 (q 9)), (cI G (b 10) 40 (q 10)), (cZ G (b 12) 4 (q 12)), (cI G (b 13) 4 (q 13)), (cI G (b 14) 14 (q 14)), (cI G (b 17) 16384 (q 17)), (cI G (b 19) 201 (q 19)), (cI G (b 21) 201 (q 21)), (cI G (b 25) 14 (q 25))] := by rw [← hAe]; exact hD0.own
  have hS : va_S A s.heap s.heap [] := va_S.rf
  have hP : va_P G.1 vwCl [(oX8 (b 0) th (b 1) (b 2) (b 3) (b 4) (b 5) (b 6) (nI n) (b 8) (b 9) (b 10) (nI mf) (b 12) (b 13) (b 14) (nI cc) (bI kn) (b 17) (nI sc) (b 19) (nI fc) (b 21) (bI so) la lq (b 25) (nI wq)), (cI G (b 1) 15 (q 1)), (cI G (b 2) 15 (q 2)), (cZ G (b 3) 15 (q 3)), (cI G (b 4) 15 (q 4)), (cI G (b 5) 15 (q 5)), (cI G (b 6) 60 (q 6)), (cI G (b 8) 40 (q 8)), (cI G (b 9) 40 (q 9)), (cI G (b 10) 40 (q 10)), (cZ G (b 12) 4 (q 12)), (cI G (b 13) 4 (q 13)), (cI G (b 14) 14 (q 14)), (cI G (b 17) 16384 (q 17)), (cI G (b 19) 201 (q 19)), (cI G (b 21) 201 (q 21)), (cI G (b 25) 14 (q 25))] s.heap := hP
  have hl := lv_entry ([.ref (b 0), .int x, .int lo, .int hi]) (n := 4) (Nat.le_of_ble_eq_true rfl)
  rw [lg_entry_eq]
  generalize (lg_sl ([.ref (b 0), .int x, .int lo, .int hi]) ++ List.replicate (4 - (lg_sl ([.ref (b 0), .int x, .int lo, .int hi])).length) Slot.unset).toArray = ls at hl ⊢
  have hl : lv_has ls 4 [(0, .ref (b 0)), (1, .int x), (2, .int lo), (3, .int hi)] := hl
  refine lv_aload_n hx hb dX8_group_0 rfl (lv_at hl 0 rfl) ?_
  refine lv_iconst (v := 0) hx hb dX8_group_1 (by decide) ?_
  refine va_put (D := G.1) (ci := 10) (v := .int 0) (ty := .int) (C := RX8) (T := TX8) (N := 27) hx hb hts iX8_group_X8 tyX8 tyX8_ok nmX8 hown hK hP hD hS 0 rfl rfl 0 (by decide) (hts _ fX8_group_1) (fun _ h9 => h9) rfl (by decide +kernel) rfl rfl (Nat.le_of_ble_eq_true rfl) dX8_group_2 (fun H locs hP hD hS => ?_)
  have hPD : PD G A [(oX8 (b 0) 0 (b 1) (b 2) (b 3) (b 4) (b 5) (b 6) (nI n) (b 8) (b 9) (b 10) (nI mf) (b 12) (b 13) (b 14) (nI cc) (bI kn) (b 17) (nI sc) (b 19) (nI fc) (b 21) (bI so) la lq (b 25) (nI wq)), (cI G (b 1) 15 (q 1)), (cI G (b 2) 15 (q 2)), (cZ G (b 3) 15 (q 3)), (cI G (b 4) 15 (q 4)), (cI G (b 5) 15 (q 5)), (cI G (b 6) 60 (q 6)), (cI G (b 8) 40 (q 8)), (cI G (b 9) 40 (q 9)), (cI G (b 10) 40 (q 10)), (cZ G (b 12) 4 (q 12)), (cI G (b 13) 4 (q 13)), (cI G (b 14) 14 (q 14)), (cI G (b 17) 16384 (q 17)), (cI G (b 19) 201 (q 19)), (cI G (b 21) 201 (q 21)), (cI G (b 25) 14 (q 25))] H := ⟨hP, hD⟩
  have hP := hPD.1
  have hD := hPD.2
  clear hPD
  refine lv_aload_n hx hb dX8_group_5 rfl (lv_at hl 0 rfl) ?_
  refine lv_iload_n hx hb dX8_group_6 rfl (lv_at hl 1 rfl) ?_
  refine cpV (ci := 10) (T0 := TX8) (N := 27) (As := [.int x]) (rest := []) ⟨hx, hb, hml, hown, hts⟩ (c_X8_isFeature l G b 0 n mf cc kn sc fc so la lq wq  x ) (cwV 1 hts gX8_group_X8_isFeature rfl rfl rfl ⟨rfl, hd_X8_isFeature⟩ ⟨Nat.le_of_ble_eq_true rfl, Nat.le_of_ble_eq_true rfl⟩) hKK hP [0] rfl rfl rfl rfl hl.1 rfl (Nat.le_of_ble_eq_true rfl) dX8_group_7 ⟨Nat.zero_le _, Nat.zero_le _⟩ ?_
  refine lv_if_ne (tgt := 15) hx hb dX8_group_10 (by decide) (fun c_10 => ?_) (fun c_10 => ?_)
  · skip
    have hfx := has_nat hn (bI_n0 c_10)
    refine lv_iload_n hx hb dX8_group_15 rfl (lv_at hl 2 rfl) ?_
    refine lv_if_lt (tgt := 30) hx hb dX8_group_16 (by decide) (fun c_16 => ?_) (fun c_16 => ?_)
    · skip
      refine lv_bipush (v := -2) hx hb dX8_group_30 (by decide) ?_
      exact greti hx hb hr hlocks rfl hAe hS (⟨-2, (0, n, mf, cc, kn, sc, fc, so, la, lq, wq, q)⟩) (rfl) (by unfold mGroup; rw [if_pos (bI_n0 c_10), if_pos c_16]) (hP) dX8_group_32
    · skip
      refine lv_iload_n hx hb dX8_group_19 rfl (lv_at hl 3 rfl) ?_
      refine lv_iload_n hx hb dX8_group_20 rfl (lv_at hl 2 rfl) ?_
      refine lv_icmp_lt (tgt := 30) hx hb dX8_group_21 (by decide) (fun c_21 => ?_) (fun c_21 => ?_)
      · skip
        refine lv_bipush (v := -2) hx hb dX8_group_30 (by decide) ?_
        exact greti hx hb hr hlocks rfl hAe hS (⟨-2, (0, n, mf, cc, kn, sc, fc, so, la, lq, wq, q)⟩) (rfl) (by unfold mGroup; rw [if_pos (bI_n0 c_10), if_neg c_16, if_pos c_21]) (hP) dX8_group_32
      · skip
        refine lv_iload_n hx hb dX8_group_24 rfl (lv_at hl 3 rfl) ?_
        refine lv_bipush (v := 14) hx hb dX8_group_25 (by decide) ?_
        refine lv_icmp_le (tgt := 33) hx hb dX8_group_27 (by decide) (fun c_27 => ?_) (fun c_27 => ?_)
        · skip
          refine lv_aload_n hx hb dX8_group_33 rfl (lv_at hl 0 rfl) ?_
          refine va_get (D := G.1) (ci := 10) (v := .ref (b 3)) (C := RX8) (T := TX8) (N := 27) hx hb hts iX8_group_X8 hown hK hP 0 rfl rfl 3 (by decide) (hts _ fX8_group_2) (fun _ h9 => h9) rfl dX8_group_34 ?_
          refine lv_iload_n hx hb dX8_group_37 rfl (lv_at hl 1 rfl) ?_
          refine lv_iconst (v := 1) hx hb dX8_group_38 (by decide) ?_
          refine astZ hx hb hK hP hD hS 3 (k := x.toNatClampNeg) rfl (hfx.1) (by omega) (by decide) (Or.inr rfl) dX8_group_39 (fun H locs hP hD hS => ?_)
          have hPD : PD G A [(oX8 (b 0) 0 (b 1) (b 2) (b 3) (b 4) (b 5) (b 6) (nI n) (b 8) (b 9) (b 10) (nI mf) (b 12) (b 13) (b 14) (nI cc) (bI kn) (b 17) (nI sc) (b 19) (nI fc) (b 21) (bI so) la lq (b 25) (nI wq)), (cI G (b 1) 15 (q 1)), (cI G (b 2) 15 (q 2)), (cZ G (b 3) 15 (upd (q 3) x.toNatClampNeg 1)), (cI G (b 4) 15 (q 4)), (cI G (b 5) 15 (q 5)), (cI G (b 6) 60 (q 6)), (cI G (b 8) 40 (q 8)), (cI G (b 9) 40 (q 9)), (cI G (b 10) 40 (q 10)), (cZ G (b 12) 4 (q 12)), (cI G (b 13) 4 (q 13)), (cI G (b 14) 14 (q 14)), (cI G (b 17) 16384 (q 17)), (cI G (b 19) 201 (q 19)), (cI G (b 21) 201 (q 21)), (cI G (b 25) 14 (q 25))] H := ⟨hP, hD⟩
          have hP := hPD.1
          have hD := hPD.2
          clear hPD
          refine lv_aload_n hx hb dX8_group_40 rfl (lv_at hl 0 rfl) ?_
          refine va_get (D := G.1) (ci := 10) (v := .ref (b 4)) (C := RX8) (T := TX8) (N := 27) hx hb hts iX8_group_X8 hown hK hP 0 rfl rfl 4 (by decide) (hts _ fX8_group_3) (fun _ h9 => h9) rfl dX8_group_41 ?_
          refine lv_iload_n hx hb dX8_group_44 rfl (lv_at hl 1 rfl) ?_
          refine lv_iload_n hx hb dX8_group_45 rfl (lv_at hl 2 rfl) ?_
          refine astI hx hb hK hP hD hS 4 (k := x.toNatClampNeg) rfl (hfx.1) (by omega) (by decide) dX8_group_46 (fun H locs hP hD hS => ?_)
          have hPD : PD G A [(oX8 (b 0) 0 (b 1) (b 2) (b 3) (b 4) (b 5) (b 6) (nI n) (b 8) (b 9) (b 10) (nI mf) (b 12) (b 13) (b 14) (nI cc) (bI kn) (b 17) (nI sc) (b 19) (nI fc) (b 21) (bI so) la lq (b 25) (nI wq)), (cI G (b 1) 15 (q 1)), (cI G (b 2) 15 (q 2)), (cZ G (b 3) 15 (upd (q 3) x.toNatClampNeg 1)), (cI G (b 4) 15 (upd (q 4) x.toNatClampNeg lo)), (cI G (b 5) 15 (q 5)), (cI G (b 6) 60 (q 6)), (cI G (b 8) 40 (q 8)), (cI G (b 9) 40 (q 9)), (cI G (b 10) 40 (q 10)), (cZ G (b 12) 4 (q 12)), (cI G (b 13) 4 (q 13)), (cI G (b 14) 14 (q 14)), (cI G (b 17) 16384 (q 17)), (cI G (b 19) 201 (q 19)), (cI G (b 21) 201 (q 21)), (cI G (b 25) 14 (q 25))] H := ⟨hP, hD⟩
          have hP := hPD.1
          have hD := hPD.2
          clear hPD
          refine lv_aload_n hx hb dX8_group_47 rfl (lv_at hl 0 rfl) ?_
          refine va_get (D := G.1) (ci := 10) (v := .ref (b 5)) (C := RX8) (T := TX8) (N := 27) hx hb hts iX8_group_X8 hown hK hP 0 rfl rfl 5 (by decide) (hts _ fX8_group_4) (fun _ h9 => h9) rfl dX8_group_48 ?_
          refine lv_iload_n hx hb dX8_group_51 rfl (lv_at hl 1 rfl) ?_
          refine lv_iload_n hx hb dX8_group_52 rfl (lv_at hl 3 rfl) ?_
          refine astI hx hb hK hP hD hS 5 (k := x.toNatClampNeg) rfl (hfx.1) (by omega) (by decide) dX8_group_53 (fun H locs hP hD hS => ?_)
          have hPD : PD G A [(oX8 (b 0) 0 (b 1) (b 2) (b 3) (b 4) (b 5) (b 6) (nI n) (b 8) (b 9) (b 10) (nI mf) (b 12) (b 13) (b 14) (nI cc) (bI kn) (b 17) (nI sc) (b 19) (nI fc) (b 21) (bI so) la lq (b 25) (nI wq)), (cI G (b 1) 15 (q 1)), (cI G (b 2) 15 (q 2)), (cZ G (b 3) 15 (upd (q 3) x.toNatClampNeg 1)), (cI G (b 4) 15 (upd (q 4) x.toNatClampNeg lo)), (cI G (b 5) 15 (upd (q 5) x.toNatClampNeg hi)), (cI G (b 6) 60 (q 6)), (cI G (b 8) 40 (q 8)), (cI G (b 9) 40 (q 9)), (cI G (b 10) 40 (q 10)), (cZ G (b 12) 4 (q 12)), (cI G (b 13) 4 (q 13)), (cI G (b 14) 14 (q 14)), (cI G (b 17) 16384 (q 17)), (cI G (b 19) 201 (q 19)), (cI G (b 21) 201 (q 21)), (cI G (b 25) 14 (q 25))] H := ⟨hP, hD⟩
          have hP := hPD.1
          have hD := hPD.2
          clear hPD
          refine lv_aload_n hx hb dX8_group_54 rfl (lv_at hl 0 rfl) ?_
          refine lv_iconst (v := 0) hx hb dX8_group_55 (by decide) ?_
          refine va_put (D := G.1) (ci := 10) (v := .int 0) (ty := .boolean) (C := RX8) (T := TX8) (N := 27) hx hb hts iX8_group_X8 tyX8 tyX8_ok nmX8 hown hK hP hD hS 0 rfl rfl 16 (by decide) (hts _ fX8_group_5) (fun _ h9 => h9) rfl (by decide +kernel) rfl rfl (Nat.le_of_ble_eq_true rfl) dX8_group_56 (fun H locs hP hD hS => ?_)
          have hPD : PD G A [(oX8 (b 0) 0 (b 1) (b 2) (b 3) (b 4) (b 5) (b 6) (nI n) (b 8) (b 9) (b 10) (nI mf) (b 12) (b 13) (b 14) (nI cc) 0 (b 17) (nI sc) (b 19) (nI fc) (b 21) (bI so) la lq (b 25) (nI wq)), (cI G (b 1) 15 (q 1)), (cI G (b 2) 15 (q 2)), (cZ G (b 3) 15 (upd (q 3) x.toNatClampNeg 1)), (cI G (b 4) 15 (upd (q 4) x.toNatClampNeg lo)), (cI G (b 5) 15 (upd (q 5) x.toNatClampNeg hi)), (cI G (b 6) 60 (q 6)), (cI G (b 8) 40 (q 8)), (cI G (b 9) 40 (q 9)), (cI G (b 10) 40 (q 10)), (cZ G (b 12) 4 (q 12)), (cI G (b 13) 4 (q 13)), (cI G (b 14) 14 (q 14)), (cI G (b 17) 16384 (q 17)), (cI G (b 19) 201 (q 19)), (cI G (b 21) 201 (q 21)), (cI G (b 25) 14 (q 25))] H := ⟨hP, hD⟩
          have hP := hPD.1
          have hD := hPD.2
          clear hPD
          refine lv_aload_n hx hb dX8_group_59 rfl (lv_at hl 0 rfl) ?_
          refine lv_iload_n hx hb dX8_group_60 rfl (lv_at hl 1 rfl) ?_
          refine cpV (ci := 10) (T0 := TX8) (N := 27) (As := [.int x]) (rest := []) ⟨hx, hb, hml, hown, hts⟩ (c_X8_groupedBelow l G b 0 n mf cc false sc fc so la lq wq (q 1) (q 2) x (hn)) (cwV 1 hts gX8_group_X8_groupedBelow rfl rfl rfl ⟨rfl, hd_X8_groupedBelow⟩ ⟨Nat.le_of_ble_eq_true rfl, Nat.le_of_ble_eq_true rfl⟩) hKK hP [0, 1, 2] rfl rfl rfl rfl hl.1 rfl (Nat.le_of_ble_eq_true rfl) dX8_group_61 ⟨Nat.zero_le _, Nat.zero_le _⟩ ?_
          exact greti hx hb hr hlocks rfl hAe hS (⟨nI (cntU (grbB (q 1) (q 2) x) n), (0, n, mf, cc, false, sc, fc, so, la, lq, wq, upR (upR (upR q 3 (upd (q 3) x.toNatClampNeg 1)) 4 (upd (q 4) x.toNatClampNeg lo)) 5 (upd (q 5) x.toNatClampNeg hi))⟩) (rfl) (by unfold mGroup; rw [if_pos (bI_n0 c_10), if_neg c_16, if_neg c_21, if_pos c_27]) (hP) dX8_group_64
        · skip
          refine lv_bipush (v := -2) hx hb dX8_group_30 (by decide) ?_
          exact greti hx hb hr hlocks rfl hAe hS (⟨-2, (0, n, mf, cc, kn, sc, fc, so, la, lq, wq, q)⟩) (rfl) (by unfold mGroup; rw [if_pos (bI_n0 c_10), if_neg c_16, if_neg c_21, if_neg c_27]) (hP) dX8_group_32
  · skip
    refine lv_iconst (v := -1) hx hb dX8_group_13 (by decide) ?_
    exact greti hx hb hr hlocks rfl hAe hS (⟨-1, (0, n, mf, cc, kn, sc, fc, so, la, lq, wq, q)⟩) (rfl) (by unfold mGroup; rw [if_neg (by rw [bI_0.mp c_10]; decide)]) (hP) dX8_group_14

theorem iX8_formula_X8 : ∀ w ∈ u_ws RX8 TX8 27, w ∈ wsX8_formula := by decide +kernel
theorem fX8_formula_1 : Cond.fieldLink RX8 59 "FeatureSolveModel" "thrown" "I" ∈ wsX8_formula := by decide +kernel
theorem hd_X8_isLiteral : yX8_isLiteral.cls ≠ "java/lang/invoke/MethodHandle" ∧ yX8_isLiteral.cls ≠ "java/lang/invoke/VarHandle" ∧ (parseMethodDescriptor yX8_isLiteral.desc).map (fun d => d.parameters.length) = some 1 := by decide +kernel
theorem fX8_formula_2 : Cond.fieldLink RX8 81 "FeatureSolveModel" "formulas" "I" ∈ wsX8_formula := by decide +kernel
theorem fX8_formula_3 : Cond.fieldLink RX8 29 "FeatureSolveModel" "ops" "[I" ∈ wsX8_formula := by decide +kernel
theorem fX8_formula_4 : Cond.fieldLink RX8 32 "FeatureSolveModel" "as" "[I" ∈ wsX8_formula := by decide +kernel
theorem fX8_formula_5 : Cond.fieldLink RX8 35 "FeatureSolveModel" "bs" "[I" ∈ wsX8_formula := by decide +kernel
theorem fX8_formula_6 : Cond.fieldLink RX8 70 "FeatureSolveModel" "known" "Z" ∈ wsX8_formula := by decide +kernel
set_option maxHeartbeats 4000000 in
set_option maxRecDepth 100000 in
/-- formula -/
theorem c_X8_formula (l : Launch) (G : GG) (b : Nat → Nat) (th : Int32) (n mf cc : Nat) (kn : Bool) (sc fc : Nat) (so : Bool) (la lq : Int32) (wq : Nat) (q : Nat → Nat → Int32) (o x y : Int32) (hn : n ≤ 14) (hm : mf ≤ 40) : Met l yX8_formula wsX8_formula (rmK 2) (va_Pc [.ref (b 0), .int o, .int x, .int y] (PM G [(oX8 (b 0) th (b 1) (b 2) (b 3) (b 4) (b 5) (b 6) (nI n) (b 8) (b 9) (b 10) (nI mf) (b 12) (b 13) (b 14) (nI cc) (bI kn) (b 17) (nI sc) (b 19) (nI fc) (b 21) (bI so) la lq (b 25) (nI wq)), (cI G (b 1) 15 (q 1)), (cI G (b 2) 15 (q 2)), (cZ G (b 3) 15 (q 3)), (cI G (b 4) 15 (q 4)), (cI G (b 5) 15 (q 5)), (cI G (b 6) 60 (q 6)), (cI G (b 8) 40 (q 8)), (cI G (b 9) 40 (q 9)), (cI G (b 10) 40 (q 10)), (cZ G (b 12) 4 (q 12)), (cI G (b 13) 4 (q 13)), (cI G (b 14) 14 (q 14)), (cI G (b 17) 16384 (q 17)), (cI G (b 19) 201 (q 19)), (cI G (b 21) 201 (q 21)), (cI G (b 25) 14 (q 25))])) (QG (S := Int32 × MS) G [(oX8 (b 0) th (b 1) (b 2) (b 3) (b 4) (b 5) (b 6) (nI n) (b 8) (b 9) (b 10) (nI mf) (b 12) (b 13) (b 14) (nI cc) (bI kn) (b 17) (nI sc) (b 19) (nI fc) (b 21) (bI so) la lq (b 25) (nI wq)), (cI G (b 1) 15 (q 1)), (cI G (b 2) 15 (q 2)), (cZ G (b 3) 15 (q 3)), (cI G (b 4) 15 (q 4)), (cI G (b 5) 15 (q 5)), (cI G (b 6) 60 (q 6)), (cI G (b 8) 40 (q 8)), (cI G (b 9) 40 (q 9)), (cI G (b 10) 40 (q 10)), (cZ G (b 12) 4 (q 12)), (cI G (b 13) 4 (q 13)), (cI G (b 14) 14 (q 14)), (cI G (b 17) 16384 (q 17)), (cI G (b 19) 201 (q 19)), (cI G (b 21) 201 (q 21)), (cI G (b 25) 14 (q 25))] (fun u => u = mFormula n mf cc kn sc fc so la lq wq q o x y) (fun u => some (.int u.1)) (fun u => mW G b u.2)) 0 0 (adr [(oX8 (b 0) th (b 1) (b 2) (b 3) (b 4) (b 5) (b 6) (nI n) (b 8) (b 9) (b 10) (nI mf) (b 12) (b 13) (b 14) (nI cc) (bI kn) (b 17) (nI sc) (b 19) (nI fc) (b 21) (bI so) la lq (b 25) (nI wq)), (cI G (b 1) 15 (q 1)), (cI G (b 2) 15 (q 2)), (cZ G (b 3) 15 (q 3)), (cI G (b 4) 15 (q 4)), (cI G (b 5) 15 (q 5)), (cI G (b 6) 60 (q 6)), (cI G (b 8) 40 (q 8)), (cI G (b 9) 40 (q 9)), (cI G (b 10) 40 (q 10)), (cZ G (b 12) 4 (q 12)), (cI G (b 13) 4 (q 13)), (cI G (b 14) 14 (q 14)), (cI G (b 17) 16384 (q 17)), (cI G (b 19) 201 (q 19)), (cI G (b 21) 201 (q 21)), (cI G (b 25) 14 (q 25))]) := by
  refine Met.ofW (cc := cX8_formula) (maxL := 5) (ret := (some .int)) (by decide) rfl ?_
  intro p e s m args below meth c s₁ B hml hv
  obtain ⟨rfl, hP, hD0, hKK⟩ := hv
  have hx := B.exec
  have hb := B.bytes
  have hr := B.returns
  have hts := atoms_spec (ws := wsX8_formula) B.pre
  have hown : s.vm.findClass RX8 = some m.cls := findClass_of_methodNamed B.named
  have hlocks := B.notSynchronized
  have hK := hKK.1
  generalize hAe : adr [(oX8 (b 0) th (b 1) (b 2) (b 3) (b 4) (b 5) (b 6) (nI n) (b 8) (b 9) (b 10) (nI mf) (b 12) (b 13) (b 14) (nI cc) (bI kn) (b 17) (nI sc) (b 19) (nI fc) (b 21) (bI so) la lq (b 25) (nI wq)), (cI G (b 1) 15 (q 1)), (cI G (b 2) 15 (q 2)), (cZ G (b 3) 15 (q 3)), (cI G (b 4) 15 (q 4)), (cI G (b 5) 15 (q 5)), (cI G (b 6) 60 (q 6)), (cI G (b 8) 40 (q 8)), (cI G (b 9) 40 (q 9)), (cI G (b 10) 40 (q 10)), (cZ G (b 12) 4 (q 12)), (cI G (b 13) 4 (q 13)), (cI G (b 14) 14 (q 14)), (cI G (b 17) 16384 (q 17)), (cI G (b 19) 201 (q 19)), (cI G (b 21) 201 (q 21)), (cI G (b 25) 14 (q 25))] = A
  have hD : va_D A [(oX8 (b 0) th (b 1) (b 2) (b 3) (b 4) (b 5) (b 6) (nI n) (b 8) (b 9) (b 10) (nI mf) (b 12) (b 13) (b 14) (nI cc) (bI kn) (b 17) (nI sc) (b 19) (nI fc) (b 21) (bI so) la lq (b 25) (nI wq)), (cI G (b 1) 15 (q 1)), (cI G (b 2) 15 (q 2)), (cZ G (b 3) 15 (q 3)), (cI G (b 4) 15 (q 4)), (cI G (b 5) 15 (q 5)), (cI G (b 6) 60 (q 6)), (cI G (b 8) 40 (q 8)), (cI G (b 9) 40 (q 9)), (cI G (b 10) 40 (q 10)), (cZ G (b 12) 4 (q 12)), (cI G (b 13) 4 (q 13)), (cI G (b 14) 14 (q 14)), (cI G (b 17) 16384 (q 17)), (cI G (b 19) 201 (q 19)), (cI G (b 21) 201 (q 21)), (cI G (b 25) 14 (q 25))] := by rw [← hAe]; exact hD0.own
  have hS : va_S A s.heap s.heap [] := va_S.rf
  have hP : va_P G.1 vwCl [(oX8 (b 0) th (b 1) (b 2) (b 3) (b 4) (b 5) (b 6) (nI n) (b 8) (b 9) (b 10) (nI mf) (b 12) (b 13) (b 14) (nI cc) (bI kn) (b 17) (nI sc) (b 19) (nI fc) (b 21) (bI so) la lq (b 25) (nI wq)), (cI G (b 1) 15 (q 1)), (cI G (b 2) 15 (q 2)), (cZ G (b 3) 15 (q 3)), (cI G (b 4) 15 (q 4)), (cI G (b 5) 15 (q 5)), (cI G (b 6) 60 (q 6)), (cI G (b 8) 40 (q 8)), (cI G (b 9) 40 (q 9)), (cI G (b 10) 40 (q 10)), (cZ G (b 12) 4 (q 12)), (cI G (b 13) 4 (q 13)), (cI G (b 14) 14 (q 14)), (cI G (b 17) 16384 (q 17)), (cI G (b 19) 201 (q 19)), (cI G (b 21) 201 (q 21)), (cI G (b 25) 14 (q 25))] s.heap := hP
  have hl := lv_entry ([.ref (b 0), .int o, .int x, .int y]) (n := 5) (Nat.le_of_ble_eq_true rfl)
  rw [lg_entry_eq]
  generalize (lg_sl ([.ref (b 0), .int o, .int x, .int y]) ++ List.replicate (5 - (lg_sl ([.ref (b 0), .int o, .int x, .int y])).length) Slot.unset).toArray = ls at hl ⊢
  have hl : lv_has ls 5 [(0, .ref (b 0)), (1, .int o), (2, .int x), (3, .int y)] := hl
  refine lv_aload_n hx hb dX8_formula_0 rfl (lv_at hl 0 rfl) ?_
  refine lv_iconst (v := 0) hx hb dX8_formula_1 (by decide) ?_
  refine va_put (D := G.1) (ci := 10) (v := .int 0) (ty := .int) (C := RX8) (T := TX8) (N := 27) hx hb hts iX8_formula_X8 tyX8 tyX8_ok nmX8 hown hK hP hD hS 0 rfl rfl 0 (by decide) (hts _ fX8_formula_1) (fun _ h9 => h9) rfl (by decide +kernel) rfl rfl (Nat.le_of_ble_eq_true rfl) dX8_formula_2 (fun H locs hP hD hS => ?_)
  have hPD : PD G A [(oX8 (b 0) 0 (b 1) (b 2) (b 3) (b 4) (b 5) (b 6) (nI n) (b 8) (b 9) (b 10) (nI mf) (b 12) (b 13) (b 14) (nI cc) (bI kn) (b 17) (nI sc) (b 19) (nI fc) (b 21) (bI so) la lq (b 25) (nI wq)), (cI G (b 1) 15 (q 1)), (cI G (b 2) 15 (q 2)), (cZ G (b 3) 15 (q 3)), (cI G (b 4) 15 (q 4)), (cI G (b 5) 15 (q 5)), (cI G (b 6) 60 (q 6)), (cI G (b 8) 40 (q 8)), (cI G (b 9) 40 (q 9)), (cI G (b 10) 40 (q 10)), (cZ G (b 12) 4 (q 12)), (cI G (b 13) 4 (q 13)), (cI G (b 14) 14 (q 14)), (cI G (b 17) 16384 (q 17)), (cI G (b 19) 201 (q 19)), (cI G (b 21) 201 (q 21)), (cI G (b 25) 14 (q 25))] H := ⟨hP, hD⟩
  have hP := hPD.1
  have hD := hPD.2
  clear hPD
  refine lv_aload_n hx hb dX8_formula_5 rfl (lv_at hl 0 rfl) ?_
  refine lv_iload_n hx hb dX8_formula_6 rfl (lv_at hl 2 rfl) ?_
  refine cpV (ci := 10) (T0 := TX8) (N := 27) (As := [.int x]) (rest := []) ⟨hx, hb, hml, hown, hts⟩ (c_X8_isLiteral l G b 0 n mf cc kn sc fc so la lq wq  x ) (cwV 1 hts gX8_formula_X8_isLiteral rfl rfl rfl ⟨rfl, hd_X8_isLiteral⟩ ⟨Nat.le_of_ble_eq_true rfl, Nat.le_of_ble_eq_true rfl⟩) hKK hP [0] rfl rfl rfl rfl hl.1 rfl (Nat.le_of_ble_eq_true rfl) dX8_formula_7 ⟨Nat.zero_le _, Nat.zero_le _⟩ ?_
  refine lv_if_eq (tgt := 21) hx hb dX8_formula_10 (by decide) (fun c_10 => ?_) (fun c_10 => ?_)
  · skip
    refine lv_iconst (v := -1) hx hb dX8_formula_21 (by decide) ?_
    exact greti hx hb hr hlocks rfl hAe hS (⟨-1, (0, n, mf, cc, kn, sc, fc, so, la, lq, wq, q)⟩) (rfl) (by unfold mFormula; rw [if_neg (by rw [bI_0.mp c_10]; decide)]) (hP) dX8_formula_22
  · skip
    refine lv_aload_n hx hb dX8_formula_13 rfl (lv_at hl 0 rfl) ?_
    refine lv_iload_n hx hb dX8_formula_14 rfl (lv_at hl 3 rfl) ?_
    refine cpV (ci := 10) (T0 := TX8) (N := 27) (As := [.int y]) (rest := []) ⟨hx, hb, hml, hown, hts⟩ (c_X8_isLiteral l G b 0 n mf cc kn sc fc so la lq wq  y ) (cwV 1 hts gX8_formula_X8_isLiteral rfl rfl rfl ⟨rfl, hd_X8_isLiteral⟩ ⟨Nat.le_of_ble_eq_true rfl, Nat.le_of_ble_eq_true rfl⟩) hKK hP [0] rfl rfl rfl rfl hl.1 rfl (Nat.le_of_ble_eq_true rfl) dX8_formula_15 ⟨Nat.zero_le _, Nat.zero_le _⟩ ?_
    refine lv_if_ne (tgt := 23) hx hb dX8_formula_18 (by decide) (fun c_18 => ?_) (fun c_18 => ?_)
    · skip
      refine lv_iload_n hx hb dX8_formula_23 rfl (lv_at hl 1 rfl) ?_
      refine lv_if_lt (tgt := 32) hx hb dX8_formula_24 (by decide) (fun c_24 => ?_) (fun c_24 => ?_)
      · skip
        refine lv_bipush (v := -2) hx hb dX8_formula_32 (by decide) ?_
        exact greti hx hb hr hlocks rfl hAe hS (⟨-2, (0, n, mf, cc, kn, sc, fc, so, la, lq, wq, q)⟩) (rfl) (by unfold mFormula; rw [if_pos (bI_n0 c_10), if_pos (bI_n0 c_18), if_pos c_24]) (hP) dX8_formula_34
      · skip
        refine lv_iload_n hx hb dX8_formula_27 rfl (lv_at hl 1 rfl) ?_
        refine lv_iconst (v := 3) hx hb dX8_formula_28 (by decide) ?_
        refine lv_icmp_le (tgt := 35) hx hb dX8_formula_29 (by decide) (fun c_29 => ?_) (fun c_29 => ?_)
        · skip
          refine cutJ (nL := 5) (lv := [(0, .ref (b 0)), (1, .int o), (2, .int x), (3, .int y)]) (pc' := 68) (st' := [.int (bI (alwM o x y))]) (fun ls hl => ?_) (fun hJ_68 => ?_)
          · skip
            refine lv_istore (lv' := [(4, .int (bI (alwM o x y))), (0, .ref (b 0)), (1, .int o), (2, .int x), (3, .int y)]) hx hb dX8_formula_68 hl (by decide) rfl (fun ls hl => ?_)
            refine lv_aload_n hx hb dX8_formula_70 rfl (lv_at hl 1 rfl) ?_
            refine va_get (D := G.1) (ci := 10) (v := .int (nI mf)) (C := RX8) (T := TX8) (N := 27) hx hb hts iX8_formula_X8 hown hK hP 0 rfl rfl 11 (by decide) (hts _ fX8_formula_2) (fun _ h9 => h9) rfl dX8_formula_71 ?_
            refine lv_bipush (v := 40) hx hb dX8_formula_74 (by decide) ?_
            refine lv_icmp_ne (tgt := 82) hx hb dX8_formula_76 (by decide) (fun c_76 => ?_) (fun c_76 => ?_)
            · skip
              have hm40 : mf < 40 := by have : mf ≠ 40 := fun z => c_76 (by rw [z]; rfl); omega
              refine lv_iload hx hb dX8_formula_82 (lv_at hl 0 rfl) ?_
              refine lv_if_eq (tgt := 89) hx hb dX8_formula_84 (by decide) (fun c_84 => ?_) (fun c_84 => ?_)
              · skip
                refine lv_aload_n hx hb dX8_formula_89 rfl (lv_at hl 1 rfl) ?_
                refine va_get (D := G.1) (ci := 10) (v := .ref (b 8)) (C := RX8) (T := TX8) (N := 27) hx hb hts iX8_formula_X8 hown hK hP 0 rfl rfl 8 (by decide) (hts _ fX8_formula_3) (fun _ h9 => h9) rfl dX8_formula_90 ?_
                refine lv_aload_n hx hb dX8_formula_93 rfl (lv_at hl 1 rfl) ?_
                refine va_get (D := G.1) (ci := 10) (v := .int (nI mf)) (C := RX8) (T := TX8) (N := 27) hx hb hts iX8_formula_X8 hown hK hP 0 rfl rfl 11 (by decide) (hts _ fX8_formula_2) (fun _ h9 => h9) rfl dX8_formula_94 ?_
                refine lv_iload_n hx hb dX8_formula_97 rfl (lv_at hl 2 rfl) ?_
                refine astI hx hb hK hP hD hS 7 (k := mf) rfl (rfl) (by omega) (by decide) dX8_formula_98 (fun H locs hP hD hS => ?_)
                have hPD : PD G A [(oX8 (b 0) 0 (b 1) (b 2) (b 3) (b 4) (b 5) (b 6) (nI n) (b 8) (b 9) (b 10) (nI mf) (b 12) (b 13) (b 14) (nI cc) (bI kn) (b 17) (nI sc) (b 19) (nI fc) (b 21) (bI so) la lq (b 25) (nI wq)), (cI G (b 1) 15 (q 1)), (cI G (b 2) 15 (q 2)), (cZ G (b 3) 15 (q 3)), (cI G (b 4) 15 (q 4)), (cI G (b 5) 15 (q 5)), (cI G (b 6) 60 (q 6)), (cI G (b 8) 40 (upd (q 8) mf o)), (cI G (b 9) 40 (q 9)), (cI G (b 10) 40 (q 10)), (cZ G (b 12) 4 (q 12)), (cI G (b 13) 4 (q 13)), (cI G (b 14) 14 (q 14)), (cI G (b 17) 16384 (q 17)), (cI G (b 19) 201 (q 19)), (cI G (b 21) 201 (q 21)), (cI G (b 25) 14 (q 25))] H := ⟨hP, hD⟩
                have hP := hPD.1
                have hD := hPD.2
                clear hPD
                refine lv_aload_n hx hb dX8_formula_99 rfl (lv_at hl 1 rfl) ?_
                refine va_get (D := G.1) (ci := 10) (v := .ref (b 9)) (C := RX8) (T := TX8) (N := 27) hx hb hts iX8_formula_X8 hown hK hP 0 rfl rfl 9 (by decide) (hts _ fX8_formula_4) (fun _ h9 => h9) rfl dX8_formula_100 ?_
                refine lv_aload_n hx hb dX8_formula_103 rfl (lv_at hl 1 rfl) ?_
                refine va_get (D := G.1) (ci := 10) (v := .int (nI mf)) (C := RX8) (T := TX8) (N := 27) hx hb hts iX8_formula_X8 hown hK hP 0 rfl rfl 11 (by decide) (hts _ fX8_formula_2) (fun _ h9 => h9) rfl dX8_formula_104 ?_
                refine lv_iload_n hx hb dX8_formula_107 rfl (lv_at hl 3 rfl) ?_
                refine astI hx hb hK hP hD hS 8 (k := mf) rfl (rfl) (by omega) (by decide) dX8_formula_108 (fun H locs hP hD hS => ?_)
                have hPD : PD G A [(oX8 (b 0) 0 (b 1) (b 2) (b 3) (b 4) (b 5) (b 6) (nI n) (b 8) (b 9) (b 10) (nI mf) (b 12) (b 13) (b 14) (nI cc) (bI kn) (b 17) (nI sc) (b 19) (nI fc) (b 21) (bI so) la lq (b 25) (nI wq)), (cI G (b 1) 15 (q 1)), (cI G (b 2) 15 (q 2)), (cZ G (b 3) 15 (q 3)), (cI G (b 4) 15 (q 4)), (cI G (b 5) 15 (q 5)), (cI G (b 6) 60 (q 6)), (cI G (b 8) 40 (upd (q 8) mf o)), (cI G (b 9) 40 (upd (q 9) mf x)), (cI G (b 10) 40 (q 10)), (cZ G (b 12) 4 (q 12)), (cI G (b 13) 4 (q 13)), (cI G (b 14) 14 (q 14)), (cI G (b 17) 16384 (q 17)), (cI G (b 19) 201 (q 19)), (cI G (b 21) 201 (q 21)), (cI G (b 25) 14 (q 25))] H := ⟨hP, hD⟩
                have hP := hPD.1
                have hD := hPD.2
                clear hPD
                refine lv_aload_n hx hb dX8_formula_109 rfl (lv_at hl 1 rfl) ?_
                refine va_get (D := G.1) (ci := 10) (v := .ref (b 10)) (C := RX8) (T := TX8) (N := 27) hx hb hts iX8_formula_X8 hown hK hP 0 rfl rfl 10 (by decide) (hts _ fX8_formula_5) (fun _ h9 => h9) rfl dX8_formula_110 ?_
                refine lv_aload_n hx hb dX8_formula_113 rfl (lv_at hl 1 rfl) ?_
                refine va_get (D := G.1) (ci := 10) (v := .int (nI mf)) (C := RX8) (T := TX8) (N := 27) hx hb hts iX8_formula_X8 hown hK hP 0 rfl rfl 11 (by decide) (hts _ fX8_formula_2) (fun _ h9 => h9) rfl dX8_formula_114 ?_
                refine lv_iload_n hx hb dX8_formula_117 rfl (lv_at hl 4 rfl) ?_
                refine astI hx hb hK hP hD hS 9 (k := mf) rfl (rfl) (by omega) (by decide) dX8_formula_118 (fun H locs hP hD hS => ?_)
                have hPD : PD G A [(oX8 (b 0) 0 (b 1) (b 2) (b 3) (b 4) (b 5) (b 6) (nI n) (b 8) (b 9) (b 10) (nI mf) (b 12) (b 13) (b 14) (nI cc) (bI kn) (b 17) (nI sc) (b 19) (nI fc) (b 21) (bI so) la lq (b 25) (nI wq)), (cI G (b 1) 15 (q 1)), (cI G (b 2) 15 (q 2)), (cZ G (b 3) 15 (q 3)), (cI G (b 4) 15 (q 4)), (cI G (b 5) 15 (q 5)), (cI G (b 6) 60 (q 6)), (cI G (b 8) 40 (upd (q 8) mf o)), (cI G (b 9) 40 (upd (q 9) mf x)), (cI G (b 10) 40 (upd (q 10) mf y)), (cZ G (b 12) 4 (q 12)), (cI G (b 13) 4 (q 13)), (cI G (b 14) 14 (q 14)), (cI G (b 17) 16384 (q 17)), (cI G (b 19) 201 (q 19)), (cI G (b 21) 201 (q 21)), (cI G (b 25) 14 (q 25))] H := ⟨hP, hD⟩
                have hP := hPD.1
                have hD := hPD.2
                clear hPD
                refine lv_aload_n hx hb dX8_formula_119 rfl (lv_at hl 1 rfl) ?_
                refine lv_dup hx hb dX8_formula_120 rfl ?_
                refine va_get (D := G.1) (ci := 10) (v := .int (nI mf)) (C := RX8) (T := TX8) (N := 27) hx hb hts iX8_formula_X8 hown hK hP 0 rfl rfl 11 (by decide) (hts _ fX8_formula_2) (fun _ h9 => h9) rfl dX8_formula_121 ?_
                refine lv_iconst (v := 1) hx hb dX8_formula_124 (by decide) ?_
                refine lv_iadd hx hb dX8_formula_125 ?_
                refine stI (y := nI (mf + 1)) (nI_1 mf) ?_
                refine va_put (D := G.1) (ci := 10) (v := .int (nI (mf + 1))) (ty := .int) (C := RX8) (T := TX8) (N := 27) hx hb hts iX8_formula_X8 tyX8 tyX8_ok nmX8 hown hK hP hD hS 0 rfl rfl 11 (by decide) (hts _ fX8_formula_2) (fun _ h9 => h9) rfl (by decide +kernel) rfl rfl (Nat.le_of_ble_eq_true rfl) dX8_formula_126 (fun H locs hP hD hS => ?_)
                have hPD : PD G A [(oX8 (b 0) 0 (b 1) (b 2) (b 3) (b 4) (b 5) (b 6) (nI n) (b 8) (b 9) (b 10) (nI (mf + 1)) (b 12) (b 13) (b 14) (nI cc) (bI kn) (b 17) (nI sc) (b 19) (nI fc) (b 21) (bI so) la lq (b 25) (nI wq)), (cI G (b 1) 15 (q 1)), (cI G (b 2) 15 (q 2)), (cZ G (b 3) 15 (q 3)), (cI G (b 4) 15 (q 4)), (cI G (b 5) 15 (q 5)), (cI G (b 6) 60 (q 6)), (cI G (b 8) 40 (upd (q 8) mf o)), (cI G (b 9) 40 (upd (q 9) mf x)), (cI G (b 10) 40 (upd (q 10) mf y)), (cZ G (b 12) 4 (q 12)), (cI G (b 13) 4 (q 13)), (cI G (b 14) 14 (q 14)), (cI G (b 17) 16384 (q 17)), (cI G (b 19) 201 (q 19)), (cI G (b 21) 201 (q 21)), (cI G (b 25) 14 (q 25))] H := ⟨hP, hD⟩
                have hP := hPD.1
                have hD := hPD.2
                clear hPD
                refine lv_aload_n hx hb dX8_formula_129 rfl (lv_at hl 1 rfl) ?_
                refine lv_iconst (v := 0) hx hb dX8_formula_130 (by decide) ?_
                refine va_put (D := G.1) (ci := 10) (v := .int 0) (ty := .boolean) (C := RX8) (T := TX8) (N := 27) hx hb hts iX8_formula_X8 tyX8 tyX8_ok nmX8 hown hK hP hD hS 0 rfl rfl 16 (by decide) (hts _ fX8_formula_6) (fun _ h9 => h9) rfl (by decide +kernel) rfl rfl (Nat.le_of_ble_eq_true rfl) dX8_formula_131 (fun H locs hP hD hS => ?_)
                have hPD : PD G A [(oX8 (b 0) 0 (b 1) (b 2) (b 3) (b 4) (b 5) (b 6) (nI n) (b 8) (b 9) (b 10) (nI (mf + 1)) (b 12) (b 13) (b 14) (nI cc) 0 (b 17) (nI sc) (b 19) (nI fc) (b 21) (bI so) la lq (b 25) (nI wq)), (cI G (b 1) 15 (q 1)), (cI G (b 2) 15 (q 2)), (cZ G (b 3) 15 (q 3)), (cI G (b 4) 15 (q 4)), (cI G (b 5) 15 (q 5)), (cI G (b 6) 60 (q 6)), (cI G (b 8) 40 (upd (q 8) mf o)), (cI G (b 9) 40 (upd (q 9) mf x)), (cI G (b 10) 40 (upd (q 10) mf y)), (cZ G (b 12) 4 (q 12)), (cI G (b 13) 4 (q 13)), (cI G (b 14) 14 (q 14)), (cI G (b 17) 16384 (q 17)), (cI G (b 19) 201 (q 19)), (cI G (b 21) 201 (q 21)), (cI G (b 25) 14 (q 25))] H := ⟨hP, hD⟩
                have hP := hPD.1
                have hD := hPD.2
                clear hPD
                refine lv_aload_n hx hb dX8_formula_134 rfl (lv_at hl 1 rfl) ?_
                refine va_get (D := G.1) (ci := 10) (v := .int (nI (mf + 1))) (C := RX8) (T := TX8) (N := 27) hx hb hts iX8_formula_X8 hown hK hP 0 rfl rfl 11 (by decide) (hts _ fX8_formula_2) (fun _ h9 => h9) rfl dX8_formula_135 ?_
                exact greti hx hb hr hlocks rfl hAe hS (⟨nI (mf + 1), (0, n, mf + 1, cc, false, sc, fc, so, la, lq, wq, upR (upR (upR q 8 (upd (q 8) mf o)) 9 (upd (q 9) mf x)) 10 (upd (q 10) mf y))⟩) (rfl) (by unfold mFormula; rw [if_pos (bI_n0 c_10), if_pos (bI_n0 c_18), if_neg c_24, if_pos c_29, if_neg c_76, if_neg (by rw [bI_0.mp c_84]; decide)]) (hP) dX8_formula_138
              · skip
                refine lv_iconst (v := 0) hx hb dX8_formula_87 (by decide) ?_
                exact greti hx hb hr hlocks rfl hAe hS (⟨0, (0, n, mf, cc, kn, sc, fc, so, la, lq, wq, q)⟩) (rfl) (by unfold mFormula; rw [if_pos (bI_n0 c_10), if_pos (bI_n0 c_18), if_neg c_24, if_pos c_29, if_neg c_76, if_pos (bI_n0 c_84)]) (hP) dX8_formula_88
            · skip
              refine lv_bipush (v := -4) hx hb dX8_formula_79 (by decide) ?_
              exact greti hx hb hr hlocks rfl hAe hS (⟨-4, (0, n, mf, cc, kn, sc, fc, so, la, lq, wq, q)⟩) (rfl) (by unfold mFormula; rw [if_pos (bI_n0 c_10), if_pos (bI_n0 c_18), if_neg c_24, if_pos c_29, if_pos c_76]) (hP) dX8_formula_81
          · skip
            refine lv_iload_n hx hb dX8_formula_35 rfl (lv_at hl 1 rfl) ?_
            refine lv_if_eq (tgt := 44) hx hb dX8_formula_36 (by decide) (fun c_36 => ?_) (fun c_36 => ?_)
            · skip
              refine lv_iload_n hx hb dX8_formula_44 rfl (lv_at hl 2 rfl) ?_
              refine lv_iload_n hx hb dX8_formula_45 rfl (lv_at hl 3 rfl) ?_
              refine lv_icmp_ne (tgt := 53) hx hb dX8_formula_46 (by decide) (fun c_46 => ?_) (fun c_46 => ?_)
              · skip
                refine lv_iconst (v := 0) hx hb dX8_formula_53 (by decide) ?_
                refine lv_goto (tgt := 68) hx hb dX8_formula_54 (by decide) ?_
                refine stI (y := (bI (alwM o x y))) (by unfold alwM; rw [if_pos c_36]; exact bI_no _ decide_eq_true_iff c_46) ?_
                exact hJ_68 ls (lv_sub hl [0, 1, 2, 3] rfl)
              · skip
                refine lv_iconst (v := 1) hx hb dX8_formula_49 (by decide) ?_
                refine lv_goto (tgt := 68) hx hb dX8_formula_50 (by decide) ?_
                refine stI (y := (bI (alwM o x y))) (by unfold alwM; rw [if_pos c_36]; exact bI_of _ decide_eq_true_iff c_46) ?_
                exact hJ_68 ls (lv_sub hl [0, 1, 2, 3] rfl)
            · skip
              refine lv_iload_n hx hb dX8_formula_39 rfl (lv_at hl 1 rfl) ?_
              refine lv_iconst (v := 3) hx hb dX8_formula_40 (by decide) ?_
              refine lv_icmp_ne (tgt := 57) hx hb dX8_formula_41 (by decide) (fun c_41 => ?_) (fun c_41 => ?_)
              · skip
                refine lv_iload_n hx hb dX8_formula_57 rfl (lv_at hl 2 rfl) ?_
                refine lv_iload_n hx hb dX8_formula_58 rfl (lv_at hl 3 rfl) ?_
                refine lv_ineg hx hb dX8_formula_59 ?_
                refine lv_icmp_ne (tgt := 67) hx hb dX8_formula_60 (by decide) (fun c_60 => ?_) (fun c_60 => ?_)
                · skip
                  refine lv_iconst (v := 0) hx hb dX8_formula_67 (by decide) ?_
                  refine stI (y := (bI (alwM o x y))) (by unfold alwM; rw [if_neg c_36, if_neg c_41]; exact bI_no _ decide_eq_true_iff c_60) ?_
                  exact hJ_68 ls (lv_sub hl [0, 1, 2, 3] rfl)
                · skip
                  refine lv_iconst (v := 1) hx hb dX8_formula_63 (by decide) ?_
                  refine lv_goto (tgt := 68) hx hb dX8_formula_64 (by decide) ?_
                  refine stI (y := (bI (alwM o x y))) (by unfold alwM; rw [if_neg c_36, if_neg c_41]; exact bI_of _ decide_eq_true_iff c_60) ?_
                  exact hJ_68 ls (lv_sub hl [0, 1, 2, 3] rfl)
              · skip
                refine lv_iload_n hx hb dX8_formula_44 rfl (lv_at hl 2 rfl) ?_
                refine lv_iload_n hx hb dX8_formula_45 rfl (lv_at hl 3 rfl) ?_
                refine lv_icmp_ne (tgt := 53) hx hb dX8_formula_46 (by decide) (fun c_46 => ?_) (fun c_46 => ?_)
                · skip
                  refine lv_iconst (v := 0) hx hb dX8_formula_53 (by decide) ?_
                  refine lv_goto (tgt := 68) hx hb dX8_formula_54 (by decide) ?_
                  refine stI (y := (bI (alwM o x y))) (by unfold alwM; rw [if_neg c_36, if_pos c_41]; exact bI_no _ decide_eq_true_iff c_46) ?_
                  exact hJ_68 ls (lv_sub hl [0, 1, 2, 3] rfl)
                · skip
                  refine lv_iconst (v := 1) hx hb dX8_formula_49 (by decide) ?_
                  refine lv_goto (tgt := 68) hx hb dX8_formula_50 (by decide) ?_
                  refine stI (y := (bI (alwM o x y))) (by unfold alwM; rw [if_neg c_36, if_pos c_41]; exact bI_of _ decide_eq_true_iff c_46) ?_
                  exact hJ_68 ls (lv_sub hl [0, 1, 2, 3] rfl)
        · skip
          refine lv_bipush (v := -2) hx hb dX8_formula_32 (by decide) ?_
          exact greti hx hb hr hlocks rfl hAe hS (⟨-2, (0, n, mf, cc, kn, sc, fc, so, la, lq, wq, q)⟩) (rfl) (by unfold mFormula; rw [if_pos (bI_n0 c_10), if_pos (bI_n0 c_18), if_neg c_24, if_neg c_29]) (hP) dX8_formula_34
    · skip
      refine lv_iconst (v := -1) hx hb dX8_formula_21 (by decide) ?_
      exact greti hx hb hr hlocks rfl hAe hS (⟨-1, (0, n, mf, cc, kn, sc, fc, so, la, lq, wq, q)⟩) (rfl) (by unfold mFormula; rw [if_pos (bI_n0 c_10), if_neg (by rw [bI_0.mp c_18]; decide)]) (hP) dX8_formula_22

theorem iX8_attribute_X8 : ∀ w ∈ u_ws RX8 TX8 27, w ∈ wsX8_attribute := by decide +kernel
theorem fX8_attribute_1 : Cond.fieldLink RX8 59 "FeatureSolveModel" "thrown" "I" ∈ wsX8_attribute := by decide +kernel
theorem fX8_attribute_2 : Cond.fieldLink RX8 38 "FeatureSolveModel" "limited" "[Z" ∈ wsX8_attribute := by decide +kernel
theorem fX8_attribute_3 : Cond.fieldLink RX8 41 "FeatureSolveModel" "limits" "[I" ∈ wsX8_attribute := by decide +kernel
theorem fX8_attribute_4 : Cond.fieldLink RX8 70 "FeatureSolveModel" "known" "Z" ∈ wsX8_attribute := by decide +kernel
theorem fX8_attribute_5 : Cond.fieldLink RX8 26 "FeatureSolveModel" "sums" "[I" ∈ wsX8_attribute := by decide +kernel
set_option maxHeartbeats 4000000 in
set_option maxRecDepth 100000 in
/-- attribute -/
theorem c_X8_attribute (l : Launch) (G : GG) (b : Nat → Nat) (th : Int32) (n mf cc : Nat) (kn : Bool) (sc fc : Nat) (so : Bool) (la lq : Int32) (wq : Nat) (q : Nat → Nat → Int32) (x wh v : Int32) (hn : n ≤ 14) : Met l yX8_attribute wsX8_attribute (rmK 1) (va_Pc [.ref (b 0), .int x, .int wh, .int v] (PM G [(oX8 (b 0) th (b 1) (b 2) (b 3) (b 4) (b 5) (b 6) (nI n) (b 8) (b 9) (b 10) (nI mf) (b 12) (b 13) (b 14) (nI cc) (bI kn) (b 17) (nI sc) (b 19) (nI fc) (b 21) (bI so) la lq (b 25) (nI wq)), (cI G (b 1) 15 (q 1)), (cI G (b 2) 15 (q 2)), (cZ G (b 3) 15 (q 3)), (cI G (b 4) 15 (q 4)), (cI G (b 5) 15 (q 5)), (cI G (b 6) 60 (q 6)), (cI G (b 8) 40 (q 8)), (cI G (b 9) 40 (q 9)), (cI G (b 10) 40 (q 10)), (cZ G (b 12) 4 (q 12)), (cI G (b 13) 4 (q 13)), (cI G (b 14) 14 (q 14)), (cI G (b 17) 16384 (q 17)), (cI G (b 19) 201 (q 19)), (cI G (b 21) 201 (q 21)), (cI G (b 25) 14 (q 25))])) (QG (S := Int32 × MS) G [(oX8 (b 0) th (b 1) (b 2) (b 3) (b 4) (b 5) (b 6) (nI n) (b 8) (b 9) (b 10) (nI mf) (b 12) (b 13) (b 14) (nI cc) (bI kn) (b 17) (nI sc) (b 19) (nI fc) (b 21) (bI so) la lq (b 25) (nI wq)), (cI G (b 1) 15 (q 1)), (cI G (b 2) 15 (q 2)), (cZ G (b 3) 15 (q 3)), (cI G (b 4) 15 (q 4)), (cI G (b 5) 15 (q 5)), (cI G (b 6) 60 (q 6)), (cI G (b 8) 40 (q 8)), (cI G (b 9) 40 (q 9)), (cI G (b 10) 40 (q 10)), (cZ G (b 12) 4 (q 12)), (cI G (b 13) 4 (q 13)), (cI G (b 14) 14 (q 14)), (cI G (b 17) 16384 (q 17)), (cI G (b 19) 201 (q 19)), (cI G (b 21) 201 (q 21)), (cI G (b 25) 14 (q 25))] (fun u => u = mAttribute n mf cc kn sc fc so la lq wq q x wh v) (fun u => some (.int u.1)) (fun u => mW G b u.2)) 0 0 (adr [(oX8 (b 0) th (b 1) (b 2) (b 3) (b 4) (b 5) (b 6) (nI n) (b 8) (b 9) (b 10) (nI mf) (b 12) (b 13) (b 14) (nI cc) (bI kn) (b 17) (nI sc) (b 19) (nI fc) (b 21) (bI so) la lq (b 25) (nI wq)), (cI G (b 1) 15 (q 1)), (cI G (b 2) 15 (q 2)), (cZ G (b 3) 15 (q 3)), (cI G (b 4) 15 (q 4)), (cI G (b 5) 15 (q 5)), (cI G (b 6) 60 (q 6)), (cI G (b 8) 40 (q 8)), (cI G (b 9) 40 (q 9)), (cI G (b 10) 40 (q 10)), (cZ G (b 12) 4 (q 12)), (cI G (b 13) 4 (q 13)), (cI G (b 14) 14 (q 14)), (cI G (b 17) 16384 (q 17)), (cI G (b 19) 201 (q 19)), (cI G (b 21) 201 (q 21)), (cI G (b 25) 14 (q 25))]) := by
  refine Met.ofW (cc := cX8_attribute) (maxL := 5) (ret := (some .int)) (by decide) rfl ?_
  intro p e s m args below meth c s₁ B hml hv
  obtain ⟨rfl, hP, hD0, hKK⟩ := hv
  have hx := B.exec
  have hb := B.bytes
  have hr := B.returns
  have hts := atoms_spec (ws := wsX8_attribute) B.pre
  have hown : s.vm.findClass RX8 = some m.cls := findClass_of_methodNamed B.named
  have hlocks := B.notSynchronized
  have hK := hKK.1
  generalize hAe : adr [(oX8 (b 0) th (b 1) (b 2) (b 3) (b 4) (b 5) (b 6) (nI n) (b 8) (b 9) (b 10) (nI mf) (b 12) (b 13) (b 14) (nI cc) (bI kn) (b 17) (nI sc) (b 19) (nI fc) (b 21) (bI so) la lq (b 25) (nI wq)), (cI G (b 1) 15 (q 1)), (cI G (b 2) 15 (q 2)), (cZ G (b 3) 15 (q 3)), (cI G (b 4) 15 (q 4)), (cI G (b 5) 15 (q 5)), (cI G (b 6) 60 (q 6)), (cI G (b 8) 40 (q 8)), (cI G (b 9) 40 (q 9)), (cI G (b 10) 40 (q 10)), (cZ G (b 12) 4 (q 12)), (cI G (b 13) 4 (q 13)), (cI G (b 14) 14 (q 14)), (cI G (b 17) 16384 (q 17)), (cI G (b 19) 201 (q 19)), (cI G (b 21) 201 (q 21)), (cI G (b 25) 14 (q 25))] = A
  have hD : va_D A [(oX8 (b 0) th (b 1) (b 2) (b 3) (b 4) (b 5) (b 6) (nI n) (b 8) (b 9) (b 10) (nI mf) (b 12) (b 13) (b 14) (nI cc) (bI kn) (b 17) (nI sc) (b 19) (nI fc) (b 21) (bI so) la lq (b 25) (nI wq)), (cI G (b 1) 15 (q 1)), (cI G (b 2) 15 (q 2)), (cZ G (b 3) 15 (q 3)), (cI G (b 4) 15 (q 4)), (cI G (b 5) 15 (q 5)), (cI G (b 6) 60 (q 6)), (cI G (b 8) 40 (q 8)), (cI G (b 9) 40 (q 9)), (cI G (b 10) 40 (q 10)), (cZ G (b 12) 4 (q 12)), (cI G (b 13) 4 (q 13)), (cI G (b 14) 14 (q 14)), (cI G (b 17) 16384 (q 17)), (cI G (b 19) 201 (q 19)), (cI G (b 21) 201 (q 21)), (cI G (b 25) 14 (q 25))] := by rw [← hAe]; exact hD0.own
  have hS : va_S A s.heap s.heap [] := va_S.rf
  have hP : va_P G.1 vwCl [(oX8 (b 0) th (b 1) (b 2) (b 3) (b 4) (b 5) (b 6) (nI n) (b 8) (b 9) (b 10) (nI mf) (b 12) (b 13) (b 14) (nI cc) (bI kn) (b 17) (nI sc) (b 19) (nI fc) (b 21) (bI so) la lq (b 25) (nI wq)), (cI G (b 1) 15 (q 1)), (cI G (b 2) 15 (q 2)), (cZ G (b 3) 15 (q 3)), (cI G (b 4) 15 (q 4)), (cI G (b 5) 15 (q 5)), (cI G (b 6) 60 (q 6)), (cI G (b 8) 40 (q 8)), (cI G (b 9) 40 (q 9)), (cI G (b 10) 40 (q 10)), (cZ G (b 12) 4 (q 12)), (cI G (b 13) 4 (q 13)), (cI G (b 14) 14 (q 14)), (cI G (b 17) 16384 (q 17)), (cI G (b 19) 201 (q 19)), (cI G (b 21) 201 (q 21)), (cI G (b 25) 14 (q 25))] s.heap := hP
  have hl := lv_entry ([.ref (b 0), .int x, .int wh, .int v]) (n := 5) (Nat.le_of_ble_eq_true rfl)
  rw [lg_entry_eq]
  generalize (lg_sl ([.ref (b 0), .int x, .int wh, .int v]) ++ List.replicate (5 - (lg_sl ([.ref (b 0), .int x, .int wh, .int v])).length) Slot.unset).toArray = ls at hl ⊢
  have hl : lv_has ls 5 [(0, .ref (b 0)), (1, .int x), (2, .int wh), (3, .int v)] := hl
  refine lv_aload_n hx hb dX8_attribute_0 rfl (lv_at hl 0 rfl) ?_
  refine lv_iconst (v := 0) hx hb dX8_attribute_1 (by decide) ?_
  refine va_put (D := G.1) (ci := 10) (v := .int 0) (ty := .int) (C := RX8) (T := TX8) (N := 27) hx hb hts iX8_attribute_X8 tyX8 tyX8_ok nmX8 hown hK hP hD hS 0 rfl rfl 0 (by decide) (hts _ fX8_attribute_1) (fun _ h9 => h9) rfl (by decide +kernel) rfl rfl (Nat.le_of_ble_eq_true rfl) dX8_attribute_2 (fun H locs hP hD hS => ?_)
  have hPD : PD G A [(oX8 (b 0) 0 (b 1) (b 2) (b 3) (b 4) (b 5) (b 6) (nI n) (b 8) (b 9) (b 10) (nI mf) (b 12) (b 13) (b 14) (nI cc) (bI kn) (b 17) (nI sc) (b 19) (nI fc) (b 21) (bI so) la lq (b 25) (nI wq)), (cI G (b 1) 15 (q 1)), (cI G (b 2) 15 (q 2)), (cZ G (b 3) 15 (q 3)), (cI G (b 4) 15 (q 4)), (cI G (b 5) 15 (q 5)), (cI G (b 6) 60 (q 6)), (cI G (b 8) 40 (q 8)), (cI G (b 9) 40 (q 9)), (cI G (b 10) 40 (q 10)), (cZ G (b 12) 4 (q 12)), (cI G (b 13) 4 (q 13)), (cI G (b 14) 14 (q 14)), (cI G (b 17) 16384 (q 17)), (cI G (b 19) 201 (q 19)), (cI G (b 21) 201 (q 21)), (cI G (b 25) 14 (q 25))] H := ⟨hP, hD⟩
  have hP := hPD.1
  have hD := hPD.2
  clear hPD
  refine lv_iload_n hx hb dX8_attribute_5 rfl (lv_at hl 1 rfl) ?_
  refine lv_if_eq (tgt := 19) hx hb dX8_attribute_6 (by decide) (fun c_6 => ?_) (fun c_6 => ?_)
  · skip
    refine lv_iload_n hx hb dX8_attribute_19 rfl (lv_at hl 1 rfl) ?_
    refine lv_if_ne (tgt := 29) hx hb dX8_attribute_20 (by decide) (fun c_20 => ?_) (fun c_20 => ?_)
    · exact absurd c_6 c_20
    · skip
      refine lv_sipush (v := 10000) hx hb dX8_attribute_23 (by decide) ?_
      refine lv_goto (tgt := 32) hx hb dX8_attribute_26 (by decide) ?_
      refine lv_istore (lv' := [(4, .int 10000), (0, .ref (b 0)), (1, .int x), (2, .int wh), (3, .int v)]) hx hb dX8_attribute_32 hl (by decide) rfl (fun ls hl => ?_)
      refine lv_iload_n hx hb dX8_attribute_34 rfl (lv_at hl 3 rfl) ?_
      refine lv_if_lt (tgt := 56) hx hb dX8_attribute_35 (by decide) (fun c_35 => ?_) (fun c_35 => ?_)
      · skip
        refine lv_bipush (v := -2) hx hb dX8_attribute_56 (by decide) ?_
        exact greti hx hb hr hlocks rfl hAe hS (⟨-2, (0, n, mf, cc, kn, sc, fc, so, la, lq, wq, q)⟩) (rfl) (by unfold mAttribute; rw [if_pos c_6, if_pos c_35]) (hP) dX8_attribute_58
      · skip
        refine lv_iload_n hx hb dX8_attribute_38 rfl (lv_at hl 3 rfl) ?_
        refine lv_iconst (v := 3) hx hb dX8_attribute_39 (by decide) ?_
        refine lv_icmp_gt (tgt := 56) hx hb dX8_attribute_40 (by decide) (fun c_40 => ?_) (fun c_40 => ?_)
        · skip
          refine lv_bipush (v := -2) hx hb dX8_attribute_56 (by decide) ?_
          exact greti hx hb hr hlocks rfl hAe hS (⟨-2, (0, n, mf, cc, kn, sc, fc, so, la, lq, wq, q)⟩) (rfl) (by unfold mAttribute; rw [if_pos c_6, if_neg c_35, if_pos c_40]) (hP) dX8_attribute_58
        · skip
          have hwx := nat_4 c_35 c_40
          refine lv_iload_n hx hb dX8_attribute_43 rfl (lv_at hl 4 rfl) ?_
          refine lv_iload hx hb dX8_attribute_44 (lv_at hl 0 rfl) ?_
          refine lv_ineg hx hb dX8_attribute_46 ?_
          refine lv_icmp_lt (tgt := 56) hx hb dX8_attribute_47 (by decide) (fun c_47 => ?_) (fun c_47 => ?_)
          · skip
            refine lv_bipush (v := -2) hx hb dX8_attribute_56 (by decide) ?_
            exact greti hx hb hr hlocks rfl hAe hS (⟨-2, (0, n, mf, cc, kn, sc, fc, so, la, lq, wq, q)⟩) (rfl) (by unfold mAttribute; rw [if_pos c_6, if_neg c_35, if_neg c_40, if_pos c_47]) (hP) dX8_attribute_58
          · skip
            refine lv_iload_n hx hb dX8_attribute_50 rfl (lv_at hl 4 rfl) ?_
            refine lv_iload hx hb dX8_attribute_51 (lv_at hl 0 rfl) ?_
            refine lv_icmp_le (tgt := 59) hx hb dX8_attribute_53 (by decide) (fun c_53 => ?_) (fun c_53 => ?_)
            · skip
              refine lv_iload_n hx hb dX8_attribute_59 rfl (lv_at hl 2 rfl) ?_
              refine lv_if_ne (tgt := 80) hx hb dX8_attribute_60 (by decide) (fun c_60 => ?_) (fun c_60 => ?_)
              · exact absurd c_6 c_60
              · skip
                refine lv_aload_n hx hb dX8_attribute_63 rfl (lv_at hl 1 rfl) ?_
                refine va_get (D := G.1) (ci := 10) (v := .ref (b 12)) (C := RX8) (T := TX8) (N := 27) hx hb hts iX8_attribute_X8 hown hK hP 0 rfl rfl 12 (by decide) (hts _ fX8_attribute_2) (fun _ h9 => h9) rfl dX8_attribute_64 ?_
                refine lv_iload_n hx hb dX8_attribute_67 rfl (lv_at hl 3 rfl) ?_
                refine lv_iconst (v := 1) hx hb dX8_attribute_68 (by decide) ?_
                refine astZ hx hb hK hP hD hS 10 (k := wh.toNatClampNeg) rfl (hwx.1) (by omega) (by decide) (Or.inr rfl) dX8_attribute_69 (fun H locs hP hD hS => ?_)
                have hPD : PD G A [(oX8 (b 0) 0 (b 1) (b 2) (b 3) (b 4) (b 5) (b 6) (nI n) (b 8) (b 9) (b 10) (nI mf) (b 12) (b 13) (b 14) (nI cc) (bI kn) (b 17) (nI sc) (b 19) (nI fc) (b 21) (bI so) la lq (b 25) (nI wq)), (cI G (b 1) 15 (q 1)), (cI G (b 2) 15 (q 2)), (cZ G (b 3) 15 (q 3)), (cI G (b 4) 15 (q 4)), (cI G (b 5) 15 (q 5)), (cI G (b 6) 60 (q 6)), (cI G (b 8) 40 (q 8)), (cI G (b 9) 40 (q 9)), (cI G (b 10) 40 (q 10)), (cZ G (b 12) 4 (upd (q 12) wh.toNatClampNeg 1)), (cI G (b 13) 4 (q 13)), (cI G (b 14) 14 (q 14)), (cI G (b 17) 16384 (q 17)), (cI G (b 19) 201 (q 19)), (cI G (b 21) 201 (q 21)), (cI G (b 25) 14 (q 25))] H := ⟨hP, hD⟩
                have hP := hPD.1
                have hD := hPD.2
                clear hPD
                refine lv_aload_n hx hb dX8_attribute_70 rfl (lv_at hl 1 rfl) ?_
                refine va_get (D := G.1) (ci := 10) (v := .ref (b 13)) (C := RX8) (T := TX8) (N := 27) hx hb hts iX8_attribute_X8 hown hK hP 0 rfl rfl 13 (by decide) (hts _ fX8_attribute_3) (fun _ h9 => h9) rfl dX8_attribute_71 ?_
                refine lv_iload_n hx hb dX8_attribute_74 rfl (lv_at hl 3 rfl) ?_
                refine lv_iload_n hx hb dX8_attribute_75 rfl (lv_at hl 4 rfl) ?_
                refine astI hx hb hK hP hD hS 11 (k := wh.toNatClampNeg) rfl (hwx.1) (by omega) (by decide) dX8_attribute_76 (fun H locs hP hD hS => ?_)
                have hPD : PD G A [(oX8 (b 0) 0 (b 1) (b 2) (b 3) (b 4) (b 5) (b 6) (nI n) (b 8) (b 9) (b 10) (nI mf) (b 12) (b 13) (b 14) (nI cc) (bI kn) (b 17) (nI sc) (b 19) (nI fc) (b 21) (bI so) la lq (b 25) (nI wq)), (cI G (b 1) 15 (q 1)), (cI G (b 2) 15 (q 2)), (cZ G (b 3) 15 (q 3)), (cI G (b 4) 15 (q 4)), (cI G (b 5) 15 (q 5)), (cI G (b 6) 60 (q 6)), (cI G (b 8) 40 (q 8)), (cI G (b 9) 40 (q 9)), (cI G (b 10) 40 (q 10)), (cZ G (b 12) 4 (upd (q 12) wh.toNatClampNeg 1)), (cI G (b 13) 4 (upd (q 13) wh.toNatClampNeg v)), (cI G (b 14) 14 (q 14)), (cI G (b 17) 16384 (q 17)), (cI G (b 19) 201 (q 19)), (cI G (b 21) 201 (q 21)), (cI G (b 25) 14 (q 25))] H := ⟨hP, hD⟩
                have hP := hPD.1
                have hD := hPD.2
                clear hPD
                refine lv_goto (tgt := 91) hx hb dX8_attribute_77 (by decide) ?_
                refine lv_aload_n hx hb dX8_attribute_91 rfl (lv_at hl 1 rfl) ?_
                refine lv_iconst (v := 0) hx hb dX8_attribute_92 (by decide) ?_
                refine va_put (D := G.1) (ci := 10) (v := .int 0) (ty := .boolean) (C := RX8) (T := TX8) (N := 27) hx hb hts iX8_attribute_X8 tyX8 tyX8_ok nmX8 hown hK hP hD hS 0 rfl rfl 16 (by decide) (hts _ fX8_attribute_4) (fun _ h9 => h9) rfl (by decide +kernel) rfl rfl (Nat.le_of_ble_eq_true rfl) dX8_attribute_93 (fun H locs hP hD hS => ?_)
                have hPD : PD G A [(oX8 (b 0) 0 (b 1) (b 2) (b 3) (b 4) (b 5) (b 6) (nI n) (b 8) (b 9) (b 10) (nI mf) (b 12) (b 13) (b 14) (nI cc) 0 (b 17) (nI sc) (b 19) (nI fc) (b 21) (bI so) la lq (b 25) (nI wq)), (cI G (b 1) 15 (q 1)), (cI G (b 2) 15 (q 2)), (cZ G (b 3) 15 (q 3)), (cI G (b 4) 15 (q 4)), (cI G (b 5) 15 (q 5)), (cI G (b 6) 60 (q 6)), (cI G (b 8) 40 (q 8)), (cI G (b 9) 40 (q 9)), (cI G (b 10) 40 (q 10)), (cZ G (b 12) 4 (upd (q 12) wh.toNatClampNeg 1)), (cI G (b 13) 4 (upd (q 13) wh.toNatClampNeg v)), (cI G (b 14) 14 (q 14)), (cI G (b 17) 16384 (q 17)), (cI G (b 19) 201 (q 19)), (cI G (b 21) 201 (q 21)), (cI G (b 25) 14 (q 25))] H := ⟨hP, hD⟩
                have hP := hPD.1
                have hD := hPD.2
                clear hPD
                refine lv_iconst (v := 1) hx hb dX8_attribute_96 (by decide) ?_
                exact greti hx hb hr hlocks rfl hAe hS (⟨1, (0, n, mf, cc, false, sc, fc, so, la, lq, wq, upR (upR q 12 (upd (q 12) wh.toNatClampNeg 1)) 13 (upd (q 13) wh.toNatClampNeg v))⟩) (rfl) (by unfold mAttribute; rw [if_pos c_6, if_neg c_35, if_neg c_40, if_neg c_47, if_pos c_53]) (hP) dX8_attribute_97
            · skip
              refine lv_bipush (v := -2) hx hb dX8_attribute_56 (by decide) ?_
              exact greti hx hb hr hlocks rfl hAe hS (⟨-2, (0, n, mf, cc, kn, sc, fc, so, la, lq, wq, q)⟩) (rfl) (by unfold mAttribute; rw [if_pos c_6, if_neg c_35, if_neg c_40, if_neg c_47, if_neg c_53]) (hP) dX8_attribute_58
  · skip
    refine lv_aload_n hx hb dX8_attribute_9 rfl (lv_at hl 0 rfl) ?_
    refine lv_iload_n hx hb dX8_attribute_10 rfl (lv_at hl 1 rfl) ?_
    refine cpV (ci := 10) (T0 := TX8) (N := 27) (As := [.int x]) (rest := []) ⟨hx, hb, hml, hown, hts⟩ (c_X8_isFeature l G b 0 n mf cc kn sc fc so la lq wq  x ) (cwV 1 hts gX8_attribute_X8_isFeature rfl rfl rfl ⟨rfl, hd_X8_isFeature⟩ ⟨Nat.le_of_ble_eq_true rfl, Nat.le_of_ble_eq_true rfl⟩) hKK hP [0] rfl rfl rfl rfl hl.1 rfl (Nat.le_of_ble_eq_true rfl) dX8_attribute_11 ⟨Nat.zero_le _, Nat.zero_le _⟩ ?_
    refine lv_if_ne (tgt := 19) hx hb dX8_attribute_14 (by decide) (fun c_14 => ?_) (fun c_14 => ?_)
    · skip
      have hfx := has_nat hn (bI_n0 c_14)
      refine lv_iload_n hx hb dX8_attribute_19 rfl (lv_at hl 1 rfl) ?_
      refine lv_if_ne (tgt := 29) hx hb dX8_attribute_20 (by decide) (fun c_20 => ?_) (fun c_20 => ?_)
      · skip
        refine lv_sipush (v := 1000) hx hb dX8_attribute_29 (by decide) ?_
        refine lv_istore (lv' := [(4, .int 1000), (0, .ref (b 0)), (1, .int x), (2, .int wh), (3, .int v)]) hx hb dX8_attribute_32 hl (by decide) rfl (fun ls hl => ?_)
        refine lv_iload_n hx hb dX8_attribute_34 rfl (lv_at hl 3 rfl) ?_
        refine lv_if_lt (tgt := 56) hx hb dX8_attribute_35 (by decide) (fun c_35 => ?_) (fun c_35 => ?_)
        · skip
          refine lv_bipush (v := -2) hx hb dX8_attribute_56 (by decide) ?_
          exact greti hx hb hr hlocks rfl hAe hS (⟨-2, (0, n, mf, cc, kn, sc, fc, so, la, lq, wq, q)⟩) (rfl) (by unfold mAttribute; rw [if_neg c_6, if_pos (bI_n0 c_14), if_pos c_35]) (hP) dX8_attribute_58
        · skip
          refine lv_iload_n hx hb dX8_attribute_38 rfl (lv_at hl 3 rfl) ?_
          refine lv_iconst (v := 3) hx hb dX8_attribute_39 (by decide) ?_
          refine lv_icmp_gt (tgt := 56) hx hb dX8_attribute_40 (by decide) (fun c_40 => ?_) (fun c_40 => ?_)
          · skip
            refine lv_bipush (v := -2) hx hb dX8_attribute_56 (by decide) ?_
            exact greti hx hb hr hlocks rfl hAe hS (⟨-2, (0, n, mf, cc, kn, sc, fc, so, la, lq, wq, q)⟩) (rfl) (by unfold mAttribute; rw [if_neg c_6, if_pos (bI_n0 c_14), if_neg c_35, if_pos c_40]) (hP) dX8_attribute_58
          · skip
            have hwx := nat_4 c_35 c_40
            refine lv_iload_n hx hb dX8_attribute_43 rfl (lv_at hl 4 rfl) ?_
            refine lv_iload hx hb dX8_attribute_44 (lv_at hl 0 rfl) ?_
            refine lv_ineg hx hb dX8_attribute_46 ?_
            refine lv_icmp_lt (tgt := 56) hx hb dX8_attribute_47 (by decide) (fun c_47 => ?_) (fun c_47 => ?_)
            · skip
              refine lv_bipush (v := -2) hx hb dX8_attribute_56 (by decide) ?_
              exact greti hx hb hr hlocks rfl hAe hS (⟨-2, (0, n, mf, cc, kn, sc, fc, so, la, lq, wq, q)⟩) (rfl) (by unfold mAttribute; rw [if_neg c_6, if_pos (bI_n0 c_14), if_neg c_35, if_neg c_40, if_pos c_47]) (hP) dX8_attribute_58
            · skip
              refine lv_iload_n hx hb dX8_attribute_50 rfl (lv_at hl 4 rfl) ?_
              refine lv_iload hx hb dX8_attribute_51 (lv_at hl 0 rfl) ?_
              refine lv_icmp_le (tgt := 59) hx hb dX8_attribute_53 (by decide) (fun c_53 => ?_) (fun c_53 => ?_)
              · skip
                refine lv_iload_n hx hb dX8_attribute_59 rfl (lv_at hl 2 rfl) ?_
                refine lv_if_ne (tgt := 80) hx hb dX8_attribute_60 (by decide) (fun c_60 => ?_) (fun c_60 => ?_)
                · skip
                  refine lv_aload_n hx hb dX8_attribute_80 rfl (lv_at hl 1 rfl) ?_
                  refine va_get (D := G.1) (ci := 10) (v := .ref (b 6)) (C := RX8) (T := TX8) (N := 27) hx hb hts iX8_attribute_X8 hown hK hP 0 rfl rfl 6 (by decide) (hts _ fX8_attribute_5) (fun _ h9 => h9) rfl dX8_attribute_81 ?_
                  refine lv_iconst (v := 4) hx hb dX8_attribute_84 (by decide) ?_
                  refine lv_iload_n hx hb dX8_attribute_85 rfl (lv_at hl 2 rfl) ?_
                  refine lv_imul hx hb dX8_attribute_86 ?_
                  refine lv_iload_n hx hb dX8_attribute_87 rfl (lv_at hl 3 rfl) ?_
                  refine lv_iadd hx hb dX8_attribute_88 ?_
                  refine lv_iload_n hx hb dX8_attribute_89 rfl (lv_at hl 4 rfl) ?_
                  refine astI hx hb hK hP hD hS 6 (k := 4 * x.toNatClampNeg + wh.toNatClampNeg) rfl (idx_4 hfx.1 hwx.1) (by omega) (by decide) dX8_attribute_90 (fun H locs hP hD hS => ?_)
                  have hPD : PD G A [(oX8 (b 0) 0 (b 1) (b 2) (b 3) (b 4) (b 5) (b 6) (nI n) (b 8) (b 9) (b 10) (nI mf) (b 12) (b 13) (b 14) (nI cc) (bI kn) (b 17) (nI sc) (b 19) (nI fc) (b 21) (bI so) la lq (b 25) (nI wq)), (cI G (b 1) 15 (q 1)), (cI G (b 2) 15 (q 2)), (cZ G (b 3) 15 (q 3)), (cI G (b 4) 15 (q 4)), (cI G (b 5) 15 (q 5)), (cI G (b 6) 60 (upd (q 6) (4 * x.toNatClampNeg + wh.toNatClampNeg) v)), (cI G (b 8) 40 (q 8)), (cI G (b 9) 40 (q 9)), (cI G (b 10) 40 (q 10)), (cZ G (b 12) 4 (q 12)), (cI G (b 13) 4 (q 13)), (cI G (b 14) 14 (q 14)), (cI G (b 17) 16384 (q 17)), (cI G (b 19) 201 (q 19)), (cI G (b 21) 201 (q 21)), (cI G (b 25) 14 (q 25))] H := ⟨hP, hD⟩
                  have hP := hPD.1
                  have hD := hPD.2
                  clear hPD
                  refine lv_aload_n hx hb dX8_attribute_91 rfl (lv_at hl 1 rfl) ?_
                  refine lv_iconst (v := 0) hx hb dX8_attribute_92 (by decide) ?_
                  refine va_put (D := G.1) (ci := 10) (v := .int 0) (ty := .boolean) (C := RX8) (T := TX8) (N := 27) hx hb hts iX8_attribute_X8 tyX8 tyX8_ok nmX8 hown hK hP hD hS 0 rfl rfl 16 (by decide) (hts _ fX8_attribute_4) (fun _ h9 => h9) rfl (by decide +kernel) rfl rfl (Nat.le_of_ble_eq_true rfl) dX8_attribute_93 (fun H locs hP hD hS => ?_)
                  have hPD : PD G A [(oX8 (b 0) 0 (b 1) (b 2) (b 3) (b 4) (b 5) (b 6) (nI n) (b 8) (b 9) (b 10) (nI mf) (b 12) (b 13) (b 14) (nI cc) 0 (b 17) (nI sc) (b 19) (nI fc) (b 21) (bI so) la lq (b 25) (nI wq)), (cI G (b 1) 15 (q 1)), (cI G (b 2) 15 (q 2)), (cZ G (b 3) 15 (q 3)), (cI G (b 4) 15 (q 4)), (cI G (b 5) 15 (q 5)), (cI G (b 6) 60 (upd (q 6) (4 * x.toNatClampNeg + wh.toNatClampNeg) v)), (cI G (b 8) 40 (q 8)), (cI G (b 9) 40 (q 9)), (cI G (b 10) 40 (q 10)), (cZ G (b 12) 4 (q 12)), (cI G (b 13) 4 (q 13)), (cI G (b 14) 14 (q 14)), (cI G (b 17) 16384 (q 17)), (cI G (b 19) 201 (q 19)), (cI G (b 21) 201 (q 21)), (cI G (b 25) 14 (q 25))] H := ⟨hP, hD⟩
                  have hP := hPD.1
                  have hD := hPD.2
                  clear hPD
                  refine lv_iconst (v := 1) hx hb dX8_attribute_96 (by decide) ?_
                  exact greti hx hb hr hlocks rfl hAe hS (⟨1, (0, n, mf, cc, false, sc, fc, so, la, lq, wq, upR q 6 (upd (q 6) (4 * x.toNatClampNeg + wh.toNatClampNeg) v))⟩) (rfl) (by unfold mAttribute; rw [if_neg c_6, if_pos (bI_n0 c_14), if_neg c_35, if_neg c_40, if_neg c_47, if_pos c_53]) (hP) dX8_attribute_97
                · exact absurd c_60 c_6
              · skip
                refine lv_bipush (v := -2) hx hb dX8_attribute_56 (by decide) ?_
                exact greti hx hb hr hlocks rfl hAe hS (⟨-2, (0, n, mf, cc, kn, sc, fc, so, la, lq, wq, q)⟩) (rfl) (by unfold mAttribute; rw [if_neg c_6, if_pos (bI_n0 c_14), if_neg c_35, if_neg c_40, if_neg c_47, if_neg c_53]) (hP) dX8_attribute_58
      · exact absurd c_20 c_6
    · skip
      refine lv_iconst (v := -1) hx hb dX8_attribute_17 (by decide) ?_
      exact greti hx hb hr hlocks rfl hAe hS (⟨-1, (0, n, mf, cc, kn, sc, fc, so, la, lq, wq, q)⟩) (rfl) (by unfold mAttribute; rw [if_neg c_6, if_neg (by rw [bI_0.mp c_14]; decide)]) (hP) dX8_attribute_18

theorem iX8_chosen_X8 : ∀ w ∈ u_ws RX8 TX8 27, w ∈ wsX8_chosen := by decide +kernel
theorem fX8_chosen_1 : Cond.fieldLink RX8 59 "FeatureSolveModel" "thrown" "I" ∈ wsX8_chosen := by decide +kernel
theorem fX8_chosen_2 : Cond.fieldLink RX8 125 "FeatureSolveModel" "solved" "Z" ∈ wsX8_chosen := by decide +kernel
theorem fX8_chosen_3 : Cond.fieldLink RX8 128 "FeatureSolveModel" "last" "I" ∈ wsX8_chosen := by decide +kernel
theorem fX8_chosen_4 : Cond.fieldLink RX8 131 "FeatureSolveModel" "lastFeatures" "I" ∈ wsX8_chosen := by decide +kernel
theorem hd_X8_wasIn : yX8_wasIn.cls ≠ "java/lang/invoke/MethodHandle" ∧ yX8_wasIn.cls ≠ "java/lang/invoke/VarHandle" ∧ (parseMethodDescriptor yX8_wasIn.desc).map (fun d => d.parameters.length) = some 3 := by decide +kernel
set_option maxHeartbeats 4000000 in
set_option maxRecDepth 100000 in
/-- chosen -/
theorem c_X8_chosen (l : Launch) (G : GG) (b : Nat → Nat) (th : Int32) (n mf cc : Nat) (kn : Bool) (sc fc : Nat) (so : Bool) (la lq : Int32) (wq : Nat) (q : Nat → Nat → Int32) (x : Int32) : Met l yX8_chosen wsX8_chosen (rmK 1) (va_Pc [.ref (b 0), .int x] (PM G [(oX8 (b 0) th (b 1) (b 2) (b 3) (b 4) (b 5) (b 6) (nI n) (b 8) (b 9) (b 10) (nI mf) (b 12) (b 13) (b 14) (nI cc) (bI kn) (b 17) (nI sc) (b 19) (nI fc) (b 21) (bI so) la lq (b 25) (nI wq)), (cI G (b 1) 15 (q 1)), (cI G (b 2) 15 (q 2)), (cZ G (b 3) 15 (q 3)), (cI G (b 4) 15 (q 4)), (cI G (b 5) 15 (q 5)), (cI G (b 6) 60 (q 6)), (cI G (b 8) 40 (q 8)), (cI G (b 9) 40 (q 9)), (cI G (b 10) 40 (q 10)), (cZ G (b 12) 4 (q 12)), (cI G (b 13) 4 (q 13)), (cI G (b 14) 14 (q 14)), (cI G (b 17) 16384 (q 17)), (cI G (b 19) 201 (q 19)), (cI G (b 21) 201 (q 21)), (cI G (b 25) 14 (q 25))])) (QG (S := Int32 × MS) G [(oX8 (b 0) th (b 1) (b 2) (b 3) (b 4) (b 5) (b 6) (nI n) (b 8) (b 9) (b 10) (nI mf) (b 12) (b 13) (b 14) (nI cc) (bI kn) (b 17) (nI sc) (b 19) (nI fc) (b 21) (bI so) la lq (b 25) (nI wq)), (cI G (b 1) 15 (q 1)), (cI G (b 2) 15 (q 2)), (cZ G (b 3) 15 (q 3)), (cI G (b 4) 15 (q 4)), (cI G (b 5) 15 (q 5)), (cI G (b 6) 60 (q 6)), (cI G (b 8) 40 (q 8)), (cI G (b 9) 40 (q 9)), (cI G (b 10) 40 (q 10)), (cZ G (b 12) 4 (q 12)), (cI G (b 13) 4 (q 13)), (cI G (b 14) 14 (q 14)), (cI G (b 17) 16384 (q 17)), (cI G (b 19) 201 (q 19)), (cI G (b 21) 201 (q 21)), (cI G (b 25) 14 (q 25))] (fun u => u = (bI (so && wasB la lq x), (0, n, mf, cc, kn, sc, fc, so, la, lq, wq, q))) (fun u => some (.int u.1)) (fun u => mW G b u.2)) 0 0 (adr [(oX8 (b 0) th (b 1) (b 2) (b 3) (b 4) (b 5) (b 6) (nI n) (b 8) (b 9) (b 10) (nI mf) (b 12) (b 13) (b 14) (nI cc) (bI kn) (b 17) (nI sc) (b 19) (nI fc) (b 21) (bI so) la lq (b 25) (nI wq)), (cI G (b 1) 15 (q 1)), (cI G (b 2) 15 (q 2)), (cZ G (b 3) 15 (q 3)), (cI G (b 4) 15 (q 4)), (cI G (b 5) 15 (q 5)), (cI G (b 6) 60 (q 6)), (cI G (b 8) 40 (q 8)), (cI G (b 9) 40 (q 9)), (cI G (b 10) 40 (q 10)), (cZ G (b 12) 4 (q 12)), (cI G (b 13) 4 (q 13)), (cI G (b 14) 14 (q 14)), (cI G (b 17) 16384 (q 17)), (cI G (b 19) 201 (q 19)), (cI G (b 21) 201 (q 21)), (cI G (b 25) 14 (q 25))]) := by
  refine Met.ofW (cc := cX8_chosen) (maxL := 2) (ret := (some .boolean)) (by decide) rfl ?_
  intro p e s m args below meth c s₁ B hml hv
  obtain ⟨rfl, hP, hD0, hKK⟩ := hv
  have hx := B.exec
  have hb := B.bytes
  have hr := B.returns
  have hts := atoms_spec (ws := wsX8_chosen) B.pre
  have hown : s.vm.findClass RX8 = some m.cls := findClass_of_methodNamed B.named
  have hlocks := B.notSynchronized
  have hK := hKK.1
  generalize hAe : adr [(oX8 (b 0) th (b 1) (b 2) (b 3) (b 4) (b 5) (b 6) (nI n) (b 8) (b 9) (b 10) (nI mf) (b 12) (b 13) (b 14) (nI cc) (bI kn) (b 17) (nI sc) (b 19) (nI fc) (b 21) (bI so) la lq (b 25) (nI wq)), (cI G (b 1) 15 (q 1)), (cI G (b 2) 15 (q 2)), (cZ G (b 3) 15 (q 3)), (cI G (b 4) 15 (q 4)), (cI G (b 5) 15 (q 5)), (cI G (b 6) 60 (q 6)), (cI G (b 8) 40 (q 8)), (cI G (b 9) 40 (q 9)), (cI G (b 10) 40 (q 10)), (cZ G (b 12) 4 (q 12)), (cI G (b 13) 4 (q 13)), (cI G (b 14) 14 (q 14)), (cI G (b 17) 16384 (q 17)), (cI G (b 19) 201 (q 19)), (cI G (b 21) 201 (q 21)), (cI G (b 25) 14 (q 25))] = A
  have hD : va_D A [(oX8 (b 0) th (b 1) (b 2) (b 3) (b 4) (b 5) (b 6) (nI n) (b 8) (b 9) (b 10) (nI mf) (b 12) (b 13) (b 14) (nI cc) (bI kn) (b 17) (nI sc) (b 19) (nI fc) (b 21) (bI so) la lq (b 25) (nI wq)), (cI G (b 1) 15 (q 1)), (cI G (b 2) 15 (q 2)), (cZ G (b 3) 15 (q 3)), (cI G (b 4) 15 (q 4)), (cI G (b 5) 15 (q 5)), (cI G (b 6) 60 (q 6)), (cI G (b 8) 40 (q 8)), (cI G (b 9) 40 (q 9)), (cI G (b 10) 40 (q 10)), (cZ G (b 12) 4 (q 12)), (cI G (b 13) 4 (q 13)), (cI G (b 14) 14 (q 14)), (cI G (b 17) 16384 (q 17)), (cI G (b 19) 201 (q 19)), (cI G (b 21) 201 (q 21)), (cI G (b 25) 14 (q 25))] := by rw [← hAe]; exact hD0.own
  have hS : va_S A s.heap s.heap [] := va_S.rf
  have hP : va_P G.1 vwCl [(oX8 (b 0) th (b 1) (b 2) (b 3) (b 4) (b 5) (b 6) (nI n) (b 8) (b 9) (b 10) (nI mf) (b 12) (b 13) (b 14) (nI cc) (bI kn) (b 17) (nI sc) (b 19) (nI fc) (b 21) (bI so) la lq (b 25) (nI wq)), (cI G (b 1) 15 (q 1)), (cI G (b 2) 15 (q 2)), (cZ G (b 3) 15 (q 3)), (cI G (b 4) 15 (q 4)), (cI G (b 5) 15 (q 5)), (cI G (b 6) 60 (q 6)), (cI G (b 8) 40 (q 8)), (cI G (b 9) 40 (q 9)), (cI G (b 10) 40 (q 10)), (cZ G (b 12) 4 (q 12)), (cI G (b 13) 4 (q 13)), (cI G (b 14) 14 (q 14)), (cI G (b 17) 16384 (q 17)), (cI G (b 19) 201 (q 19)), (cI G (b 21) 201 (q 21)), (cI G (b 25) 14 (q 25))] s.heap := hP
  have hl := lv_entry ([.ref (b 0), .int x]) (n := 2) (Nat.le_of_ble_eq_true rfl)
  rw [lg_entry_eq]
  generalize (lg_sl ([.ref (b 0), .int x]) ++ List.replicate (2 - (lg_sl ([.ref (b 0), .int x])).length) Slot.unset).toArray = ls at hl ⊢
  have hl : lv_has ls 2 [(0, .ref (b 0)), (1, .int x)] := hl
  refine lv_aload_n hx hb dX8_chosen_0 rfl (lv_at hl 0 rfl) ?_
  refine lv_iconst (v := 0) hx hb dX8_chosen_1 (by decide) ?_
  refine va_put (D := G.1) (ci := 10) (v := .int 0) (ty := .int) (C := RX8) (T := TX8) (N := 27) hx hb hts iX8_chosen_X8 tyX8 tyX8_ok nmX8 hown hK hP hD hS 0 rfl rfl 0 (by decide) (hts _ fX8_chosen_1) (fun _ h9 => h9) rfl (by decide +kernel) rfl rfl (Nat.le_of_ble_eq_true rfl) dX8_chosen_2 (fun H locs hP hD hS => ?_)
  have hPD : PD G A [(oX8 (b 0) 0 (b 1) (b 2) (b 3) (b 4) (b 5) (b 6) (nI n) (b 8) (b 9) (b 10) (nI mf) (b 12) (b 13) (b 14) (nI cc) (bI kn) (b 17) (nI sc) (b 19) (nI fc) (b 21) (bI so) la lq (b 25) (nI wq)), (cI G (b 1) 15 (q 1)), (cI G (b 2) 15 (q 2)), (cZ G (b 3) 15 (q 3)), (cI G (b 4) 15 (q 4)), (cI G (b 5) 15 (q 5)), (cI G (b 6) 60 (q 6)), (cI G (b 8) 40 (q 8)), (cI G (b 9) 40 (q 9)), (cI G (b 10) 40 (q 10)), (cZ G (b 12) 4 (q 12)), (cI G (b 13) 4 (q 13)), (cI G (b 14) 14 (q 14)), (cI G (b 17) 16384 (q 17)), (cI G (b 19) 201 (q 19)), (cI G (b 21) 201 (q 21)), (cI G (b 25) 14 (q 25))] H := ⟨hP, hD⟩
  have hP := hPD.1
  have hD := hPD.2
  clear hPD
  refine lv_aload_n hx hb dX8_chosen_5 rfl (lv_at hl 0 rfl) ?_
  refine va_get (D := G.1) (ci := 10) (v := .int (bI so)) (C := RX8) (T := TX8) (N := 27) hx hb hts iX8_chosen_X8 hown hK hP 0 rfl rfl 22 (by decide) (hts _ fX8_chosen_2) (fun _ h9 => h9) rfl dX8_chosen_6 ?_
  refine lv_if_eq (tgt := 31) hx hb dX8_chosen_9 (by decide) (fun c_9 => ?_) (fun c_9 => ?_)
  · skip
    refine lv_iconst (v := 0) hx hb dX8_chosen_31 (by decide) ?_
    exact greti hx hb hr hlocks rfl hAe hS (⟨0, (0, n, mf, cc, kn, sc, fc, so, la, lq, wq, q)⟩) (rfl) (by rw [bI_0.mp c_9]; rfl) (hP) dX8_chosen_32
  · skip
    refine lv_aload_n hx hb dX8_chosen_12 rfl (lv_at hl 0 rfl) ?_
    refine va_get (D := G.1) (ci := 10) (v := .int la) (C := RX8) (T := TX8) (N := 27) hx hb hts iX8_chosen_X8 hown hK hP 0 rfl rfl 23 (by decide) (hts _ fX8_chosen_3) (fun _ h9 => h9) rfl dX8_chosen_13 ?_
    refine lv_aload_n hx hb dX8_chosen_16 rfl (lv_at hl 0 rfl) ?_
    refine va_get (D := G.1) (ci := 10) (v := .int lq) (C := RX8) (T := TX8) (N := 27) hx hb hts iX8_chosen_X8 hown hK hP 0 rfl rfl 24 (by decide) (hts _ fX8_chosen_4) (fun _ h9 => h9) rfl dX8_chosen_17 ?_
    refine lv_iload_n hx hb dX8_chosen_20 rfl (lv_at hl 1 rfl) ?_
    refine cpS (As := [.int la, .int lq, .int x]) (rest := []) ⟨hx, hb, hml, hown, hts⟩ (c_X8_wasIn l G la lq x) (va_cwS 3 hts gX8_chosen_X8_wasIn rfl rfl rfl hd_X8_wasIn ⟨Nat.le_of_ble_eq_true rfl, Nat.le_of_ble_eq_true rfl⟩) hKK hP [] rfl rfl hl.1 rfl (Nat.le_of_ble_eq_true rfl) dX8_chosen_21 ⟨Nat.zero_le _, Nat.zero_le _⟩ ?_
    refine lv_if_eq (tgt := 31) hx hb dX8_chosen_24 (by decide) (fun c_24 => ?_) (fun c_24 => ?_)
    · skip
      refine lv_iconst (v := 0) hx hb dX8_chosen_31 (by decide) ?_
      exact greti hx hb hr hlocks rfl hAe hS (⟨0, (0, n, mf, cc, kn, sc, fc, so, la, lq, wq, q)⟩) (rfl) (by rw [bI_n0 c_9, bI_0.mp c_24]; rfl) (hP) dX8_chosen_32
    · skip
      refine lv_iconst (v := 1) hx hb dX8_chosen_27 (by decide) ?_
      refine lv_goto (tgt := 32) hx hb dX8_chosen_28 (by decide) ?_
      exact greti hx hb hr hlocks rfl hAe hS (⟨1, (0, n, mf, cc, kn, sc, fc, so, la, lq, wq, q)⟩) (rfl) (by rw [bI_n0 c_9, bI_n0 c_24]; rfl) (hP) dX8_chosen_32

theorem iX8_why_X8 : ∀ w ∈ u_ws RX8 TX8 27, w ∈ wsX8_why := by decide +kernel
theorem fX8_why_1 : Cond.fieldLink RX8 59 "FeatureSolveModel" "thrown" "I" ∈ wsX8_why := by decide +kernel
theorem fX8_why_2 : Cond.fieldLink RX8 119 "FeatureSolveModel" "whyCount" "I" ∈ wsX8_why := by decide +kernel
theorem fX8_why_3 : Cond.fieldLink RX8 56 "FeatureSolveModel" "whys" "[I" ∈ wsX8_why := by decide +kernel
set_option maxHeartbeats 4000000 in
set_option maxRecDepth 100000 in
/-- why -/
theorem c_X8_why (l : Launch) (G : GG) (b : Nat → Nat) (th : Int32) (n mf cc : Nat) (kn : Bool) (sc fc : Nat) (so : Bool) (la lq : Int32) (wq : Nat) (q : Nat → Nat → Int32) (i : Int32) (hw : wq ≤ 14) : Met l yX8_why wsX8_why (rmK 1) (va_Pc [.ref (b 0), .int i] (PM G [(oX8 (b 0) th (b 1) (b 2) (b 3) (b 4) (b 5) (b 6) (nI n) (b 8) (b 9) (b 10) (nI mf) (b 12) (b 13) (b 14) (nI cc) (bI kn) (b 17) (nI sc) (b 19) (nI fc) (b 21) (bI so) la lq (b 25) (nI wq)), (cI G (b 1) 15 (q 1)), (cI G (b 2) 15 (q 2)), (cZ G (b 3) 15 (q 3)), (cI G (b 4) 15 (q 4)), (cI G (b 5) 15 (q 5)), (cI G (b 6) 60 (q 6)), (cI G (b 8) 40 (q 8)), (cI G (b 9) 40 (q 9)), (cI G (b 10) 40 (q 10)), (cZ G (b 12) 4 (q 12)), (cI G (b 13) 4 (q 13)), (cI G (b 14) 14 (q 14)), (cI G (b 17) 16384 (q 17)), (cI G (b 19) 201 (q 19)), (cI G (b 21) 201 (q 21)), (cI G (b 25) 14 (q 25))])) (QG (S := Int32 × MS) G [(oX8 (b 0) th (b 1) (b 2) (b 3) (b 4) (b 5) (b 6) (nI n) (b 8) (b 9) (b 10) (nI mf) (b 12) (b 13) (b 14) (nI cc) (bI kn) (b 17) (nI sc) (b 19) (nI fc) (b 21) (bI so) la lq (b 25) (nI wq)), (cI G (b 1) 15 (q 1)), (cI G (b 2) 15 (q 2)), (cZ G (b 3) 15 (q 3)), (cI G (b 4) 15 (q 4)), (cI G (b 5) 15 (q 5)), (cI G (b 6) 60 (q 6)), (cI G (b 8) 40 (q 8)), (cI G (b 9) 40 (q 9)), (cI G (b 10) 40 (q 10)), (cZ G (b 12) 4 (q 12)), (cI G (b 13) 4 (q 13)), (cI G (b 14) 14 (q 14)), (cI G (b 17) 16384 (q 17)), (cI G (b 19) 201 (q 19)), (cI G (b 21) 201 (q 21)), (cI G (b 25) 14 (q 25))] (fun u => u = (mWhy wq q i, (0, n, mf, cc, kn, sc, fc, so, la, lq, wq, q))) (fun u => some (.int u.1)) (fun u => mW G b u.2)) 0 0 (adr [(oX8 (b 0) th (b 1) (b 2) (b 3) (b 4) (b 5) (b 6) (nI n) (b 8) (b 9) (b 10) (nI mf) (b 12) (b 13) (b 14) (nI cc) (bI kn) (b 17) (nI sc) (b 19) (nI fc) (b 21) (bI so) la lq (b 25) (nI wq)), (cI G (b 1) 15 (q 1)), (cI G (b 2) 15 (q 2)), (cZ G (b 3) 15 (q 3)), (cI G (b 4) 15 (q 4)), (cI G (b 5) 15 (q 5)), (cI G (b 6) 60 (q 6)), (cI G (b 8) 40 (q 8)), (cI G (b 9) 40 (q 9)), (cI G (b 10) 40 (q 10)), (cZ G (b 12) 4 (q 12)), (cI G (b 13) 4 (q 13)), (cI G (b 14) 14 (q 14)), (cI G (b 17) 16384 (q 17)), (cI G (b 19) 201 (q 19)), (cI G (b 21) 201 (q 21)), (cI G (b 25) 14 (q 25))]) := by
  refine Met.ofW (cc := cX8_why) (maxL := 2) (ret := (some .int)) (by decide) rfl ?_
  intro p e s m args below meth c s₁ B hml hv
  obtain ⟨rfl, hP, hD0, hKK⟩ := hv
  have hx := B.exec
  have hb := B.bytes
  have hr := B.returns
  have hts := atoms_spec (ws := wsX8_why) B.pre
  have hown : s.vm.findClass RX8 = some m.cls := findClass_of_methodNamed B.named
  have hlocks := B.notSynchronized
  have hK := hKK.1
  generalize hAe : adr [(oX8 (b 0) th (b 1) (b 2) (b 3) (b 4) (b 5) (b 6) (nI n) (b 8) (b 9) (b 10) (nI mf) (b 12) (b 13) (b 14) (nI cc) (bI kn) (b 17) (nI sc) (b 19) (nI fc) (b 21) (bI so) la lq (b 25) (nI wq)), (cI G (b 1) 15 (q 1)), (cI G (b 2) 15 (q 2)), (cZ G (b 3) 15 (q 3)), (cI G (b 4) 15 (q 4)), (cI G (b 5) 15 (q 5)), (cI G (b 6) 60 (q 6)), (cI G (b 8) 40 (q 8)), (cI G (b 9) 40 (q 9)), (cI G (b 10) 40 (q 10)), (cZ G (b 12) 4 (q 12)), (cI G (b 13) 4 (q 13)), (cI G (b 14) 14 (q 14)), (cI G (b 17) 16384 (q 17)), (cI G (b 19) 201 (q 19)), (cI G (b 21) 201 (q 21)), (cI G (b 25) 14 (q 25))] = A
  have hD : va_D A [(oX8 (b 0) th (b 1) (b 2) (b 3) (b 4) (b 5) (b 6) (nI n) (b 8) (b 9) (b 10) (nI mf) (b 12) (b 13) (b 14) (nI cc) (bI kn) (b 17) (nI sc) (b 19) (nI fc) (b 21) (bI so) la lq (b 25) (nI wq)), (cI G (b 1) 15 (q 1)), (cI G (b 2) 15 (q 2)), (cZ G (b 3) 15 (q 3)), (cI G (b 4) 15 (q 4)), (cI G (b 5) 15 (q 5)), (cI G (b 6) 60 (q 6)), (cI G (b 8) 40 (q 8)), (cI G (b 9) 40 (q 9)), (cI G (b 10) 40 (q 10)), (cZ G (b 12) 4 (q 12)), (cI G (b 13) 4 (q 13)), (cI G (b 14) 14 (q 14)), (cI G (b 17) 16384 (q 17)), (cI G (b 19) 201 (q 19)), (cI G (b 21) 201 (q 21)), (cI G (b 25) 14 (q 25))] := by rw [← hAe]; exact hD0.own
  have hS : va_S A s.heap s.heap [] := va_S.rf
  have hP : va_P G.1 vwCl [(oX8 (b 0) th (b 1) (b 2) (b 3) (b 4) (b 5) (b 6) (nI n) (b 8) (b 9) (b 10) (nI mf) (b 12) (b 13) (b 14) (nI cc) (bI kn) (b 17) (nI sc) (b 19) (nI fc) (b 21) (bI so) la lq (b 25) (nI wq)), (cI G (b 1) 15 (q 1)), (cI G (b 2) 15 (q 2)), (cZ G (b 3) 15 (q 3)), (cI G (b 4) 15 (q 4)), (cI G (b 5) 15 (q 5)), (cI G (b 6) 60 (q 6)), (cI G (b 8) 40 (q 8)), (cI G (b 9) 40 (q 9)), (cI G (b 10) 40 (q 10)), (cZ G (b 12) 4 (q 12)), (cI G (b 13) 4 (q 13)), (cI G (b 14) 14 (q 14)), (cI G (b 17) 16384 (q 17)), (cI G (b 19) 201 (q 19)), (cI G (b 21) 201 (q 21)), (cI G (b 25) 14 (q 25))] s.heap := hP
  have hl := lv_entry ([.ref (b 0), .int i]) (n := 2) (Nat.le_of_ble_eq_true rfl)
  rw [lg_entry_eq]
  generalize (lg_sl ([.ref (b 0), .int i]) ++ List.replicate (2 - (lg_sl ([.ref (b 0), .int i])).length) Slot.unset).toArray = ls at hl ⊢
  have hl : lv_has ls 2 [(0, .ref (b 0)), (1, .int i)] := hl
  refine lv_aload_n hx hb dX8_why_0 rfl (lv_at hl 0 rfl) ?_
  refine lv_iconst (v := 0) hx hb dX8_why_1 (by decide) ?_
  refine va_put (D := G.1) (ci := 10) (v := .int 0) (ty := .int) (C := RX8) (T := TX8) (N := 27) hx hb hts iX8_why_X8 tyX8 tyX8_ok nmX8 hown hK hP hD hS 0 rfl rfl 0 (by decide) (hts _ fX8_why_1) (fun _ h9 => h9) rfl (by decide +kernel) rfl rfl (Nat.le_of_ble_eq_true rfl) dX8_why_2 (fun H locs hP hD hS => ?_)
  have hPD : PD G A [(oX8 (b 0) 0 (b 1) (b 2) (b 3) (b 4) (b 5) (b 6) (nI n) (b 8) (b 9) (b 10) (nI mf) (b 12) (b 13) (b 14) (nI cc) (bI kn) (b 17) (nI sc) (b 19) (nI fc) (b 21) (bI so) la lq (b 25) (nI wq)), (cI G (b 1) 15 (q 1)), (cI G (b 2) 15 (q 2)), (cZ G (b 3) 15 (q 3)), (cI G (b 4) 15 (q 4)), (cI G (b 5) 15 (q 5)), (cI G (b 6) 60 (q 6)), (cI G (b 8) 40 (q 8)), (cI G (b 9) 40 (q 9)), (cI G (b 10) 40 (q 10)), (cZ G (b 12) 4 (q 12)), (cI G (b 13) 4 (q 13)), (cI G (b 14) 14 (q 14)), (cI G (b 17) 16384 (q 17)), (cI G (b 19) 201 (q 19)), (cI G (b 21) 201 (q 21)), (cI G (b 25) 14 (q 25))] H := ⟨hP, hD⟩
  have hP := hPD.1
  have hD := hPD.2
  clear hPD
  refine lv_iload_n hx hb dX8_why_5 rfl (lv_at hl 1 rfl) ?_
  refine lv_if_lt (tgt := 26) hx hb dX8_why_6 (by decide) (fun c_6 => ?_) (fun c_6 => ?_)
  · skip
    refine lv_iconst (v := 0) hx hb dX8_why_26 (by decide) ?_
    exact greti hx hb hr hlocks rfl hAe hS (⟨0, (0, n, mf, cc, kn, sc, fc, so, la, lq, wq, q)⟩) (rfl) (by unfold mWhy; rw [if_pos c_6]) (hP) dX8_why_27
  · skip
    refine lv_iload_n hx hb dX8_why_9 rfl (lv_at hl 1 rfl) ?_
    refine lv_aload_n hx hb dX8_why_10 rfl (lv_at hl 0 rfl) ?_
    refine va_get (D := G.1) (ci := 10) (v := .int (nI wq)) (C := RX8) (T := TX8) (N := 27) hx hb hts iX8_why_X8 hown hK hP 0 rfl rfl 26 (by decide) (hts _ fX8_why_2) (fun _ h9 => h9) rfl dX8_why_11 ?_
    refine lv_icmp_ge (tgt := 26) hx hb dX8_why_14 (by decide) (fun c_14 => ?_) (fun c_14 => ?_)
    · skip
      refine lv_iconst (v := 0) hx hb dX8_why_26 (by decide) ?_
      exact greti hx hb hr hlocks rfl hAe hS (⟨0, (0, n, mf, cc, kn, sc, fc, so, la, lq, wq, q)⟩) (rfl) (by unfold mWhy; rw [if_neg c_6, if_pos c_14]) (hP) dX8_why_27
    · skip
      have hix := nat_lt (by omega) c_6 c_14
      refine lv_aload_n hx hb dX8_why_17 rfl (lv_at hl 0 rfl) ?_
      refine va_get (D := G.1) (ci := 10) (v := .ref (b 25)) (C := RX8) (T := TX8) (N := 27) hx hb hts iX8_why_X8 hown hK hP 0 rfl rfl 25 (by decide) (hts _ fX8_why_3) (fun _ h9 => h9) rfl dX8_why_18 ?_
      refine lv_iload_n hx hb dX8_why_21 rfl (lv_at hl 1 rfl) ?_
      refine aldI hx hb hK hP 16 (k := i.toNatClampNeg) rfl (hix.1) (by omega) (by decide) dX8_why_22 ?_
      refine lv_goto (tgt := 27) hx hb dX8_why_23 (by decide) ?_
      exact greti hx hb hr hlocks rfl hAe hS (⟨q 25 i.toNatClampNeg, (0, n, mf, cc, kn, sc, fc, so, la, lq, wq, q)⟩) (rfl) (by unfold mWhy; rw [if_neg c_6, if_neg c_14]) (hP) dX8_why_27
